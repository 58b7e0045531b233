/-! a sentence: the class, one by one -/
section QSF
variable {g : zF} {V W U K : Nat → Nat → Int32} {X Y Z : Nat → Nat → Int64} {N n m p o k pl d e : Nat} {s t u B : Nat → Nat} {Q : sQ} {cs : List sC}
theorem K_fail (h : kSt B n m V X (.ok (p, o, cs))) {k : Nat} (hk : 1 ≤ k) (hk2 : k < 10) : hS g (fX9_fail N 216 (qH g V X) 1 (Int32.ofNat k)) (fun W Y => kSt B n m W Y (.error (k, (tTok B n m p).2.1)) ∧ kFr V W X Y) :=
  hS_mono (c_failN h.1 hk hk2) (fun W Y hx => ⟨h.er (e := (k, (tTok B n m p).2.1)) hx.1 hx.2, hx.2.kf⟩)
theorem K_sgn (hN : 3000 ≤ N) {r : sR} (h : kSt B n m V X r) : hS g (fX9_needSign N 216 (qH g V X) 1 (41 : Int32)) (fun W Y => kSt B n m W Y (sBr B n m r) ∧ kFr V W X Y) := by
  cases r with
  | error e =>
    obtain ⟨k, pl⟩ := e
    exact hS_mono (c_needSgnF h.1) (fun W Y hx => ⟨h.ee (e2 := (k, pl)) hx.1.2 hx.2, hx.2.kf⟩)
  | ok v =>
    obtain ⟨p, o, cs⟩ := v
    refine hS_mono (c_needSgnN hN h.1 (c := 41) (by omega)) (fun W Y hx => ?_)
    obtain ⟨x1, x2⟩ := hx
    refine ⟨?_, x2.kf⟩
    unfold sBr
    dsimp only
    cases ha : aSgn B n m 41 p with
    | ok v =>
      obtain ⟨v1, v2⟩ := v
      rw [ha] at x1
      exact h.ok x1.2.1 x2
    | error e =>
      obtain ⟨k, pl⟩ := e
      rw [ha] at x1
      exact h.er (e := (k, pl)) x1.2 x2
theorem K_sign (hN : 3000 ≤ N) (h : kSt B n m V X (.ok (p, o, cs))) : hV g (fX7_readSign N 216 (qH g V X) 60) (fun W Y x => kFr V W X Y ∧ if (tTok B n m p).1 = 2 ∧ 60 ≤ (tTok B n m p).2.2.2.1 ∧ (tTok B n m p).2.2.2.1 ≤ 62 then x = Int32.ofNat (tTok B n m p).2.2.2.1 ∧ kSt B n m W Y (.ok ((tTok B n m p).2.2.1, o, cs)) else kSt B n m W Y (.error (1, (tTok B n m p).2.1))) := by
  have h60 : fX9_isSign N 216 (qH g V X) 1 (60 : Int32) = some (qz (decide ((tTok B n m p).1 = 2 ∧ (tTok B n m p).2.2.2.1 = 60))) := c_isSg h.1 (c := 60) (by omega)
  have h61 : fX9_isSign N 216 (qH g V X) 1 (61 : Int32) = some (qz (decide ((tTok B n m p).1 = 2 ∧ (tTok B n m p).2.2.2.1 = 61))) := c_isSg h.1 (c := 61) (by omega)
  have h62 : fX9_isSign N 216 (qH g V X) 1 (62 : Int32) = some (qz (decide ((tTok B n m p).1 = 2 ∧ (tTok B n m p).2.2.2.1 = 62))) := c_isSg h.1 (c := 62) (by omega)
  unfold fX7_readSign
  simp only [q60_g0, q1_g8, q1_c, h60, h61, h62, Option.bind_some]
  by_cases hs : (tTok B n m p).1 = 2 ∧ 60 ≤ (tTok B n m p).2.2.2.1 ∧ (tTok B n m p).2.2.2.1 ≤ 62
  · have hv := h.1.2.2.2.2.2.2.2.2.2.2.1 ⟨by omega, by omega⟩
    have adv : hV g (fX7_readSign_44 N 216 (qH g V X) 60 (V 1 8)) (fun W Y x => kFr V W X Y ∧ if (tTok B n m p).1 = 2 ∧ 60 ≤ (tTok B n m p).2.2.2.1 ∧ (tTok B n m p).2.2.2.1 ≤ 62 then x = Int32.ofNat (tTok B n m p).2.2.2.1 ∧ kSt B n m W Y (.ok ((tTok B n m p).2.2.1, o, cs)) else kSt B n m W Y (.error (1, (tTok B n m p).2.1))) := by
      unfold fX7_readSign_44
      rw [q60_g0, Option.bind_some, q1_c, Option.bind_some]
      refine hV_bind (cN.adv hN h.1 (by omega) (by omega)) (fun W Y hx => hV_pure ⟨hx.2.2.kf, by rw [if_pos hs]; exact ⟨hv, h.ok hx.1 hx.2.2⟩⟩)
    by_cases e0 : (tTok B n m p).2.2.2.1 = 60
    · rw [decide_eq_true ⟨hs.1, e0⟩, if_neg qzt]
      exact adv
    rw [decide_eq_false (fun e => e0 e.2), if_pos qzf]
    by_cases e1 : (tTok B n m p).2.2.2.1 = 61
    · rw [decide_eq_true ⟨hs.1, e1⟩, if_neg qzt]
      exact adv
    rw [decide_eq_false (fun e => e1 e.2), if_pos qzf, decide_eq_true ⟨hs.1, by omega⟩, if_neg qzt]
    exact adv
  · rw [decide_eq_false (fun e => hs ⟨e.1, by omega, by omega⟩), if_pos qzf, decide_eq_false (fun e => hs ⟨e.1, by omega, by omega⟩), if_pos qzf, decide_eq_false (fun e => hs ⟨e.1, by omega, by omega⟩), if_pos qzf]
    exact hV_bind (K_fail h (k := 1) (by omega) (by omega)) (fun W Y hx => hV_pure ⟨hx.2, by rw [if_neg hs]; exact hx.1⟩)
theorem c_one50 {one cond : zF → Nat → Int32 → Option zF} {dd : Int32} (h : cN B n m V X p) : fX7_readOne one cond N 216 (qH g V X) 60 dd = fX7_readOne_50 one cond N 216 (qH g V X) 60 dd (qz (isOpn B n m p)) (qz (isOne B n m p)) := by
  have h40 : fX9_isSign N 216 (qH g V X) 1 (40 : Int32) = some (qz (isOpn B n m p)) := c_isSg h (c := 40) (by omega)
  have hkd := h.kd (a := 4) (by omega) (by omega)
  unfold fX7_readOne fX7_readOne_49 isOne
  simp only [q60_g0, q1_g5, q1_g8, q1_c, h40, Option.bind_some]
  by_cases hk : (tTok B n m p).1 = 4
  · have hv := h.2.2.2.2.2.2.2.2.2.2.1 ⟨by omega, by omega⟩
    have hv2 : (tTok B n m p).2.2.2.1 < 27 := tWord_lt hk
    rw [if_pos (by rw [show (2 : Int32) = Int32.ofNat (cKd 4) from rfl, hkd]; exact hk), hv]
    by_cases h18 : (tTok B n m p).2.2.2.1 < 18
    · rw [if_pos (by rw [show (18 : Int32) = Int32.ofNat 18 from rfl, qlt (by omega) (by omega)]; exact h18), decide_eq_false (by omega)]
      rfl
    · rw [if_neg (by rw [show (18 : Int32) = Int32.ofNat 18 from rfl, qlt (by omega) (by omega)]; exact h18), if_neg (by rw [show (26 : Int32) = Int32.ofNat 26 from rfl, qlt (by omega) (by omega)]; omega), decide_eq_true (by omega)]
      rfl
  · rw [if_neg (by rw [show (2 : Int32) = Int32.ofNat (cKd 4) from rfl, hkd]; exact hk), decide_eq_false (fun e => hk e.1)]
    rfl
theorem cWd_e : ∀ v, v < 27 → 19 ≤ v → cWd (v - 19) = v := by decide
/-- a leaf, behind its word -/
theorem K_leaf (hN : 3000 ≤ N) {one : zF → Nat → Int32 → Option zF} {v : Nat} {r : zF → Option zF} (hv : 19 ≤ v) (hv2 : v < 27) (hq : kQ V X Q) (h : kSt B n m V X (.ok (p, o, cs))) : hS g (if Int32.ofNat v = (18 : Int32) then r (qH g V X) else (if Int32.ofNat v = (22 : Int32) then ((zgR 216 (qH g V X) 7 60 2).bind fun x32 => ((zgR 216 (qH g V X) 7 60 0).bind fun x33 => ((zgR 216 (qH g V X) 7 60 1).bind fun x34 => ((zgR 216 (qH g V X) 2 x34 5).bind fun x35 => ((zgR 216 (qH g V X) 7 60 1).bind fun x36 => ((zgI 216 (qH g V X) 2 x36 2).bind fun x37 => ((zck 216 (qH g V X) 9 x33).bind fun _ => (zbd (fX9_needNameOf N 216 (qH g V X) x33 x35 x37) fun f39 x38 => ((zck 216 f39 6 x32).bind fun _ => ((fX6_add N 216 f39 x32 (Int32.ofNat v) (0 : Int32) x38).bind fun f40 => some f40)))))))))) else (if Int32.ofNat v = (23 : Int32) then ((zgR 216 (qH g V X) 7 60 2).bind fun x23 => ((zgR 216 (qH g V X) 7 60 0).bind fun x24 => ((zgR 216 (qH g V X) 7 60 1).bind fun x25 => ((zgR 216 (qH g V X) 2 x25 7).bind fun x26 => ((zgR 216 (qH g V X) 7 60 1).bind fun x27 => ((zgI 216 (qH g V X) 2 x27 4).bind fun x28 => ((zck 216 (qH g V X) 9 x24).bind fun _ => (zbd (fX9_needNameOf N 216 (qH g V X) x24 x26 x28) fun f30 x29 => ((zck 216 f30 6 x23).bind fun _ => ((fX6_add N 216 f30 x23 (Int32.ofNat v) (0 : Int32) x29).bind fun f31 => some f31)))))))))) else (if Int32.ofNat v < (24 : Int32) then ((zgR 216 (qH g V X) 7 60 2).bind fun x14 => ((zck 216 (qH g V X) 6 x14).bind fun _ => ((fX6_add N 216 (qH g V X) x14 (Int32.ofNat v) (0 : Int32) (0 : Int32)).bind fun f15 => some f15))) else ((zck 216 (qH g V X) 7 60).bind fun _ => (zbd (fX7_readSign N 216 (qH g V X) 60) fun f17 x16 => ((zgR 216 f17 7 60 2).bind fun x18 => ((zgR 216 f17 7 60 0).bind fun x19 => ((zck 216 f17 9 x19).bind fun _ => (zbd (fX9_needNumber N 216 f17 x19 (0 : Int32) (999 : Int32)) fun f21 x20 => ((zck 216 f21 6 x18).bind fun _ => ((fX6_add N 216 f21 x18 (Int32.ofNat v) x16 x20).bind fun f22 => some f22))))))))))))
    (fun W Y => kSt B n m W Y (match sLf B n m Q v p with
          | .error x => .error x
          | .ok (p2, c) => .ok (p2, o, cs ++ [c])) ∧ kFr V W X Y) := by
  rw [if_neg (by rw [show (18 : Int32) = Int32.ofNat 18 from rfl, qeq (by omega) (by omega)]; omega)]
  have hcw := cWd_e v hv2 hv
  unfold sLf
  by_cases h22 : v = 22
  · subst h22
    rw [if_pos (show Int32.ofNat 22 = (22 : Int32) from rfl), if_neg (show ¬ (22 : Nat) < 22 by decide), if_pos (show (22 : Nat) = 22 from rfl)]
    simp only [q60_g0, q60_g1, q60_g2, c4_g5, c4_g2, q1_c, Option.bind_some]
    rw [hq.1.2.2.2]
    refine hS_zbd (C_of hN (a := .ok p) h.1 (r := 5) (L := 4) (qF_k1 qF_4) (by omega) hq.1.2.2.1 (q := Q.1) (fun _ _ => ⟨hq.1.1, hq.1.2.1⟩)) (fun W Y x hx => ?_)
    obtain ⟨x1, x2, x3⟩ := hx
    rw [qN_c qN_61, Option.bind_some]
    have ex : rdOf B n m Q.1 Q.2.1 (.ok p) = (aV 0 (aOf B n m Q.1 Q.2.1 p), aP (aOf B n m Q.1 Q.2.1 p)) := rfl
    rw [ex] at x1 x2
    cases ha : aOf B n m Q.1 Q.2.1 p with
    | ok w =>
      obtain ⟨i, p2⟩ := w
      rw [ha] at x1 x2
      exact hS_bind (K_addO (c := (3, 0, i)) (h.ok x2 x3) rfl rfl x1) (fun W2 Y2 h2 => hS_pure ⟨h2.1, x3.kf.tr h2.2⟩)
    | error w =>
      rw [ha] at x1 x2
      exact hS_bind (K_addE (h.er (e := w) x2 x3)) (fun W2 Y2 h2 => hS_pure ⟨h2.1, x3.kf.tr h2.2⟩)
  rw [if_neg (by rw [show (22 : Int32) = Int32.ofNat 22 from rfl, qeq (by omega) (by omega)]; exact h22)]
  by_cases h23 : v = 23
  · subst h23
    rw [if_pos (show Int32.ofNat 23 = (23 : Int32) from rfl), if_neg (show ¬ (23 : Nat) < 22 by decide), if_neg (show ¬ (23 : Nat) = 22 by decide), if_pos (show (23 : Nat) = 23 from rfl)]
    simp only [q60_g0, q60_g1, q60_g2, c4_g7, c4_g4, q1_c, Option.bind_some]
    rw [hq.2.2.2.2]
    refine hS_zbd (C_of hN (a := .ok p) h.1 (r := 7) (L := 5) (qF_k3 qF_4) (by omega) hq.2.2.2.1 (q := Q.2.2.1) (fun _ _ => ⟨hq.2.1, hq.2.2.1⟩)) (fun W Y x hx => ?_)
    obtain ⟨x1, x2, x3⟩ := hx
    rw [qN_c qN_61, Option.bind_some]
    have ex : rdOf B n m Q.2.2.1 Q.2.2.2 (.ok p) = (aV 0 (aOf B n m Q.2.2.1 Q.2.2.2 p), aP (aOf B n m Q.2.2.1 Q.2.2.2 p)) := rfl
    rw [ex] at x1 x2
    cases ha : aOf B n m Q.2.2.1 Q.2.2.2 p with
    | ok w =>
      obtain ⟨i, p2⟩ := w
      rw [ha] at x1 x2
      exact hS_bind (K_addO (c := (4, 0, i)) (h.ok x2 x3) rfl rfl x1) (fun W2 Y2 h2 => hS_pure ⟨h2.1, x3.kf.tr h2.2⟩)
    | error w =>
      rw [ha] at x1 x2
      exact hS_bind (K_addE (h.er (e := w) x2 x3)) (fun W2 Y2 h2 => hS_pure ⟨h2.1, x3.kf.tr h2.2⟩)
  rw [if_neg (by rw [show (23 : Int32) = Int32.ofNat 23 from rfl, qeq (by omega) (by omega)]; exact h23)]
  by_cases h24 : v < 24
  · rw [if_pos (by rw [show (24 : Int32) = Int32.ofNat 24 from rfl, qlt (by omega) (by omega)]; exact h24), if_pos (by omega), q60_g2, Option.bind_some, qN_c qN_61, Option.bind_some]
    exact hS_bind (K_addO (c := (v - 19, 0, 0)) h (by rw [hcw]) rfl rfl) (fun W2 Y2 h2 => hS_pure ⟨h2.1, h2.2⟩)
  · rw [if_neg (by rw [show (24 : Int32) = Int32.ofNat 24 from rfl, qlt (by omega) (by omega)]; exact h24), if_neg (by omega), if_neg h22, if_neg h23, q60_c, Option.bind_some]
    refine hS_zbd (K_sign hN h) (fun W Y x hx => ?_)
    obtain ⟨hf, hx⟩ := hx
    rw [q60_g2, Option.bind_some, q60_g0, Option.bind_some, q1_c, Option.bind_some]
    by_cases hs : (tTok B n m p).1 = 2 ∧ 60 ≤ (tTok B n m p).2.2.2.1 ∧ (tTok B n m p).2.2.2.1 ≤ 62
    · rw [if_pos hs] at hx
      rw [if_pos hs]
      refine hS_zbd (C_num hN (a := .ok (tTok B n m p).2.2.1) hx.2.1 (lo := 0) (hi := 999) (by omega) (by omega)) (fun W2 Y2 x2 h2 => ?_)
      obtain ⟨y1, y2, y3, -⟩ := h2
      rw [qN_c qN_61, Option.bind_some]
      have ex : rdNum B n m 0 999 (.ok (tTok B n m p).2.2.1) = (aV 0 (aNum B n m 0 999 (tTok B n m p).2.2.1), aP (aNum B n m 0 999 (tTok B n m p).2.2.1)) := rfl
      rw [ex] at y1 y2
      cases ha : aNum B n m 0 999 (tTok B n m p).2.2.1 with
      | ok w =>
        obtain ⟨i, p2⟩ := w
        rw [ha] at y1 y2
        exact hS_bind (K_addO (c := (v - 19, (tTok B n m p).2.2.2.1, i)) (hx.2.ok y2 y3) (by rw [hcw]) hx.1 y1) (fun W2 Y2 h2 => hS_pure ⟨h2.1, (hf.tr y3.kf).tr h2.2⟩)
      | error w =>
        rw [ha] at y1 y2
        exact hS_bind (K_addE (hx.2.er (e := w) y2 y3)) (fun W2 Y2 h2 => hS_pure ⟨h2.1, (hf.tr y3.kf).tr h2.2⟩)
    · rw [if_neg hs] at hx
      rw [if_neg hs]
      refine hS_zbd (c_needNumF hx.1) (fun W2 Y2 x2 h2 => ?_)
      obtain ⟨y1, y2⟩ := h2
      rw [qN_c qN_61, Option.bind_some]
      exact hS_bind (K_addE (hx.ee (e2 := (1, (tTok B n m p).2.1)) y1.2 y2)) (fun W2 Y2 h2 => hS_pure ⟨h2.1, (hf.tr y2.kf).tr h2.2⟩)
theorem K_one (hN : 3000 ≤ N) : ∀ e d k, d + e = 9 → e < k → kOne g B n m Q (zfOne N 216 k) d (sOne B n m Q e) := by
  intro e
  induction e with
  | zero =>
    intro d k hd hk V X v hq h
    obtain ⟨k, rfl⟩ := Nat.exists_eq_succ_of_ne_zero (n := k) (by omega)
    obtain ⟨p, o, cs⟩ := v
    have ho := h.2.2.1
    show hS g (fX7_readOne _ _ N 216 (qH g V X) 60 (Int32.ofNat d)) _
    rw [c_one50 h.1]
    unfold fX7_readOne_50 sOne
    have h68 : hS g (fX7_readOne_68 (zfOne N 216 k) (fun f a b => fX7_readCond (zfOne N 216 k) N 216 f a b) N 216 (qH g V X) 60 (Int32.ofNat d) (qz (isOpn B n m p))) (fun W Y => kSt B n m W Y (.error (4, (tTok B n m p).2.1)) ∧ kFr V W X Y) := by
      have h83 : hS g (fX7_readOne_83 (zfOne N 216 k) (fun f a b => fX7_readCond (zfOne N 216 k) N 216 f a b) N 216 (qH g V X) 60) (fun W Y => kSt B n m W Y (.error (4, (tTok B n m p).2.1)) ∧ kFr V W X Y) := by
        unfold fX7_readOne_83
        rw [q60_g0, Option.bind_some, q1_c, Option.bind_some]
        exact hS_bind (K_fail h (k := 4) (by omega) (by omega)) (fun W Y hx => hS_pure hx)
      unfold fX7_readOne_68
      rw [q60_g3, Option.bind_some, h.2.1]
      by_cases h20 : 20 ≤ o
      · rw [if_pos (by rw [show (20 : Int32) = Int32.ofNat 20 from rfl, qle (by omega) (by omega)]; exact h20)]
        exact h83
      · rw [if_neg (by rw [show (20 : Int32) = Int32.ofNat 20 from rfl, qle (by omega) (by omega)]; exact h20), if_neg (by rw [show (8 : Int32) = Int32.ofNat 8 from rfl, qle (by omega) (by omega)]; omega)]
        exact h83
    cases h1 : isOpn B n m p with
    | true =>
      rw [h1] at h68
      rw [if_neg qzt, if_neg (by rintro ⟨a, -⟩; cases a)]
      refine hS_mono h68 (fun W Y hx => ⟨?_, hx.2⟩)
      split
      · exact hx.1
      · exact hx.1
    | false =>
      rw [h1] at h68
      rw [if_pos qzf]
      cases h2 : isOne B n m p with
      | true =>
        rw [if_neg qzt, if_neg (by rintro ⟨-, a⟩; cases a)]
        refine hS_mono h68 (fun W Y hx => ⟨?_, hx.2⟩)
        split
        · exact hx.1
        · exact hx.1
      | false =>
        rw [if_pos qzf, if_pos ⟨rfl, rfl⟩, q60_g0, Option.bind_some, q1_c, Option.bind_some]
        exact hS_bind (K_fail h (k := 1) (by omega) (by omega)) (fun W Y hx => hS_pure hx)
  | succ e ih =>
    intro d k hd hk V X v hq h
    obtain ⟨k, rfl⟩ := Nat.exists_eq_succ_of_ne_zero (n := k) (by omega)
    obtain ⟨p, o, cs⟩ := v
    have ho := h.2.2.1
    have hone := ih (d + 1) k (by omega) (by omega)
    show hS g (fX7_readOne _ _ N 216 (qH g V X) 60 (Int32.ofNat d)) _
    rw [c_one50 h.1]
    unfold fX7_readOne_50 sOne
    have h68 : ¬ (isOpn B n m p = false ∧ isOne B n m p = false) → hS g (fX7_readOne_68 (zfOne N 216 k) (fun f a b => fX7_readCond (zfOne N 216 k) N 216 f a b) N 216 (qH g V X) 60 (Int32.ofNat d) (qz (isOpn B n m p))) (fun W Y => kSt B n m W Y (if 20 ≤ o then .error (4, (tTok B n m p).2.1) else if isOpn B n m p = true then sBr B n m (sAll B n m (sOne B n m Q e) 21 true ((tTok B n m p).2.2.1, o + 1, cs))
        else if (tTok B n m p).2.2.2.1 = 18 then sAdd (8, 0, 0) (sOne B n m Q e ((tTok B n m p).2.2.1, o + 1, cs))
        else match sLf B n m Q (tTok B n m p).2.2.2.1 (tTok B n m p).2.2.1 with
          | .error x => .error x
          | .ok (p2, c) => .ok (p2, o + 1, cs ++ [c])) ∧ kFr V W X Y) := by
      intro hx0
      have h2 := is_2 hx0
      have hv8 := h.1.2.2.2.2.2.2.2.2.2.2.1
      unfold fX7_readOne_68
      rw [q60_g3, Option.bind_some, h.2.1]
      by_cases h20 : 20 ≤ o
      · rw [if_pos (by rw [show (20 : Int32) = Int32.ofNat 20 from rfl, qle (by omega) (by omega)]; exact h20), if_pos h20]
        unfold fX7_readOne_83
        rw [q60_g0, Option.bind_some, q1_c, Option.bind_some]
        exact hS_bind (K_fail h (k := 4) (by omega) (by omega)) (fun W Y hx => hS_pure hx)
      rw [if_neg (by rw [show (20 : Int32) = Int32.ofNat 20 from rfl, qle (by omega) (by omega)]; exact h20), if_neg h20, if_pos (by rw [show (8 : Int32) = Int32.ofNat 8 from rfl, qle (by omega) (by omega)]; omega), Option.bind_some, show Int32.ofNat o + (1 : Int32) = Int32.ofNat (o + 1) by rw [l1, qadd], q60_p3, Option.bind_some, q60_g0, Option.bind_some, q1_g8, Option.bind_some, Option.bind_some, q1_c, Option.bind_some, qw_n (by decide)]
      have h' : kSt B n m (qw V 60 (upd (V 60) 3 (Int32.ofNat (o + 1)))) X (.ok (p, o + 1, cs)) := ⟨h.1.cg (fun j => by rw [qw_n (by decide)]) (fun j => by rw [qw_n (by decide)]) (fun _ => rfl) (fun _ => rfl), by rw [qw_s, upd_s], by omega, by
        obtain ⟨a1, a2⟩ := h.2.2.2
        refine ⟨by rw [qw_n (by decide)]; exact a1, fun i c hi h40 => ?_⟩
        rw [qw_n (by decide), qw_n (by decide), qw_n (by decide)]
        exact a2 i c hi h40⟩
      have hf' : kFr V (qw V 60 (upd (V 60) 3 (Int32.ofNat (o + 1)))) X X := kFr.w (by omega)
      have hk5 : (tTok B n m p).1 ≤ 5 := by
        cases h3 : isOpn B n m p with
        | true => have := isOpn_k h3; omega
        | false =>
          cases h4 : isOne B n m p with
          | true => have := isOne_k h4; omega
          | false => exact absurd ⟨h3, h4⟩ hx0
      refine hS_bind (cN.adv hN h'.1 h2 hk5) (fun W Y hx => ?_)
      have hk2 := h'.ok hx.1 hx.2.2
      have hfk := hf'.tr hx.2.2.kf
      have hq2 := hq.fr hfk
      cases h3 : isOpn B n m p with
      | true =>
        rw [if_neg qzt, if_pos rfl, q60_c, Option.bind_some, show Int32.ofNat d + (1 : Int32) = Int32.ofNat (d + 1) by rw [l1, qadd]]
        refine hS_bind (K_cond hN hone W Y _ hq2 hk2) (fun W2 Y2 h4 => ?_)
        rw [q60_g0, Option.bind_some, q1_c, Option.bind_some]
        exact hS_bind (K_sgn hN h4.1) (fun W3 Y3 h5 => hS_pure ⟨h5.1, (hfk.tr h4.2).tr h5.2⟩)
      | false =>
        have h4 : isOne B n m p = true := by
          cases h4 : isOne B n m p with
          | true => rfl
          | false => exact absurd ⟨h3, h4⟩ hx0
        have h5 := isOne_k h4
        have h6 : (tTok B n m p).2.2.2.1 < 27 := tWord_lt h5.1
        rw [if_pos qzf, if_neg (show ¬ false = true by decide), hv8 ⟨by omega, by omega⟩]
        by_cases h18 : (tTok B n m p).2.2.2.1 = 18
        · rw [if_pos (by rw [h18]; rfl), if_pos h18, q60_c, Option.bind_some, show Int32.ofNat d + (1 : Int32) = Int32.ofNat (d + 1) by rw [l1, qadd]]
          refine hS_bind (hone W Y _ hq2 hk2) (fun W2 Y2 h7 => ?_)
          rw [q60_g2, Option.bind_some, qN_c qN_61, Option.bind_some]
          exact hS_bind (K_add (c := (8, 0, 0)) h7.1 rfl rfl rfl) (fun W3 Y3 h8 => hS_pure ⟨h8.1, (hfk.tr h7.2).tr h8.2⟩)
        · rw [if_neg h18]
          have := K_leaf (g := g) (one := zfOne N 216 k) (r := fun f13 => ((zck 216 f13 7 60).bind fun _ => ((zfOne N 216 k f13 60 (Int32.ofNat d + (1 : Int32))).bind fun f41 => ((zgR 216 f41 7 60 2).bind fun x42 => ((zck 216 f41 6 x42).bind fun _ => ((fX6_add N 216 f41 x42 (18 : Int32) (0 : Int32) (0 : Int32)).bind fun f43 => some f43)))))) hN (v := (tTok B n m p).2.2.2.1) (by omega) h6 hq2 hk2
          exact hS_mono this (fun W2 Y2 h7 => ⟨h7.1, hfk.tr h7.2⟩)
    cases h1 : isOpn B n m p with
    | true =>
      have := h68 (by rw [h1]; rintro ⟨a, -⟩; cases a)
      rw [h1] at this
      rw [if_neg qzt, if_neg (by rintro ⟨a, -⟩; cases a)]
      exact this
    | false =>
      rw [if_pos qzf]
      cases h2 : isOne B n m p with
      | true =>
        have := h68 (by rw [h2]; rintro ⟨-, a⟩; cases a)
        rw [h1] at this
        rw [if_neg qzt, if_neg (by rintro ⟨-, a⟩; cases a)]
        exact this
      | false =>
        rw [if_pos qzf, if_pos ⟨rfl, rfl⟩, q60_g0, Option.bind_some, q1_c, Option.bind_some]
        exact hS_bind (K_fail h (k := 1) (by omega) (by omega)) (fun W Y hx => hS_pure hx)
/-- a whole sentence read -/
theorem K_read (hN : 3000 ≤ N) (hB : cB V B n) (hW : cW X) (hq : kQ V X Q) : hV g (fX7_read N 216 (qH g V X) 60) (fun W Y r => (match sSen B n 200 Q with
    | .ok (o, cs) => r = Int32.ofNat o ∧ (∃ p, cN B n 200 W Y p) ∧ cCo W cs
    | .error (k, pl) => cFl B n 200 W Y k pl) ∧ kFr V W X Y) := by
  unfold fX7_read fX6_clear
  rw [q60_p3, Option.bind_some, q60_g2, Option.bind_some, qN_c qN_61, Option.bind_some, qN_p0 qN_61, Option.bind_some, Option.bind_some, q60_g0, Option.bind_some, q1_c, Option.bind_some]
  have hB' : cB (qw (qw V 60 (upd (V 60) 3 0)) 61 (upd (qw V 60 (upd (V 60) 3 0) 61) 0 0)) B n := ⟨by rw [qw_n (by decide), qw_n (by decide)]; exact hB.1, hB.2.1, fun i hi => by rw [qw_n (by decide), qw_n (by decide)]; exact hB.2.2 i hi⟩
  have hf0 : kFr V (qw (qw V 60 (upd (V 60) 3 0)) 61 (upd (qw V 60 (upd (V 60) 3 0) 61) 0 0)) X X := (kFr.w (by omega)).tr (kFr.w (by omega))
  refine hV_bind (c_begin hN hB' hW (m := 200) (by omega)) (fun W Y hx => ?_)
  obtain ⟨x1, x2⟩ := hx
  have hf1 := hf0.tr x2.kf
  have hk : kSt B n 200 W Y (.ok (0, 0, [])) := by
    refine ⟨x1, ?_, by omega, ?_, fun i c hi => ?_⟩
    · rw [x2.1 60 (by decide), qw_n (by decide), qw_s, upd_s]; rfl
    · rw [x2.1 61 (by decide), qw_s, upd_s]; rfl
    · rw [List.getElem?_nil] at hi; cases hi
  rw [q60_c, Option.bind_some]
  have hc := K_cond hN (K_one (g := g) (B := B) (n := n) (m := 200) (Q := Q) hN 8 1 12 (by omega) (by omega)) W Y (0, 0, []) (hq.fr hf1) hk
  refine hV_bind (Q := fun W2 Y2 => kSt B n 200 W2 Y2 (sAll B n 200 (sOne B n 200 Q 8) 21 true (0, 0, [])) ∧ kFr W W2 Y Y2) hc (fun W2 Y2 h2 => ?_)
  rw [q60_g0, Option.bind_some, q1_c, Option.bind_some]
  unfold sSen
  cases hr : sAll B n 200 (sOne B n 200 Q 8) 21 true (0, 0, []) with
  | error e =>
    obtain ⟨k, pl⟩ := e
    rw [hr] at h2
    refine hV_zbd (C_go (a := .error (k, pl)) h2.1.1) (fun W3 Y3 x h3 => ?_)
    rw [h3.1, if_pos (show qz (rdGo B n 200 (.error (k, pl))).1 = 0 from rfl)]
    unfold fX7_read_45
    rw [q60_g3, Option.bind_some]
    exact hV_pure ⟨h3.2.1, (hf1.tr h2.2).tr h3.2.2.kf⟩
  | ok v =>
    obtain ⟨p, o, cs⟩ := v
    rw [hr] at h2
    refine hV_zbd (C_go (a := .ok p) h2.1.1) (fun W3 Y3 x h3 => ?_)
    obtain ⟨y1, y2, y3⟩ := h3
    dsimp only
    rw [rdGo_ok] at y1 y2
    by_cases h0 : (tTok B n 200 p).1 = 0
    · rw [if_pos h0] at y1 y2 ⊢
      rw [y1, if_pos qzf]
      unfold fX7_read_45
      rw [q60_g3, Option.bind_some]
      exact hV_pure ⟨⟨by rw [y3.1 60 (by decide)]; exact h2.1.2.1, ⟨p, y2⟩, h2.1.2.2.2.fr y3⟩, (hf1.tr h2.2).tr y3.kf⟩
    · rw [if_neg h0] at y1 y2 ⊢
      by_cases h1 : (tTok B n 200 p).1 = 1
      · rw [if_pos h1] at y1 y2
        rw [y1, if_pos qzf]
        unfold fX7_read_45
        rw [q60_g3, Option.bind_some]
        exact hV_pure ⟨y2, (hf1.tr h2.2).tr y3.kf⟩
      · rw [if_neg h1] at y1 y2
        rw [y1, if_neg qzt, q60_g0, Option.bind_some, q1_c, Option.bind_some]
        have y4 : cN B n 200 W3 Y3 p := y2
        refine hV_bind (c_failN y4 (k := 1) (by omega) (by omega)) (fun W4 Y4 h4 => ?_)
        unfold fX7_read_45
        rw [q60_g3, Option.bind_some]
        exact hV_pure ⟨h4.1, ((hf1.tr h2.2).tr y3.kf).tr h4.2.kf⟩
end QSF
