/-! a sentence: the class -/
section QSE
variable {g : zF} {V W U K : Nat → Nat → Int32} {X Y Z : Nat → Nat → Int64} {N n m p o k pl d : Nat} {s t u B : Nat → Nat} {Q : sQ} {cs : List sC}
def cWd (k : Nat) : Nat := [19, 20, 21, 22, 23, 24, 25, 26, 18, 17, 16].getD k 0
def cCo (V : Nat → Nat → Int32) (cs : List sC) : Prop := V 61 0 = Int32.ofNat (min cs.length 40) ∧ ∀ i c, cs[i]? = some c → i < 40 → V 62 i = Int32.ofNat (cWd c.1) ∧ V 63 i = Int32.ofNat c.2.1 ∧ V 64 i = Int32.ofNat c.2.2
def kSt (B : Nat → Nat) (n m : Nat) (V : Nat → Nat → Int32) (X : Nat → Nat → Int64) : sR → Prop
  | .ok (p, o, cs) => cN B n m V X p ∧ V 60 3 = Int32.ofNat o ∧ o ≤ 20 ∧ cCo V cs
  | .error (k, pl) => cFl B n m V X k pl ∧ ∃ j, j ≤ 40 ∧ V 61 0 = Int32.ofNat j
/-- all but the tape and the sentence that is read -/
def kFr (V W : Nat → Nat → Int32) (X Y : Nat → Nat → Int64) : Prop := (∀ b, b ≠ 1 → ¬ (60 ≤ b ∧ b ≤ 64) → W b = V b) ∧ ∀ b, b ≠ 1 → Y b = X b
theorem kFr.rf : kFr V V X X := ⟨fun _ _ _ => rfl, fun _ _ => rfl⟩
theorem kFr.tr (h : kFr V W X Y) (h2 : kFr W U Y Z) : kFr V U X Z := ⟨fun b a c => by rw [h2.1 b a c, h.1 b a c], fun b a => by rw [h2.2 b a, h.2 b a]⟩
theorem cFr.kf (h : cFr V W X Y) : kFr V W X Y := ⟨fun b a _ => h.1 b a, h.2⟩
theorem kFr.w {r : Nat → Int32} {b : Nat} (hb : 60 ≤ b ∧ b ≤ 64) : kFr V (qw V b r) X X := ⟨fun a _ h => qw_n (by omega), fun _ _ => rfl⟩
/-- the names that the field has -/
def kQ (V : Nat → Nat → Int32) (X : Nat → Nat → Int64) (Q : sQ) : Prop := (nOKs Q.1 Q.2.1 ∧ (∀ i, i < Q.2.1 → X 5 i = Int64.ofNat (r5 (Q.1 i))) ∧ Q.2.1 ≤ 4 ∧ V 4 2 = Int32.ofNat Q.2.1) ∧ (nOKs Q.2.2.1 Q.2.2.2 ∧ (∀ i, i < Q.2.2.2 → X 7 i = Int64.ofNat (r5 (Q.2.2.1 i))) ∧ Q.2.2.2 ≤ 5 ∧ V 4 4 = Int32.ofNat Q.2.2.2)
theorem kQ.fr (h : kQ V X Q) (hf : kFr V W X Y) : kQ W Y Q := by
  obtain ⟨⟨a1, a2, a3, a4⟩, b1, b2, b3, b4⟩ := h
  exact ⟨⟨a1, fun i hi => by rw [hf.2 5 (by decide)]; exact a2 i hi, a3, by rw [hf.1 4 (by decide) (by decide)]; exact a4⟩, b1, fun i hi => by rw [hf.2 7 (by decide)]; exact b2 i hi, b3, by rw [hf.1 4 (by decide) (by decide)]; exact b4⟩
theorem cCo.fr (h : cCo V cs) (hf : cFr V W X Y) : cCo W cs := by
  obtain ⟨a1, a2⟩ := h
  refine ⟨by rw [hf.1 61 (by decide)]; exact a1, fun i c hi h40 => ?_⟩
  rw [hf.1 62 (by decide), hf.1 63 (by decide), hf.1 64 (by decide)]
  exact a2 i c hi h40
theorem c_add6 {L : Nat} (hL : L ≤ 40) (h0 : V 61 0 = Int32.ofNat L) {x y z : Int32} : ∃ W, fX6_add N 216 (qH g V X) 61 x y z = some (qH g W X) ∧ W 61 0 = Int32.ofNat (min (L + 1) 40) ∧ (∀ i, i ≠ L → W 62 i = V 62 i ∧ W 63 i = V 63 i ∧ W 64 i = V 64 i) ∧ (L < 40 → W 62 L = x ∧ W 63 L = y ∧ W 64 L = z) ∧ ∀ b, ¬ (61 ≤ b ∧ b ≤ 64) → W b = V b := by
  unfold fX6_add
  rw [qN_g0 qN_61, Option.bind_some, qN_g1 qN_61, Option.bind_some, qlen (t := 0) (qN_k1 qN_61) (Or.inl rfl), Option.bind_some, h0]
  by_cases h : L < 40
  · rw [if_neg (by rw [qle (by omega) (by omega)]; omega), Option.bind_some, Option.bind_some, e_put (qN_k1 qN_61) h (by omega), Option.bind_some, qN_g2 qN_61, Option.bind_some, qN_g0 qN_61, Option.bind_some, qw_n (by decide), h0, e_put (qN_k2 qN_61) h (by omega), Option.bind_some, qN_g3 qN_61, Option.bind_some, qN_g0 qN_61, Option.bind_some, qw_n (by decide), qw_n (by decide), qw_n (by decide), h0, e_put (qN_k3 qN_61) h (by omega), Option.bind_some, qN_g0 qN_61, Option.bind_some, qw_n (by decide), qw_n (by decide), qw_n (by decide), qw_n (by decide), qw_n (by decide), h0, l1, qadd, qN_p0 qN_61, Option.bind_some]
    refine ⟨_, rfl, by rw [qw_s, upd_s, show min (L + 1) 40 = L + 1 by omega], fun i hi => ⟨?_, ?_, ?_⟩, fun _ => ⟨?_, ?_, ?_⟩, fun b hb => ?_⟩
    · rw [qw_n (by decide), qw_n (by decide), qw_n (by decide), qw_s, upd_n hi]
    · rw [qw_n (by decide), qw_n (by decide), qw_s, upd_n hi]
    · rw [qw_n (by decide), qw_s, upd_n hi]
    · rw [qw_n (by decide), qw_n (by decide), qw_n (by decide), qw_s, upd_s]
    · rw [qw_n (by decide), qw_n (by decide), qw_s, upd_s]
    · rw [qw_n (by decide), qw_s, upd_s]
    · rw [qw_n (by omega), qw_n (by omega), qw_n (by omega), qw_n (by omega)]
  · rw [if_pos (by rw [qle (by omega) (by omega)]; omega)]
    exact ⟨V, rfl, by rw [h0, show min (L + 1) 40 = L by omega], fun i _ => ⟨rfl, rfl, rfl⟩, fun h2 => absurd h2 h, fun _ _ => rfl⟩
theorem K_addO {c : sC} {x y z : Int32} (h : kSt B n m V X (.ok (p, o, cs))) (hx : x = Int32.ofNat (cWd c.1)) (hy : y = Int32.ofNat c.2.1) (hz : z = Int32.ofNat c.2.2) : hS g (fX6_add N 216 (qH g V X) 61 x y z) (fun W Y => kSt B n m W Y (.ok (p, o, cs ++ [c])) ∧ kFr V W X Y) := by
  obtain ⟨h1, h2, h3, h4, h5⟩ := h
  obtain ⟨W, a1, a2, a3, a4, a5⟩ := c_add6 (g := g) (X := X) (N := N) (x := x) (y := y) (z := z) (Nat.min_le_right _ _) h4
  refine ⟨W, X, a1, ⟨h1.cg (fun j => by rw [a5 1 (by decide)]) (fun j => by rw [a5 2 (by decide)]) (fun _ => rfl) (fun _ => rfl), by rw [a5 60 (by decide)]; exact h2, h3, ?_, fun i c2 hi h40 => ?_⟩, fun b b1 b2 => a5 b (by omega), fun _ _ => rfl⟩
  · rw [a2, len_s]
    congr 1
    omega
  · by_cases hl : i < cs.length
    · rw [List.getElem?_append_left hl] at hi
      obtain ⟨e1, e2, e3⟩ := a3 i (by omega)
      rw [e1, e2, e3]
      exact h5 i c2 hi h40
    · rw [List.getElem?_append_right (by omega)] at hi
      have hi2 : i = cs.length := by
        have := (List.getElem?_eq_some_iff.mp hi).1
        rw [List.length_singleton] at this
        omega
      subst hi2
      rw [Nat.sub_self] at hi
      have h3 : c = c2 := Option.some.inj hi
      have hm : min cs.length 40 = cs.length := by omega
      rw [hm] at a4
      obtain ⟨e1, e2, e3⟩ := a4 h40
      rw [e1, e2, e3, ← h3]
      exact ⟨hx, hy, hz⟩
theorem K_addE {e : Nat × Nat} {x y z : Int32} (h : kSt B n m V X (.error e)) : hS g (fX6_add N 216 (qH g V X) 61 x y z) (fun W Y => kSt B n m W Y (.error e) ∧ kFr V W X Y) := by
  obtain ⟨k, pl⟩ := e
  obtain ⟨h1, j, h2, h3⟩ := h
  obtain ⟨W, a1, a2, a3, a4, a5⟩ := c_add6 (g := g) (X := X) (N := N) (x := x) (y := y) (z := z) h2 h3
  exact ⟨W, X, a1, ⟨h1.cg (fun j => by rw [a5 1 (by decide)]) (fun j => by rw [a5 2 (by decide)]) (fun _ => rfl), _, Nat.min_le_right _ _, a2⟩, fun b b1 b2 => a5 b (by omega), fun _ _ => rfl⟩
theorem K_add {c : sC} {r : sR} {x y z : Int32} (h : kSt B n m V X r) (hx : x = Int32.ofNat (cWd c.1)) (hy : y = Int32.ofNat c.2.1) (hz : z = Int32.ofNat c.2.2) : hS g (fX6_add N 216 (qH g V X) 61 x y z) (fun W Y => kSt B n m W Y (sAdd c r) ∧ kFr V W X Y) := by
  cases r with
  | error e => exact K_addE h
  | ok v =>
    obtain ⟨p, o, cs⟩ := v
    exact K_addO h hx hy hz
/-- the tape moved on, the sentence kept -/
theorem kSt.ok {p2 : Nat} (h : kSt B n m V X (.ok (p, o, cs))) (h2 : cN B n m W Y p2) (hf : cFr V W X Y) : kSt B n m W Y (.ok (p2, o, cs)) := ⟨h2, by rw [hf.1 60 (by decide)]; exact h.2.1, h.2.2.1, h.2.2.2.fr hf⟩
theorem kSt.er {e : Nat × Nat} (h : kSt B n m V X (.ok (p, o, cs))) (h2 : cFl B n m W Y e.1 e.2) (hf : cFr V W X Y) : kSt B n m W Y (.error e) := ⟨h2, min cs.length 40, Nat.min_le_right _ _, by rw [hf.1 61 (by decide)]; exact h.2.2.2.1⟩
theorem kSt.ee {e e2 : Nat × Nat} (h : kSt B n m V X (.error e)) (h2 : cFl B n m W Y e2.1 e2.2) (hf : cFr V W X Y) : kSt B n m W Y (.error e2) := by
  obtain ⟨k, pl⟩ := e
  obtain ⟨h1, j, h3, h4⟩ := h
  exact ⟨h2, j, h3, by rw [hf.1 61 (by decide)]; exact h4⟩
/-- what the class does to read one of them -/
def kOne (g : zF) (B : Nat → Nat) (n m : Nat) (Q : sQ) (one : zF → Nat → Int32 → Option zF) (d : Nat) (ab : Nat × Nat × List sC → sR) : Prop := ∀ V X v, kQ V X Q → kSt B n m V X (.ok v) → hS g (one (qH g V X) 60 (Int32.ofNat d)) (fun W Y => kSt B n m W Y (ab v) ∧ kFr V W X Y)
def kTk (B : Nat → Nat) (n m v : Nat) (W : Nat → Nat → Int32) (Y : Nat → Nat → Int64) (x : Int32) : sR → Prop
  | .error e => x = qz false ∧ kSt B n m W Y (.error e)
  | .ok (p, o, cs) => x = qz (aIs B n m v p) ∧ kSt B n m W Y (.ok (if aIs B n m v p = true then (tTok B n m p).2.2.1 else p, o, cs))
theorem K_takes (hN : 3000 ≤ N) {v : Nat} (hv : v < 27) {r : sR} (h : kSt B n m V X r) : hV g (fX9_takesWord N 216 (qH g V X) 1 (Int32.ofNat v)) (fun W Y x => kFr V W X Y ∧ kTk B n m v W Y x r) := by
  cases r with
  | error e =>
    obtain ⟨k, pl⟩ := e
    refine hV_mono (c_takesWF h.1) (fun W Y x hx => ?_)
    obtain ⟨x1, rfl, rfl⟩ := hx
    exact ⟨kFr.rf, x1, h⟩
  | ok w =>
    obtain ⟨p, o, cs⟩ := w
    refine hV_mono (c_takesWN hN h.1 hv) (fun W Y x hx => ?_)
    obtain ⟨x1, x2, x3⟩ := hx
    refine ⟨x3.kf, x1, ?_⟩
    cases ha : aIs B n m v p with
    | true =>
      rw [ha, if_pos rfl] at x2
      exact h.ok x2 x3
    | false =>
      rw [ha, if_neg (by decide)] at x2
      exact h.ok x2 x3
theorem K_andL (hN : 3000 ≤ N) {one : zF → Nat → Int32 → Option zF} {ab : Nat × Nat × List sC → sR} (hO : kOne g B n m Q one d ab) {r4 : zF → Nat → Int32 → Int32 → Int32 → Option zF} {a3 : Int32} {R : (Nat → Nat → Int32) → (Nat → Nat → Int64) → Prop} : ∀ j k V X r, j ≤ 21 → j < k → kQ V X Q → kSt B n m V X r → (∀ W Y, kSt B n m W Y (sAnd B n m ab j r) → kFr V W X Y → hS g (fX7_readCond_63 one r4 N 216 (qH g W Y) 60 (Int32.ofNat d) a3) R) → hS g (fX7_readCond_22 one r4 N 216 k (qH g V X) 60 (Int32.ofNat d) a3 (Int32.ofNat (21 - j))) R := by
  intro j
  induction j with
  | zero =>
    intro k V X r hj hk hq h hR
    obtain ⟨k, rfl⟩ := Nat.exists_eq_succ_of_ne_zero (n := k) (by omega)
    unfold fX7_readCond_22
    rw [if_pos (by decide)]
    exact hR V X h kFr.rf
  | succ j ih =>
    intro k V X r hj hk hq h hR
    obtain ⟨k, rfl⟩ := Nat.exists_eq_succ_of_ne_zero (n := k) (by omega)
    unfold fX7_readCond_22
    rw [if_neg (by rw [show (20 : Int32) = Int32.ofNat 20 from rfl, qlt (by omega) (by omega)]; omega), q60_g0, Option.bind_some, q1_c, Option.bind_some]
    refine hS_zbd (K_takes hN (v := 17) (by omega) h) (fun W Y x hx => ?_)
    obtain ⟨hf, hx⟩ := hx
    cases r with
    | error e =>
      rw [hx.1, if_pos qzf]
      exact hR W Y hx.2 hf
    | ok w =>
      obtain ⟨p, o, cs⟩ := w
      unfold kTk at hx
      dsimp only at hx
      unfold sAnd at hR
      cases ha : aIs B n m 17 p with
      | false =>
        rw [ha, if_neg (by decide)] at hx hR
        rw [hx.1, if_pos qzf]
        exact hR W Y hx.2 hf
      | true =>
        rw [ha, if_pos rfl] at hx hR
        rw [hx.1, if_neg qzt, q60_c, Option.bind_some]
        refine hS_bind (hO W Y _ (hq.fr hf) hx.2) (fun W2 Y2 h2 => ?_)
        rw [q60_g2, Option.bind_some, qN_c qN_61, Option.bind_some]
        refine hS_bind (K_add (c := (9, 0, 0)) h2.1 rfl rfl rfl) (fun W3 Y3 h3 => ?_)
        rw [show Int32.ofNat (21 - (j + 1)) + 1 = Int32.ofNat (21 - j) by rw [l1, qadd]; congr 1; omega]
        exact ih k W3 Y3 _ (by omega) (by omega) (((hq.fr hf).fr h2.2).fr h3.2) h3.1 (fun W4 Y4 h4 hf4 => hR W4 Y4 h4 (((hf.tr h2.2).tr h3.2).tr hf4))
theorem K_allL (hN : 3000 ≤ N) {one : zF → Nat → Int32 → Option zF} {ab : Nat × Nat × List sC → sR} (hO : kOne g B n m Q one d ab) : ∀ j k V X v, j ≤ 21 → j + 1 < k → kQ V X Q → kSt B n m V X (.ok v) → hS g (fX7_readCond_4 one N 216 k (qH g V X) 60 (Int32.ofNat d) 1 (Int32.ofNat (21 - j))) (fun W Y => kSt B n m W Y (sAll B n m ab j (decide (j = 21)) v) ∧ kFr V W X Y) := by
  intro j
  induction j with
  | zero =>
    intro k V X v hj hk hq h
    obtain ⟨k, rfl⟩ := Nat.exists_eq_succ_of_ne_zero (n := k) (by omega)
    unfold fX7_readCond_4
    rw [if_pos (by decide)]
    exact hS_pure ⟨h, kFr.rf⟩
  | succ j ih =>
    intro k V X v hj hk hq h
    obtain ⟨k, rfl⟩ := Nat.exists_eq_succ_of_ne_zero (n := k) (by omega)
    unfold fX7_readCond_4
    rw [if_neg (by rw [show (20 : Int32) = Int32.ofNat 20 from rfl, qlt (by omega) (by omega)]; omega), if_neg (by decide), q60_c, Option.bind_some]
    refine hS_bind (hO V X v hq h) (fun W Y h1 => ?_)
    have h0 := K_andL (g := g) (r4 := fX7_readCond_4 one N 216 k) (a3 := Int32.ofNat (21 - (j + 1))) (R := fun W Y => kSt B n m W Y (sAll B n m ab (j + 1) (decide (j + 1 = 21)) v) ∧ kFr V W X Y) hN hO 21 N W Y (ab v) (by omega) (by omega) (hq.fr h1.2) h1.1
    rw [show Int32.ofNat (21 - 21) = (0 : Int32) from rfl] at h0
    refine h0 (fun W2 Y2 h2 hf2 => ?_)
    have hf02 := h1.2.tr hf2
    -- ors added
    have h78 : ∀ W3 Y3, kSt B n m W3 Y3 (sOrs (decide (j + 1 = 21)) (sAnd B n m ab 21 (ab v))) → kFr V W3 X Y3 → hS g (fX7_readCond_78 one (fX7_readCond_4 one N 216 k) N 216 (qH g W3 Y3) 60 (Int32.ofNat d) (Int32.ofNat (21 - (j + 1)))) (fun W Y => kSt B n m W Y (sAll B n m ab (j + 1) (decide (j + 1 = 21)) v) ∧ kFr V W X Y) := by
      intro W3 Y3 h3 hf3
      unfold fX7_readCond_78
      rw [q60_g0, Option.bind_some, q1_c, Option.bind_some]
      refine hS_zbd (K_takes hN (v := 16) (by omega) h3) (fun W4 Y4 x hx => ?_)
      obtain ⟨hf4, hx⟩ := hx
      have hfa := hf3.tr hf4
      rw [show Int32.ofNat (21 - (j + 1)) + 1 = Int32.ofNat (21 - j) by rw [l1, qadd]; congr 1; omega]
      have stop : ∀ f : zF, fX7_readCond_4 one N 216 k f 60 (Int32.ofNat d) 0 (Int32.ofNat (21 - j)) = some f := by
        intro f
        obtain ⟨k, rfl⟩ := Nat.exists_eq_succ_of_ne_zero (n := k) (by omega)
        unfold fX7_readCond_4
        by_cases hc : (20 : Int32) < Int32.ofNat (21 - j)
        · rw [if_pos hc]
        · rw [if_neg hc, if_pos rfl]
      unfold sAll
      cases hr : sOrs (decide (j + 1 = 21)) (sAnd B n m ab 21 (ab v)) with
      | error e =>
        rw [hr] at hx
        rw [hx.1, show qz false = 0 from rfl, stop]
        exact hS_pure ⟨hx.2, hfa⟩
      | ok w =>
        obtain ⟨p, o, cs⟩ := w
        rw [hr] at hx
        unfold kTk at hx
        dsimp only at hx ⊢
        cases ha : aIs B n m 16 p with
        | false =>
          rw [ha, if_neg (by decide)] at hx
          rw [hx.1, show qz false = 0 from rfl, stop, if_neg (by decide)]
          exact hS_pure ⟨hx.2, hfa⟩
        | true =>
          rw [ha, if_pos rfl] at hx
          rw [hx.1, show qz true = 1 from rfl, if_pos rfl]
          have := ih k W4 Y4 _ (by omega) (by omega) (hq.fr hfa) hx.2
          rw [decide_eq_false (show ¬ j = 21 by omega)] at this
          exact hS_mono this (fun W5 Y5 h5 => ⟨h5.1, hfa.tr h5.2⟩)
    unfold fX7_readCond_63
    by_cases hj : j + 1 = 21
    · rw [if_pos (by rw [hj]; decide)]
      refine h78 W2 Y2 ?_ hf02
      rw [decide_eq_true hj]
      exact h2
    · rw [if_neg (by rw [l0, qle (by omega) (by omega)]; omega), q60_g2, Option.bind_some, qN_c qN_61, Option.bind_some]
      refine hS_bind (K_add (c := (10, 0, 0)) h2 rfl rfl rfl) (fun W3 Y3 h3 => h78 W3 Y3 ?_ (hf02.tr h3.2))
      rw [decide_eq_false hj]
      exact h3.1
theorem K_cond (hN : 3000 ≤ N) {one : zF → Nat → Int32 → Option zF} {ab : Nat × Nat × List sC → sR} (hO : kOne g B n m Q one d ab) : kOne g B n m Q (fun f a b => fX7_readCond one N 216 f a b) d (fun v => sAll B n m ab 21 true v) := by
  intro V X v hq h
  show hS g (fX7_readCond one N 216 (qH g V X) 60 (Int32.ofNat d)) _
  unfold fX7_readCond
  have := K_allL hN hO 21 N V X v (by omega) (by omega) hq h
  rw [decide_eq_true rfl] at this
  exact this
end QSE
