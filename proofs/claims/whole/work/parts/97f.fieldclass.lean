/-! a field read: told once; steps of the class -/
section QFA
variable {g : zF} {V W U K C : Nat → Nat → Int32} {X Y Z D : Nat → Nat → Int64} {N n m p o k pl d e c : Nat} {s t u B h : Nat → Nat} {q : Nat → List Nat} {a b : aA}
/-- a word told already -/
def told (h : Nat → Nat) (q : Nat → List Nat) (w : List Nat) : Bool := (fndN q (h 2) w).isSome || (fndN (fun i => q (4 + i)) (h 3) w).isSome || (fndN (fun i => q (10 + i)) (h 4) w).isSome
def rdNw (B : Nat → Nat) (n m : Nat) (tl : List Nat → Bool) : aA → List Nat × aA
  | .ok p => if (tTok B n m p).1 = 5 then (if tl (tTok B n m p).2.2.2.2 = true then ([], .error (3, (tTok B n m p).2.1)) else ((tTok B n m p).2.2.2.2, .ok (tTok B n m p).2.2.1)) else ([], .error (1, (tTok B n m p).2.1))
  | .error e => ([], .error e)
/-- something in a cell -/
def hadC (h : Nat → Nat) (c : Nat) : Bool := decide (h (5 + c) = 1) || ((qfnd (fun f => decide (h (101 + f) = c)) 0 (h 3)).isSome || (qfnd (fun l => decide (h (119 + l) = c)) 0 (h 4)).isSome)
def rdCell (B : Nat → Nat) (n m : Nat) (h : Nat → Nat) (a : aA) : Nat × aA :=
  (9 * (rdNum B n m 0 (h 1 - 1) (rdNum B n m 0 (h 0 - 1) a).2).1 + (rdNum B n m 0 (h 0 - 1) a).1,
   if hadC h (9 * (rdNum B n m 0 (h 1 - 1) (rdNum B n m 0 (h 0 - 1) a).2).1 + (rdNum B n m 0 (h 0 - 1) a).1) = true then rdBack B n m 3 (rdNum B n m 0 (h 0 - 1) a).2 (rdNum B n m 0 (h 1 - 1) (rdNum B n m 0 (h 0 - 1) a).2).2 else (rdNum B n m 0 (h 1 - 1) (rdNum B n m 0 (h 0 - 1) a).2).2)
/-- the class's row of what is read -/
def fdC (V : Nat → Nat → Int32) (h : Nat → Nat) : Prop := (V 36 0 = Int32.ofNat (h 0) ∧ V 36 1 = Int32.ofNat (h 1) ∧ V 36 2 = Int32.ofNat (h 2) ∧ V 36 3 = Int32.ofNat (h 3) ∧ V 36 4 = Int32.ofNat (h 4)) ∧ (∀ c, c < 81 → V 40 c = Int32.ofNat (h (5 + c))) ∧ (∀ y, y < 9 → V 55 y = Int32.ofNat (h (86 + y)) + -1) ∧
  (∀ f, f < h 3 → V 42 f = Int32.ofNat (h (95 + f)) ∧ V 48 f = Int32.ofNat (h (101 + f)) ∧ V 49 f = Int32.ofNat (h (107 + f)) ∧ V 43 f = Int32.ofNat (h (113 + f))) ∧ ∀ l, l < h 4 → V 51 l = Int32.ofNat (h (119 + l)) ∧ V 52 l = Int32.ofNat (h (124 + l)) ∧ V 45 l = Int32.ofNat (h (129 + l)) ∧ V 46 l = Int32.ofNat (h (134 + l))
def fdB (h : Nat → Nat) : Prop := (2 ≤ h 0 ∧ h 0 ≤ 9) ∧ (2 ≤ h 1 ∧ h 1 ≤ 9) ∧ h 2 ≤ 4 ∧ h 3 ≤ 6 ∧ h 4 ≤ 5 ∧ (∀ c, c < 81 → h (5 + c) ≤ 1) ∧ (∀ y, y < 9 → h (86 + y) ≤ h 2) ∧ (∀ f, f < h 3 → h (95 + f) < h 2 ∧ h (101 + f) < 81 ∧ h (107 + f) < 4 ∧ 1 ≤ h (113 + f) ∧ h (113 + f) ≤ 9) ∧ (∀ l, l < h 4 → h (119 + l) < 81 ∧ h (124 + l) < 4 ∧ h (129 + l) ≤ 23 ∧ 1 ≤ h (134 + l) ∧ h (134 + l) ≤ 24) ∧ ∀ f f2, f < h 3 → f2 < h 3 → h (101 + f) = h (101 + f2) → f = f2
def fdX (X : Nat → Nat → Int64) (h : Nat → Nat) (q : Nat → List Nat) : Prop := (∀ i, i < h 2 → X 37 i = Int64.ofNat (r5 (q i))) ∧ (∀ i, i < h 3 → X 38 i = Int64.ofNat (r5 (q (4 + i)))) ∧ ∀ i, i < h 4 → X 39 i = Int64.ofNat (r5 (q (10 + i)))
def fdN (h : Nat → Nat) (q : Nat → List Nat) : Prop := nOKs q (h 2) ∧ nOKs (fun i => q (4 + i)) (h 3) ∧ nOKs (fun i => q (10 + i)) (h 4) ∧ ∀ f l, f < h 3 → l < h 4 → q (4 + f) ≠ q (10 + l)
theorem fdC.cg (hc : fdC V h) (e : ∀ b, 35 < b → b ≤ 55 → W b = V b) : fdC W h := by
  unfold fdC at hc ⊢
  rw [e 36 (by omega) (by omega), e 40 (by omega) (by omega), e 42 (by omega) (by omega), e 43 (by omega) (by omega), e 45 (by omega) (by omega), e 46 (by omega) (by omega), e 48 (by omega) (by omega), e 49 (by omega) (by omega), e 51 (by omega) (by omega), e 52 (by omega) (by omega), e 55 (by omega) (by omega)]
  exact hc
/-- a place beyond those told -/
theorem fdC.up (hc : fdC V h) {r i : Nat} {x : Int32} (hr : ((r = 42 ∨ r = 43 ∨ r = 48 ∨ r = 49) ∧ h 3 ≤ i) ∨ ((r = 51 ∨ r = 52 ∨ r = 45 ∨ r = 46) ∧ h 4 ≤ i) ∨ r = 35) : fdC (qw V r (upd (V r) i x)) h := by
  obtain ⟨⟨c1, c2, c3, c4, c5⟩, c6, c7, c8, c9⟩ := hc
  have hn : ∀ b j, (b ≠ r ∨ j ≠ i) → qw V r (upd (V r) i x) b j = V b j := by
    intro b j hb
    by_cases e : b = r
    · subst e
      rw [qw_s, upd_n (by omega)]
    · rw [qw_n e]
  refine ⟨⟨?_, ?_, ?_, ?_, ?_⟩, fun c hc => ?_, fun y hy => ?_, fun f hf => ⟨?_, ?_, ?_, ?_⟩, fun l hl => ⟨?_, ?_, ?_, ?_⟩⟩
  · rw [hn _ _ (by omega)]; exact c1
  · rw [hn _ _ (by omega)]; exact c2
  · rw [hn _ _ (by omega)]; exact c3
  · rw [hn _ _ (by omega)]; exact c4
  · rw [hn _ _ (by omega)]; exact c5
  · rw [hn _ _ (by omega)]; exact c6 c hc
  · rw [hn _ _ (by omega)]; exact c7 y hy
  · rw [hn _ _ (by omega)]; exact (c8 f hf).1
  · rw [hn _ _ (by omega)]; exact (c8 f hf).2.1
  · rw [hn _ _ (by omega)]; exact (c8 f hf).2.2.1
  · rw [hn _ _ (by omega)]; exact (c8 f hf).2.2.2
  · rw [hn _ _ (by omega)]; exact (c9 l hl).1
  · rw [hn _ _ (by omega)]; exact (c9 l hl).2.1
  · rw [hn _ _ (by omega)]; exact (c9 l hl).2.2.1
  · rw [hn _ _ (by omega)]; exact (c9 l hl).2.2.2
/-- reading stands at a; all but the tape is as told -/
def wk (B : Nat → Nat) (n m : Nat) (C : Nat → Nat → Int32) (D : Nat → Nat → Int64) (a : aA) (W : Nat → Nat → Int32) (Y : Nat → Nat → Int64) : Prop := cSt B n m W Y a ∧ (∀ b, b ≠ 1 → W b = C b) ∧ ∀ b, b ≠ 1 → Y b = D b
theorem wk.tape (hw : wk B n m C D a V X) (h2 : cSt B n m W Y b) (hf : cFr V W X Y) : wk B n m C D b W Y := ⟨h2, fun b hb => by rw [hf.1 b hb]; exact hw.2.1 b hb, fun b hb => by rw [hf.2 b hb]; exact hw.2.2 b hb⟩
theorem wk.put (hw : wk B n m C D a V X) {r i : Nat} {x : Int32} (hr : r ≠ 1) (hr2 : r ≠ 2) : wk B n m (qw C r (upd (C r) i x)) D a (qw V r (upd (V r) i x)) X := by
  refine ⟨hw.1.cg (fun j => by rw [qw_n (fun e => hr e.symm)]) (fun j => by rw [qw_n (fun e => hr2 e.symm)]) (fun _ => rfl) (fun _ => rfl), fun b hb => ?_, hw.2.2⟩
  by_cases e : b = r
  · subst e
    rw [qw_s, qw_s, hw.2.1 b hb]
  · rw [qw_n e, qw_n e]; exact hw.2.1 b hb
theorem wk.putX (hw : wk B n m C D a V X) {r i : Nat} {x : Int64} (hr : r ≠ 1) (hr2 : r ≠ 3) : wk B n m C (qx D r (vp_updL (D r) i x)) a V (qx X r (vp_updL (X r) i x)) := by
  refine ⟨hw.1.cg (fun j => rfl) (fun j => rfl) (fun _ => by rw [qx_n (fun e => hr e.symm)]) (fun _ => by rw [qx_n (fun e => hr2 e.symm)]), hw.2.1, fun b hb => ?_⟩
  by_cases e : b = r
  · subst e
    rw [qx_s, qx_s, hw.2.2 b hb]
  · rw [qx_n e, qx_n e]; exact hw.2.2 b hb
theorem W_num (hN : 3000 ≤ N) (hw : wk B n m C D a V X) {lo hi : Nat} (hlo : lo < 1000) (hhi : hi < 1000) : hV g (fX9_needNumber N 216 (qH g V X) 1 (Int32.ofNat lo) (Int32.ofNat hi)) (fun W Y r => r = Int32.ofNat (rdNum B n m lo hi a).1 ∧ wk B n m C D (rdNum B n m lo hi a).2 W Y ∧ prv B n m W a (rdNum B n m lo hi a).2) :=
  hV_mono (C_num hN hw.1 hlo hhi) (fun W Y r hx => ⟨hx.1, hw.tape hx.2.1 hx.2.2.1, hx.2.2.2⟩)
theorem W_side (hN : 3000 ≤ N) (hw : wk B n m C D a V X) : hV g (fX9_needSide N 216 (qH g V X) 1) (fun W Y r => r = Int32.ofNat (rdSide B n m a).1 ∧ wk B n m C D (rdSide B n m a).2 W Y) :=
  hV_mono (C_side hN hw.1) (fun W Y r hx => ⟨hx.1, hw.tape hx.2.1 hx.2.2⟩)
theorem W_of (hN : 3000 ≤ N) (hw : wk B n m C D a V X) (hx : fdX D h q) (hn : fdN h q) (h2 : h 2 ≤ 4) : hV g (fX9_needNameOf N 216 (qH g V X) 1 37 (Int32.ofNat (h 2))) (fun W Y r => r = Int32.ofNat (rdOf B n m q (h 2) a).1 ∧ wk B n m C D (rdOf B n m q (h 2) a).2 W Y) :=
  hV_mono (C_of hN hw.1 (r := 37) (L := 4) (qF_k1 qF_36) (by omega) h2 (q := q) (fun p _ => ⟨hn.1, fun i hi => by rw [hw.2.2 37 (by decide)]; exact hx.1 i hi⟩)) (fun W Y r hx => ⟨hx.1, hw.tape hx.2.1 hx.2.2⟩)
theorem W_figIn {c z : Nat} {u : Nat → Nat} (hc : c ≤ 6) (h3 : V 36 3 = Int32.ofNat c) (hu : ∀ f, f < c → V 48 f = Int32.ofNat (u f) ∧ u f < 1000) (hz : z < 1000) : ∀ m i k, i + m = c → m < k → fX8_figureIn_2 N 216 (qH g V X) k 47 (Int32.ofNat z) (Int32.ofNat i) = some (qo (qfnd (fun f => decide (u f = z)) i m)) := by
  intro m
  induction m with
  | zero =>
    intro i k hi hk
    obtain ⟨k, rfl⟩ : ∃ j, k = j + 1 := ⟨k - 1, by omega⟩
    unfold fX8_figureIn_2
    rw [qS_g0 qS_47, Option.bind_some, qF_g3 qF_36, Option.bind_some, h3, if_pos (by rw [qle (by omega) (by omega)]; omega)]
    rfl
  | succ m ih =>
    intro i k hi hk
    obtain ⟨k, rfl⟩ : ∃ j, k = j + 1 := ⟨k - 1, by omega⟩
    obtain ⟨u1, u2⟩ := hu i (by omega)
    unfold fX8_figureIn_2 qfnd
    rw [qS_g0 qS_47, Option.bind_some, qF_g3 qF_36, Option.bind_some, h3, if_neg (by rw [qle (by omega) (by omega)]; omega), qS_g2 qS_47, Option.bind_some, qlen (t := 0) (qS_k1 qS_47) (Or.inl rfl), Option.bind_some, if_neg (by rw [qle (by omega) (by omega)]; omega), Option.bind_some, qlI (t := 0) (qS_k1 qS_47) (Or.inl rfl) (by omega) (by omega), Option.bind_some, u1, qlit1, qadd]
    by_cases e : u i = z
    · rw [if_pos (by rw [e]), if_pos (decide_eq_true e)]; rfl
    · rw [if_neg (by rw [qeq (by omega) (by omega)]; exact e), ih (i + 1) k (by omega) (by omega), if_neg (by simp [e])]
theorem W_lookIn {c z : Nat} {u : Nat → Nat} (hc : c ≤ 5) (h3 : V 36 4 = Int32.ofNat c) (hu : ∀ f, f < c → V 51 f = Int32.ofNat (u f) ∧ u f < 1000) (hz : z < 1000) : ∀ m i k, i + m = c → m < k → fX8_lookerIn_2 N 216 (qH g V X) k 47 (Int32.ofNat z) (Int32.ofNat i) = some (qo (qfnd (fun f => decide (u f = z)) i m)) := by
  intro m
  induction m with
  | zero =>
    intro i k hi hk
    obtain ⟨k, rfl⟩ : ∃ j, k = j + 1 := ⟨k - 1, by omega⟩
    unfold fX8_lookerIn_2
    rw [qS_g0 qS_47, Option.bind_some, qF_g4 qF_36, Option.bind_some, h3, if_pos (by rw [qle (by omega) (by omega)]; omega)]
    rfl
  | succ m ih =>
    intro i k hi hk
    obtain ⟨k, rfl⟩ : ∃ j, k = j + 1 := ⟨k - 1, by omega⟩
    obtain ⟨u1, u2⟩ := hu i (by omega)
    unfold fX8_lookerIn_2 qfnd
    rw [qS_g0 qS_47, Option.bind_some, qF_g4 qF_36, Option.bind_some, h3, if_neg (by rw [qle (by omega) (by omega)]; omega), qS_g5 qS_47, Option.bind_some, qlen (t := 0) (qS_k4 qS_47) (Or.inl rfl), Option.bind_some, if_neg (by rw [qle (by omega) (by omega)]; omega), Option.bind_some, qlI (t := 0) (qS_k4 qS_47) (Or.inl rfl) (by omega) (by omega), Option.bind_some, u1, qlit1, qadd]
    by_cases e : u i = z
    · rw [if_pos (by rw [e]), if_pos (decide_eq_true e)]; rfl
    · rw [if_neg (by rw [qeq (by omega) (by omega)]; exact e), ih (i + 1) k (by omega) (by omega), if_neg (by simp [e])]
theorem W_some (hN : 3000 ≤ N) (hC : fdC V h) (hB : fdB h) {z : Nat} (hz : z < 81) : fX2_hasHedge N 216 (qH g V X) 36 (Int32.ofNat z) = some (qz (decide (h (5 + z) = 1))) ∧ fX8_hasSomebody N 216 (qH g V X) 47 (Int32.ofNat z) = some (qz ((qfnd (fun f => decide (h (101 + f) = z)) 0 (h 3)).isSome || (qfnd (fun l => decide (h (119 + l) = z)) 0 (h 4)).isSome)) := by
  obtain ⟨⟨c1, c2, c3, c4, c5⟩, c6, c7, c8, c9⟩ := hC
  obtain ⟨b1, b2, b3, b4, b5, b6, b7, b8, b9, b10⟩ := hB
  have hb := b6 z hz
  constructor
  · unfold fX2_hasHedge
    rw [if_neg (Int32.ofNat_not_neg (by omega)), qF_g8 qF_36, Option.bind_some, qlen (t := 0) (qF_k4 qF_36) (Or.inl rfl), Option.bind_some, if_neg (by rw [qle (by omega) (by omega)]; omega), Option.bind_some, qlI (t := 0) (qF_k4 qF_36) (Or.inl rfl) hz (by omega), Option.bind_some, c6 z hz, qlit1]
    by_cases e : h (5 + z) = 1
    · rw [if_pos (by rw [e]), decide_eq_true e]; rfl
    · rw [if_neg (by rw [qeq (by omega) (by omega)]; omega), decide_eq_false e]; rfl
  · have e1 : fX8_figureIn N 216 (qH g V X) 47 (Int32.ofNat z) = some (qo (qfnd (fun f => decide (h (101 + f) = z)) 0 (h 3))) := W_figIn b4 c4 (u := fun f => h (101 + f)) (fun f hf => ⟨(c8 f hf).2.1, by have := (b8 f hf).2.1; show h (101 + f) < 1000; omega⟩) (by omega) (h 3) 0 N (by omega) (by omega)
    have e2 : fX8_lookerIn N 216 (qH g V X) 47 (Int32.ofNat z) = some (qo (qfnd (fun l => decide (h (119 + l) = z)) 0 (h 4))) := W_lookIn b5 c5 (u := fun f => h (119 + f)) (fun f hf => ⟨(c9 f hf).1, by have := (b9 f hf).1; show h (119 + f) < 1000; omega⟩) (by omega) (h 4) 0 N (by omega) (by omega)
    unfold fX8_hasSomebody
    rw [qS_c qS_47, Option.bind_some, e1, Option.bind_some]
    cases h1 : qfnd (fun f => decide (h (101 + f) = z)) 0 (h 3) with
    | some k =>
      have := (qfnd_lt h1).2.1
      rw [if_neg (by rw [qo_some, qne1 (by omega)]; exact not_false)]; rfl
    | none =>
      rw [if_pos qo_none, Option.bind_some, e2, Option.bind_some]
      cases h2 : qfnd (fun l => decide (h (119 + l) = z)) 0 (h 4) with
      | some k =>
        have := (qfnd_lt h2).2.1
        rw [if_neg (by rw [qo_some, qne1 (by omega)]; exact not_false)]; rfl
      | none => rfl
theorem rdNum_prev {lo hi q2 : Nat} (hq : (rdNum B n m lo hi a).2 = .ok q2) : ∃ p, a = .ok p := by
  obtain ⟨p, hp, -⟩ := rdNum_ok hq
  exact ⟨p, hp⟩
theorem rdNw_ok {tl : List Nat → Bool} : rdNw B n m tl (.ok p) = (if (tTok B n m p).1 = 5 then (if tl (tTok B n m p).2.2.2.2 = true then ([], .error (3, (tTok B n m p).2.1)) else ((tTok B n m p).2.2.2.2, .ok (tTok B n m p).2.2.1)) else ([], .error (1, (tTok B n m p).2.1))) := rfl
theorem W_cell (hN : 3000 ≤ N) (hw : wk B n m C D a V X) (hC : fdC C h) (hB : fdB h) : hV g (fX3_readCell N 216 (qH g V X) 35) (fun W Y r => r = Int32.ofNat (rdCell B n m h a).1 ∧ wk B n m (qw C 35 (upd (C 35) 5 1)) D (rdCell B n m h a).2 W Y ∧ (rdCell B n m h a).1 < 81) := by
  obtain ⟨b1, b2, -⟩ := id hB
  have hC2 : fdC (qw C 35 (upd (C 35) 5 1)) h := hC.up (Or.inr (Or.inr rfl))
  obtain ⟨⟨c1, c2, -⟩, -⟩ := id hC2
  unfold fX3_readCell
  rw [q35_p5 _ (Or.inr rfl), Option.bind_some, q35_g0, Option.bind_some, q35_g1, Option.bind_some, qF_g0 qF_36, Option.bind_some, q1_c, Option.bind_some]
  have hw1 := hw.put (r := 35) (i := 5) (x := 1) (by decide) (by decide)
  rw [hw1.2.1 36 (by decide), c1, show Int32.ofNat (h 0) - (1 : Int32) = Int32.ofNat (h 0 - 1) by rw [l1, qsub (by omega)], l0]
  refine hV_zbd (W_num hN hw1 (lo := 0) (hi := h 0 - 1) (by omega) (by omega)) (fun W Y r hx => ?_)
  obtain ⟨rfl, x2, -⟩ := hx
  rw [q35_g0, Option.bind_some, q35_g1, Option.bind_some, qF_g1 qF_36, Option.bind_some, q1_c, Option.bind_some, x2.2.1 36 (by decide), c2, show Int32.ofNat (h 1) - (1 : Int32) = Int32.ofNat (h 1 - 1) by rw [l1, qsub (by omega)]]
  refine hV_zbd (W_num hN x2 (lo := 0) (hi := h 1 - 1) (by omega) (by omega)) (fun W2 Y2 r hy => ?_)
  obtain ⟨rfl, y2, y3⟩ := hy
  have n1 := rdNum_lt (B := B) (n := n) (m := m) (lo := 0) (hi := h 0 - 1) (a := a) (Nat.zero_le _)
  have n2 := rdNum_lt (B := B) (n := n) (m := m) (lo := 0) (hi := h 1 - 1) (a := (rdNum B n m 0 (h 0 - 1) a).2) (Nat.zero_le _)
  have hlt : (rdCell B n m h a).1 < 81 := by show 9 * _ + _ < 81; omega
  have hCW : fdC W2 h := hC2.cg (fun b c1 c2 => y2.2.1 b (by omega))
  obtain ⟨s1, s2⟩ := W_some (g := g) (X := Y2) hN hCW hB hlt
  rw [q35_g1, Option.bind_some, qF_c qF_36, Option.bind_some, show (9 : Int32) = Int32.ofNat 9 from rfl, qmul, qadd]
  have e1 : (rdCell B n m h a).1 = 9 * (rdNum B n m 0 (h 1 - 1) (rdNum B n m 0 (h 0 - 1) a).2).1 + (rdNum B n m 0 (h 0 - 1) a).1 := rfl
  have e2 : (rdCell B n m h a).2 = if hadC h (rdCell B n m h a).1 = true then rdBack B n m 3 (rdNum B n m 0 (h 0 - 1) a).2 (rdNum B n m 0 (h 1 - 1) (rdNum B n m 0 (h 0 - 1) a).2).2 else (rdNum B n m 0 (h 1 - 1) (rdNum B n m 0 (h 0 - 1) a).2).2 := rfl
  rw [← e1, s1, Option.bind_some]
  have h70 : hadC h (rdCell B n m h a).1 = true → hV g (fX3_readCell_70 N 216 (qH g W2 Y2) 35 (Int32.ofNat (rdCell B n m h a).1)) (fun W Y r => r = Int32.ofNat (rdCell B n m h a).1 ∧ wk B n m (qw C 35 (upd (C 35) 5 1)) D (rdCell B n m h a).2 W Y ∧ (rdCell B n m h a).1 < 81) := by
    intro hh
    unfold fX3_readCell_70
    rw [q35_g0, Option.bind_some, Option.bind_some, q1_g7, Option.bind_some, q1_c, Option.bind_some, l3]
    refine hV_bind (C_back y2.1 y3 (fun q2 hq => ?_) (k := 3) (by omega) (by omega)) (fun W3 Y3 hz => hV_pure ⟨rfl, ?_, hlt⟩)
    · obtain ⟨p, hp⟩ := rdNum_prev hq
      refine ⟨p, hp, ?_⟩
      have := x2.1
      rw [hp] at this
      exact this.2.2.2.2.1
    · rw [e2, if_pos hh]
      exact y2.tape hz.1 hz.2
  cases hd : decide (h (5 + (rdCell B n m h a).1) = 1) with
  | true =>
    rw [if_neg (show ¬ qz true = Int32.ofNat 0 by decide)]
    exact h70 (by unfold hadC; rw [hd]; rfl)
  | false =>
    rw [if_pos (show qz false = Int32.ofNat 0 from rfl), q35_g2, Option.bind_some, qS_c qS_47, Option.bind_some, s2, Option.bind_some]
    cases hs : ((qfnd (fun f => decide (h (101 + f) = (rdCell B n m h a).1)) 0 (h 3)).isSome || (qfnd (fun l => decide (h (119 + l) = (rdCell B n m h a).1)) 0 (h 4)).isSome) with
    | true =>
      rw [if_neg (show ¬ qz true = Int32.ofNat 0 by decide)]
      exact h70 (by unfold hadC; rw [hd, hs]; rfl)
    | false =>
      rw [if_pos (show qz false = Int32.ofNat 0 from rfl)]
      have hh : hadC h (rdCell B n m h a).1 = false := by unfold hadC; rw [hd, hs]; rfl
      refine hV_pure ⟨rfl, ?_, hlt⟩
      rw [e2, if_neg (by rw [hh]; decide)]
      exact y2
theorem W_new (hN : 3000 ≤ N) (hw : wk B n m C D a V X) (hC : fdC C h) (hB : fdB h) (hx : fdX D h q) (hn : fdN h q) : ∃ W Y r, fX3_readNewName N 216 (qH g V X) 35 = some (qH g W Y, r) ∧ wk B n m C D (rdNw B n m (told h q) a).2 W Y ∧ ∀ p2, (rdNw B n m (told h q) a).2 = .ok p2 → r = Int64.ofNat (r5 (rdNw B n m (told h q) a).1) := by
  obtain ⟨⟨c1, c2, c3, c4, c5⟩, -⟩ := hC
  obtain ⟨b1, b2, b3, b4, b5, -⟩ := hB
  unfold fX3_readNewName
  simp only [q35_g0, q35_g1, q1_g9, q1_g5, q1_c, qF_c qF_36, Option.bind_some]
  have fl : ∀ (o : Option zF) (R : aA), hS g o (fun W Y => cSt B n m W Y R ∧ cFr V W X Y) → ∃ W Y r, (o.bind fun f => some (f, X 1 9)) = some (qH g W Y, r) ∧ wk B n m C D R W Y ∧ r = X 1 9 := by
    rintro o R ⟨W, Y, rfl, z1, z2⟩
    exact ⟨W, Y, _, rfl, hw.tape z1 z2, rfl⟩
  cases a with
  | error e =>
    obtain ⟨k, pl⟩ := e
    have hF : cFl B n m V X k pl := hw.1
    rw [hF.2.2.2.2.2.2.2.2, if_neg (by decide)]
    obtain ⟨W, Y, r, z1, z2, z3⟩ := fl _ (.error (k, pl)) (c_failF hF (k := 1))
    exact ⟨W, Y, r, z1, z2, fun p2 hp => by cases hp⟩
  | ok p =>
    have hN1 : cN B n m V X p := hw.1
    have hkd := hN1.kd (a := 5) (by omega) (by omega)
    rw [rdNw_ok]
    by_cases hk : (tTok B n m p).1 = 5
    · obtain ⟨n1, n2, n3⟩ := hN1.name hk
      rw [if_pos (by rw [show (3 : Int32) = Int32.ofNat (cKd 5) from rfl, hkd]; exact hk), if_pos hk, n1]
      have p1 : fX11_placeOf N 216 (qH g V X) 37 (Int32.ofNat (h 2)) (Int64.ofNat (r5 (tTok B n m p).2.2.2.2)) = some (qo (fndN q (h 2) (tTok B n m p).2.2.2.2)) := c_findN hN (qF_k1 qF_36) (by omega) b3 hn.1 (fun i hi => by rw [hw.2.2 37 (by decide)]; exact hx.1 i hi) n2 n3
      have p2 : fX11_placeOf N 216 (qH g V X) 38 (Int32.ofNat (h 3)) (Int64.ofNat (r5 (tTok B n m p).2.2.2.2)) = some (qo (fndN (fun i => q (4 + i)) (h 3) (tTok B n m p).2.2.2.2)) := c_findN hN (qF_k2 qF_36) (by omega) b4 hn.2.1 (fun i hi => by rw [hw.2.2 38 (by decide)]; exact hx.2.1 i hi) n2 n3
      have p3 : fX11_placeOf N 216 (qH g V X) 39 (Int32.ofNat (h 4)) (Int64.ofNat (r5 (tTok B n m p).2.2.2.2)) = some (qo (fndN (fun i => q (10 + i)) (h 4) (tTok B n m p).2.2.2.2)) := c_findN hN (qF_k3 qF_36) (by omega) b5 hn.2.2.1 (fun i hi => by rw [hw.2.2 39 (by decide)]; exact hx.2.2 i hi) n2 n3
      have hT : fX2_isTold N 216 (qH g V X) 36 (Int64.ofNat (r5 (tTok B n m p).2.2.2.2)) = some (qz (told h q (tTok B n m p).2.2.2.2)) := by
        unfold fX2_isTold told
        rw [qF_g5 qF_36, Option.bind_some, qF_g2 qF_36, Option.bind_some, hw.2.1 36 (by decide), c3, p1, Option.bind_some]
        cases f1 : fndN q (h 2) (tTok B n m p).2.2.2.2 with
        | some i =>
          have := (fndN_lt f1).1
          rw [if_neg (by rw [qo_some, qne1 (by omega)]; exact not_false)]; rfl
        | none =>
          rw [if_pos qo_none, qF_g6 qF_36, Option.bind_some, qF_g3 qF_36, Option.bind_some, hw.2.1 36 (by decide), c4, p2, Option.bind_some]
          cases f2 : fndN (fun i => q (4 + i)) (h 3) (tTok B n m p).2.2.2.2 with
          | some i =>
            have := (fndN_lt f2).1
            rw [if_neg (by rw [qo_some, qne1 (by omega)]; exact not_false)]; rfl
          | none =>
            rw [if_pos qo_none, qF_g7 qF_36, Option.bind_some, qF_g4 qF_36, Option.bind_some, hw.2.1 36 (by decide), c5, p3, Option.bind_some]
            cases f3 : fndN (fun i => q (10 + i)) (h 4) (tTok B n m p).2.2.2.2 with
            | some i =>
              have := (fndN_lt f3).1
              rw [if_neg (by rw [qo_some, qne1 (by omega)]; exact not_false)]; rfl
            | none => rfl
      rw [hT, Option.bind_some]
      rw [n1] at fl
      cases ht : told h q (tTok B n m p).2.2.2.2 with
      | true =>
        rw [if_neg qzt, if_pos rfl]
        obtain ⟨W, Y, r, z1, z2, z3⟩ := fl _ (.error (3, (tTok B n m p).2.1)) (c_failN hN1 (k := 3) (by omega) (by omega))
        exact ⟨W, Y, r, z1, z2, fun p2 hp => by cases hp⟩
      | false =>
        rw [if_pos qzf, if_neg (show ¬ false = true by decide)]
        obtain ⟨W, Y, r, z1, z2, z3⟩ := fl _ (.ok (tTok B n m p).2.2.1) (hS_mono (cN.adv hN hN1 (by omega) (by omega)) (fun W Y hx => ⟨hx.1, hx.2.2⟩))
        exact ⟨W, Y, r, z1, z2, fun p2 _ => z3⟩
    · rw [if_neg (by rw [show (3 : Int32) = Int32.ofNat (cKd 5) from rfl, hkd]; exact hk), if_neg hk]
      obtain ⟨W, Y, r, z1, z2, z3⟩ := fl _ (.error (1, (tTok B n m p).2.1)) (c_failN hN1 (k := 1) (by omega) (by omega))
      exact ⟨W, Y, r, z1, z2, fun p2 hp => by cases hp⟩
theorem e_putN {r n k : Nat} {x : Int64} (hr : r < 216 ∧ qK r = 21 ∧ qL r = n) (hk : k < n) (hn : n < 2147483648) : fX11_putName N 216 (qH g V X) r (Int32.ofNat k) x = some (qH g V (qx X r (vp_updL (X r) k x))) := by
  unfold fX11_putName
  rw [if_neg (Int32.ofNat_not_neg (by omega)), qlenL hr, Option.bind_some, if_neg (by rw [qle (by omega) (by omega)]; omega), qsL hr hk hn]
  rfl
end QFA
