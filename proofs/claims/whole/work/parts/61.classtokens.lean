/-! the class's tokens -/
/-- the bytes of the class's tape -/
def cB (V : Nat → Nat → Int32) (B : Nat → Nat) (n : Nat) : Prop := V 1 2 = Int32.ofNat n ∧ n ≤ 940 ∧ ∀ i, i < n → B i < 256 ∧ V 2 i &&& Int32.ofNat 255 = Int32.ofNat (B i) ∧ (B i < 128 → V 2 i = Int32.ofNat (B i)) ∧ (128 ≤ B i → V 2 i < Int32.ofNat 0)
def cW (X : Nat → Nat → Int64) : Prop := ∀ v, v < 27 → X 3 v = Int64.ofNat (r5 (wK v))
def cKd (k : Nat) : Nat := [1, 1, 5, 4, 2, 3, 0].getD k 0
def cT (V : Nat → Nat → Int32) (X : Nat → Nat → Int64) (T : Nat × Nat × Nat × Nat × List Nat) : Prop :=
  V 1 5 = Int32.ofNat (cKd T.1) ∧ V 1 6 = Int32.ofNat T.2.1 ∧ (2 ≤ T.1 ∧ T.1 ≤ 5 → V 1 4 = Int32.ofNat T.2.2.1) ∧ (2 ≤ T.1 ∧ T.1 ≤ 4 → V 1 8 = Int32.ofNat T.2.2.2.1) ∧ (T.1 = 5 → X 1 9 = Int64.ofNat (r5 T.2.2.2.2))
/-- what reading on leaves as it is -/
def cL (V W : Nat → Nat → Int32) (X Y : Nat → Nat → Int64) : Prop := W 1 2 = V 1 2 ∧ W 1 3 = V 1 3 ∧ W 1 10 = V 1 10 ∧ W 1 11 = V 1 11 ∧ (∀ b, b ≠ 1 → W b = V b) ∧ (∀ b, b ≠ 1 → Y b = X b)
theorem cL.rf {V : Nat → Nat → Int32} {X : Nat → Nat → Int64} : cL V V X X := ⟨rfl, rfl, rfl, rfl, fun _ _ => rfl, fun _ _ => rfl⟩
theorem cL.tr {V W U : Nat → Nat → Int32} {X Y Z : Nat → Nat → Int64} (h : cL V W X Y) (h2 : cL W U Y Z) : cL V U X Z := by
  obtain ⟨a1, a2, a3, a4, a5, a6⟩ := h
  obtain ⟨b1, b2, b3, b4, b5, b6⟩ := h2
  exact ⟨b1.trans a1, b2.trans a2, b3.trans a3, b4.trans a4, fun b hb => (b5 b hb).trans (a5 b hb), fun b hb => (b6 b hb).trans (a6 b hb)⟩
theorem cL.w {V : Nat → Nat → Int32} {X : Nat → Nat → Int64} {j : Nat} {x : Int32} (h : 4 ≤ j ∧ j < 10) : cL V (qw V 1 (upd (V 1) j x)) X X :=
  ⟨by rw [qw_s, upd_n (by omega)], by rw [qw_s, upd_n (by omega)], by rw [qw_s, upd_n (by omega)], by rw [qw_s, upd_n (by omega)], fun b hb => qw_n hb, fun _ _ => rfl⟩
theorem cL.x {V : Nat → Nat → Int32} {X : Nat → Nat → Int64} {r : Nat → Int64} : cL V V X (qx X 1 r) := ⟨rfl, rfl, rfl, rfl, fun _ _ => rfl, fun b hb => qx_n hb⟩
theorem cB.l {V W : Nat → Nat → Int32} {X Y : Nat → Nat → Int64} {B : Nat → Nat} {n : Nat} (h : cB V B n) (hL : cL V W X Y) : cB W B n := by
  obtain ⟨h1, h2, h3⟩ := h
  refine ⟨hL.1.trans h1, h2, fun i hi => ?_⟩
  rw [hL.2.2.2.2.1 2 (by omega)]
  exact h3 i hi
theorem cW.l {V W : Nat → Nat → Int32} {X Y : Nat → Nat → Int64} (h : cW X) (hL : cL V W X Y) : cW Y := fun v hv => by rw [hL.2.2.2.2.2 3 (by omega)]; exact h v hv
theorem vpU_s {f : Nat → Int64} {k : Nat} {x : Int64} : vp_updL f k x k = x := by simp [vp_updL]
theorem vpU_n {f : Nat → Int64} {k j : Nat} {x : Int64} (h : j ≠ k) : vp_updL f k x j = f j := by simp [vp_updL, h]
section QR
variable {g : zF} {V : Nat → Nat → Int32} {X : Nat → Nat → Int64} {N n m : Nat} {B : Nat → Nat}
theorem c_signAt (hB : cB V B n) {i : Nat} (hi : i < n) : fX9_signAt N 216 (qH g V X) 1 (Int32.ofNat i) = some (Int32.ofNat (B i)) := by
  obtain ⟨h1, h2, h3⟩ := hB
  obtain ⟨a1, a2, -⟩ := h3 i hi
  have e1 : zlen 216 (qH g V X) 2 2 = some (Int32.ofNat 940) := qlen (t := 2) qk_2 (Or.inr (Or.inl rfl))
  have e2 : zlI 216 (qH g V X) 2 2 (Int32.ofNat i) = some (V 2 i) := qlI (t := 2) qk_2 (Or.inr (Or.inl rfl)) (by omega) (by omega)
  unfold fX9_signAt
  simp (disch := omega) only [qlit, qadd, qmul, qleT, qleF, qltT, qltF, qeqT, qeqF, qdiv, qrem, qmr, zbl0, zbl1, qzb, qzF0, qzT0, Option.bind_some, zbd_some, if_true, if_false, qneo, qneo', qlto, qltoF, qleo, qleo', qdT, qdF, decide_true, decide_false, Bool.true_and, Bool.and_true, Bool.false_and, Bool.and_false, Bool.not_true, Bool.not_false, Bool.true_or, Bool.or_true, Bool.false_or, Bool.or_false, q1_g2, q1_g0, h1, e1, e2, a2]
theorem c_signAtN (hB : cB V B n) {i : Nat} (hi : n ≤ i) (hi2 : i < 100000) : fX9_signAt N 216 (qH g V X) 1 (Int32.ofNat i) = some (Int32.ofNat 0) := by
  obtain ⟨h1, h2, h3⟩ := hB
  unfold fX9_signAt
  simp (disch := omega) only [qlit, qadd, qmul, qleT, qleF, qltT, qltF, qeqT, qeqF, qdiv, qrem, qmr, zbl0, zbl1, qzb, qzF0, qzT0, Option.bind_some, zbd_some, if_true, if_false, qneo, qneo', qlto, qltoF, qleo, qleo', qdT, qdF, decide_true, decide_false, Bool.true_and, Bool.and_true, Bool.false_and, Bool.and_false, Bool.not_true, Bool.not_false, Bool.true_or, Bool.or_true, Bool.false_or, Bool.or_false, q1_g2, q1_g0, h1]
theorem c_isBlank {f : zF} {c : Nat} (hc : c < 256) : fX9_isBlank N 216 f (Int32.ofNat c) = some (qz (kBl c)) := by
  unfold fX9_isBlank kBl
  by_cases h : c = 32
  · simp (disch := omega) only [qlit, qadd, qmul, qleT, qleF, qltT, qltF, qeqT, qeqF, qdiv, qrem, qmr, zbl0, zbl1, qzb, qzF0, qzT0, Option.bind_some, zbd_some, if_true, if_false, qneo, qneo', qlto, qltoF, qleo, qleo', qdT, qdF, decide_true, decide_false, Bool.true_and, Bool.and_true, Bool.false_and, Bool.and_false, Bool.not_true, Bool.not_false, Bool.true_or, Bool.or_true, Bool.false_or, Bool.or_false, h]
    rfl
  · by_cases h2 : c = 10
    · simp (disch := omega) only [qlit, qadd, qmul, qleT, qleF, qltT, qltF, qeqT, qeqF, qdiv, qrem, qmr, zbl0, zbl1, qzb, qzF0, qzT0, Option.bind_some, zbd_some, if_true, if_false, qneo, qneo', qlto, qltoF, qleo, qleo', qdT, qdF, decide_true, decide_false, Bool.true_and, Bool.and_true, Bool.false_and, Bool.and_false, Bool.not_true, Bool.not_false, Bool.true_or, Bool.or_true, Bool.false_or, Bool.or_false, h2]
      rfl
    · simp (disch := omega) only [qlit, qadd, qmul, qleT, qleF, qltT, qltF, qeqT, qeqF, qdiv, qrem, qmr, zbl0, zbl1, qzb, qzF0, qzT0, Option.bind_some, zbd_some, if_true, if_false, qneo, qneo', qlto, qltoF, qleo, qleo', qdT, qdF, decide_true, decide_false, Bool.true_and, Bool.and_true, Bool.false_and, Bool.and_false, Bool.not_true, Bool.not_false, Bool.true_or, Bool.or_true, Bool.false_or, Bool.or_false]
theorem c_isTokenSign {f : zF} {c : Nat} (hc : c < 256) : fX9_isTokenSign N 216 f (Int32.ofNat c) = some (qz (kSg c)) := by
  unfold fX9_isTokenSign fX9_isTokenSign_18 kSg
  by_cases h : c = 59
  · simp (disch := omega) only [qlit, qadd, qmul, qleT, qleF, qltT, qltF, qeqT, qeqF, qdiv, qrem, qmr, zbl0, zbl1, qzb, qzF0, qzT0, Option.bind_some, zbd_some, if_true, if_false, qneo, qneo', qlto, qltoF, qleo, qleo', qdT, qdF, decide_true, decide_false, Bool.true_and, Bool.and_true, Bool.false_and, Bool.and_false, Bool.not_true, Bool.not_false, Bool.true_or, Bool.or_true, Bool.false_or, Bool.or_false, h]
    rfl
  · by_cases h2 : c = 40
    · simp (disch := omega) only [qlit, qadd, qmul, qleT, qleF, qltT, qltF, qeqT, qeqF, qdiv, qrem, qmr, zbl0, zbl1, qzb, qzF0, qzT0, Option.bind_some, zbd_some, if_true, if_false, qneo, qneo', qlto, qltoF, qleo, qleo', qdT, qdF, decide_true, decide_false, Bool.true_and, Bool.and_true, Bool.false_and, Bool.and_false, Bool.not_true, Bool.not_false, Bool.true_or, Bool.or_true, Bool.false_or, Bool.or_false, h2]
      rfl
    · by_cases h3 : c = 41
      · simp (disch := omega) only [qlit, qadd, qmul, qleT, qleF, qltT, qltF, qeqT, qeqF, qdiv, qrem, qmr, zbl0, zbl1, qzb, qzF0, qzT0, Option.bind_some, zbd_some, if_true, if_false, qneo, qneo', qlto, qltoF, qleo, qleo', qdT, qdF, decide_true, decide_false, Bool.true_and, Bool.and_true, Bool.false_and, Bool.and_false, Bool.not_true, Bool.not_false, Bool.true_or, Bool.or_true, Bool.false_or, Bool.or_false, h3]
        rfl
      · by_cases h4 : c < 60
        · simp (disch := omega) only [qlit, qadd, qmul, qleT, qleF, qltT, qltF, qeqT, qeqF, qdiv, qrem, qmr, zbl0, zbl1, qzb, qzF0, qzT0, Option.bind_some, zbd_some, if_true, if_false, qneo, qneo', qlto, qltoF, qleo, qleo', qdT, qdF, decide_true, decide_false, Bool.true_and, Bool.and_true, Bool.false_and, Bool.and_false, Bool.not_true, Bool.not_false, Bool.true_or, Bool.or_true, Bool.false_or, Bool.or_false]
        · by_cases h5 : c ≤ 62
          · simp (disch := omega) only [qlit, qadd, qmul, qleT, qleF, qltT, qltF, qeqT, qeqF, qdiv, qrem, qmr, zbl0, zbl1, qzb, qzF0, qzT0, Option.bind_some, zbd_some, if_true, if_false, qneo, qneo', qlto, qltoF, qleo, qleo', qdT, qdF, decide_true, decide_false, Bool.true_and, Bool.and_true, Bool.false_and, Bool.and_false, Bool.not_true, Bool.not_false, Bool.true_or, Bool.or_true, Bool.false_or, Bool.or_false]
          · simp (disch := omega) only [qlit, qadd, qmul, qleT, qleF, qltT, qltF, qeqT, qeqF, qdiv, qrem, qmr, zbl0, zbl1, qzb, qzF0, qzT0, Option.bind_some, zbd_some, if_true, if_false, qneo, qneo', qlto, qltoF, qleo, qleo', qdT, qdF, decide_true, decide_false, Bool.true_and, Bool.and_true, Bool.false_and, Bool.and_false, Bool.not_true, Bool.not_false, Bool.true_or, Bool.or_true, Bool.false_or, Bool.or_false]
theorem c_skip {lim : Nat} (hlim : lim ≤ n) : ∀ j k p i V, cB V B n → V 1 4 = Int32.ofNat p → p < 100000 → j = lim - p → i + j ≤ 940 → j < k → ∃ W, fX9_advance_22 N 216 k (qH g V X) 1 (Int32.ofNat lim) (Int32.ofNat i) = fX9_advance_67 N 216 (qH g W X) 1 (Int32.ofNat lim) ∧ W 1 4 = Int32.ofNat (tSk B j p) ∧ W 1 6 = V 1 6 ∧ W 1 7 = V 1 7 ∧ cL V W X X := by
  intro j
  induction j with
  | zero =>
    intro k p i V hB hp hp9 hj hi hk
    obtain ⟨k, rfl⟩ : ∃ j, k = j + 1 := ⟨k - 1, by omega⟩
    have hn := hB.2.1
    unfold fX9_advance_22
    by_cases h : 940 ≤ i
    · simp (disch := omega) only [qlit, qadd, qmul, qleT, qleF, qltT, qltF, qeqT, qeqF, qdiv, qrem, qmr, zbl0, zbl1, qzb, qzF0, qzT0, Option.bind_some, zbd_some, if_true, if_false, qneo, qneo', qlto, qltoF, qleo, qleo', qdT, qdF, decide_true, decide_false, Bool.true_and, Bool.and_true, Bool.false_and, Bool.and_false, Bool.not_true, Bool.not_false, Bool.true_or, Bool.or_true, Bool.false_or, Bool.or_false]
      exact ⟨V, rfl, hp, rfl, rfl, cL.rf⟩
    · simp (disch := omega) only [qlit, qadd, qmul, qleT, qleF, qltT, qltF, qeqT, qeqF, qdiv, qrem, qmr, zbl0, zbl1, qzb, qzF0, qzT0, Option.bind_some, zbd_some, if_true, if_false, qneo, qneo', qlto, qltoF, qleo, qleo', qdT, qdF, decide_true, decide_false, Bool.true_and, Bool.and_true, Bool.false_and, Bool.and_false, Bool.not_true, Bool.not_false, Bool.true_or, Bool.or_true, Bool.false_or, Bool.or_false, q1_g4, hp]
      exact ⟨V, rfl, hp, rfl, rfl, cL.rf⟩
  | succ j ih =>
    intro k p i V hB hp hp9 hj hi hk
    obtain ⟨k, rfl⟩ : ∃ j, k = j + 1 := ⟨k - 1, by omega⟩
    have hn := hB.2.1
    have hb := (hB.2.2 p (by omega)).1
    unfold fX9_advance_22 tSk
    cases hbl : kBl (B p) with
    | false =>
      simp (disch := omega) only [qlit, qadd, qmul, qleT, qleF, qltT, qltF, qeqT, qeqF, qdiv, qrem, qmr, zbl0, zbl1, qzb, qzF0, qzT0, Option.bind_some, zbd_some, if_true, if_false, qneo, qneo', qlto, qltoF, qleo, qleo', qdT, qdF, decide_true, decide_false, Bool.true_and, Bool.and_true, Bool.false_and, Bool.and_false, Bool.not_true, Bool.not_false, Bool.true_or, Bool.or_true, Bool.false_or, Bool.or_false, q1_g4, q1_c, hp, c_signAt hB, c_isBlank, hbl]
      exact ⟨V, rfl, by simpa using hp, rfl, rfl, cL.rf⟩
    | true =>
      obtain ⟨W, h1, h2, h3, h4, h5⟩ := ih k (p + 1) (i + 1) (qw V 1 (upd (V 1) 4 (Int32.ofNat (p + 1)))) (hB.l (X := X) (cL.w (by omega))) (by rw [qw_s, upd_s]) (by omega) (by omega) (by omega) (by omega)
      simp (disch := omega) only [qlit, qadd, qmul, qleT, qleF, qltT, qltF, qeqT, qeqF, qdiv, qrem, qmr, zbl0, zbl1, qzb, qzF0, qzT0, Option.bind_some, zbd_some, if_true, if_false, qneo, qneo', qlto, qltoF, qleo, qleo', qdT, qdF, decide_true, decide_false, Bool.true_and, Bool.and_true, Bool.false_and, Bool.and_false, Bool.not_true, Bool.not_false, Bool.true_or, Bool.or_true, Bool.false_or, Bool.or_false, q1_g4, q1_p4, q1_c, hp, c_signAt hB, c_isBlank, hbl, h1]
      exact ⟨W, rfl, by simpa using h2, by rw [h3, qw_s, upd_n (by omega)], by rw [h4, qw_s, upd_n (by omega)], (cL.w (by omega)).tr h5⟩
/-- letters and digits read so far: c of them from q on -/
def cI (B : Nat → Nat) (q c L D : Nat) (V : Nat → Nat → Int32) (X : Nat → Nat → Int64) : Prop :=
  c = L + D ∧ ((D = 0) = (tAll kSm B q c = true)) ∧ ((L = 0) = (tAll kDg B q c = true)) ∧ (D = 0 → X 1 9 = Int64.ofNat (r5 (tWd B q c))) ∧ (L = 0 → c ≤ 3 → V 1 8 = Int32.ofNat (tNm B q c))
theorem c_run {q : Nat} (hN : 3000 ≤ N) : ∀ j k c L D V X, cB V B n → q + c + j = n → j + 2 < k → cI B q c L D V X → ∃ W Y L2 D2, fX9_readRun_22 N 216 k (qH g V X) 1 (Int32.ofNat L) (Int32.ofNat D) (Int32.ofNat 1) (Int32.ofNat (q + c)) = fX9_readRun_143 N 216 (qH g W Y) 1 (Int32.ofNat L2) (Int32.ofNat D2) ∧ cI B q (c + tRn B j (q + c)) L2 D2 W Y ∧ W 1 4 = V 1 4 ∧ W 1 5 = V 1 5 ∧ W 1 6 = V 1 6 ∧ W 1 7 = V 1 7 ∧ cL V W X Y := by
  intro j
  induction j with
  | zero =>
    intro k c L D V X hB hj hk hI
    obtain ⟨k, rfl⟩ : ∃ j, k = j + 1 := ⟨k - 1, by omega⟩
    have hn := hB.2.1
    unfold fX9_readRun_22
    simp (disch := omega) only [qlit, qadd, qmul, qleT, qleF, qltT, qltF, qeqT, qeqF, qdiv, qrem, qmr, zbl0, zbl1, qzb, qzF0, qzT0, Option.bind_some, zbd_some, if_true, if_false, qneo, qneo', qlto, qltoF, qleo, qleo', qdT, qdF, decide_true, decide_false, Bool.true_and, Bool.and_true, Bool.false_and, Bool.and_false, Bool.not_true, Bool.not_false, Bool.true_or, Bool.or_true, Bool.false_or, Bool.or_false, q1_g2, hB.1]
    exact ⟨V, X, L, D, rfl, hI, rfl, rfl, rfl, rfl, cL.rf⟩
  | succ j ih =>
    intro k c L D V X hB hj hk hI
    obtain ⟨k, rfl⟩ : ∃ j, k = j + 1 := ⟨k - 1, by omega⟩
    have hn := hB.2.1
    obtain ⟨b1, b2, b3, b4⟩ := hB.2.2 (q + c) (by omega)
    obtain ⟨i1, i2, i3, i4, i5⟩ := id hI
    have e1 : zlen 216 (qH g V X) 2 2 = some (Int32.ofNat 940) := qlen (t := 2) qk_2 (Or.inr (Or.inl rfl))
    have e2 : zlI 216 (qH g V X) 2 2 (Int32.ofNat (q + c)) = some (V 2 (q + c)) := qlI (t := 2) qk_2 (Or.inr (Or.inl rfl)) (by omega) (by omega)
    have stop : tRn B (j + 1) (q + c) = 0 → ∃ W Y L2 D2, fX9_readRun_22 N 216 k (qH g V X) 1 (Int32.ofNat L) (Int32.ofNat D) (Int32.ofNat 0) (Int32.ofNat (q + c + 1)) = fX9_readRun_143 N 216 (qH g W Y) 1 (Int32.ofNat L2) (Int32.ofNat D2) ∧ cI B q (c + tRn B (j + 1) (q + c)) L2 D2 W Y ∧ W 1 4 = V 1 4 ∧ W 1 5 = V 1 5 ∧ W 1 6 = V 1 6 ∧ W 1 7 = V 1 7 ∧ cL V W X Y := by
      intro hr
      obtain ⟨k, rfl⟩ : ∃ j, k = j + 1 := ⟨k - 1, by omega⟩
      unfold fX9_readRun_22
      simp (disch := omega) only [qlit, qadd, qmul, qleT, qleF, qltT, qltF, qeqT, qeqF, qdiv, qrem, qmr, zbl0, zbl1, qzb, qzF0, qzT0, Option.bind_some, zbd_some, if_true, if_false, qneo, qneo', qlto, qltoF, qleo, qleo', qdT, qdF, decide_true, decide_false, Bool.true_and, Bool.and_true, Bool.false_and, Bool.and_false, Bool.not_true, Bool.not_false, Bool.true_or, Bool.or_true, Bool.false_or, Bool.or_false]
      exact ⟨V, X, L, D, rfl, by rw [hr]; exact hI, rfl, rfl, rfl, rfl, cL.rf⟩
    unfold fX9_readRun_22 fX9_readRun_98 fX9_readRun_135 fX9_readRun_137
    by_cases hbig : 128 ≤ B (q + c)
    · have hneg := b4 hbig
      have hlt : V 2 (q + c) < Int32.ofNat 97 := by
        rw [Int32.lt_iff_toInt_lt] at hneg ⊢
        rw [Int32.toInt_ofNat_of_lt (by omega)] at hneg ⊢
        omega
      have hlt2 : V 2 (q + c) < Int32.ofNat 48 := by
        rw [Int32.lt_iff_toInt_lt] at hneg ⊢
        rw [Int32.toInt_ofNat_of_lt (by omega)] at hneg ⊢
        omega
      simp (disch := omega) only [qlit, qadd, qmul, qleT, qleF, qltT, qltF, qeqT, qeqF, qdiv, qrem, qmr, zbl0, zbl1, qzb, qzF0, qzT0, Option.bind_some, zbd_some, if_true, if_false, qneo, qneo', qlto, qltoF, qleo, qleo', qdT, qdF, decide_true, decide_false, Bool.true_and, Bool.and_true, Bool.false_and, Bool.and_false, Bool.not_true, Bool.not_false, Bool.true_or, Bool.or_true, Bool.false_or, Bool.or_false, q1_g2, q1_g0, hB.1, e1, e2, hlt, hlt2]
      exact stop (by unfold tRn; rw [kSm_f (by omega), kDg_f (by omega)]; rfl)
    · have hb := b3 (by omega)
      by_cases hs : 97 ≤ B (q + c) ∧ B (q + c) ≤ 122
      · have hD : (D = 0) = (tAll kSm B q (c + 1) = true) := by
          rw [i2, tAll_s, kSm_t hs, Bool.and_true]
        have hI2 : cI B q (c + 1) (L + 1) D V (qx X 1 (vp_updL (X 1) 9 (zlshl (X 1 9) (Int32.ofNat 5) ||| Int64.ofNat (B (q + c) - 97 + 1)))) := by
          refine ⟨by omega, hD, ?_, fun h => ?_, fun h => by omega⟩
          · apply propext
            constructor
            · intro h; omega
            · intro h
              unfold tAll at h
              rw [kDg_f (by omega), Bool.and_false] at h
              cases h
          · rw [qx_s, vpU_s, i4 h, q64_5 (by omega), tWd_s, r5_s, show B (q + c) - 97 + 1 = B (q + c) - 96 by omega]
        obtain ⟨W, Y, L2, D2, h1, h2, h3, h4, h5, h6, h7⟩ := ih k (c + 1) (L + 1) D V _ hB (by omega) (by omega) hI2
        have ht : tRn B (j + 1) (q + c) = tRn B j (q + (c + 1)) + 1 := by
          show (if (kSm (B (q + c)) || kDg (B (q + c))) = true then tRn B j (q + c + 1) + 1 else 0) = _
          rw [kSm_t hs, if_pos (by rfl)]; rfl
        have e8 : Int32.ofNat (B (q + c)) - Int32.ofNat 97 = Int32.ofNat (B (q + c) - 97) := qsub hs.1
        simp (disch := omega) only [qlit, qadd, qmul, qleT, qleF, qltT, qltF, qeqT, qeqF, qdiv, qrem, qmr, zbl0, zbl1, qzb, qzF0, qzT0, Option.bind_some, zbd_some, if_true, if_false, qneo, qneo', qlto, qltoF, qleo, qleo', qdT, qdF, decide_true, decide_false, Bool.true_and, Bool.and_true, Bool.false_and, Bool.and_false, Bool.not_true, Bool.not_false, Bool.true_or, Bool.or_true, Bool.false_or, Bool.or_false, q1_g2, q1_g0, q1_g9, q1_p9, hB.1, e1, e2, hb, e8, q64i, Nat.add_assoc, h1]
        refine ⟨W, Y, L2, D2, rfl, ?_, h3, h4, h5, h6, cL.x.tr h7⟩
        rw [ht, show c + (tRn B j (q + (c + 1)) + 1) = c + 1 + tRn B j (q + (c + 1)) by omega]
        exact h2
      · by_cases hd : 48 ≤ B (q + c) ∧ B (q + c) ≤ 57
        · have hL : (L = 0) = (tAll kDg B q (c + 1) = true) := by
            rw [i3, tAll_s, kDg_t hd, Bool.and_true]
          have hI2 : cI B q (c + 1) L (D + 1) (qw V 1 (upd (V 1) 8 (Int32.ofNat 10 * V 1 8 + Int32.ofNat (B (q + c)) - Int32.ofNat 48))) X := by
            refine ⟨by omega, ?_, hL, fun h => by omega, fun h h3 => ?_⟩
            · apply propext
              constructor
              · intro h; omega
              · intro h
                unfold tAll at h
                rw [kSm_f (by omega), Bool.and_false] at h
                cases h
            · rw [qw_s, upd_s, i5 h (by omega), qmul, qadd, qsub (by omega)]
              rfl
          obtain ⟨W, Y, L2, D2, h1, h2, h3, h4, h5, h6, h7⟩ := ih k (c + 1) L (D + 1) _ X (hB.l (X := X) (cL.w (by omega))) (by omega) (by omega) hI2
          have ht : tRn B (j + 1) (q + c) = tRn B j (q + (c + 1)) + 1 := by
            show (if (kSm (B (q + c)) || kDg (B (q + c))) = true then tRn B j (q + c + 1) + 1 else 0) = _
            rw [kDg_t hd, Bool.or_true, if_pos rfl]; rfl
          have hlt : B (q + c) < 97 := by omega
          simp (disch := omega) only [qlit, qadd, qmul, qleT, qleF, qltT, qltF, qeqT, qeqF, qdiv, qrem, qmr, zbl0, zbl1, qzb, qzF0, qzT0, Option.bind_some, zbd_some, if_true, if_false, qneo, qneo', qlto, qltoF, qleo, qleo', qdT, qdF, decide_true, decide_false, Bool.true_and, Bool.and_true, Bool.false_and, Bool.and_false, Bool.not_true, Bool.not_false, Bool.true_or, Bool.or_true, Bool.false_or, Bool.or_false, q1_g2, q1_g0, q1_g8, q1_p8, hB.1, e1, e2, hb, Nat.add_assoc, h1]
          refine ⟨W, Y, L2, D2, rfl, ?_, by rw [h3, qw_s, upd_n (by omega)], by rw [h4, qw_s, upd_n (by omega)], by rw [h5, qw_s, upd_n (by omega)], by rw [h6, qw_s, upd_n (by omega)], (cL.w (by omega)).tr h7⟩
          rw [ht, show c + (tRn B j (q + (c + 1)) + 1) = c + 1 + tRn B j (q + (c + 1)) by omega]
          exact h2
        · have hr : tRn B (j + 1) (q + c) = 0 := by unfold tRn; rw [kSm_f hs, kDg_f hd]; rfl
          have hstop := stop hr
          by_cases h97 : B (q + c) < 97
          · by_cases h48 : B (q + c) < 48
            · simp (disch := omega) only [qlit, qadd, qmul, qleT, qleF, qltT, qltF, qeqT, qeqF, qdiv, qrem, qmr, zbl0, zbl1, qzb, qzF0, qzT0, Option.bind_some, zbd_some, if_true, if_false, qneo, qneo', qlto, qltoF, qleo, qleo', qdT, qdF, decide_true, decide_false, Bool.true_and, Bool.and_true, Bool.false_and, Bool.and_false, Bool.not_true, Bool.not_false, Bool.true_or, Bool.or_true, Bool.false_or, Bool.or_false, q1_g2, q1_g0, hB.1, e1, e2, hb]
              exact hstop
            · simp (disch := omega) only [qlit, qadd, qmul, qleT, qleF, qltT, qltF, qeqT, qeqF, qdiv, qrem, qmr, zbl0, zbl1, qzb, qzF0, qzT0, Option.bind_some, zbd_some, if_true, if_false, qneo, qneo', qlto, qltoF, qleo, qleo', qdT, qdF, decide_true, decide_false, Bool.true_and, Bool.and_true, Bool.false_and, Bool.and_false, Bool.not_true, Bool.not_false, Bool.true_or, Bool.or_true, Bool.false_or, Bool.or_false, q1_g2, q1_g0, hB.1, e1, e2, hb]
              exact hstop
          · simp (disch := omega) only [qlit, qadd, qmul, qleT, qleF, qltT, qltF, qeqT, qeqF, qdiv, qrem, qmr, zbl0, zbl1, qzb, qzF0, qzT0, Option.bind_some, zbd_some, if_true, if_false, qneo, qneo', qlto, qltoF, qleo, qleo', qdT, qdF, decide_true, decide_false, Bool.true_and, Bool.and_true, Bool.false_and, Bool.and_false, Bool.not_true, Bool.not_false, Bool.true_or, Bool.or_true, Bool.false_or, Bool.or_false, q1_g2, q1_g0, hB.1, e1, e2, hb]
            exact hstop
end QR
