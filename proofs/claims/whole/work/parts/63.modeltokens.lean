/-! the reference's next token -/
/-- the bytes of the reference's tape, while it is read -/
def mB (V : Nat → Nat → Int32) (B : Nat → Nat) (n : Nat) : Prop := V 196 3 = Int32.ofNat n ∧ n ≤ 940 ∧ ∀ i, i < n → B i < 256 ∧ V 197 i &&& Int32.ofNat 255 = Int32.ofNat (B i)
def mKd (k : Nat) : Nat := [0, 4, 3, 2, 1, 1, 4].getD k 0
def mT (V : Nat → Nat → Int32) (X : Nat → Nat → Int64) (T : Nat × Nat × Nat × Nat × List Nat) : Prop :=
  V 196 11 = Int32.ofNat (mKd T.1) ∧ V 196 12 = Int32.ofNat T.2.1 ∧ (2 ≤ T.1 ∧ T.1 ≤ 5 → V 196 4 = Int32.ofNat T.2.2.1) ∧ (2 ≤ T.1 ∧ T.1 ≤ 3 → V 196 14 = Int32.ofNat T.2.2.2.1) ∧ (4 ≤ T.1 ∧ T.1 ≤ 5 → X 196 17 = Int64.ofNat (r8 T.2.2.2.2))
def mL (V W : Nat → Nat → Int32) (X Y : Nat → Nat → Int64) : Prop := (∀ j, j ≠ 4 → (j < 11 ∨ 14 < j) → W 196 j = V 196 j) ∧ (∀ b, b ≠ 196 → W b = V b) ∧ (∀ b, b ≠ 196 → Y b = X b)
theorem mL.rf {V : Nat → Nat → Int32} {X : Nat → Nat → Int64} : mL V V X X := ⟨fun _ _ _ => rfl, fun _ _ => rfl, fun _ _ => rfl⟩
theorem mL.tr {V W U : Nat → Nat → Int32} {X Y Z : Nat → Nat → Int64} (h : mL V W X Y) (h2 : mL W U Y Z) : mL V U X Z :=
  ⟨fun j h3 h4 => (h2.1 j h3 h4).trans (h.1 j h3 h4), fun b hb => (h2.2.1 b hb).trans (h.2.1 b hb), fun b hb => (h2.2.2 b hb).trans (h.2.2 b hb)⟩
theorem mL.w {V : Nat → Nat → Int32} {X Y : Nat → Nat → Int64} {r : Nat → Int32} (h : ∀ j, j ≠ 4 → (j < 11 ∨ 14 < j) → r j = V 196 j) (h2 : ∀ b, b ≠ 196 → Y b = X b) : mL V (qw V 196 r) X Y := ⟨fun j h3 h4 => by rw [qw_s]; exact h j h3 h4, fun b hb => qw_n hb, h2⟩
theorem mB.l {V W : Nat → Nat → Int32} {X Y : Nat → Nat → Int64} {B : Nat → Nat} {n : Nat} (h : mB V B n) (hL : mL V W X Y) : mB W B n := by
  obtain ⟨h1, h2, h3⟩ := h
  refine ⟨(hL.1 3 (by omega) (by omega)).trans h1, h2, fun i hi => ?_⟩
  rw [hL.2.1 197 (by omega)]
  exact h3 i hi
section QV
variable {g : zF} {V : Nat → Nat → Int32} {X : Nat → Nat → Int64} {N n m : Nat} {B : Nat → Nat}
theorem m_peek (hB : mB V B n) {p : Nat} (hp : V 196 4 = Int32.ofNat p) (h : p < n) : fX12_peek N 216 (qH g V X) 196 = some (Int32.ofNat (B p)) := by
  obtain ⟨h1, h2, h3⟩ := hB
  have e2 : zlI 216 (qH g V X) 2 197 (Int32.ofNat p) = some (V 197 p) := qlI (t := 2) qk_197 (Or.inr (Or.inl rfl)) (by omega) (by omega)
  have e3 := (h3 p h).2
  unfold fX12_peek
  simp (disch := omega) only [qlit, qadd, qmul, qleT, qleF, qltT, qltF, qeqT, qeqF, qdiv, qrem, qmr, zbl0, zbl1, qzb, qzF0, qzT0, Option.bind_some, zbd_some, if_true, if_false, qneo, qneo', qlto, qltoF, qleo, qleo', qdT, qdF, decide_true, decide_false, Bool.true_and, Bool.and_true, Bool.false_and, Bool.and_false, Bool.not_true, Bool.not_false, Bool.true_or, Bool.or_true, Bool.false_or, Bool.or_false, q196_g4, q196_g3, q196_g1, hp, h1, e2, e3]
theorem m_peekN (hB : mB V B n) {p : Nat} (hp : V 196 4 = Int32.ofNat p) (h : n ≤ p) (h9 : p < 100000) : fX12_peek N 216 (qH g V X) 196 = some (qo none) := by
  obtain ⟨h1, h2, h3⟩ := hB
  unfold fX12_peek
  simp (disch := omega) only [qlit, qadd, qmul, qleT, qleF, qltT, qltF, qeqT, qeqF, qdiv, qrem, qmr, zbl0, zbl1, qzb, qzF0, qzT0, Option.bind_some, zbd_some, if_true, if_false, qneo, qneo', qlto, qltoF, qleo, qleo', qdT, qdF, decide_true, decide_false, Bool.true_and, Bool.and_true, Bool.false_and, Bool.and_false, Bool.not_true, Bool.not_false, Bool.true_or, Bool.or_true, Bool.false_or, Bool.or_false, q196_g4, q196_g3, q196_g1, hp, h1]
theorem m_isSmall {f : zF} {c : Nat} (hc : c < 256) : fX12_isSmall N 216 f (Int32.ofNat c) = some (qz (kSm c)) := by
  unfold fX12_isSmall kSm
  by_cases h : c < 97
  · simp (disch := omega) only [qlit, qadd, qmul, qleT, qleF, qltT, qltF, qeqT, qeqF, qdiv, qrem, qmr, zbl0, zbl1, qzb, qzF0, qzT0, Option.bind_some, zbd_some, if_true, if_false, qneo, qneo', qlto, qltoF, qleo, qleo', qdT, qdF, decide_true, decide_false, Bool.true_and, Bool.and_true, Bool.false_and, Bool.and_false, Bool.not_true, Bool.not_false, Bool.true_or, Bool.or_true, Bool.false_or, Bool.or_false]
  · by_cases h2 : c ≤ 122
    · simp (disch := omega) only [qlit, qadd, qmul, qleT, qleF, qltT, qltF, qeqT, qeqF, qdiv, qrem, qmr, zbl0, zbl1, qzb, qzF0, qzT0, Option.bind_some, zbd_some, if_true, if_false, qneo, qneo', qlto, qltoF, qleo, qleo', qdT, qdF, decide_true, decide_false, Bool.true_and, Bool.and_true, Bool.false_and, Bool.and_false, Bool.not_true, Bool.not_false, Bool.true_or, Bool.or_true, Bool.false_or, Bool.or_false]
    · simp (disch := omega) only [qlit, qadd, qmul, qleT, qleF, qltT, qltF, qeqT, qeqF, qdiv, qrem, qmr, zbl0, zbl1, qzb, qzF0, qzT0, Option.bind_some, zbd_some, if_true, if_false, qneo, qneo', qlto, qltoF, qleo, qleo', qdT, qdF, decide_true, decide_false, Bool.true_and, Bool.and_true, Bool.false_and, Bool.and_false, Bool.not_true, Bool.not_false, Bool.true_or, Bool.or_true, Bool.false_or, Bool.or_false]
theorem m_isDigit {f : zF} {c : Nat} (hc : c < 256) : fX12_isDigit N 216 f (Int32.ofNat c) = some (qz (kDg c)) := by
  unfold fX12_isDigit kDg
  by_cases h : c < 48
  · simp (disch := omega) only [qlit, qadd, qmul, qleT, qleF, qltT, qltF, qeqT, qeqF, qdiv, qrem, qmr, zbl0, zbl1, qzb, qzF0, qzT0, Option.bind_some, zbd_some, if_true, if_false, qneo, qneo', qlto, qltoF, qleo, qleo', qdT, qdF, decide_true, decide_false, Bool.true_and, Bool.and_true, Bool.false_and, Bool.and_false, Bool.not_true, Bool.not_false, Bool.true_or, Bool.or_true, Bool.false_or, Bool.or_false]
  · by_cases h2 : c ≤ 57
    · simp (disch := omega) only [qlit, qadd, qmul, qleT, qleF, qltT, qltF, qeqT, qeqF, qdiv, qrem, qmr, zbl0, zbl1, qzb, qzF0, qzT0, Option.bind_some, zbd_some, if_true, if_false, qneo, qneo', qlto, qltoF, qleo, qleo', qdT, qdF, decide_true, decide_false, Bool.true_and, Bool.and_true, Bool.false_and, Bool.and_false, Bool.not_true, Bool.not_false, Bool.true_or, Bool.or_true, Bool.false_or, Bool.or_false]
    · simp (disch := omega) only [qlit, qadd, qmul, qleT, qleF, qltT, qltF, qeqT, qeqF, qdiv, qrem, qmr, zbl0, zbl1, qzb, qzF0, qzT0, Option.bind_some, zbd_some, if_true, if_false, qneo, qneo', qlto, qltoF, qleo, qleo', qdT, qdF, decide_true, decide_false, Bool.true_and, Bool.and_true, Bool.false_and, Bool.and_false, Bool.not_true, Bool.not_false, Bool.true_or, Bool.or_true, Bool.false_or, Bool.or_false]
theorem qoltP {a : Nat} (ha : a < 2147483648) : (qo none < Int32.ofNat a) = True := qlto ha
theorem m_isSmallN {f : zF} : fX12_isSmall N 216 f (qo none) = some (qz false) := by
  unfold fX12_isSmall
  simp (disch := omega) only [qlit, qadd, qmul, qleT, qleF, qltT, qltF, qeqT, qeqF, qdiv, qrem, qmr, zbl0, zbl1, qzb, qzF0, qzT0, Option.bind_some, zbd_some, if_true, if_false, qneo, qneo', qlto, qltoF, qleo, qleo', qdT, qdF, decide_true, decide_false, Bool.true_and, Bool.and_true, Bool.false_and, Bool.and_false, Bool.not_true, Bool.not_false, Bool.true_or, Bool.or_true, Bool.false_or, Bool.or_false]
theorem m_isDigitN {f : zF} : fX12_isDigit N 216 f (qo none) = some (qz false) := by
  unfold fX12_isDigit
  simp (disch := omega) only [qlit, qadd, qmul, qleT, qleF, qltT, qltF, qeqT, qeqF, qdiv, qrem, qmr, zbl0, zbl1, qzb, qzF0, qzT0, Option.bind_some, zbd_some, if_true, if_false, qneo, qneo', qlto, qltoF, qleo, qleo', qdT, qdF, decide_true, decide_false, Bool.true_and, Bool.and_true, Bool.false_and, Bool.and_false, Bool.not_true, Bool.not_false, Bool.true_or, Bool.or_true, Bool.false_or, Bool.or_false]
theorem qzEq (a b : Bool) : (qz a = qz b) = (a = b) := by cases a <;> cases b <;> simp [qz]
/-- letters and digits read so far -/
def mI (B : Nat → Nat) (q c : Nat) (V : Nat → Nat → Int32) (X : Nat → Nat → Int64) : Prop :=
  V 196 4 = Int32.ofNat (q + c) ∧ V 196 13 = Int32.ofNat c ∧ (tAll kSm B q c = true → c ≤ 7 → X 196 17 = Int64.ofNat (r8 (tWd B q c))) ∧ (tAll kDg B q c = true → c ≤ 3 → V 196 14 = Int32.ofNat (tNm B q c))
def mAl (sm : Bool) (B : Nat → Nat) (q c : Nat) : Bool := if sm then tAll kSm B q c else tAll kDg B q c
theorem m_221 {q c : Nat} {a2 a3 : Int32} {r181 : zF → Nat → Int32 → Int32 → Option zF} {R : (Nat → Nat → Int32) → (Nat → Nat → Int64) → Prop} (hB : mB V B n) (hqc : q + c < n) (hsd : kSm (B (q + c)) = true ∨ kDg (B (q + c)) = true) (hI : mI B q c V X)
    (k : ∀ W Y, mI B q (c + 1) W Y ∧ W 196 12 = V 196 12 ∧ mL V W X Y → hS g (r181 (qH g W Y) 196 a2 a3) R) : hS g (fX12_next_221 r181 N 216 (qH g V X) 196 a2 a3) R := by
  have hn := hB.2.1
  obtain ⟨i1, i2, i3, i4⟩ := id hI
  have hb := (hB.2.2 (q + c) hqc).1
  have h275 : ∀ V2 X2, V2 196 4 = Int32.ofNat (q + c) → V2 196 13 = Int32.ofNat c → (tAll kSm B q (c + 1) = true → c + 1 ≤ 7 → X2 196 17 = Int64.ofNat (r8 (tWd B q (c + 1)))) → (tAll kDg B q (c + 1) = true → c + 1 ≤ 3 → V2 196 14 = Int32.ofNat (tNm B q (c + 1))) → V2 196 12 = V 196 12 → mL V V2 X X2 → hS g (fX12_next_275 r181 N 216 (qH g V2 X2) 196 a2 a3) R := by
    intro V2 X2 j1 j2 j3 j4 j5 j6
    unfold fX12_next_275
    simp (disch := omega) only [qlit, qadd, qmul, qleT, qleF, qltT, qltF, qeqT, qeqF, qdiv, qrem, qmr, zbl0, zbl1, qzb, qzF0, qzT0, Option.bind_some, zbd_some, if_true, if_false, qneo, qneo', qlto, qltoF, qleo, qleo', qdT, qdF, decide_true, decide_false, Bool.true_and, Bool.and_true, Bool.false_and, Bool.and_false, Bool.not_true, Bool.not_false, Bool.true_or, Bool.or_true, Bool.false_or, Bool.or_false, qw_s, qw_n, qw_qw, qx_s, qx_n, qx_qx, upd_s, upd_n, vpU_s, vpU_n, q196_g13, q196_p13, q196_g4, q196_p4, j1, j2]
    refine k _ _ ⟨⟨?_, ?_, j3, ?_⟩, ?_, j6.tr (mL.w (fun j h3 h4 => ?_) (fun _ _ => rfl))⟩
    · simp (disch := omega) only [qlit, qadd, qmul, qleT, qleF, qltT, qltF, qeqT, qeqF, qdiv, qrem, qmr, zbl0, zbl1, qzb, qzF0, qzT0, Option.bind_some, zbd_some, if_true, if_false, qneo, qneo', qlto, qltoF, qleo, qleo', qdT, qdF, decide_true, decide_false, Bool.true_and, Bool.and_true, Bool.false_and, Bool.and_false, Bool.not_true, Bool.not_false, Bool.true_or, Bool.or_true, Bool.false_or, Bool.or_false, qw_s, qw_n, qw_qw, qx_s, qx_n, qx_qx, upd_s, upd_n, vpU_s, vpU_n, Nat.add_assoc]
    · simp (disch := omega) only [qlit, qadd, qmul, qleT, qleF, qltT, qltF, qeqT, qeqF, qdiv, qrem, qmr, zbl0, zbl1, qzb, qzF0, qzT0, Option.bind_some, zbd_some, if_true, if_false, qneo, qneo', qlto, qltoF, qleo, qleo', qdT, qdF, decide_true, decide_false, Bool.true_and, Bool.and_true, Bool.false_and, Bool.and_false, Bool.not_true, Bool.not_false, Bool.true_or, Bool.or_true, Bool.false_or, Bool.or_false, qw_s, qw_n, qw_qw, qx_s, qx_n, qx_qx, upd_s, upd_n, vpU_s, vpU_n]
    · simp (disch := omega) only [qlit, qadd, qmul, qleT, qleF, qltT, qltF, qeqT, qeqF, qdiv, qrem, qmr, zbl0, zbl1, qzb, qzF0, qzT0, Option.bind_some, zbd_some, if_true, if_false, qneo, qneo', qlto, qltoF, qleo, qleo', qdT, qdF, decide_true, decide_false, Bool.true_and, Bool.and_true, Bool.false_and, Bool.and_false, Bool.not_true, Bool.not_false, Bool.true_or, Bool.or_true, Bool.false_or, Bool.or_false, qw_s, qw_n, qw_qw, qx_s, qx_n, qx_qx, upd_s, upd_n, vpU_s, vpU_n]
      exact j4
    · simp (disch := omega) only [qlit, qadd, qmul, qleT, qleF, qltT, qltF, qeqT, qeqF, qdiv, qrem, qmr, zbl0, zbl1, qzb, qzF0, qzT0, Option.bind_some, zbd_some, if_true, if_false, qneo, qneo', qlto, qltoF, qleo, qleo', qdT, qdF, decide_true, decide_false, Bool.true_and, Bool.and_true, Bool.false_and, Bool.and_false, Bool.not_true, Bool.not_false, Bool.true_or, Bool.or_true, Bool.false_or, Bool.or_false, qw_s, qw_n, qw_qw, qx_s, qx_n, qx_qx, upd_s, upd_n, vpU_s, vpU_n]
      exact j5
    · rw [upd_n (by omega), upd_n (by omega)]
  have h248 : ∀ V2 X2, mB V2 B n → V2 196 4 = Int32.ofNat (q + c) → V2 196 13 = Int32.ofNat c → (tAll kSm B q (c + 1) = true → c + 1 ≤ 7 → X2 196 17 = Int64.ofNat (r8 (tWd B q (c + 1)))) → (tAll kDg B q c = true → c ≤ 3 → V2 196 14 = Int32.ofNat (tNm B q c)) → V2 196 12 = V 196 12 → mL V V2 X X2 → hS g (fX12_next_248 r181 N 216 (qH g V2 X2) 196 a2 a3) R := by
    intro V2 X2 hB2 j1 j2 j3 j4 j5 j6
    unfold fX12_next_248
    by_cases h3 : 3 ≤ c
    · simp (disch := omega) only [qlit, qadd, qmul, qleT, qleF, qltT, qltF, qeqT, qeqF, qdiv, qrem, qmr, zbl0, zbl1, qzb, qzF0, qzT0, Option.bind_some, zbd_some, if_true, if_false, qneo, qneo', qlto, qltoF, qleo, qleo', qdT, qdF, decide_true, decide_false, Bool.true_and, Bool.and_true, Bool.false_and, Bool.and_false, Bool.not_true, Bool.not_false, Bool.true_or, Bool.or_true, Bool.false_or, Bool.or_false, q196_g13, j2]
      exact h275 V2 X2 j1 j2 j3 (fun _ h => by omega) j5 j6
    · rw [q196_g13, Option.bind_some, j2, if_neg (by rw [show (3 : Int32) = Int32.ofNat 3 from rfl, qle (by omega) (by omega)]; omega), q196_g14, Option.bind_some, q196_c, Option.bind_some, m_peek hB2 j1 hqc, Option.bind_some, q196_p14, Option.bind_some, show (10 : Int32) = Int32.ofNat 10 from rfl, show (48 : Int32) = Int32.ofNat 48 from rfl]
      refine h275 _ _ ?_ ?_ j3 (fun h h9 => ?_) ?_ (j6.tr (mL.w (fun j h3 h4 => ?_) (fun _ _ => rfl)))
      · simp (disch := omega) only [qlit, qadd, qmul, qleT, qleF, qltT, qltF, qeqT, qeqF, qdiv, qrem, qmr, zbl0, zbl1, qzb, qzF0, qzT0, Option.bind_some, zbd_some, if_true, if_false, qneo, qneo', qlto, qltoF, qleo, qleo', qdT, qdF, decide_true, decide_false, Bool.true_and, Bool.and_true, Bool.false_and, Bool.and_false, Bool.not_true, Bool.not_false, Bool.true_or, Bool.or_true, Bool.false_or, Bool.or_false, qw_s, qw_n, qw_qw, qx_s, qx_n, qx_qx, upd_s, upd_n, vpU_s, vpU_n]
        exact j1
      · simp (disch := omega) only [qlit, qadd, qmul, qleT, qleF, qltT, qltF, qeqT, qeqF, qdiv, qrem, qmr, zbl0, zbl1, qzb, qzF0, qzT0, Option.bind_some, zbd_some, if_true, if_false, qneo, qneo', qlto, qltoF, qleo, qleo', qdT, qdF, decide_true, decide_false, Bool.true_and, Bool.and_true, Bool.false_and, Bool.and_false, Bool.not_true, Bool.not_false, Bool.true_or, Bool.or_true, Bool.false_or, Bool.or_false, qw_s, qw_n, qw_qw, qx_s, qx_n, qx_qx, upd_s, upd_n, vpU_s, vpU_n]
        exact j2
      · have h8 := tAll_le _ h
        unfold tAll at h
        rw [Bool.and_eq_true, kDg_e] at h
        simp (disch := omega) only [qlit, qadd, qmul, qleT, qleF, qltT, qltF, qeqT, qeqF, qdiv, qrem, qmr, zbl0, zbl1, qzb, qzF0, qzT0, Option.bind_some, zbd_some, if_true, if_false, qneo, qneo', qlto, qltoF, qleo, qleo', qdT, qdF, decide_true, decide_false, Bool.true_and, Bool.and_true, Bool.false_and, Bool.and_false, Bool.not_true, Bool.not_false, Bool.true_or, Bool.or_true, Bool.false_or, Bool.or_false, qw_s, qw_n, qw_qw, qx_s, qx_n, qx_qx, upd_s, upd_n, vpU_s, vpU_n]
        rw [j4 h8 (by omega), qmul, qadd, qsub (by omega), tNm_s]
      · simp (disch := omega) only [qlit, qadd, qmul, qleT, qleF, qltT, qltF, qeqT, qeqF, qdiv, qrem, qmr, zbl0, zbl1, qzb, qzF0, qzT0, Option.bind_some, zbd_some, if_true, if_false, qneo, qneo', qlto, qltoF, qleo, qleo', qdT, qdF, decide_true, decide_false, Bool.true_and, Bool.and_true, Bool.false_and, Bool.and_false, Bool.not_true, Bool.not_false, Bool.true_or, Bool.or_true, Bool.false_or, Bool.or_false, qw_s, qw_n, qw_qw, qx_s, qx_n, qx_qx, upd_s, upd_n, vpU_s, vpU_n]
        exact j5
      · rw [upd_n (by omega)]
  unfold fX12_next_221
  by_cases h7 : 7 ≤ c
  · simp (disch := omega) only [qlit, qadd, qmul, qleT, qleF, qltT, qltF, qeqT, qeqF, qdiv, qrem, qmr, zbl0, zbl1, qzb, qzF0, qzT0, Option.bind_some, zbd_some, if_true, if_false, qneo, qneo', qlto, qltoF, qleo, qleo', qdT, qdF, decide_true, decide_false, Bool.true_and, Bool.and_true, Bool.false_and, Bool.and_false, Bool.not_true, Bool.not_false, Bool.true_or, Bool.or_true, Bool.false_or, Bool.or_false, q196_g13, i2]
    exact h248 V X hB i1 i2 (fun _ h => by omega) i4 rfl mL.rf
  · rw [q196_g13, Option.bind_some, i2, if_neg (by rw [show (7 : Int32) = Int32.ofNat 7 from rfl, qle (by omega) (by omega)]; omega), q196_g17, Option.bind_some, q196_c, Option.bind_some, m_peek hB i1 hqc, Option.bind_some, q196_p17, Option.bind_some, show (8 : Int32) = Int32.ofNat 8 from rfl]
    refine h248 _ _ hB i1 i2 (fun h h9 => ?_) i4 rfl ⟨fun _ _ _ => rfl, fun _ _ => rfl, fun b hb => qx_n hb⟩
    have h8 := tAll_le _ h
    simp (disch := omega) only [qlit, qadd, qmul, qleT, qleF, qltT, qltF, qeqT, qeqF, qdiv, qrem, qmr, zbl0, zbl1, qzb, qzF0, qzT0, Option.bind_some, zbd_some, if_true, if_false, qneo, qneo', qlto, qltoF, qleo, qleo', qdT, qdF, decide_true, decide_false, Bool.true_and, Bool.and_true, Bool.false_and, Bool.and_false, Bool.not_true, Bool.not_false, Bool.true_or, Bool.or_true, Bool.false_or, Bool.or_false, qw_s, qw_n, qw_qw, qx_s, qx_n, qx_qx, upd_s, upd_n, vpU_s, vpU_n]
    rw [i3 h8 (by omega), q64i (by omega), q64_8 hb, tWd_s, r8_s]
theorem m_exit {q c k : Nat} (sm : Bool) {x : Int32} (hI : mI B q c V X) (hc : c < 1000) (h1 : fX12_peek N 216 (qH g V X) 196 = some x) (h2 : fX12_isSmall N 216 (qH g V X) x = some (qz false)) (h3 : fX12_isDigit N 216 (qH g V X) x = some (qz false)) :
    hS g (fX12_next_181 N 216 (k + 1) (qH g V X) 196 (qz sm) (qz (mAl sm B q c))) (fun W Y => mI B q c W Y ∧
    W 196 11 = Int32.ofNat (if mAl sm B q c then (if sm then (if c ≤ 7 then 1 else 4) else (if c ≤ 3 then 2 else 4)) else 4) ∧ W 196 12 = V 196 12 ∧ mL V W X Y) := by
  obtain ⟨i1, i2, i3, i4⟩ := id hI
  have hf : ∀ t : Nat, hS g (some (qH g (qw V 196 (upd (V 196) 11 (Int32.ofNat t))) X)) (fun W Y => mI B q c W Y ∧ W 196 11 = Int32.ofNat t ∧ W 196 12 = V 196 12 ∧ mL V W X Y) := by
    intro t
    refine hS_pure ⟨⟨?_, ?_, i3, ?_⟩, ?_, ?_, mL.w (fun j h3 h4 => upd_n (by omega)) (fun _ _ => rfl)⟩
    · simp (disch := omega) only [qlit, qadd, qmul, qleT, qleF, qltT, qltF, qeqT, qeqF, qdiv, qrem, qmr, zbl0, zbl1, qzb, qzF0, qzT0, Option.bind_some, zbd_some, if_true, if_false, qneo, qneo', qlto, qltoF, qleo, qleo', qdT, qdF, decide_true, decide_false, Bool.true_and, Bool.and_true, Bool.false_and, Bool.and_false, Bool.not_true, Bool.not_false, Bool.true_or, Bool.or_true, Bool.false_or, Bool.or_false, qw_s, qw_n, qw_qw, qx_s, qx_n, qx_qx, upd_s, upd_n, vpU_s, vpU_n, i1]
    · simp (disch := omega) only [qlit, qadd, qmul, qleT, qleF, qltT, qltF, qeqT, qeqF, qdiv, qrem, qmr, zbl0, zbl1, qzb, qzF0, qzT0, Option.bind_some, zbd_some, if_true, if_false, qneo, qneo', qlto, qltoF, qleo, qleo', qdT, qdF, decide_true, decide_false, Bool.true_and, Bool.and_true, Bool.false_and, Bool.and_false, Bool.not_true, Bool.not_false, Bool.true_or, Bool.or_true, Bool.false_or, Bool.or_false, qw_s, qw_n, qw_qw, qx_s, qx_n, qx_qx, upd_s, upd_n, vpU_s, vpU_n, i2]
    · simp (disch := omega) only [qlit, qadd, qmul, qleT, qleF, qltT, qltF, qeqT, qeqF, qdiv, qrem, qmr, zbl0, zbl1, qzb, qzF0, qzT0, Option.bind_some, zbd_some, if_true, if_false, qneo, qneo', qlto, qltoF, qleo, qleo', qdT, qdF, decide_true, decide_false, Bool.true_and, Bool.and_true, Bool.false_and, Bool.and_false, Bool.not_true, Bool.not_false, Bool.true_or, Bool.or_true, Bool.false_or, Bool.or_false, qw_s, qw_n, qw_qw, qx_s, qx_n, qx_qx, upd_s, upd_n, vpU_s, vpU_n]; exact i4
    · simp (disch := omega) only [qlit, qadd, qmul, qleT, qleF, qltT, qltF, qeqT, qeqF, qdiv, qrem, qmr, zbl0, zbl1, qzb, qzF0, qzT0, Option.bind_some, zbd_some, if_true, if_false, qneo, qneo', qlto, qltoF, qleo, qleo', qdT, qdF, decide_true, decide_false, Bool.true_and, Bool.and_true, Bool.false_and, Bool.and_false, Bool.not_true, Bool.not_false, Bool.true_or, Bool.or_true, Bool.false_or, Bool.or_false, qw_s, qw_n, qw_qw, qx_s, qx_n, qx_qx, upd_s, upd_n, vpU_s, vpU_n]
    · simp (disch := omega) only [qlit, qadd, qmul, qleT, qleF, qltT, qltF, qeqT, qeqF, qdiv, qrem, qmr, zbl0, zbl1, qzb, qzF0, qzT0, Option.bind_some, zbd_some, if_true, if_false, qneo, qneo', qlto, qltoF, qleo, qleo', qdT, qdF, decide_true, decide_false, Bool.true_and, Bool.and_true, Bool.false_and, Bool.and_false, Bool.not_true, Bool.not_false, Bool.true_or, Bool.or_true, Bool.false_or, Bool.or_false, qw_s, qw_n, qw_qw, qx_s, qx_n, qx_qx, upd_s, upd_n, vpU_s, vpU_n]
  unfold fX12_next_181 fX12_next_320 fX12_next_317 fX12_next_320 fX12_next_333
  cases ha : mAl sm B q c with
  | false =>
    simp (disch := omega) only [qlit, qadd, qmul, qleT, qleF, qltT, qltF, qeqT, qeqF, qdiv, qrem, qmr, zbl0, zbl1, qzb, qzF0, qzT0, Option.bind_some, zbd_some, if_true, if_false, qneo, qneo', qlto, qltoF, qleo, qleo', qdT, qdF, decide_true, decide_false, Bool.true_and, Bool.and_true, Bool.false_and, Bool.and_false, Bool.not_true, Bool.not_false, Bool.true_or, Bool.or_true, Bool.false_or, Bool.or_false, q196_c, h1, h2, h3, q196_p11, ha, Bool.false_eq_true]
    exact hf 4
  | true =>
    cases sm with
    | false =>
      by_cases h3' : c ≤ 3
      · simp (disch := omega) only [qlit, qadd, qmul, qleT, qleF, qltT, qltF, qeqT, qeqF, qdiv, qrem, qmr, zbl0, zbl1, qzb, qzF0, qzT0, Option.bind_some, zbd_some, if_true, if_false, qneo, qneo', qlto, qltoF, qleo, qleo', qdT, qdF, decide_true, decide_false, Bool.true_and, Bool.and_true, Bool.false_and, Bool.and_false, Bool.not_true, Bool.not_false, Bool.true_or, Bool.or_true, Bool.false_or, Bool.or_false, q196_c, h1, h2, h3, q196_p11, q196_g13, i2, ha, h3', Bool.false_eq_true]
        exact hf 2
      · simp (disch := omega) only [qlit, qadd, qmul, qleT, qleF, qltT, qltF, qeqT, qeqF, qdiv, qrem, qmr, zbl0, zbl1, qzb, qzF0, qzT0, Option.bind_some, zbd_some, if_true, if_false, qneo, qneo', qlto, qltoF, qleo, qleo', qdT, qdF, decide_true, decide_false, Bool.true_and, Bool.and_true, Bool.false_and, Bool.and_false, Bool.not_true, Bool.not_false, Bool.true_or, Bool.or_true, Bool.false_or, Bool.or_false, q196_c, h1, h2, h3, q196_p11, q196_g13, i2, ha, h3', Bool.false_eq_true]
        exact hf 4
    | true =>
      by_cases h3' : c ≤ 7
      · simp (disch := omega) only [qlit, qadd, qmul, qleT, qleF, qltT, qltF, qeqT, qeqF, qdiv, qrem, qmr, zbl0, zbl1, qzb, qzF0, qzT0, Option.bind_some, zbd_some, if_true, if_false, qneo, qneo', qlto, qltoF, qleo, qleo', qdT, qdF, decide_true, decide_false, Bool.true_and, Bool.and_true, Bool.false_and, Bool.and_false, Bool.not_true, Bool.not_false, Bool.true_or, Bool.or_true, Bool.false_or, Bool.or_false, q196_c, h1, h2, h3, q196_p11, q196_g13, i2, ha, h3', Bool.false_eq_true]
        exact hf 1
      · simp (disch := omega) only [qlit, qadd, qmul, qleT, qleF, qltT, qltF, qeqT, qeqF, qdiv, qrem, qmr, zbl0, zbl1, qzb, qzF0, qzT0, Option.bind_some, zbd_some, if_true, if_false, qneo, qneo', qlto, qltoF, qleo, qleo', qdT, qdF, decide_true, decide_false, Bool.true_and, Bool.and_true, Bool.false_and, Bool.and_false, Bool.not_true, Bool.not_false, Bool.true_or, Bool.or_true, Bool.false_or, Bool.or_false, q196_c, h1, h2, h3, q196_p11, q196_g13, i2, ha, h3', Bool.false_eq_true]
        exact hf 4
theorem m_run {q : Nat} (sm : Bool) (hN : 3000 ≤ N) : ∀ j k c V X, mB V B n → q + c + j = n → j < k → mI B q c V X → hS g (fX12_next_181 N 216 k (qH g V X) 196 (qz sm) (qz (mAl sm B q c))) (fun W Y => mI B q (c + tRn B j (q + c)) W Y ∧
    W 196 11 = Int32.ofNat (if mAl sm B q (c + tRn B j (q + c)) then (if sm then (if c + tRn B j (q + c) ≤ 7 then 1 else 4) else (if c + tRn B j (q + c) ≤ 3 then 2 else 4)) else 4) ∧ W 196 12 = V 196 12 ∧ mL V W X Y) := by
  intro j
  induction j with
  | zero =>
    intro k c V X hB hj hk hI
    obtain ⟨k, rfl⟩ : ∃ j, k = j + 1 := ⟨k - 1, by omega⟩
    have hn := hB.2.1
    exact m_exit sm hI (by omega) (m_peekN hB hI.1 (by omega) (by omega)) m_isSmallN m_isDigitN
  | succ j ih =>
    intro k c V X hB hj hk hI
    obtain ⟨k, rfl⟩ : ∃ j, k = j + 1 := ⟨k - 1, by omega⟩
    have hn := hB.2.1
    obtain ⟨i1, i2, i3, i4⟩ := id hI
    have hc := (hB.2.2 (q + c) (by omega)).1
    have hpk := m_peek (g := g) (X := X) (N := N) hB i1 (show q + c < n by omega)
    cases hsd : kSm (B (q + c)) || kDg (B (q + c)) with
    | false =>
      rw [Bool.or_eq_false_iff] at hsd
      rw [tRn_0 hsd.1 hsd.2, Nat.add_zero]
      exact m_exit sm hI (by omega) hpk (by rw [m_isSmall hc, hsd.1]) (by rw [m_isDigit hc, hsd.2])
    | true =>
      have ht : tRn B (j + 1) (q + c) = tRn B j (q + (c + 1)) + 1 := by
        show (if (kSm (B (q + c)) || kDg (B (q + c))) = true then tRn B j (q + c + 1) + 1 else 0) = _
        rw [hsd, if_pos rfl]; rfl
      have hsd2 : kSm (B (q + c)) = true ∨ kDg (B (q + c)) = true := by rw [Bool.or_eq_true] at hsd; exact hsd
      have go : ∀ al, al = mAl sm B q (c + 1) → hS g (fX12_next_221 (fX12_next_181 N 216 k) N 216 (qH g V X) 196 (qz sm) (qz al)) (fun W Y => mI B q (c + tRn B (j + 1) (q + c)) W Y ∧
          W 196 11 = Int32.ofNat (if mAl sm B q (c + tRn B (j + 1) (q + c)) then (if sm then (if c + tRn B (j + 1) (q + c) ≤ 7 then 1 else 4) else (if c + tRn B (j + 1) (q + c) ≤ 3 then 2 else 4)) else 4) ∧ W 196 12 = V 196 12 ∧ mL V W X Y) := by
        intro al hal
        subst hal
        refine m_221 hB (by omega) hsd2 hI (fun W Y h => ?_)
        obtain ⟨h1, h2, h3⟩ := h
        have := ih k (c + 1) W Y (hB.l h3) (by omega) (by omega) h1
        rw [ht, show c + (tRn B j (q + (c + 1)) + 1) = c + 1 + tRn B j (q + (c + 1)) by omega]
        exact hS_mono this (fun U Z h => ⟨h.1, h.2.1, h.2.2.1.trans h2, h3.tr h.2.2.2⟩)
      have hne : kDg (B (q + c)) = !kSm (B (q + c)) := by
        rcases hsd2 with h | h
        · rw [h, kDg_f (by rw [kSm_e] at h; omega)]; rfl
        · rw [h, kSm_f (by rw [kDg_e] at h; omega)]; rfl
      have hal : mAl sm B q (c + 1) = (mAl sm B q c && (if sm then kSm (B (q + c)) else kDg (B (q + c)))) := by
        unfold mAl
        cases sm <;> rfl
      have h201 : hS g (fX12_next_201 (fX12_next_181 N 216 k) N 216 (qH g V X) 196 (qz sm) (qz (mAl sm B q c))) (fun W Y => mI B q (c + tRn B (j + 1) (q + c)) W Y ∧
          W 196 11 = Int32.ofNat (if mAl sm B q (c + tRn B (j + 1) (q + c)) then (if sm then (if c + tRn B (j + 1) (q + c) ≤ 7 then 1 else 4) else (if c + tRn B (j + 1) (q + c) ≤ 3 then 2 else 4)) else 4) ∧ W 196 12 = V 196 12 ∧ mL V W X Y) := by
        unfold fX12_next_201 fX12_next_220
        cases ha : mAl sm B q c with
        | false =>
          rw [if_pos qzf]
          exact go false (by rw [hal, ha]; rfl)
        | true =>
          rw [if_neg qzt, q196_c, Option.bind_some, hpk, Option.bind_some, m_isSmall hc, Option.bind_some]
          by_cases hz : kSm (B (q + c)) = sm
          · rw [if_pos (by rw [hz])]
            exact go true (by rw [hal, ha, hne, hz]; cases sm <;> rfl)
          · rw [if_neg (by rw [qzEq]; exact hz)]
            refine go false ?_
            rw [hal, ha, hne]
            cases sm <;> cases hk : kSm (B (q + c)) <;> simp_all
      unfold fX12_next_181
      cases hk : kSm (B (q + c)) with
      | true =>
        rw [q196_c, Option.bind_some, hpk, Option.bind_some, m_isSmall hc, Option.bind_some, hk, if_neg qzt]
        exact h201
      | false =>
        have hd : kDg (B (q + c)) = true := by rw [hne, hk]; rfl
        rw [q196_c, Option.bind_some, hpk, Option.bind_some, m_isSmall hc, Option.bind_some, hk, if_pos qzf, Option.bind_some, Option.bind_some, m_isDigit hc, Option.bind_some, hd, if_neg qzt]
        exact h201
/-- the place of the token: q, where no blank is -/
theorem m_next80 (hN : 3000 ≤ N) (hB : mB V B n) {q : Nat} (hq : q ≤ n) (hp : V 196 4 = Int32.ofNat q) (hs : V 196 13 = Int32.ofNat 0) (ha : V 196 12 = Int32.ofNat q) (hlim : ¬ (m < n ∧ m ≤ q)) : hS g (fX12_next_80 N 216 (qH g V X) 196) (fun W Y => mT W Y (tTk B n m q) ∧ mL V W X Y) := by
  have hn := hB.2.1
  unfold tTk
  rw [if_neg hlim]
  by_cases c2 : n ≤ q
  · rw [if_pos c2]
    unfold fX12_next_80
    simp (disch := omega) only [qlit, qadd, qmul, qleT, qleF, qltT, qltF, qeqT, qeqF, qdiv, qrem, qmr, zbl0, zbl1, qzb, qzF0, qzT0, Option.bind_some, zbd_some, if_true, if_false, qneo, qneo', qlto, qltoF, qleo, qleo', qdT, qdF, decide_true, decide_false, Bool.true_and, Bool.and_true, Bool.false_and, Bool.and_false, Bool.not_true, Bool.not_false, Bool.true_or, Bool.or_true, Bool.false_or, Bool.or_false, qw_s, qw_n, qw_qw, qx_s, qx_n, qx_qx, upd_s, upd_n, vpU_s, vpU_n, q196_c, m_peekN hB hp c2, q196_p11]
    refine hS_pure ⟨⟨?_, ?_, fun h => ?_, fun h => ?_, fun h => ?_⟩, mL.w (fun j h3 h4 => upd_n (by omega)) (fun _ _ => rfl)⟩
    · simp (disch := omega) only [qlit, qadd, qmul, qleT, qleF, qltT, qltF, qeqT, qeqF, qdiv, qrem, qmr, zbl0, zbl1, qzb, qzF0, qzT0, Option.bind_some, zbd_some, if_true, if_false, qneo, qneo', qlto, qltoF, qleo, qleo', qdT, qdF, decide_true, decide_false, Bool.true_and, Bool.and_true, Bool.false_and, Bool.and_false, Bool.not_true, Bool.not_false, Bool.true_or, Bool.or_true, Bool.false_or, Bool.or_false, qw_s, qw_n, qw_qw, qx_s, qx_n, qx_qx, upd_s, upd_n, vpU_s, vpU_n]; rfl
    · simp (disch := omega) only [qlit, qadd, qmul, qleT, qleF, qltT, qltF, qeqT, qeqF, qdiv, qrem, qmr, zbl0, zbl1, qzb, qzF0, qzT0, Option.bind_some, zbd_some, if_true, if_false, qneo, qneo', qlto, qltoF, qleo, qleo', qdT, qdF, decide_true, decide_false, Bool.true_and, Bool.and_true, Bool.false_and, Bool.and_false, Bool.not_true, Bool.not_false, Bool.true_or, Bool.or_true, Bool.false_or, Bool.or_false, qw_s, qw_n, qw_qw, qx_s, qx_n, qx_qx, upd_s, upd_n, vpU_s, vpU_n, ha]
    · dsimp only at h; omega
    · dsimp only at h; omega
    · dsimp only at h; omega
  · rw [if_neg c2]
    have hc := (hB.2.2 q (by omega)).1
    have hpk := m_peek (g := g) (X := X) (N := N) hB hp (show q < n by omega)
    have h164 : ∀ sm, sm = kSm (B q) → (kSm (B q) = true ∨ kDg (B q) = true) → hS g (fX12_next_164 N 216 (qH g V X) 196 (Int32.ofNat (B q))) (fun W Y => mT W Y (if tRn B (n - q) q = 0 then (if kSg (B q) = true then 2 else 6, q, q + 1, B q, []) else if tAll kSm B q (tRn B (n - q) q) = true ∧ tRn B (n - q) q ≤ 7 then (if (tIdx (tWd B q (tRn B (n - q) q))).isSome = true then 4 else 5, q, q + tRn B (n - q) q, (tIdx (tWd B q (tRn B (n - q) q))).getD 0, tWd B q (tRn B (n - q) q)) else if tAll kDg B q (tRn B (n - q) q) = true ∧ tRn B (n - q) q ≤ 3 then (3, q, q + tRn B (n - q) q, tNm B q (tRn B (n - q) q), []) else (6, q, q + tRn B (n - q) q, 0, [])) ∧ mL V W X Y) := by
      intro sm hsm hsd
      have hr1 : 1 ≤ tRn B (n - q) q := by
        obtain ⟨j, hj⟩ : ∃ j, n - q = j + 1 := ⟨n - q - 1, by omega⟩
        rw [hj]
        show 1 ≤ (if (kSm (B q) || kDg (B q)) = true then tRn B j (q + 1) + 1 else 0)
        rw [if_pos (by rw [Bool.or_eq_true]; exact hsd)]
        omega
      have hrn := tRn_le B (n - q) q
      have key : ∀ r, r ≤ n - q → 1 ≤ r → tAll kSm B q r = true → kSm (B q) = true := by
        intro r
        induction r with
        | zero => intro _ h; omega
        | succ r ih =>
          intro h1 h2 h3
          by_cases hr0 : r = 0
          · subst hr0; rw [tAll_s, Bool.and_eq_true] at h3; exact h3.2
          · rw [tAll_s, Bool.and_eq_true] at h3; exact ih (by omega) (by omega) h3.1
      have key2 : ∀ r, r ≤ n - q → 1 ≤ r → tAll kDg B q r = true → kDg (B q) = true := by
        intro r
        induction r with
        | zero => intro _ h; omega
        | succ r ih =>
          intro h1 h2 h3
          by_cases hr0 : r = 0
          · subst hr0; rw [tAll_s, Bool.and_eq_true] at h3; exact h3.2
          · rw [tAll_s, Bool.and_eq_true] at h3; exact ih (by omega) (by omega) h3.1
      have hI0 : mI B q 0 (qw V 196 (upd (V 196) 14 (Int32.ofNat 0))) (qx X 196 (vp_updL (X 196) 17 0)) := by
        refine ⟨?_, ?_, fun _ _ => ?_, fun _ _ => ?_⟩
        · simp (disch := omega) only [qlit, qadd, qmul, qleT, qleF, qltT, qltF, qeqT, qeqF, qdiv, qrem, qmr, zbl0, zbl1, qzb, qzF0, qzT0, Option.bind_some, zbd_some, if_true, if_false, qneo, qneo', qlto, qltoF, qleo, qleo', qdT, qdF, decide_true, decide_false, Bool.true_and, Bool.and_true, Bool.false_and, Bool.and_false, Bool.not_true, Bool.not_false, Bool.true_or, Bool.or_true, Bool.false_or, Bool.or_false, qw_s, qw_n, qw_qw, qx_s, qx_n, qx_qx, upd_s, upd_n, vpU_s, vpU_n, hp, Nat.add_zero]
        · simp (disch := omega) only [qlit, qadd, qmul, qleT, qleF, qltT, qltF, qeqT, qeqF, qdiv, qrem, qmr, zbl0, zbl1, qzb, qzF0, qzT0, Option.bind_some, zbd_some, if_true, if_false, qneo, qneo', qlto, qltoF, qleo, qleo', qdT, qdF, decide_true, decide_false, Bool.true_and, Bool.and_true, Bool.false_and, Bool.and_false, Bool.not_true, Bool.not_false, Bool.true_or, Bool.or_true, Bool.false_or, Bool.or_false, qw_s, qw_n, qw_qw, qx_s, qx_n, qx_qx, upd_s, upd_n, vpU_s, vpU_n, hs]
        · simp (disch := omega) only [qlit, qadd, qmul, qleT, qleF, qltT, qltF, qeqT, qeqF, qdiv, qrem, qmr, zbl0, zbl1, qzb, qzF0, qzT0, Option.bind_some, zbd_some, if_true, if_false, qneo, qneo', qlto, qltoF, qleo, qleo', qdT, qdF, decide_true, decide_false, Bool.true_and, Bool.and_true, Bool.false_and, Bool.and_false, Bool.not_true, Bool.not_false, Bool.true_or, Bool.or_true, Bool.false_or, Bool.or_false, qw_s, qw_n, qw_qw, qx_s, qx_n, qx_qx, upd_s, upd_n, vpU_s, vpU_n]; rfl
        · simp (disch := omega) only [qlit, qadd, qmul, qleT, qleF, qltT, qltF, qeqT, qeqF, qdiv, qrem, qmr, zbl0, zbl1, qzb, qzF0, qzT0, Option.bind_some, zbd_some, if_true, if_false, qneo, qneo', qlto, qltoF, qleo, qleo', qdT, qdF, decide_true, decide_false, Bool.true_and, Bool.and_true, Bool.false_and, Bool.and_false, Bool.not_true, Bool.not_false, Bool.true_or, Bool.or_true, Bool.false_or, Bool.or_false, qw_s, qw_n, qw_qw, qx_s, qx_n, qx_qx, upd_s, upd_n, vpU_s, vpU_n]; rfl
      have hrun := m_run (g := g) (q := q) (n := n) (B := B) sm hN (n - q) N 0 _ _ (hB.l (X := X) (Y := qx X 196 (vp_updL (X 196) 17 0)) (mL.w (fun j h3 h4 => upd_n (by omega)) (fun b hb => qx_n hb))) (by omega) (by omega) hI0
      have hal0 : mAl sm B q 0 = true := by unfold mAl; cases sm <;> rfl
      rw [hal0] at hrun
      unfold fX12_next_164
      rw [m_isSmall hc, Option.bind_some, ← hsm]
      simp (disch := omega) only [qlit, qadd, qmul, qleT, qleF, qltT, qltF, qeqT, qeqF, qdiv, qrem, qmr, zbl0, zbl1, qzb, qzF0, qzT0, Option.bind_some, zbd_some, if_true, if_false, qneo, qneo', qlto, qltoF, qleo, qleo', qdT, qdF, decide_true, decide_false, Bool.true_and, Bool.and_true, Bool.false_and, Bool.and_false, Bool.not_true, Bool.not_false, Bool.true_or, Bool.or_true, Bool.false_or, Bool.or_false, q196_p17, q196_p14]
      refine hS_mono hrun (fun W Y h => ?_)
      obtain ⟨⟨j1, j2, j3, j4⟩, h2, h3, h4⟩ := h
      rw [Nat.zero_add, Nat.add_zero] at j1 j2 j3 j4 h2
      rw [qw_s, upd_n (by omega), ha] at h3
      have hL : mL V W X Y := mL.tr (mL.w (fun j h3 h4 => upd_n (by omega)) (fun b hb => qx_n hb)) h4
      refine ⟨?_, hL⟩
      generalize tRn B (n - q) q = r at *
      rw [if_neg (by omega)]
      by_cases c3 : tAll kSm B q r = true ∧ r ≤ 7
      · have hs1 := key r hrn hr1 c3.1
        have e1 : mAl sm B q r = true := by unfold mAl; rw [hsm, hs1]; exact c3.1
        rw [if_pos e1, if_pos (by rw [hsm, hs1]), if_pos c3.2] at h2
        rw [if_pos c3]
        cases hi : (tIdx (tWd B q r)).isSome with
        | true => exact ⟨h2, h3, fun _ => j1, fun h => by simp at h, fun _ => j3 c3.1 c3.2⟩
        | false => exact ⟨h2, h3, fun _ => j1, fun h => by simp at h, fun _ => j3 c3.1 c3.2⟩
      · rw [if_neg c3]
        by_cases c4 : tAll kDg B q r = true ∧ r ≤ 3
        · have hs1 := key2 r hrn hr1 c4.1
          have hs0 : kSm (B q) = false := kSm_f (by rw [kDg_e] at hs1; omega)
          have e1 : mAl sm B q r = true := by unfold mAl; rw [hsm, hs0]; exact c4.1
          rw [if_pos e1, if_neg (by rw [hsm, hs0]; decide), if_pos c4.2] at h2
          rw [if_pos c4]
          exact ⟨h2, h3, fun _ => j1, fun _ => j4 c4.1 c4.2, fun h => by simp at h⟩
        · rw [if_neg c4]
          have h2b : W 196 11 = Int32.ofNat 4 := by
            rw [h2]
            congr 1
            split
            · rename_i ha
              unfold mAl at ha
              split
              · rename_i hsm1
                rw [if_pos hsm1] at ha
                rw [if_neg (fun h => c3 ⟨ha, h⟩)]
              · rename_i hsm1
                rw [if_neg hsm1] at ha
                rw [if_neg (fun h => c4 ⟨ha, h⟩)]
            · rfl
          exact ⟨h2b, h3, fun h => by simp at h, fun h => by simp at h, fun h => by simp at h⟩
    have hsg : ∀ t : Nat, t = (if kSg (B q) = true then 2 else 6) → kSm (B q) = false → kDg (B q) = false → hS g (fX12_next_145 N 216 (qH g V X) 196 (Int32.ofNat (B q)) 196 (Int32.ofNat (mKd t))) (fun W Y => mT W Y (if tRn B (n - q) q = 0 then (if kSg (B q) = true then 2 else 6, q, q + 1, B q, []) else if tAll kSm B q (tRn B (n - q) q) = true ∧ tRn B (n - q) q ≤ 7 then (if (tIdx (tWd B q (tRn B (n - q) q))).isSome = true then 4 else 5, q, q + tRn B (n - q) q, (tIdx (tWd B q (tRn B (n - q) q))).getD 0, tWd B q (tRn B (n - q) q)) else if tAll kDg B q (tRn B (n - q) q) = true ∧ tRn B (n - q) q ≤ 3 then (3, q, q + tRn B (n - q) q, tNm B q (tRn B (n - q) q), []) else (6, q, q + tRn B (n - q) q, 0, [])) ∧ mL V W X Y) := by
      intro t ht h1 h2
      rw [if_pos (tRn_0 h1 h2), ← ht]
      unfold fX12_next_145
      simp (disch := omega) only [qlit, qadd, qmul, qleT, qleF, qltT, qltF, qeqT, qeqF, qdiv, qrem, qmr, zbl0, zbl1, qzb, qzF0, qzT0, Option.bind_some, zbd_some, if_true, if_false, qneo, qneo', qlto, qltoF, qleo, qleo', qdT, qdF, decide_true, decide_false, Bool.true_and, Bool.and_true, Bool.false_and, Bool.and_false, Bool.not_true, Bool.not_false, Bool.true_or, Bool.or_true, Bool.false_or, Bool.or_false, qw_s, qw_n, qw_qw, qx_s, qx_n, qx_qx, upd_s, upd_n, vpU_s, vpU_n, q196_p11, q196_p14, q196_g4, q196_p4, hp]
      refine hS_pure ⟨⟨?_, ?_, fun h => ?_, fun h => ?_, fun h => ?_⟩, mL.w (fun j h3 h4 => ?_) (fun _ _ => rfl)⟩
      · simp (disch := omega) only [qlit, qadd, qmul, qleT, qleF, qltT, qltF, qeqT, qeqF, qdiv, qrem, qmr, zbl0, zbl1, qzb, qzF0, qzT0, Option.bind_some, zbd_some, if_true, if_false, qneo, qneo', qlto, qltoF, qleo, qleo', qdT, qdF, decide_true, decide_false, Bool.true_and, Bool.and_true, Bool.false_and, Bool.and_false, Bool.not_true, Bool.not_false, Bool.true_or, Bool.or_true, Bool.false_or, Bool.or_false, qw_s, qw_n, qw_qw, qx_s, qx_n, qx_qx, upd_s, upd_n, vpU_s, vpU_n]
      · simp (disch := omega) only [qlit, qadd, qmul, qleT, qleF, qltT, qltF, qeqT, qeqF, qdiv, qrem, qmr, zbl0, zbl1, qzb, qzF0, qzT0, Option.bind_some, zbd_some, if_true, if_false, qneo, qneo', qlto, qltoF, qleo, qleo', qdT, qdF, decide_true, decide_false, Bool.true_and, Bool.and_true, Bool.false_and, Bool.and_false, Bool.not_true, Bool.not_false, Bool.true_or, Bool.or_true, Bool.false_or, Bool.or_false, qw_s, qw_n, qw_qw, qx_s, qx_n, qx_qx, upd_s, upd_n, vpU_s, vpU_n, ha]
      · simp (disch := omega) only [qlit, qadd, qmul, qleT, qleF, qltT, qltF, qeqT, qeqF, qdiv, qrem, qmr, zbl0, zbl1, qzb, qzF0, qzT0, Option.bind_some, zbd_some, if_true, if_false, qneo, qneo', qlto, qltoF, qleo, qleo', qdT, qdF, decide_true, decide_false, Bool.true_and, Bool.and_true, Bool.false_and, Bool.and_false, Bool.not_true, Bool.not_false, Bool.true_or, Bool.or_true, Bool.false_or, Bool.or_false, qw_s, qw_n, qw_qw, qx_s, qx_n, qx_qx, upd_s, upd_n, vpU_s, vpU_n]
      · simp (disch := omega) only [qlit, qadd, qmul, qleT, qleF, qltT, qltF, qeqT, qeqF, qdiv, qrem, qmr, zbl0, zbl1, qzb, qzF0, qzT0, Option.bind_some, zbd_some, if_true, if_false, qneo, qneo', qlto, qltoF, qleo, qleo', qdT, qdF, decide_true, decide_false, Bool.true_and, Bool.and_true, Bool.false_and, Bool.and_false, Bool.not_true, Bool.not_false, Bool.true_or, Bool.or_true, Bool.false_or, Bool.or_false, qw_s, qw_n, qw_qw, qx_s, qx_n, qx_qx, upd_s, upd_n, vpU_s, vpU_n]
      · dsimp only at h
        split at ht <;> omega
      · rw [upd_n (by omega), upd_n (by omega), upd_n (by omega)]
    unfold fX12_next_80 fX12_next_140 fX12_next_144
    rw [q196_c, Option.bind_some, hpk, Option.bind_some, if_pos (q0le (by omega)), m_isSmall hc, Option.bind_some]
    cases hk : kSm (B q) with
    | true =>
      rw [if_neg qzt]
      exact h164 _ rfl (Or.inl hk)
    | false =>
      rw [if_pos qzf, m_isDigit hc, Option.bind_some]
      cases hd : kDg (B q) with
      | true =>
        rw [if_neg qzt]
        exact h164 _ rfl (Or.inr hd)
      | false =>
        rw [if_pos qzf]
        have hs3 := hsg 2
        have hs6 := hsg 6
        by_cases e0 : kSg (B q) = true
        · have hs := hs3 (by rw [if_pos e0]) hk hd
          have e1 := of_decide_eq_true e0
          rcases e1 with e | e | e | e
          · rw [if_pos (by rw [e]; rfl)]; exact hs
          · rw [if_neg (by rw [e]; decide), if_pos (by rw [e]; rfl)]; exact hs
          · rw [if_neg (by rw [e]; decide), if_neg (by rw [e]; decide), if_pos (by rw [e]; rfl)]; exact hs
          · rw [if_neg (by rw [show (59 : Int32) = Int32.ofNat 59 from rfl, qeq (by omega) (by omega)]; omega), if_neg (by rw [show (40 : Int32) = Int32.ofNat 40 from rfl, qeq (by omega) (by omega)]; omega), if_neg (by rw [show (41 : Int32) = Int32.ofNat 41 from rfl, qeq (by omega) (by omega)]; omega), if_neg (by rw [show (60 : Int32) = Int32.ofNat 60 from rfl, qlt (by omega) (by omega)]; omega), if_neg (by rw [show (62 : Int32) = Int32.ofNat 62 from rfl, qlt (by omega) (by omega)]; omega)]; exact hs
        · have hs := hs6 (by rw [if_neg e0]) hk hd
          have e1 : ¬ (B q = 59 ∨ B q = 40 ∨ B q = 41 ∨ (60 ≤ B q ∧ B q ≤ 62)) := fun h => e0 (decide_eq_true h)
          rw [if_neg (by rw [show (59 : Int32) = Int32.ofNat 59 from rfl, qeq (by omega) (by omega)]; omega), if_neg (by rw [show (40 : Int32) = Int32.ofNat 40 from rfl, qeq (by omega) (by omega)]; omega), if_neg (by rw [show (41 : Int32) = Int32.ofNat 41 from rfl, qeq (by omega) (by omega)]; omega)]
          by_cases e2 : B q < 60
          · rw [if_pos (by rw [show (60 : Int32) = Int32.ofNat 60 from rfl, qlt (by omega) (by omega)]; omega)]; exact hs
          · rw [if_neg (by rw [show (60 : Int32) = Int32.ofNat 60 from rfl, qlt (by omega) (by omega)]; omega), if_pos (by rw [show (62 : Int32) = Int32.ofNat 62 from rfl, qlt (by omega) (by omega)]; omega)]; exact hs
theorem m_next (hN : 3000 ≤ N) : ∀ j k p V X, mB V B n → V 196 5 = Int32.ofNat m → m ≤ 940 → V 196 4 = Int32.ofNat p → p + j = n → j < k → hS g (fX12_next_0 N 216 k (qH g V X) 196) (fun W Y => mT W Y (tTok B n m p) ∧ mL V W X Y) := by
  intro j
  have here : ∀ k p V X x, mB V B n → V 196 5 = Int32.ofNat m → m ≤ 940 → V 196 4 = Int32.ofNat p → p ≤ n → tSk B (n - p) p = p → fX12_peek N 216 (qH g V X) 196 = some x → x ≠ 32 → x ≠ 10 → hS g (fX12_next_0 N 216 (k + 1) (qH g V X) 196) (fun W Y => mT W Y (tTok B n m p) ∧ mL V W X Y) := by
    intro k p V X x hB h5 hm hp hpn hsk hpk hx1 hx2
    have hn := hB.2.1
    unfold tTok fX12_next_0
    rw [hsk]
    by_cases c1 : m < n ∧ m ≤ p
    · unfold tTk
      rw [if_pos c1]
      rw [q196_c, Option.bind_some, hpk, Option.bind_some, if_neg hx1, Option.bind_some, Option.bind_some, if_neg hx2, q196_g4, Option.bind_some, q196_p12, Option.bind_some, hp, q196_p13, Option.bind_some, qw_s, qw_qw, l0]
      simp (disch := omega) only [qlit, qadd, qmul, qleT, qleF, qltT, qltF, qeqT, qeqF, qdiv, qrem, qmr, zbl0, zbl1, qzb, qzF0, qzT0, Option.bind_some, zbd_some, if_true, if_false, qneo, qneo', qlto, qltoF, qleo, qleo', qdT, qdF, decide_true, decide_false, Bool.true_and, Bool.and_true, Bool.false_and, Bool.and_false, Bool.not_true, Bool.not_false, Bool.true_or, Bool.or_true, Bool.false_or, Bool.or_false, qw_s, qw_n, qw_qw, qx_s, qx_n, qx_qx, upd_s, upd_n, vpU_s, vpU_n, q196_g4, q196_g3, q196_g5, hp, h5, hB.1]
      rw [q196_p12, Option.bind_some, qw_s, qw_qw, q196_p11, Option.bind_some, qw_s, qw_qw]
      refine hS_pure ⟨⟨?_, ?_, fun h => ?_, fun h => ?_, fun h => ?_⟩, mL.w (fun j h3 h4 => ?_) (fun _ _ => rfl)⟩
      · simp (disch := omega) only [qlit, qadd, qmul, qleT, qleF, qltT, qltF, qeqT, qeqF, qdiv, qrem, qmr, zbl0, zbl1, qzb, qzF0, qzT0, Option.bind_some, zbd_some, if_true, if_false, qneo, qneo', qlto, qltoF, qleo, qleo', qdT, qdF, decide_true, decide_false, Bool.true_and, Bool.and_true, Bool.false_and, Bool.and_false, Bool.not_true, Bool.not_false, Bool.true_or, Bool.or_true, Bool.false_or, Bool.or_false, qw_s, qw_n, qw_qw, qx_s, qx_n, qx_qx, upd_s, upd_n, vpU_s, vpU_n]; rfl
      · simp (disch := omega) only [qlit, qadd, qmul, qleT, qleF, qltT, qltF, qeqT, qeqF, qdiv, qrem, qmr, zbl0, zbl1, qzb, qzF0, qzT0, Option.bind_some, zbd_some, if_true, if_false, qneo, qneo', qlto, qltoF, qleo, qleo', qdT, qdF, decide_true, decide_false, Bool.true_and, Bool.and_true, Bool.false_and, Bool.and_false, Bool.not_true, Bool.not_false, Bool.true_or, Bool.or_true, Bool.false_or, Bool.or_false, qw_s, qw_n, qw_qw, qx_s, qx_n, qx_qx, upd_s, upd_n, vpU_s, vpU_n]
      · dsimp only at h; omega
      · dsimp only at h; omega
      · dsimp only at h; omega
      · rw [upd_n (by omega), upd_n (by omega), upd_n (by omega), upd_n (by omega)]
    · have go : hS g (fX12_next_80 N 216 (qH g (qw V 196 (upd (upd (V 196) 12 (Int32.ofNat p)) 13 (Int32.ofNat 0))) X) 196) (fun W Y => mT W Y (tTk B n m p) ∧ mL V W X Y) := by
        have hL1 : mL V (qw V 196 (upd (upd (V 196) 12 (Int32.ofNat p)) 13 (Int32.ofNat 0))) X X := mL.w (fun j h3 h4 => by rw [upd_n (by omega), upd_n (by omega)]) (fun _ _ => rfl)
        refine hS_mono (m_next80 hN (hB.l hL1) hpn (by simp (disch := omega) only [qlit, qadd, qmul, qleT, qleF, qltT, qltF, qeqT, qeqF, qdiv, qrem, qmr, zbl0, zbl1, qzb, qzF0, qzT0, Option.bind_some, zbd_some, if_true, if_false, qneo, qneo', qlto, qltoF, qleo, qleo', qdT, qdF, decide_true, decide_false, Bool.true_and, Bool.and_true, Bool.false_and, Bool.and_false, Bool.not_true, Bool.not_false, Bool.true_or, Bool.or_true, Bool.false_or, Bool.or_false, qw_s, qw_n, qw_qw, qx_s, qx_n, qx_qx, upd_s, upd_n, vpU_s, vpU_n, hp]) (by simp (disch := omega) only [qlit, qadd, qmul, qleT, qleF, qltT, qltF, qeqT, qeqF, qdiv, qrem, qmr, zbl0, zbl1, qzb, qzF0, qzT0, Option.bind_some, zbd_some, if_true, if_false, qneo, qneo', qlto, qltoF, qleo, qleo', qdT, qdF, decide_true, decide_false, Bool.true_and, Bool.and_true, Bool.false_and, Bool.and_false, Bool.not_true, Bool.not_false, Bool.true_or, Bool.or_true, Bool.false_or, Bool.or_false, qw_s, qw_n, qw_qw, qx_s, qx_n, qx_qx, upd_s, upd_n, vpU_s, vpU_n]) (by simp (disch := omega) only [qlit, qadd, qmul, qleT, qleF, qltT, qltF, qeqT, qeqF, qdiv, qrem, qmr, zbl0, zbl1, qzb, qzF0, qzT0, Option.bind_some, zbd_some, if_true, if_false, qneo, qneo', qlto, qltoF, qleo, qleo', qdT, qdF, decide_true, decide_false, Bool.true_and, Bool.and_true, Bool.false_and, Bool.and_false, Bool.not_true, Bool.not_false, Bool.true_or, Bool.or_true, Bool.false_or, Bool.or_false, qw_s, qw_n, qw_qw, qx_s, qx_n, qx_qx, upd_s, upd_n, vpU_s, vpU_n]) c1) (fun W Y h => ⟨h.1, hL1.tr h.2⟩)
      rw [q196_c, Option.bind_some, hpk, Option.bind_some, if_neg hx1, Option.bind_some, Option.bind_some, if_neg hx2, q196_g4, Option.bind_some, q196_p12, Option.bind_some, hp, q196_p13, Option.bind_some, qw_s, qw_qw, l0]
      by_cases c2 : n ≤ m
      · simp (disch := omega) only [qlit, qadd, qmul, qleT, qleF, qltT, qltF, qeqT, qeqF, qdiv, qrem, qmr, zbl0, zbl1, qzb, qzF0, qzT0, Option.bind_some, zbd_some, if_true, if_false, qneo, qneo', qlto, qltoF, qleo, qleo', qdT, qdF, decide_true, decide_false, Bool.true_and, Bool.and_true, Bool.false_and, Bool.and_false, Bool.not_true, Bool.not_false, Bool.true_or, Bool.or_true, Bool.false_or, Bool.or_false, qw_s, qw_n, qw_qw, qx_s, qx_n, qx_qx, upd_s, upd_n, vpU_s, vpU_n, q196_g4, q196_g3, q196_g5, hp, h5, hB.1]
        exact go
      · simp (disch := omega) only [qlit, qadd, qmul, qleT, qleF, qltT, qltF, qeqT, qeqF, qdiv, qrem, qmr, zbl0, zbl1, qzb, qzF0, qzT0, Option.bind_some, zbd_some, if_true, if_false, qneo, qneo', qlto, qltoF, qleo, qleo', qdT, qdF, decide_true, decide_false, Bool.true_and, Bool.and_true, Bool.false_and, Bool.and_false, Bool.not_true, Bool.not_false, Bool.true_or, Bool.or_true, Bool.false_or, Bool.or_false, qw_s, qw_n, qw_qw, qx_s, qx_n, qx_qx, upd_s, upd_n, vpU_s, vpU_n, q196_g4, q196_g3, q196_g5, hp, h5, hB.1]
        exact go
  induction j with
  | zero =>
    intro k p V X hB h5 hm hp hj hk
    obtain ⟨k, rfl⟩ : ∃ j, k = j + 1 := ⟨k - 1, by omega⟩
    have hn := hB.2.1
    exact here k p V X _ hB h5 hm hp (by omega) (by rw [show n - p = 0 by omega]; rfl) (m_peekN hB hp (by omega) (by omega)) (by decide) (by decide)
  | succ j ih =>
    intro k p V X hB h5 hm hp hj hk
    obtain ⟨k, rfl⟩ : ∃ j, k = j + 1 := ⟨k - 1, by omega⟩
    have hn := hB.2.1
    have hc := (hB.2.2 p (by omega)).1
    have hpk := m_peek (g := g) (X := X) (N := N) hB hp (show p < n by omega)
    cases hbl : kBl (B p) with
    | false =>
      have hb2 := of_decide_eq_false hbl
      refine here k p V X _ hB h5 hm hp (by omega) ?_ hpk ?_ ?_
      · rw [show n - p = j + 1 by omega]
        show (if kBl (B p) = true then tSk B j (p + 1) else p) = p
        rw [hbl]; rfl
      · rw [ne_eq, show (32 : Int32) = Int32.ofNat 32 from rfl, qeq (by omega) (by omega)]; omega
      · rw [ne_eq, show (10 : Int32) = Int32.ofNat 10 from rfl, qeq (by omega) (by omega)]; omega
    | true =>
      have hb2 := of_decide_eq_true hbl
      have hL1 : mL V (qw V 196 (upd (V 196) 4 (Int32.ofNat (p + 1)))) X X := mL.w (fun j h3 h4 => by rw [upd_n (by omega)]) (fun _ _ => rfl)
      have hih := ih k (p + 1) _ X (hB.l hL1) (by simp (disch := omega) only [qlit, qadd, qmul, qleT, qleF, qltT, qltF, qeqT, qeqF, qdiv, qrem, qmr, zbl0, zbl1, qzb, qzF0, qzT0, Option.bind_some, zbd_some, if_true, if_false, qneo, qneo', qlto, qltoF, qleo, qleo', qdT, qdF, decide_true, decide_false, Bool.true_and, Bool.and_true, Bool.false_and, Bool.and_false, Bool.not_true, Bool.not_false, Bool.true_or, Bool.or_true, Bool.false_or, Bool.or_false, qw_s, qw_n, qw_qw, qx_s, qx_n, qx_qx, upd_s, upd_n, vpU_s, vpU_n, h5]) hm (by simp (disch := omega) only [qlit, qadd, qmul, qleT, qleF, qltT, qltF, qeqT, qeqF, qdiv, qrem, qmr, zbl0, zbl1, qzb, qzF0, qzT0, Option.bind_some, zbd_some, if_true, if_false, qneo, qneo', qlto, qltoF, qleo, qleo', qdT, qdF, decide_true, decide_false, Bool.true_and, Bool.and_true, Bool.false_and, Bool.and_false, Bool.not_true, Bool.not_false, Bool.true_or, Bool.or_true, Bool.false_or, Bool.or_false, qw_s, qw_n, qw_qw, qx_s, qx_n, qx_qx, upd_s, upd_n, vpU_s, vpU_n]) (by omega) (by omega)
      have hst : tTok B n m p = tTok B n m (p + 1) := by
        unfold tTok
        rw [show n - p = j + 1 by omega, show n - (p + 1) = j by omega]
        show tTk B n m (if kBl (B p) = true then tSk B j (p + 1) else p) = _
        rw [hbl]; rfl
      rw [hst]
      unfold fX12_next_0 fX12_next_18
      rcases hb2 with e | e
      · rw [q196_c, Option.bind_some, hpk, Option.bind_some, if_pos (by rw [e]; rfl), q196_g4, Option.bind_some, q196_p4, Option.bind_some, hp, l1, qadd]
        exact hS_mono hih (fun W Y h => ⟨h.1, hL1.tr h.2⟩)
      · rw [q196_c, Option.bind_some, hpk, Option.bind_some, if_neg (by rw [e]; decide), Option.bind_some, Option.bind_some, if_pos (by rw [e]; rfl), q196_g4, Option.bind_some, q196_p4, Option.bind_some, hp, l1, qadd]
        exact hS_mono hih (fun W Y h => ⟨h.1, hL1.tr h.2⟩)
end QV
