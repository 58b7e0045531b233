/-! more queries: what was told before -/
section QL
variable {g : zF} {V : Nat → Nat → Int32} {X : Nat → Nat → Int64} {N : Nat} {s : Nat → Nat}
theorem qT_23 {j : Nat} (h : j ≠ 0) : qT V 196 j = V 196 j := qT_j h
theorem m_inM {p : Int32} : fX12_isIn N 216 (qH g V X) p (Int32.ofNat 0) (qo none - Int32.ofNat 1) = some (qz false) := by
  unfold fX12_isIn
  rcases qarg p with h | ⟨k, hk, rfl⟩
  · rw [if_pos (show p < Int32.ofNat 0 from h)]; rfl
  · rw [if_neg (show ¬ Int32.ofNat k < Int32.ofNat 0 from Int32.ofNat_not_neg hk), if_pos (by
      rw [Int32.lt_iff_toInt_lt, Int32.toInt_ofNat_of_lt (by omega)]
      have h3 : (qo none - Int32.ofNat 1).toInt = -2 := by decide
      omega)]; rfl

theorem tq_coverBy_n {n : Nat} (hn : n ≤ 5) (h1 : V 191 2 = Int32.ofNat n) (h2 : V 196 27 = Int32.ofNat n) (h3 : ∀ i, i < n → V 192 i = V 205 i) (p : Int32) : ∃ r, fX11_coverBy N 216 (qH g V X) 0 p = some r ∧ fX12_coverBy N 216 (qH g V X) 196 p = some (qH g (qT V) X, r) := by
  unfold fX11_coverBy fX12_coverBy
  have e2 : qT V 196 27 = Int32.ofNat n := by rw [qT_j (by omega)]; exact h2
  rcases qarg p with h | ⟨k, hk, rfl⟩
  · have h0 := qrg_n (a := 0) (b := n) h
    rw [if_pos h]
    simp (disch := omega) only [qlit, qadd, qmul, qleT, qleF, qltT, qltF, qeqT, qeqF, qdiv, qrem, qmr, zbl0, zbl1, qzb, qzF0, qzT0, Option.bind_some, zbd_some, if_true, if_false, qneo, qneo', qlto, qltoF, qleo, qleo', qdT, qdF, decide_true, decide_false, Bool.true_and, Bool.and_true, Bool.false_and, Bool.and_false, Bool.not_true, Bool.not_false, Bool.true_or, Bool.or_true, Bool.false_or, Bool.or_false, q0_c, q0_g0, q0_g1, q0_g2, q0_g3, q0_g4, q0_g5, q0_g6, q0_g7, q0_g8, q0_g9, q0_g10, q0_g11, q0_g12, q0_g13, c4_g0, c4_g1, c4_g2, c4_g3, c4_g4, c4_g5, c4_g6, c4_g7, c4_g8, c4_g9, c4_g10, c4_g11, c4_g12, c4_g13, c4_g14, c4_c, c15_g1, c15_g0, c15_g2, c15_g3, c15_g4, c15_g5, c15_g6, c15_g7, c15_g8, c15_c, c16_at, c17_at, c18_at, c19_at, c20_at, c21_at, c22_at, c23_g1, c23_g0, c23_g2, c23_g3, c23_g4, c23_g5, c23_g6, c23_g7, c23_g8, c23_c, c24_at, c25_at, c26_at, c27_at, c28_at, c29_at, c30_at, c8_at, c9_at, c10_at, c11_at, c12_at, c13_at, c14_at, c192_at, c193_at, c194_at, c188_at, q1_g2, q191_g0, q191_g1, q191_g2, q191_g3, q191_g4, q191_g5, q191_g6, q191_g7, q191_g8, q187_g0, q187_g1, q187_g2, m_thr, q196_g27, e2, m_in0, h0]
    exact ⟨_, rfl, rfl⟩
  · by_cases h : k < n
    · have e3 : zlI 216 (qH g (qT V) X) 0 205 (Int32.ofNat k) = some (qT V 205 k) := qlI (t := 0) qk_205 (Or.inl rfl) (by omega) (by omega)
      have e4 : qT V 205 k = V 192 k := by rw [qT_n (by omega)]; exact (h3 k h).symm
      simp (disch := omega) only [qlit, qadd, qmul, qleT, qleF, qltT, qltF, qeqT, qeqF, qdiv, qrem, qmr, zbl0, zbl1, qzb, qzF0, qzT0, Option.bind_some, zbd_some, if_true, if_false, qneo, qneo', qlto, qltoF, qleo, qleo', qdT, qdF, decide_true, decide_false, Bool.true_and, Bool.and_true, Bool.false_and, Bool.and_false, Bool.not_true, Bool.not_false, Bool.true_or, Bool.or_true, Bool.false_or, Bool.or_false, q0_c, q0_g0, q0_g1, q0_g2, q0_g3, q0_g4, q0_g5, q0_g6, q0_g7, q0_g8, q0_g9, q0_g10, q0_g11, q0_g12, q0_g13, c4_g0, c4_g1, c4_g2, c4_g3, c4_g4, c4_g5, c4_g6, c4_g7, c4_g8, c4_g9, c4_g10, c4_g11, c4_g12, c4_g13, c4_g14, c4_c, c15_g1, c15_g0, c15_g2, c15_g3, c15_g4, c15_g5, c15_g6, c15_g7, c15_g8, c15_c, c16_at, c17_at, c18_at, c19_at, c20_at, c21_at, c22_at, c23_g1, c23_g0, c23_g2, c23_g3, c23_g4, c23_g5, c23_g6, c23_g7, c23_g8, c23_c, c24_at, c25_at, c26_at, c27_at, c28_at, c29_at, c30_at, c8_at, c9_at, c10_at, c11_at, c12_at, c13_at, c14_at, c192_at, c193_at, c194_at, c188_at, q1_g2, q191_g0, q191_g1, q191_g2, q191_g3, q191_g4, q191_g5, q191_g6, q191_g7, q191_g8, q187_g0, q187_g1, q187_g2, m_thr, q196_g27, q196_g26, h1, e2, m_in0, qrg_k, e3, e4]
      exact ⟨_, rfl, rfl⟩
    · simp (disch := omega) only [qlit, qadd, qmul, qleT, qleF, qltT, qltF, qeqT, qeqF, qdiv, qrem, qmr, zbl0, zbl1, qzb, qzF0, qzT0, Option.bind_some, zbd_some, if_true, if_false, qneo, qneo', qlto, qltoF, qleo, qleo', qdT, qdF, decide_true, decide_false, Bool.true_and, Bool.and_true, Bool.false_and, Bool.and_false, Bool.not_true, Bool.not_false, Bool.true_or, Bool.or_true, Bool.false_or, Bool.or_false, q0_c, q0_g0, q0_g1, q0_g2, q0_g3, q0_g4, q0_g5, q0_g6, q0_g7, q0_g8, q0_g9, q0_g10, q0_g11, q0_g12, q0_g13, c4_g0, c4_g1, c4_g2, c4_g3, c4_g4, c4_g5, c4_g6, c4_g7, c4_g8, c4_g9, c4_g10, c4_g11, c4_g12, c4_g13, c4_g14, c4_c, c15_g1, c15_g0, c15_g2, c15_g3, c15_g4, c15_g5, c15_g6, c15_g7, c15_g8, c15_c, c16_at, c17_at, c18_at, c19_at, c20_at, c21_at, c22_at, c23_g1, c23_g0, c23_g2, c23_g3, c23_g4, c23_g5, c23_g6, c23_g7, c23_g8, c23_c, c24_at, c25_at, c26_at, c27_at, c28_at, c29_at, c30_at, c8_at, c9_at, c10_at, c11_at, c12_at, c13_at, c14_at, c192_at, c193_at, c194_at, c188_at, q1_g2, q191_g0, q191_g1, q191_g2, q191_g3, q191_g4, q191_g5, q191_g6, q191_g7, q191_g8, q187_g0, q187_g1, q187_g2, m_thr, q196_g27, q196_g26, h1, e2, m_in0, qrg_k]
      exact ⟨_, rfl, rfl⟩

theorem tq_coverBy_0 (h1 : V 191 2 = Int32.ofNat 0) (h2 : V 196 27 = qo none) (p : Int32) : ∃ r, fX11_coverBy N 216 (qH g V X) 0 p = some r ∧ fX12_coverBy N 216 (qH g V X) 196 p = some (qH g (qT V) X, r) := by
  unfold fX11_coverBy fX12_coverBy
  have e2 : qT V 196 27 = qo none := by rw [qT_j (by omega)]; exact h2
  rcases qarg p with h | ⟨k, hk, rfl⟩
  · rw [if_pos h]
    simp (disch := omega) only [qlit, qadd, qmul, qleT, qleF, qltT, qltF, qeqT, qeqF, qdiv, qrem, qmr, zbl0, zbl1, qzb, qzF0, qzT0, Option.bind_some, zbd_some, if_true, if_false, qneo, qneo', qlto, qltoF, qleo, qleo', qdT, qdF, decide_true, decide_false, Bool.true_and, Bool.and_true, Bool.false_and, Bool.and_false, Bool.not_true, Bool.not_false, Bool.true_or, Bool.or_true, Bool.false_or, Bool.or_false, q0_c, q0_g0, q0_g1, q0_g2, q0_g3, q0_g4, q0_g5, q0_g6, q0_g7, q0_g8, q0_g9, q0_g10, q0_g11, q0_g12, q0_g13, c4_g0, c4_g1, c4_g2, c4_g3, c4_g4, c4_g5, c4_g6, c4_g7, c4_g8, c4_g9, c4_g10, c4_g11, c4_g12, c4_g13, c4_g14, c4_c, c15_g1, c15_g0, c15_g2, c15_g3, c15_g4, c15_g5, c15_g6, c15_g7, c15_g8, c15_c, c16_at, c17_at, c18_at, c19_at, c20_at, c21_at, c22_at, c23_g1, c23_g0, c23_g2, c23_g3, c23_g4, c23_g5, c23_g6, c23_g7, c23_g8, c23_c, c24_at, c25_at, c26_at, c27_at, c28_at, c29_at, c30_at, c8_at, c9_at, c10_at, c11_at, c12_at, c13_at, c14_at, c192_at, c193_at, c194_at, c188_at, q1_g2, q191_g0, q191_g1, q191_g2, q191_g3, q191_g4, q191_g5, q191_g6, q191_g7, q191_g8, q187_g0, q187_g1, q187_g2, m_thr, q196_g27, e2, m_inM]
    exact ⟨_, rfl, rfl⟩
  · simp (disch := omega) only [qlit, qadd, qmul, qleT, qleF, qltT, qltF, qeqT, qeqF, qdiv, qrem, qmr, zbl0, zbl1, qzb, qzF0, qzT0, Option.bind_some, zbd_some, if_true, if_false, qneo, qneo', qlto, qltoF, qleo, qleo', qdT, qdF, decide_true, decide_false, Bool.true_and, Bool.and_true, Bool.false_and, Bool.and_false, Bool.not_true, Bool.not_false, Bool.true_or, Bool.or_true, Bool.false_or, Bool.or_false, q0_c, q0_g0, q0_g1, q0_g2, q0_g3, q0_g4, q0_g5, q0_g6, q0_g7, q0_g8, q0_g9, q0_g10, q0_g11, q0_g12, q0_g13, c4_g0, c4_g1, c4_g2, c4_g3, c4_g4, c4_g5, c4_g6, c4_g7, c4_g8, c4_g9, c4_g10, c4_g11, c4_g12, c4_g13, c4_g14, c4_c, c15_g1, c15_g0, c15_g2, c15_g3, c15_g4, c15_g5, c15_g6, c15_g7, c15_g8, c15_c, c16_at, c17_at, c18_at, c19_at, c20_at, c21_at, c22_at, c23_g1, c23_g0, c23_g2, c23_g3, c23_g4, c23_g5, c23_g6, c23_g7, c23_g8, c23_c, c24_at, c25_at, c26_at, c27_at, c28_at, c29_at, c30_at, c8_at, c9_at, c10_at, c11_at, c12_at, c13_at, c14_at, c192_at, c193_at, c194_at, c188_at, q1_g2, q191_g0, q191_g1, q191_g2, q191_g3, q191_g4, q191_g5, q191_g6, q191_g7, q191_g8, q187_g0, q187_g1, q187_g2, m_thr, q196_g27, h1, e2, m_inM]
    exact ⟨_, rfl, rfl⟩

theorem tq_fitsAt_n {n : Nat} (hn : n ≤ 36) (h1 : V 187 1 = Int32.ofNat n) (h2 : V 196 32 = Int32.ofNat n) (h3 : ∀ i, i < n → V 188 i = V 206 i) (p : Int32) : ∃ r, fX11_fitsAt N 216 (qH g V X) 0 p = some r ∧ fX12_fitsAt N 216 (qH g V X) 196 p = some (qH g (qT V) X, r) := by
  unfold fX11_fitsAt fX12_fitsAt
  have e2 : qT V 196 32 = Int32.ofNat n := by rw [qT_j (by omega)]; exact h2
  rcases qarg p with h | ⟨k, hk, rfl⟩
  · have h0 := qrg_n (a := 0) (b := n) h
    rw [if_pos h]
    simp (disch := omega) only [qlit, qadd, qmul, qleT, qleF, qltT, qltF, qeqT, qeqF, qdiv, qrem, qmr, zbl0, zbl1, qzb, qzF0, qzT0, Option.bind_some, zbd_some, if_true, if_false, qneo, qneo', qlto, qltoF, qleo, qleo', qdT, qdF, decide_true, decide_false, Bool.true_and, Bool.and_true, Bool.false_and, Bool.and_false, Bool.not_true, Bool.not_false, Bool.true_or, Bool.or_true, Bool.false_or, Bool.or_false, q0_c, q0_g0, q0_g1, q0_g2, q0_g3, q0_g4, q0_g5, q0_g6, q0_g7, q0_g8, q0_g9, q0_g10, q0_g11, q0_g12, q0_g13, c4_g0, c4_g1, c4_g2, c4_g3, c4_g4, c4_g5, c4_g6, c4_g7, c4_g8, c4_g9, c4_g10, c4_g11, c4_g12, c4_g13, c4_g14, c4_c, c15_g1, c15_g0, c15_g2, c15_g3, c15_g4, c15_g5, c15_g6, c15_g7, c15_g8, c15_c, c16_at, c17_at, c18_at, c19_at, c20_at, c21_at, c22_at, c23_g1, c23_g0, c23_g2, c23_g3, c23_g4, c23_g5, c23_g6, c23_g7, c23_g8, c23_c, c24_at, c25_at, c26_at, c27_at, c28_at, c29_at, c30_at, c8_at, c9_at, c10_at, c11_at, c12_at, c13_at, c14_at, c192_at, c193_at, c194_at, c188_at, q1_g2, q191_g0, q191_g1, q191_g2, q191_g3, q191_g4, q191_g5, q191_g6, q191_g7, q191_g8, q187_g0, q187_g1, q187_g2, m_thr, q196_g32, e2, m_in0, h0]
    exact ⟨_, rfl, rfl⟩
  · by_cases h : k < n
    · have e3 : zlI 216 (qH g (qT V) X) 0 206 (Int32.ofNat k) = some (qT V 206 k) := qlI (t := 0) qk_206 (Or.inl rfl) (by omega) (by omega)
      have e4 : qT V 206 k = V 188 k := by rw [qT_n (by omega)]; exact (h3 k h).symm
      simp (disch := omega) only [qlit, qadd, qmul, qleT, qleF, qltT, qltF, qeqT, qeqF, qdiv, qrem, qmr, zbl0, zbl1, qzb, qzF0, qzT0, Option.bind_some, zbd_some, if_true, if_false, qneo, qneo', qlto, qltoF, qleo, qleo', qdT, qdF, decide_true, decide_false, Bool.true_and, Bool.and_true, Bool.false_and, Bool.and_false, Bool.not_true, Bool.not_false, Bool.true_or, Bool.or_true, Bool.false_or, Bool.or_false, q0_c, q0_g0, q0_g1, q0_g2, q0_g3, q0_g4, q0_g5, q0_g6, q0_g7, q0_g8, q0_g9, q0_g10, q0_g11, q0_g12, q0_g13, c4_g0, c4_g1, c4_g2, c4_g3, c4_g4, c4_g5, c4_g6, c4_g7, c4_g8, c4_g9, c4_g10, c4_g11, c4_g12, c4_g13, c4_g14, c4_c, c15_g1, c15_g0, c15_g2, c15_g3, c15_g4, c15_g5, c15_g6, c15_g7, c15_g8, c15_c, c16_at, c17_at, c18_at, c19_at, c20_at, c21_at, c22_at, c23_g1, c23_g0, c23_g2, c23_g3, c23_g4, c23_g5, c23_g6, c23_g7, c23_g8, c23_c, c24_at, c25_at, c26_at, c27_at, c28_at, c29_at, c30_at, c8_at, c9_at, c10_at, c11_at, c12_at, c13_at, c14_at, c192_at, c193_at, c194_at, c188_at, q1_g2, q191_g0, q191_g1, q191_g2, q191_g3, q191_g4, q191_g5, q191_g6, q191_g7, q191_g8, q187_g0, q187_g1, q187_g2, m_thr, q196_g32, q196_g30, h1, e2, m_in0, qrg_k, e3, e4]
      exact ⟨_, rfl, rfl⟩
    · simp (disch := omega) only [qlit, qadd, qmul, qleT, qleF, qltT, qltF, qeqT, qeqF, qdiv, qrem, qmr, zbl0, zbl1, qzb, qzF0, qzT0, Option.bind_some, zbd_some, if_true, if_false, qneo, qneo', qlto, qltoF, qleo, qleo', qdT, qdF, decide_true, decide_false, Bool.true_and, Bool.and_true, Bool.false_and, Bool.and_false, Bool.not_true, Bool.not_false, Bool.true_or, Bool.or_true, Bool.false_or, Bool.or_false, q0_c, q0_g0, q0_g1, q0_g2, q0_g3, q0_g4, q0_g5, q0_g6, q0_g7, q0_g8, q0_g9, q0_g10, q0_g11, q0_g12, q0_g13, c4_g0, c4_g1, c4_g2, c4_g3, c4_g4, c4_g5, c4_g6, c4_g7, c4_g8, c4_g9, c4_g10, c4_g11, c4_g12, c4_g13, c4_g14, c4_c, c15_g1, c15_g0, c15_g2, c15_g3, c15_g4, c15_g5, c15_g6, c15_g7, c15_g8, c15_c, c16_at, c17_at, c18_at, c19_at, c20_at, c21_at, c22_at, c23_g1, c23_g0, c23_g2, c23_g3, c23_g4, c23_g5, c23_g6, c23_g7, c23_g8, c23_c, c24_at, c25_at, c26_at, c27_at, c28_at, c29_at, c30_at, c8_at, c9_at, c10_at, c11_at, c12_at, c13_at, c14_at, c192_at, c193_at, c194_at, c188_at, q1_g2, q191_g0, q191_g1, q191_g2, q191_g3, q191_g4, q191_g5, q191_g6, q191_g7, q191_g8, q187_g0, q187_g1, q187_g2, m_thr, q196_g32, q196_g30, h1, e2, m_in0, qrg_k]
      exact ⟨_, rfl, rfl⟩

theorem tq_fitsAt_0 (h1 : V 187 1 = Int32.ofNat 0) (h2 : V 196 32 = qo none) (p : Int32) : ∃ r, fX11_fitsAt N 216 (qH g V X) 0 p = some r ∧ fX12_fitsAt N 216 (qH g V X) 196 p = some (qH g (qT V) X, r) := by
  unfold fX11_fitsAt fX12_fitsAt
  have e2 : qT V 196 32 = qo none := by rw [qT_j (by omega)]; exact h2
  rcases qarg p with h | ⟨k, hk, rfl⟩
  · rw [if_pos h]
    simp (disch := omega) only [qlit, qadd, qmul, qleT, qleF, qltT, qltF, qeqT, qeqF, qdiv, qrem, qmr, zbl0, zbl1, qzb, qzF0, qzT0, Option.bind_some, zbd_some, if_true, if_false, qneo, qneo', qlto, qltoF, qleo, qleo', qdT, qdF, decide_true, decide_false, Bool.true_and, Bool.and_true, Bool.false_and, Bool.and_false, Bool.not_true, Bool.not_false, Bool.true_or, Bool.or_true, Bool.false_or, Bool.or_false, q0_c, q0_g0, q0_g1, q0_g2, q0_g3, q0_g4, q0_g5, q0_g6, q0_g7, q0_g8, q0_g9, q0_g10, q0_g11, q0_g12, q0_g13, c4_g0, c4_g1, c4_g2, c4_g3, c4_g4, c4_g5, c4_g6, c4_g7, c4_g8, c4_g9, c4_g10, c4_g11, c4_g12, c4_g13, c4_g14, c4_c, c15_g1, c15_g0, c15_g2, c15_g3, c15_g4, c15_g5, c15_g6, c15_g7, c15_g8, c15_c, c16_at, c17_at, c18_at, c19_at, c20_at, c21_at, c22_at, c23_g1, c23_g0, c23_g2, c23_g3, c23_g4, c23_g5, c23_g6, c23_g7, c23_g8, c23_c, c24_at, c25_at, c26_at, c27_at, c28_at, c29_at, c30_at, c8_at, c9_at, c10_at, c11_at, c12_at, c13_at, c14_at, c192_at, c193_at, c194_at, c188_at, q1_g2, q191_g0, q191_g1, q191_g2, q191_g3, q191_g4, q191_g5, q191_g6, q191_g7, q191_g8, q187_g0, q187_g1, q187_g2, m_thr, q196_g32, e2, m_inM]
    exact ⟨_, rfl, rfl⟩
  · simp (disch := omega) only [qlit, qadd, qmul, qleT, qleF, qltT, qltF, qeqT, qeqF, qdiv, qrem, qmr, zbl0, zbl1, qzb, qzF0, qzT0, Option.bind_some, zbd_some, if_true, if_false, qneo, qneo', qlto, qltoF, qleo, qleo', qdT, qdF, decide_true, decide_false, Bool.true_and, Bool.and_true, Bool.false_and, Bool.and_false, Bool.not_true, Bool.not_false, Bool.true_or, Bool.or_true, Bool.false_or, Bool.or_false, q0_c, q0_g0, q0_g1, q0_g2, q0_g3, q0_g4, q0_g5, q0_g6, q0_g7, q0_g8, q0_g9, q0_g10, q0_g11, q0_g12, q0_g13, c4_g0, c4_g1, c4_g2, c4_g3, c4_g4, c4_g5, c4_g6, c4_g7, c4_g8, c4_g9, c4_g10, c4_g11, c4_g12, c4_g13, c4_g14, c4_c, c15_g1, c15_g0, c15_g2, c15_g3, c15_g4, c15_g5, c15_g6, c15_g7, c15_g8, c15_c, c16_at, c17_at, c18_at, c19_at, c20_at, c21_at, c22_at, c23_g1, c23_g0, c23_g2, c23_g3, c23_g4, c23_g5, c23_g6, c23_g7, c23_g8, c23_c, c24_at, c25_at, c26_at, c27_at, c28_at, c29_at, c30_at, c8_at, c9_at, c10_at, c11_at, c12_at, c13_at, c14_at, c192_at, c193_at, c194_at, c188_at, q1_g2, q191_g0, q191_g1, q191_g2, q191_g3, q191_g4, q191_g5, q191_g6, q191_g7, q191_g8, q187_g0, q187_g1, q187_g2, m_thr, q196_g32, h1, e2, m_inM]
    exact ⟨_, rfl, rfl⟩

theorem tq_byteAt_n {n : Nat} (hn : n ≤ 40) (h1 : V 191 6 = Int32.ofNat n) (h2 : V 196 35 = Int32.ofNat n) (h3 : ∀ i, i < n → V 193 i = V 208 i) (p : Int32) : ∃ r, fX11_byteAt N 216 (qH g V X) 0 p = some r ∧ fX12_byteAt N 216 (qH g V X) 196 p = some (qH g (qT V) X, r) := by
  unfold fX11_byteAt fX12_byteAt
  have e2 : qT V 196 35 = Int32.ofNat n := by rw [qT_j (by omega)]; exact h2
  rcases qarg p with h | ⟨k, hk, rfl⟩
  · have h0 := qrg_n (a := 0) (b := n) h
    rw [if_pos h]
    simp (disch := omega) only [qlit, qadd, qmul, qleT, qleF, qltT, qltF, qeqT, qeqF, qdiv, qrem, qmr, zbl0, zbl1, qzb, qzF0, qzT0, Option.bind_some, zbd_some, if_true, if_false, qneo, qneo', qlto, qltoF, qleo, qleo', qdT, qdF, decide_true, decide_false, Bool.true_and, Bool.and_true, Bool.false_and, Bool.and_false, Bool.not_true, Bool.not_false, Bool.true_or, Bool.or_true, Bool.false_or, Bool.or_false, q0_c, q0_g0, q0_g1, q0_g2, q0_g3, q0_g4, q0_g5, q0_g6, q0_g7, q0_g8, q0_g9, q0_g10, q0_g11, q0_g12, q0_g13, c4_g0, c4_g1, c4_g2, c4_g3, c4_g4, c4_g5, c4_g6, c4_g7, c4_g8, c4_g9, c4_g10, c4_g11, c4_g12, c4_g13, c4_g14, c4_c, c15_g1, c15_g0, c15_g2, c15_g3, c15_g4, c15_g5, c15_g6, c15_g7, c15_g8, c15_c, c16_at, c17_at, c18_at, c19_at, c20_at, c21_at, c22_at, c23_g1, c23_g0, c23_g2, c23_g3, c23_g4, c23_g5, c23_g6, c23_g7, c23_g8, c23_c, c24_at, c25_at, c26_at, c27_at, c28_at, c29_at, c30_at, c8_at, c9_at, c10_at, c11_at, c12_at, c13_at, c14_at, c192_at, c193_at, c194_at, c188_at, q1_g2, q191_g0, q191_g1, q191_g2, q191_g3, q191_g4, q191_g5, q191_g6, q191_g7, q191_g8, q187_g0, q187_g1, q187_g2, m_thr, q196_g35, e2, m_in0, h0]
    exact ⟨_, rfl, rfl⟩
  · by_cases h : k < n
    · have e3 : zlI 216 (qH g (qT V) X) 2 208 (Int32.ofNat k) = some (qT V 208 k) := qlI (t := 2) qk_208 (Or.inr (Or.inl rfl)) (by omega) (by omega)
      have e4 : qT V 208 k = V 193 k := by rw [qT_n (by omega)]; exact (h3 k h).symm
      simp (disch := omega) only [qlit, qadd, qmul, qleT, qleF, qltT, qltF, qeqT, qeqF, qdiv, qrem, qmr, zbl0, zbl1, qzb, qzF0, qzT0, Option.bind_some, zbd_some, if_true, if_false, qneo, qneo', qlto, qltoF, qleo, qleo', qdT, qdF, decide_true, decide_false, Bool.true_and, Bool.and_true, Bool.false_and, Bool.and_false, Bool.not_true, Bool.not_false, Bool.true_or, Bool.or_true, Bool.false_or, Bool.or_false, q0_c, q0_g0, q0_g1, q0_g2, q0_g3, q0_g4, q0_g5, q0_g6, q0_g7, q0_g8, q0_g9, q0_g10, q0_g11, q0_g12, q0_g13, c4_g0, c4_g1, c4_g2, c4_g3, c4_g4, c4_g5, c4_g6, c4_g7, c4_g8, c4_g9, c4_g10, c4_g11, c4_g12, c4_g13, c4_g14, c4_c, c15_g1, c15_g0, c15_g2, c15_g3, c15_g4, c15_g5, c15_g6, c15_g7, c15_g8, c15_c, c16_at, c17_at, c18_at, c19_at, c20_at, c21_at, c22_at, c23_g1, c23_g0, c23_g2, c23_g3, c23_g4, c23_g5, c23_g6, c23_g7, c23_g8, c23_c, c24_at, c25_at, c26_at, c27_at, c28_at, c29_at, c30_at, c8_at, c9_at, c10_at, c11_at, c12_at, c13_at, c14_at, c192_at, c193_at, c194_at, c188_at, q1_g2, q191_g0, q191_g1, q191_g2, q191_g3, q191_g4, q191_g5, q191_g6, q191_g7, q191_g8, q187_g0, q187_g1, q187_g2, m_thr, q196_g35, q196_g34, h1, e2, m_in0, qrg_k, e3, e4]
      exact ⟨_, rfl, rfl⟩
    · simp (disch := omega) only [qlit, qadd, qmul, qleT, qleF, qltT, qltF, qeqT, qeqF, qdiv, qrem, qmr, zbl0, zbl1, qzb, qzF0, qzT0, Option.bind_some, zbd_some, if_true, if_false, qneo, qneo', qlto, qltoF, qleo, qleo', qdT, qdF, decide_true, decide_false, Bool.true_and, Bool.and_true, Bool.false_and, Bool.and_false, Bool.not_true, Bool.not_false, Bool.true_or, Bool.or_true, Bool.false_or, Bool.or_false, q0_c, q0_g0, q0_g1, q0_g2, q0_g3, q0_g4, q0_g5, q0_g6, q0_g7, q0_g8, q0_g9, q0_g10, q0_g11, q0_g12, q0_g13, c4_g0, c4_g1, c4_g2, c4_g3, c4_g4, c4_g5, c4_g6, c4_g7, c4_g8, c4_g9, c4_g10, c4_g11, c4_g12, c4_g13, c4_g14, c4_c, c15_g1, c15_g0, c15_g2, c15_g3, c15_g4, c15_g5, c15_g6, c15_g7, c15_g8, c15_c, c16_at, c17_at, c18_at, c19_at, c20_at, c21_at, c22_at, c23_g1, c23_g0, c23_g2, c23_g3, c23_g4, c23_g5, c23_g6, c23_g7, c23_g8, c23_c, c24_at, c25_at, c26_at, c27_at, c28_at, c29_at, c30_at, c8_at, c9_at, c10_at, c11_at, c12_at, c13_at, c14_at, c192_at, c193_at, c194_at, c188_at, q1_g2, q191_g0, q191_g1, q191_g2, q191_g3, q191_g4, q191_g5, q191_g6, q191_g7, q191_g8, q187_g0, q187_g1, q187_g2, m_thr, q196_g35, q196_g34, h1, e2, m_in0, qrg_k]
      exact ⟨_, rfl, rfl⟩

theorem s_19 (hN : 3000 ≤ N) {f : zF} (hI : Inv f) (p1 : Int32) : ∃ f2, zlc19 N 216 f p1 = some f2 ∧ Inv f2 := by
  obtain ⟨g, V, X, s, rfl, hg, hJ⟩ := hI
  obtain ⟨⟨⟨hW, hD, hG, h9⟩, hWL, hR, hL, hS, hM, hNs, hNm⟩, hU, hR2⟩ := id hJ
  obtain ⟨jt, jw, jg, ji0, ji1, jc, jf, jb, jx, jl, jd⟩ := id hR2
  unfold zlc19
  rcases jc with ⟨a1, a2⟩ | ⟨n, a0, a1, a2, a3⟩
  · obtain ⟨r, h1, h2⟩ := tq_coverBy_0 (N := N) (g := g) (X := X) a1 a2 p1
    exact qstep hg hJ h1 h2
  · obtain ⟨r, h1, h2⟩ := tq_coverBy_n (N := N) (g := g) (X := X) a0 a1 a2 a3 p1
    exact qstep hg hJ h1 h2

theorem s_25 (hN : 3000 ≤ N) {f : zF} (hI : Inv f) (p1 : Int32) : ∃ f2, zlc25 N 216 f p1 = some f2 ∧ Inv f2 := by
  obtain ⟨g, V, X, s, rfl, hg, hJ⟩ := hI
  obtain ⟨⟨⟨hW, hD, hG, h9⟩, hWL, hR, hL, hS, hM, hNs, hNm⟩, hU, hR2⟩ := id hJ
  obtain ⟨jt, jw, jg, ji0, ji1, jc, jf, jb, jx, jl, jd⟩ := id hR2
  unfold zlc25
  rcases jx with ⟨a1, a2, a3⟩ | ⟨n, a0, a00, a1, a2, a3, a4⟩
  · obtain ⟨r, h1, h2⟩ := tq_fitsAt_0 (N := N) (g := g) (X := X) a1 a3 p1
    exact qstep hg hJ h1 h2
  · obtain ⟨r, h1, h2⟩ := tq_fitsAt_n (N := N) (g := g) (X := X) a00 a1 a2 a4 p1
    exact qstep hg hJ h1 h2

theorem s_31 (hN : 3000 ≤ N) {f : zF} (hI : Inv f) (p1 : Int32) : ∃ f2, zlc31 N 216 f p1 = some f2 ∧ Inv f2 := by
  obtain ⟨g, V, X, s, rfl, hg, hJ⟩ := hI
  obtain ⟨⟨⟨hW, hD, hG, h9⟩, hWL, hR, hL, hS, hM, hNs, hNm⟩, hU, hR2⟩ := id hJ
  obtain ⟨jt, jw, jg, ji0, ji1, jc, jf, jb, jx, jl, jd⟩ := id hR2
  unfold zlc31
  obtain ⟨n, a0, a1, a2, a3⟩ := jl
  obtain ⟨r, h1, h2⟩ := tq_byteAt_n (N := N) (g := g) (X := X) a0 a1 a2 a3 p1
  exact qstep hg hJ h1 h2

theorem s_3 (hN : 3000 ≤ N) {f : zF} (hI : Inv f) : ∃ f2, zlc3 N 216 f = some f2 ∧ Inv f2 := by
  obtain ⟨g, V, X, s, rfl, hg, hJ⟩ := hI
  obtain ⟨⟨⟨hW, hD, hG, h9⟩, hWL, hR, hL, hS, hM, hNs, hNm⟩, hU, hR2⟩ := id hJ
  obtain ⟨jt, jw, jg, ji0, ji1, jc, jf, jb, jx, jl, jd⟩ := id hR2
  unfold zlc3
  refine qstep (r := V 191 0) hg hJ ?_ ?_
  · unfold fX11_fault
    simp (disch := omega) only [qlit, qadd, qmul, qleT, qleF, qltT, qltF, qeqT, qeqF, qdiv, qrem, qmr, zbl0, zbl1, qzb, qzF0, qzT0, Option.bind_some, zbd_some, if_true, if_false, qneo, qneo', qlto, qltoF, qleo, qleo', qdT, qdF, decide_true, decide_false, Bool.true_and, Bool.and_true, Bool.false_and, Bool.and_false, Bool.not_true, Bool.not_false, Bool.true_or, Bool.or_true, Bool.false_or, Bool.or_false, q0_c, q0_g0, q0_g1, q0_g2, q0_g3, q0_g4, q0_g5, q0_g6, q0_g7, q0_g8, q0_g9, q0_g10, q0_g11, q0_g12, q0_g13, c4_g0, c4_g1, c4_g2, c4_g3, c4_g4, c4_g5, c4_g6, c4_g7, c4_g8, c4_g9, c4_g10, c4_g11, c4_g12, c4_g13, c4_g14, c4_c, c15_g1, c15_g0, c15_g2, c15_g3, c15_g4, c15_g5, c15_g6, c15_g7, c15_g8, c15_c, c16_at, c17_at, c18_at, c19_at, c20_at, c21_at, c22_at, c23_g1, c23_g0, c23_g2, c23_g3, c23_g4, c23_g5, c23_g6, c23_g7, c23_g8, c23_c, c24_at, c25_at, c26_at, c27_at, c28_at, c29_at, c30_at, c8_at, c9_at, c10_at, c11_at, c12_at, c13_at, c14_at, c192_at, c193_at, c194_at, c188_at, q1_g2, q191_g0, q191_g1, q191_g2, q191_g3, q191_g4, q191_g5, q191_g6, q191_g7, q191_g8, q187_g0, q187_g1, q187_g2]
  · have e : qT V 196 15 = V 191 0 := by rw [qT_j (by omega)]; exact jg.symm
    unfold fX12_fault
    simp (disch := omega) only [qlit, qadd, qmul, qleT, qleF, qltT, qltF, qeqT, qeqF, qdiv, qrem, qmr, zbl0, zbl1, qzb, qzF0, qzT0, Option.bind_some, zbd_some, if_true, if_false, qneo, qneo', qlto, qltoF, qleo, qleo', qdT, qdF, decide_true, decide_false, Bool.true_and, Bool.and_true, Bool.false_and, Bool.and_false, Bool.not_true, Bool.not_false, Bool.true_or, Bool.or_true, Bool.false_or, Bool.or_false, m_thr, q196_g15, e]

theorem s_21 (hN : 3000 ≤ N) {f : zF} (hI : Inv f) : ∃ f2, zlc21 N 216 f = some f2 ∧ Inv f2 := by
  obtain ⟨g, V, X, s, rfl, hg, hJ⟩ := hI
  obtain ⟨⟨⟨hW, hD, hG, h9⟩, hWL, hR, hL, hS, hM, hNs, hNm⟩, hU, hR2⟩ := id hJ
  obtain ⟨jt, jw, jg, ji0, ji1, jc, jf, jb, jx, jl, jd⟩ := id hR2
  unfold zlc21
  have e1 : qT V 196 28 = V 196 28 := qT_j (by omega)
  have e2 : qT V 196 29 = V 196 29 := qT_j (by omega)
  refine qstep (r := V 191 3) hg hJ ?_ ?_
  · unfold fX11_fewest
    simp (disch := omega) only [qlit, qadd, qmul, qleT, qleF, qltT, qltF, qeqT, qeqF, qdiv, qrem, qmr, zbl0, zbl1, qzb, qzF0, qzT0, Option.bind_some, zbd_some, if_true, if_false, qneo, qneo', qlto, qltoF, qleo, qleo', qdT, qdF, decide_true, decide_false, Bool.true_and, Bool.and_true, Bool.false_and, Bool.and_false, Bool.not_true, Bool.not_false, Bool.true_or, Bool.or_true, Bool.false_or, Bool.or_false, q0_c, q0_g0, q0_g1, q0_g2, q0_g3, q0_g4, q0_g5, q0_g6, q0_g7, q0_g8, q0_g9, q0_g10, q0_g11, q0_g12, q0_g13, c4_g0, c4_g1, c4_g2, c4_g3, c4_g4, c4_g5, c4_g6, c4_g7, c4_g8, c4_g9, c4_g10, c4_g11, c4_g12, c4_g13, c4_g14, c4_c, c15_g1, c15_g0, c15_g2, c15_g3, c15_g4, c15_g5, c15_g6, c15_g7, c15_g8, c15_c, c16_at, c17_at, c18_at, c19_at, c20_at, c21_at, c22_at, c23_g1, c23_g0, c23_g2, c23_g3, c23_g4, c23_g5, c23_g6, c23_g7, c23_g8, c23_c, c24_at, c25_at, c26_at, c27_at, c28_at, c29_at, c30_at, c8_at, c9_at, c10_at, c11_at, c12_at, c13_at, c14_at, c192_at, c193_at, c194_at, c188_at, q1_g2, q191_g0, q191_g1, q191_g2, q191_g3, q191_g4, q191_g5, q191_g6, q191_g7, q191_g8, q187_g0, q187_g1, q187_g2]
  · unfold fX12_fewest
    rcases jf with ⟨a1, a2⟩ | ⟨a1, a2⟩
    · simp (disch := omega) only [qlit, qadd, qmul, qleT, qleF, qltT, qltF, qeqT, qeqF, qdiv, qrem, qmr, zbl0, zbl1, qzb, qzF0, qzT0, Option.bind_some, zbd_some, if_true, if_false, qneo, qneo', qlto, qltoF, qleo, qleo', qdT, qdF, decide_true, decide_false, Bool.true_and, Bool.and_true, Bool.false_and, Bool.and_false, Bool.not_true, Bool.not_false, Bool.true_or, Bool.or_true, Bool.false_or, Bool.or_false, m_thr, q196_g28, q196_g29, e1, e2, a1, a2]
    · simp (disch := omega) only [qlit, qadd, qmul, qleT, qleF, qltT, qltF, qeqT, qeqF, qdiv, qrem, qmr, zbl0, zbl1, qzb, qzF0, qzT0, Option.bind_some, zbd_some, if_true, if_false, qneo, qneo', qlto, qltoF, qleo, qleo', qdT, qdF, decide_true, decide_false, Bool.true_and, Bool.and_true, Bool.false_and, Bool.and_false, Bool.not_true, Bool.not_false, Bool.true_or, Bool.or_true, Bool.false_or, Bool.or_false, m_thr, q196_g28, q196_g29, e1, e2, a1, a2]

theorem s_23 (hN : 3000 ≤ N) {f : zF} (hI : Inv f) : ∃ f2, zlc23 N 216 f = some f2 ∧ Inv f2 := by
  obtain ⟨g, V, X, s, rfl, hg, hJ⟩ := hI
  obtain ⟨⟨⟨hW, hD, hG, h9⟩, hWL, hR, hL, hS, hM, hNs, hNm⟩, hU, hR2⟩ := id hJ
  obtain ⟨jt, jw, jg, ji0, ji1, jc, jf, jb, jx, jl, jd⟩ := id hR2
  unfold zlc23
  have e1 : qT V 196 24 = V 196 24 := qT_j (by omega)
  have e2 : qT V 196 25 = V 196 25 := qT_j (by omega)
  refine qstep (r := V 191 4) hg hJ ?_ ?_
  · unfold fX11_blinded
    simp (disch := omega) only [qlit, qadd, qmul, qleT, qleF, qltT, qltF, qeqT, qeqF, qdiv, qrem, qmr, zbl0, zbl1, qzb, qzF0, qzT0, Option.bind_some, zbd_some, if_true, if_false, qneo, qneo', qlto, qltoF, qleo, qleo', qdT, qdF, decide_true, decide_false, Bool.true_and, Bool.and_true, Bool.false_and, Bool.and_false, Bool.not_true, Bool.not_false, Bool.true_or, Bool.or_true, Bool.false_or, Bool.or_false, q0_c, q0_g0, q0_g1, q0_g2, q0_g3, q0_g4, q0_g5, q0_g6, q0_g7, q0_g8, q0_g9, q0_g10, q0_g11, q0_g12, q0_g13, c4_g0, c4_g1, c4_g2, c4_g3, c4_g4, c4_g5, c4_g6, c4_g7, c4_g8, c4_g9, c4_g10, c4_g11, c4_g12, c4_g13, c4_g14, c4_c, c15_g1, c15_g0, c15_g2, c15_g3, c15_g4, c15_g5, c15_g6, c15_g7, c15_g8, c15_c, c16_at, c17_at, c18_at, c19_at, c20_at, c21_at, c22_at, c23_g1, c23_g0, c23_g2, c23_g3, c23_g4, c23_g5, c23_g6, c23_g7, c23_g8, c23_c, c24_at, c25_at, c26_at, c27_at, c28_at, c29_at, c30_at, c8_at, c9_at, c10_at, c11_at, c12_at, c13_at, c14_at, c192_at, c193_at, c194_at, c188_at, q1_g2, q191_g0, q191_g1, q191_g2, q191_g3, q191_g4, q191_g5, q191_g6, q191_g7, q191_g8, q187_g0, q187_g1, q187_g2]
  · unfold fX12_blinded
    rcases jb with ⟨a1, a2⟩ | ⟨a1, a2⟩
    · simp (disch := omega) only [qlit, qadd, qmul, qleT, qleF, qltT, qltF, qeqT, qeqF, qdiv, qrem, qmr, zbl0, zbl1, qzb, qzF0, qzT0, Option.bind_some, zbd_some, if_true, if_false, qneo, qneo', qlto, qltoF, qleo, qleo', qdT, qdF, decide_true, decide_false, Bool.true_and, Bool.and_true, Bool.false_and, Bool.and_false, Bool.not_true, Bool.not_false, Bool.true_or, Bool.or_true, Bool.false_or, Bool.or_false, m_thr, q196_g24, q196_g25, e1, e2, a1, a2]
    · simp (disch := omega) only [qlit, qadd, qmul, qleT, qleF, qltT, qltF, qeqT, qeqF, qdiv, qrem, qmr, zbl0, zbl1, qzb, qzF0, qzT0, Option.bind_some, zbd_some, if_true, if_false, qneo, qneo', qlto, qltoF, qleo, qleo', qdT, qdF, decide_true, decide_false, Bool.true_and, Bool.and_true, Bool.false_and, Bool.and_false, Bool.not_true, Bool.not_false, Bool.true_or, Bool.or_true, Bool.false_or, Bool.or_false, m_thr, q196_g24, q196_g25, e1, e2, a1, a2]

theorem s_26 (hN : 3000 ≤ N) {f : zF} (hI : Inv f) : ∃ f2, zlc26 N 216 f = some f2 ∧ Inv f2 := by
  obtain ⟨g, V, X, s, rfl, hg, hJ⟩ := hI
  obtain ⟨⟨⟨hW, hD, hG, h9⟩, hWL, hR, hL, hS, hM, hNs, hNm⟩, hU, hR2⟩ := id hJ
  obtain ⟨jt, jw, jg, ji0, ji1, jc, jf, jb, jx, jl, jd⟩ := id hR2
  unfold zlc26
  have e1 : qT V 196 32 = V 196 32 := qT_j (by omega)
  have e2 : qT V 196 33 = V 196 33 := qT_j (by omega)
  refine qstep (r := V 187 2) hg hJ ?_ ?_
  · unfold fX11_ask
    simp (disch := omega) only [qlit, qadd, qmul, qleT, qleF, qltT, qltF, qeqT, qeqF, qdiv, qrem, qmr, zbl0, zbl1, qzb, qzF0, qzT0, Option.bind_some, zbd_some, if_true, if_false, qneo, qneo', qlto, qltoF, qleo, qleo', qdT, qdF, decide_true, decide_false, Bool.true_and, Bool.and_true, Bool.false_and, Bool.and_false, Bool.not_true, Bool.not_false, Bool.true_or, Bool.or_true, Bool.false_or, Bool.or_false, q0_c, q0_g0, q0_g1, q0_g2, q0_g3, q0_g4, q0_g5, q0_g6, q0_g7, q0_g8, q0_g9, q0_g10, q0_g11, q0_g12, q0_g13, c4_g0, c4_g1, c4_g2, c4_g3, c4_g4, c4_g5, c4_g6, c4_g7, c4_g8, c4_g9, c4_g10, c4_g11, c4_g12, c4_g13, c4_g14, c4_c, c15_g1, c15_g0, c15_g2, c15_g3, c15_g4, c15_g5, c15_g6, c15_g7, c15_g8, c15_c, c16_at, c17_at, c18_at, c19_at, c20_at, c21_at, c22_at, c23_g1, c23_g0, c23_g2, c23_g3, c23_g4, c23_g5, c23_g6, c23_g7, c23_g8, c23_c, c24_at, c25_at, c26_at, c27_at, c28_at, c29_at, c30_at, c8_at, c9_at, c10_at, c11_at, c12_at, c13_at, c14_at, c192_at, c193_at, c194_at, c188_at, q1_g2, q191_g0, q191_g1, q191_g2, q191_g3, q191_g4, q191_g5, q191_g6, q191_g7, q191_g8, q187_g0, q187_g1, q187_g2]
  · unfold fX12_ask
    rcases jx with ⟨a1, a2, a3⟩ | ⟨n, a0, a00, a1, a2, a3, a4⟩
    · simp (disch := omega) only [qlit, qadd, qmul, qleT, qleF, qltT, qltF, qeqT, qeqF, qdiv, qrem, qmr, zbl0, zbl1, qzb, qzF0, qzT0, Option.bind_some, zbd_some, if_true, if_false, qneo, qneo', qlto, qltoF, qleo, qleo', qdT, qdF, decide_true, decide_false, Bool.true_and, Bool.and_true, Bool.false_and, Bool.and_false, Bool.not_true, Bool.not_false, Bool.true_or, Bool.or_true, Bool.false_or, Bool.or_false, m_thr, q196_g32, e1, a3, a2]
    · simp (disch := omega) only [qlit, qadd, qmul, qleT, qleF, qltT, qltF, qeqT, qeqF, qdiv, qrem, qmr, zbl0, zbl1, qzb, qzF0, qzT0, Option.bind_some, zbd_some, if_true, if_false, qneo, qneo', qlto, qltoF, qleo, qleo', qdT, qdF, decide_true, decide_false, Bool.true_and, Bool.and_true, Bool.false_and, Bool.and_false, Bool.not_true, Bool.not_false, Bool.true_or, Bool.or_true, Bool.false_or, Bool.or_false, m_thr, q196_g32, q196_g33, e1, e2, a2, a3]

theorem s_35 (hN : 3000 ≤ N) {f : zF} (hI : Inv f) (p1 : Int32) : ∃ f2, zlc35 N 216 f p1 = some f2 ∧ Inv f2 := by
  obtain ⟨g, V, X, s, rfl, hg, hJ⟩ := hI
  obtain ⟨⟨⟨hW, hD, hG, h9⟩, hWL, hR, hL, hS, hM, hNs, hNm⟩, hU, hR2⟩ := id hJ
  obtain ⟨jt, jw, jg, ji0, ji1, jc, jf, jb, jx, jl, jd⟩ := id hR2
  unfold zlc35
  have e1 : qT V 196 39 = V 196 39 := qT_j (by omega)
  have hL : ∃ r, fX11_told N 216 (qH g V X) 0 p1 = some r ∧ fX12_told N 216 (qH g V X) 196 p1 = some (qH g (qT V) X, r) := by
    unfold fX11_told fX12_told
    rcases jd with ⟨a1, a2⟩ | ⟨a1, a2, a3⟩
    · rcases qarg p1 with h | ⟨k, hk, rfl⟩
      · rw [if_pos h]
        simp (disch := omega) only [qlit, qadd, qmul, qleT, qleF, qltT, qltF, qeqT, qeqF, qdiv, qrem, qmr, zbl0, zbl1, qzb, qzF0, qzT0, Option.bind_some, zbd_some, if_true, if_false, qneo, qneo', qlto, qltoF, qleo, qleo', qdT, qdF, decide_true, decide_false, Bool.true_and, Bool.and_true, Bool.false_and, Bool.and_false, Bool.not_true, Bool.not_false, Bool.true_or, Bool.or_true, Bool.false_or, Bool.or_false, m_thr, q196_g39, e1, a2]
        exact ⟨_, rfl, rfl⟩
      · by_cases h : 3 < k
        · simp (disch := omega) only [qlit, qadd, qmul, qleT, qleF, qltT, qltF, qeqT, qeqF, qdiv, qrem, qmr, zbl0, zbl1, qzb, qzF0, qzT0, Option.bind_some, zbd_some, if_true, if_false, qneo, qneo', qlto, qltoF, qleo, qleo', qdT, qdF, decide_true, decide_false, Bool.true_and, Bool.and_true, Bool.false_and, Bool.and_false, Bool.not_true, Bool.not_false, Bool.true_or, Bool.or_true, Bool.false_or, Bool.or_false, q0_c, q0_g0, q0_g1, q0_g2, q0_g3, q0_g4, q0_g5, q0_g6, q0_g7, q0_g8, q0_g9, q0_g10, q0_g11, q0_g12, q0_g13, c4_g0, c4_g1, c4_g2, c4_g3, c4_g4, c4_g5, c4_g6, c4_g7, c4_g8, c4_g9, c4_g10, c4_g11, c4_g12, c4_g13, c4_g14, c4_c, c15_g1, c15_g0, c15_g2, c15_g3, c15_g4, c15_g5, c15_g6, c15_g7, c15_g8, c15_c, c16_at, c17_at, c18_at, c19_at, c20_at, c21_at, c22_at, c23_g1, c23_g0, c23_g2, c23_g3, c23_g4, c23_g5, c23_g6, c23_g7, c23_g8, c23_c, c24_at, c25_at, c26_at, c27_at, c28_at, c29_at, c30_at, c8_at, c9_at, c10_at, c11_at, c12_at, c13_at, c14_at, c192_at, c193_at, c194_at, c188_at, q1_g2, q191_g0, q191_g1, q191_g2, q191_g3, q191_g4, q191_g5, q191_g6, q191_g7, q191_g8, q187_g0, q187_g1, q187_g2, m_thr, q196_g39, e1, a2]
          exact ⟨_, rfl, rfl⟩
        · simp (disch := omega) only [qlit, qadd, qmul, qleT, qleF, qltT, qltF, qeqT, qeqF, qdiv, qrem, qmr, zbl0, zbl1, qzb, qzF0, qzT0, Option.bind_some, zbd_some, if_true, if_false, qneo, qneo', qlto, qltoF, qleo, qleo', qdT, qdF, decide_true, decide_false, Bool.true_and, Bool.and_true, Bool.false_and, Bool.and_false, Bool.not_true, Bool.not_false, Bool.true_or, Bool.or_true, Bool.false_or, Bool.or_false, q0_c, q0_g0, q0_g1, q0_g2, q0_g3, q0_g4, q0_g5, q0_g6, q0_g7, q0_g8, q0_g9, q0_g10, q0_g11, q0_g12, q0_g13, c4_g0, c4_g1, c4_g2, c4_g3, c4_g4, c4_g5, c4_g6, c4_g7, c4_g8, c4_g9, c4_g10, c4_g11, c4_g12, c4_g13, c4_g14, c4_c, c15_g1, c15_g0, c15_g2, c15_g3, c15_g4, c15_g5, c15_g6, c15_g7, c15_g8, c15_c, c16_at, c17_at, c18_at, c19_at, c20_at, c21_at, c22_at, c23_g1, c23_g0, c23_g2, c23_g3, c23_g4, c23_g5, c23_g6, c23_g7, c23_g8, c23_c, c24_at, c25_at, c26_at, c27_at, c28_at, c29_at, c30_at, c8_at, c9_at, c10_at, c11_at, c12_at, c13_at, c14_at, c192_at, c193_at, c194_at, c188_at, q1_g2, q191_g0, q191_g1, q191_g2, q191_g3, q191_g4, q191_g5, q191_g6, q191_g7, q191_g8, q187_g0, q187_g1, q187_g2, m_thr, q196_g39, e1, a1, a2]
          exact ⟨_, rfl, rfl⟩
    · rcases qarg p1 with h | ⟨k, hk, rfl⟩
      · have h0 := qrg_n (a := 0) (b := 3 + 1) h
        rw [if_pos h]
        simp (disch := omega) only [qlit, qadd, qmul, qleT, qleF, qltT, qltF, qeqT, qeqF, qdiv, qrem, qmr, zbl0, zbl1, qzb, qzF0, qzT0, Option.bind_some, zbd_some, if_true, if_false, qneo, qneo', qlto, qltoF, qleo, qleo', qdT, qdF, decide_true, decide_false, Bool.true_and, Bool.and_true, Bool.false_and, Bool.and_false, Bool.not_true, Bool.not_false, Bool.true_or, Bool.or_true, Bool.false_or, Bool.or_false, m_thr, q196_g39, e1, a2, m_in, h0]
        exact ⟨_, rfl, rfl⟩
      · by_cases h : 3 < k
        · simp (disch := omega) only [qlit, qadd, qmul, qleT, qleF, qltT, qltF, qeqT, qeqF, qdiv, qrem, qmr, zbl0, zbl1, qzb, qzF0, qzT0, Option.bind_some, zbd_some, if_true, if_false, qneo, qneo', qlto, qltoF, qleo, qleo', qdT, qdF, decide_true, decide_false, Bool.true_and, Bool.and_true, Bool.false_and, Bool.and_false, Bool.not_true, Bool.not_false, Bool.true_or, Bool.or_true, Bool.false_or, Bool.or_false, q0_c, q0_g0, q0_g1, q0_g2, q0_g3, q0_g4, q0_g5, q0_g6, q0_g7, q0_g8, q0_g9, q0_g10, q0_g11, q0_g12, q0_g13, c4_g0, c4_g1, c4_g2, c4_g3, c4_g4, c4_g5, c4_g6, c4_g7, c4_g8, c4_g9, c4_g10, c4_g11, c4_g12, c4_g13, c4_g14, c4_c, c15_g1, c15_g0, c15_g2, c15_g3, c15_g4, c15_g5, c15_g6, c15_g7, c15_g8, c15_c, c16_at, c17_at, c18_at, c19_at, c20_at, c21_at, c22_at, c23_g1, c23_g0, c23_g2, c23_g3, c23_g4, c23_g5, c23_g6, c23_g7, c23_g8, c23_c, c24_at, c25_at, c26_at, c27_at, c28_at, c29_at, c30_at, c8_at, c9_at, c10_at, c11_at, c12_at, c13_at, c14_at, c192_at, c193_at, c194_at, c188_at, q1_g2, q191_g0, q191_g1, q191_g2, q191_g3, q191_g4, q191_g5, q191_g6, q191_g7, q191_g8, q187_g0, q187_g1, q187_g2, m_thr, q196_g39, e1, a2, m_in, qrg_k]
          exact ⟨_, rfl, rfl⟩
        · have e3 : zlI 216 (qH g (qT V) X) 0 209 (Int32.ofNat k) = some (qT V 209 k) := qlI (t := 0) qk_209 (Or.inl rfl) (by omega) (by omega)
          have e4 : qT V 209 k = V 194 k := by rw [qT_n (by omega)]; exact (a3 k (by omega)).symm
          simp (disch := omega) only [qlit, qadd, qmul, qleT, qleF, qltT, qltF, qeqT, qeqF, qdiv, qrem, qmr, zbl0, zbl1, qzb, qzF0, qzT0, Option.bind_some, zbd_some, if_true, if_false, qneo, qneo', qlto, qltoF, qleo, qleo', qdT, qdF, decide_true, decide_false, Bool.true_and, Bool.and_true, Bool.false_and, Bool.and_false, Bool.not_true, Bool.not_false, Bool.true_or, Bool.or_true, Bool.false_or, Bool.or_false, q0_c, q0_g0, q0_g1, q0_g2, q0_g3, q0_g4, q0_g5, q0_g6, q0_g7, q0_g8, q0_g9, q0_g10, q0_g11, q0_g12, q0_g13, c4_g0, c4_g1, c4_g2, c4_g3, c4_g4, c4_g5, c4_g6, c4_g7, c4_g8, c4_g9, c4_g10, c4_g11, c4_g12, c4_g13, c4_g14, c4_c, c15_g1, c15_g0, c15_g2, c15_g3, c15_g4, c15_g5, c15_g6, c15_g7, c15_g8, c15_c, c16_at, c17_at, c18_at, c19_at, c20_at, c21_at, c22_at, c23_g1, c23_g0, c23_g2, c23_g3, c23_g4, c23_g5, c23_g6, c23_g7, c23_g8, c23_c, c24_at, c25_at, c26_at, c27_at, c28_at, c29_at, c30_at, c8_at, c9_at, c10_at, c11_at, c12_at, c13_at, c14_at, c192_at, c193_at, c194_at, c188_at, q1_g2, q191_g0, q191_g1, q191_g2, q191_g3, q191_g4, q191_g5, q191_g6, q191_g7, q191_g8, q187_g0, q187_g1, q187_g2, m_thr, q196_g39, q196_g38, e1, a1, a2, m_in, qrg_k, e3, e4]
          exact ⟨_, rfl, rfl⟩
  obtain ⟨r, h1, h2⟩ := hL
  exact qstep hg hJ h1 h2

theorem s_40 (hN : 3000 ≤ N) {f : zF} (hI : Inv f) (p1 : Int32) : ∃ f2, zlc40 N 216 f p1 = some f2 ∧ Inv f2 := by
  obtain ⟨g, V, X, s, rfl, hg, hJ⟩ := hI
  obtain ⟨⟨⟨hW, hD, hG, h9⟩, hWL, hR, hL, hS, hM, hNs, hNm⟩, hU, hR2⟩ := id hJ
  obtain ⟨jt, jw, jg, ji0, ji1, jc, jf, jb, jx, jl, jd⟩ := id hR2
  unfold zlc40
  obtain ⟨n, B, jt1, jt2, jt3⟩ := jt
  have e1 : qT V 196 2 = V 1 2 := by rw [qT_j (by omega), jt2, jt1.1]
  obtain ⟨f0, f1, f2, f3, f4, f8, f10, f11, f12, f13, f14⟩ := rF4 hR
  have hL : ∃ r, fX11_count N 216 (qH g V X) 0 p1 = some r ∧ fX12_count N 216 (qH g V X) 196 p1 = some (qH g (qT V) X, r) := by
    unfold fX11_count fX12_count
    by_cases k5 : p1 = Int32.ofNat 5
    · subst k5
      simp (disch := omega) only [qlit, qadd, qmul, qleT, qleF, qltT, qltF, qeqT, qeqF, qdiv, qrem, qmr, zbl0, zbl1, qzb, qzF0, qzT0, Option.bind_some, zbd_some, if_true, if_false, qneo, qneo', qlto, qltoF, qleo, qleo', qdT, qdF, decide_true, decide_false, Bool.true_and, Bool.and_true, Bool.false_and, Bool.and_false, Bool.not_true, Bool.not_false, Bool.true_or, Bool.or_true, Bool.false_or, Bool.or_false, q0_c, q0_g0, q0_g1, q0_g2, q0_g3, q0_g4, q0_g5, q0_g6, q0_g7, q0_g8, q0_g9, q0_g10, q0_g11, q0_g12, q0_g13, c4_g0, c4_g1, c4_g2, c4_g3, c4_g4, c4_g5, c4_g6, c4_g7, c4_g8, c4_g9, c4_g10, c4_g11, c4_g12, c4_g13, c4_g14, c4_c, c15_g1, c15_g0, c15_g2, c15_g3, c15_g4, c15_g5, c15_g6, c15_g7, c15_g8, c15_c, c16_at, c17_at, c18_at, c19_at, c20_at, c21_at, c22_at, c23_g1, c23_g0, c23_g2, c23_g3, c23_g4, c23_g5, c23_g6, c23_g7, c23_g8, c23_c, c24_at, c25_at, c26_at, c27_at, c28_at, c29_at, c30_at, c8_at, c9_at, c10_at, c11_at, c12_at, c13_at, c14_at, c192_at, c193_at, c194_at, c188_at, q1_g2, q191_g0, q191_g1, q191_g2, q191_g3, q191_g4, q191_g5, q191_g6, q191_g7, q191_g8, q187_g0, q187_g1, q187_g2, q1_g2, m_thr, q196_g2, e1]
      exact ⟨_, rfl, rfl⟩
    · rcases qarg p1 with h | ⟨k, hk, rfl⟩
      · have h0 := qrg_n (a := 0) (b := 4 + 1) h
        have hne : ∀ j : Nat, j < 100 → (p1 = Int32.ofNat j) = False := by
          intro j hj
          apply eq_false
          intro e
          subst e
          exact Int32.ofNat_not_neg (by omega) h
        simp (disch := omega) only [qlit, qadd, qmul, qleT, qleF, qltT, qltF, qeqT, qeqF, qdiv, qrem, qmr, zbl0, zbl1, qzb, qzF0, qzT0, Option.bind_some, zbd_some, if_true, if_false, qneo, qneo', qlto, qltoF, qleo, qleo', qdT, qdF, decide_true, decide_false, Bool.true_and, Bool.and_true, Bool.false_and, Bool.and_false, Bool.not_true, Bool.not_false, Bool.true_or, Bool.or_true, Bool.false_or, Bool.or_false, q0_c, q0_g0, q0_g1, q0_g2, q0_g3, q0_g4, q0_g5, q0_g6, q0_g7, q0_g8, q0_g9, q0_g10, q0_g11, q0_g12, q0_g13, c4_g0, c4_g1, c4_g2, c4_g3, c4_g4, c4_g5, c4_g6, c4_g7, c4_g8, c4_g9, c4_g10, c4_g11, c4_g12, c4_g13, c4_g14, c4_c, c15_g1, c15_g0, c15_g2, c15_g3, c15_g4, c15_g5, c15_g6, c15_g7, c15_g8, c15_c, c16_at, c17_at, c18_at, c19_at, c20_at, c21_at, c22_at, c23_g1, c23_g0, c23_g2, c23_g3, c23_g4, c23_g5, c23_g6, c23_g7, c23_g8, c23_c, c24_at, c25_at, c26_at, c27_at, c28_at, c29_at, c30_at, c8_at, c9_at, c10_at, c11_at, c12_at, c13_at, c14_at, c192_at, c193_at, c194_at, c188_at, q1_g2, q191_g0, q191_g1, q191_g2, q191_g3, q191_g4, q191_g5, q191_g6, q191_g7, q191_g8, q187_g0, q187_g1, q187_g2, m_thr, m_in, h0, hne]
        exact ⟨_, rfl, rfl⟩
      · have k5' : k ≠ 5 := fun e => k5 (by rw [e])
        by_cases h : k < 5
        · rcases (show k = 0 ∨ k = 1 ∨ k = 2 ∨ k = 3 ∨ k = 4 by omega) with rfl | rfl | rfl | rfl | rfl
          all_goals simp (disch := omega) only [qlit, qadd, qmul, qleT, qleF, qltT, qltF, qeqT, qeqF, qdiv, qrem, qmr, zbl0, zbl1, qzb, qzF0, qzT0, Option.bind_some, zbd_some, if_true, if_false, qneo, qneo', qlto, qltoF, qleo, qleo', qdT, qdF, decide_true, decide_false, Bool.true_and, Bool.and_true, Bool.false_and, Bool.and_false, Bool.not_true, Bool.not_false, Bool.true_or, Bool.or_true, Bool.false_or, Bool.or_false, q0_c, q0_g0, q0_g1, q0_g2, q0_g3, q0_g4, q0_g5, q0_g6, q0_g7, q0_g8, q0_g9, q0_g10, q0_g11, q0_g12, q0_g13, c4_g0, c4_g1, c4_g2, c4_g3, c4_g4, c4_g5, c4_g6, c4_g7, c4_g8, c4_g9, c4_g10, c4_g11, c4_g12, c4_g13, c4_g14, c4_c, c15_g1, c15_g0, c15_g2, c15_g3, c15_g4, c15_g5, c15_g6, c15_g7, c15_g8, c15_c, c16_at, c17_at, c18_at, c19_at, c20_at, c21_at, c22_at, c23_g1, c23_g0, c23_g2, c23_g3, c23_g4, c23_g5, c23_g6, c23_g7, c23_g8, c23_c, c24_at, c25_at, c26_at, c27_at, c28_at, c29_at, c30_at, c8_at, c9_at, c10_at, c11_at, c12_at, c13_at, c14_at, c192_at, c193_at, c194_at, c188_at, q1_g2, q191_g0, q191_g1, q191_g2, q191_g3, q191_g4, q191_g5, q191_g6, q191_g7, q191_g8, q187_g0, q187_g1, q187_g2, m_thr, m_in, qrg_k, q196_g6, m_ld hM.thr, f0, f1, f2, f3, f4]
          all_goals exact ⟨_, rfl, rfl⟩
        · simp (disch := omega) only [qlit, qadd, qmul, qleT, qleF, qltT, qltF, qeqT, qeqF, qdiv, qrem, qmr, zbl0, zbl1, qzb, qzF0, qzT0, Option.bind_some, zbd_some, if_true, if_false, qneo, qneo', qlto, qltoF, qleo, qleo', qdT, qdF, decide_true, decide_false, Bool.true_and, Bool.and_true, Bool.false_and, Bool.and_false, Bool.not_true, Bool.not_false, Bool.true_or, Bool.or_true, Bool.false_or, Bool.or_false, q0_c, q0_g0, q0_g1, q0_g2, q0_g3, q0_g4, q0_g5, q0_g6, q0_g7, q0_g8, q0_g9, q0_g10, q0_g11, q0_g12, q0_g13, c4_g0, c4_g1, c4_g2, c4_g3, c4_g4, c4_g5, c4_g6, c4_g7, c4_g8, c4_g9, c4_g10, c4_g11, c4_g12, c4_g13, c4_g14, c4_c, c15_g1, c15_g0, c15_g2, c15_g3, c15_g4, c15_g5, c15_g6, c15_g7, c15_g8, c15_c, c16_at, c17_at, c18_at, c19_at, c20_at, c21_at, c22_at, c23_g1, c23_g0, c23_g2, c23_g3, c23_g4, c23_g5, c23_g6, c23_g7, c23_g8, c23_c, c24_at, c25_at, c26_at, c27_at, c28_at, c29_at, c30_at, c8_at, c9_at, c10_at, c11_at, c12_at, c13_at, c14_at, c192_at, c193_at, c194_at, c188_at, q1_g2, q191_g0, q191_g1, q191_g2, q191_g3, q191_g4, q191_g5, q191_g6, q191_g7, q191_g8, q187_g0, q187_g1, q187_g2, m_thr, m_in, qrg_k]
          exact ⟨_, rfl, rfl⟩
  obtain ⟨r, h1, h2⟩ := hL
  exact qstep hg hJ h1 h2

end QL
