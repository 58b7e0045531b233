/-! queries: farthest, grown, figure, mean; the tape -/
section QK
variable {g : zF} {V V2 : Nat → Nat → Int32} {X : Nat → Nat → Int64} {N : Nat} {s : Nat → Nat}
theorem qoneg : (qo none < Int32.ofNat 0) = True := eq_true (by decide)
theorem l1' : (1 : Int32) = Int32.ofNat 1 := rfl
theorem l2' : (2 : Int32) = Int32.ofNat 2 := rfl
theorem l153 : (153 : Int32) = Int32.ofNat 153 := rfl
theorem c0_1 : zgR 216 (qH g V X) 11 0 1 = some 4 := q0_g1
theorem c0_2 : zgR 216 (qH g V X) 11 0 2 = some 15 := q0_g2
theorem tq_far (hN : 3000 ≤ N) (hW : sWF s) (hD : sWD s) (hR : rF V 4 s) (hS : rS V 15 s) (hM : rM V s) (hM2 : rM V2 s) (hG : sWG s) (h9 : s 139 ≤ 1000) : ∀ m i k j (o : Option Nat), (∀ b, o = some b → b < s 3) → i + m = s 3 → m < k → m < j → ∃ o2, fX11_farthest_4 N 216 (qH g V X) k 0 (qo o) (Int32.ofNat i) = some (qo o2) ∧ fX12_farthest_9 N 216 j (qH g V2 X) 196 (qo o) (Int32.ofNat i) = some (qH g V2 X, qo o2) := by
  obtain ⟨⟨w0, w0b⟩, ⟨w1, w1b⟩, w2, w3, w4, w5, w95, w113, w101, w129, w134⟩ := id hW
  obtain ⟨d139, d140, d141, d147, d159, d164, d169, dinj⟩ := id hD
  obtain ⟨f0, f1, f2, f3, f4, f8, f10, f11, f12, f13, f14⟩ := rF4 hR
  obtain ⟨r1, r16, r17, r18, r19, r20, r21, r22⟩ := rS15 hS
  intro m
  induction m with
  | zero =>
    intro i k j o ho hi hk hj
    obtain ⟨k, rfl⟩ : ∃ j, k = j + 1 := ⟨k - 1, by omega⟩
    obtain ⟨j, rfl⟩ : ∃ q, j = q + 1 := ⟨j - 1, by omega⟩
    refine ⟨o, ?_, ?_⟩
    · unfold fX11_farthest_4
      simp (disch := omega) only [qlit, qadd, qmul, qleT, qleF, qltT, qltF, qeqT, qeqF, qdiv, qrem, qmr, zbl0, zbl1, qzb, qzF0, qzT0, Option.bind_some, zbd_some, if_true, if_false, qneo, qneo', qlto, qltoF, qleo, qleo', qdT, qdF, decide_true, decide_false, Bool.true_and, Bool.and_true, Bool.false_and, Bool.and_false, Bool.not_true, Bool.not_false, Bool.true_or, Bool.or_true, Bool.false_or, Bool.or_false, q0_c, q0_g0, q0_g1, q0_g2, q0_g3, q0_g4, q0_g5, q0_g6, q0_g7, q0_g8, q0_g9, q0_g10, q0_g11, q0_g12, q0_g13, c4_g0, c4_g1, c4_g2, c4_g3, c4_g4, c4_g5, c4_g6, c4_g7, c4_g8, c4_g9, c4_g10, c4_g11, c4_g12, c4_g13, c4_g14, c4_c, c15_g1, c15_g0, c15_g2, c15_g3, c15_g4, c15_g5, c15_g6, c15_g7, c15_g8, c15_c, c16_at, c17_at, c18_at, c19_at, c20_at, c21_at, c22_at, c23_g1, c23_g0, c23_g2, c23_g3, c23_g4, c23_g5, c23_g6, c23_g7, c23_g8, c23_c, c24_at, c25_at, c26_at, c27_at, c28_at, c29_at, c30_at, c8_at, c9_at, c10_at, c11_at, c12_at, c13_at, c14_at, c192_at, c193_at, c194_at, c188_at, q1_g2, q191_g0, q191_g1, q191_g2, q191_g3, q191_g4, q191_g5, q191_g6, q191_g7, q191_g8, q187_g0, q187_g1, q187_g2, f0, f1, f2, f3, f4, f8, f10, f11, f12, f13, f14, r1, r16, r17, r18, r19, r20, r21, r22]
    · unfold fX12_farthest_9
      simp (disch := omega) only [qlit, qadd, qmul, qleT, qleF, qltT, qltF, qeqT, qeqF, qdiv, qrem, qmr, zbl0, zbl1, qzb, qzF0, qzT0, Option.bind_some, zbd_some, if_true, if_false, qneo, qneo', qlto, qltoF, qleo, qleo', qdT, qdF, decide_true, decide_false, Bool.true_and, Bool.and_true, Bool.false_and, Bool.and_false, Bool.not_true, Bool.not_false, Bool.true_or, Bool.or_true, Bool.false_or, Bool.or_false, q196_g6, m_ld hM2]
  | succ m ih =>
    intro i k j o ho hi hk hj
    obtain ⟨k, rfl⟩ : ∃ j, k = j + 1 := ⟨k - 1, by omega⟩
    obtain ⟨j, rfl⟩ : ∃ q, j = q + 1 := ⟨j - 1, by omega⟩
    have hc0 : ∀ {α : Type} (a b : α), (if Int32.ofNat (s 3) ≤ Int32.ofNat i then a else b) = b := fun a b => if_neg (by rw [qle (by omega) (by omega)]; omega)
    have ct : fX11_farthest_4 N 216 (qH g V X) (k + 1) 0 (qo o) (Int32.ofNat i) = if qo o = -1 then fX11_farthest_4 N 216 (qH g V X) k 0 (Int32.ofNat i) (Int32.ofNat i + 1) else (zgR 216 (qH g V X) 8 15 4).bind fun x4 => (fX11_at N 216 (qH g V X) x4 (Int32.ofNat i)).bind fun x5 => (zgR 216 (qH g V X) 11 0 2).bind fun x6 => (zgR 216 (qH g V X) 8 x6 4).bind fun x7 => (fX11_at N 216 (qH g V X) x7 (qo o)).bind fun x8 => if x5 ≤ x8 then fX11_farthest_4 N 216 (qH g V X) k 0 (qo o) (Int32.ofNat i + 1) else fX11_farthest_4 N 216 (qH g V X) k 0 (Int32.ofNat i) (Int32.ofNat i + 1) := by
      show ((zgR 216 (qH g V X) 11 0 1).bind fun x1 => ((zgI 216 (qH g V X) 2 x1 3).bind fun x2 => _)) = _
      rw [c0_1, Option.bind_some, c4_g3, Option.bind_some, f3, hc0, c0_2]
      rfl
    have mt : fX12_farthest_9 N 216 (j + 1) (qH g V2 X) 196 (qo o) (Int32.ofNat i) = if qo o < 0 then fX12_farthest_9 N 216 j (qH g V2 X) 196 (Int32.ofNat i) (Int32.ofNat i + 1) else (zgR 216 (qH g V2 X) 12 196 6).bind fun x4 => (zlI 216 (qH g V2 X) 0 x4 ((153 : Int32) + Int32.ofNat i)).bind fun x5 => (zgR 216 (qH g V2 X) 12 196 6).bind fun x6 => (zlI 216 (qH g V2 X) 0 x6 ((153 : Int32) + qo o)).bind fun x7 => if x5 ≤ x7 then fX12_farthest_9 N 216 j (qH g V2 X) 196 (qo o) (Int32.ofNat i + 1) else fX12_farthest_9 N 216 j (qH g V2 X) 196 (Int32.ofNat i) (Int32.ofNat i + 1) := by
      show ((zgR 216 (qH g V2 X) 12 196 6).bind fun x2 => ((zlI 216 (qH g V2 X) 0 x2 3).bind fun x3 => _)) = _
      rw [q196_g6, Option.bind_some, show (3 : Int32) = Int32.ofNat 3 from rfl, m_ld hM2 (by omega), Option.bind_some, hc0]
      rfl
    cases o with
    | none =>
      obtain ⟨o2, h1, h2⟩ := ih (i + 1) k j (some i) (fun b hb => by cases hb; omega) (by omega) (by omega) (by omega)
      rw [qo_some] at h1 h2
      refine ⟨o2, ?_, ?_⟩
      · rw [ct, if_pos (by decide), l1', qadd, h1]
      · rw [mt, if_pos (by decide), l1', qadd, h2]
    | some b =>
      have hb := ho b rfl
      have g1 := hG i (by omega)
      have g2 := hG b hb
      rw [qo_some] at ct mt
      rw [if_neg (by rw [qne1 (by omega)]; exact not_false), c15_g4, Option.bind_some, c18_at (by omega), Option.bind_some, c0_2, Option.bind_some, c15_g4, Option.bind_some, c18_at (by omega), Option.bind_some, r18 i (by omega), r18 b hb, l1', qadd] at ct
      rw [if_neg (Int32.ofNat_not_neg (by omega)), q196_g6, Option.bind_some, l153, qadd, qadd, m_ld hM2 (by omega), Option.bind_some, Option.bind_some, m_ld hM2 (by omega), Option.bind_some, l1', qadd] at mt
      rw [qo_some]
      by_cases h : s (153 + i) ≤ s (153 + b)
      · obtain ⟨o2, h1, h2⟩ := ih (i + 1) k j (some b) ho (by omega) (by omega) (by omega)
        rw [qo_some] at h1 h2
        rw [if_pos (by rw [qle (by omega) (by omega)]; exact h)] at ct mt
        exact ⟨o2, ct.trans h1, mt.trans h2⟩
      · obtain ⟨o2, h1, h2⟩ := ih (i + 1) k j (some i) (fun b hb => by cases hb; omega) (by omega) (by omega) (by omega)
        rw [qo_some] at h1 h2
        rw [if_neg (by rw [qle (by omega) (by omega)]; exact h)] at ct mt
        exact ⟨o2, ct.trans h1, mt.trans h2⟩
theorem s_28 (hN : 3000 ≤ N) {f : zF} (hI : Inv f) : ∃ f2, zlc28 N 216 f = some f2 ∧ Inv f2 := by
  obtain ⟨g, V, X, s, rfl, hg, hJ⟩ := hI
  obtain ⟨⟨⟨hW, hD, hG, h9⟩, hWL, hR, hL, hS, hM, hNs, hNm⟩, hU, hR2⟩ := id hJ
  have h3 := hW.2.2.2.1
  obtain ⟨o2, h1, h2⟩ := tq_far (g := g) (X := X) hN hW hD hR hS hM hM.thr hG h9 (s 3) 0 N N none (fun b hb => by cases hb) (by omega) (by omega) (by omega)
  unfold zlc28
  refine qstep (r := qo o2) hg hJ h1 ?_
  unfold fX12_farthest
  rw [m_thr0, Option.bind_some]
  exact h2
theorem m_firstOwner19 (hM : rM V s) (hW : sWF s) {c : Nat} (hc : c < 81) (hL : sWL s) : ∀ m i k, i + m = s 3 → m < k → fX12_firstOwner_19 N 216 (qH g V X) k 196 (Int32.ofNat c) (Int32.ofNat i) = some (qo (match qfnd (fun f => decide (s (101 + f) = c)) i m with | some f => some (s (95 + f)) | none => if s (86 + c / 9) = 0 then none else some (s (86 + c / 9) - 1))) := by
  obtain ⟨⟨w0, w0b⟩, ⟨w1, w1b⟩, w2, w3, w4, w5, w95, w113, w101, w129, w134⟩ := id hW
  have hL := hL (c / 9) (by omega)
  intro m
  induction m with
  | zero =>
    intro i k hi hk
    obtain ⟨k, rfl⟩ : ∃ j, k = j + 1 := ⟨k - 1, by omega⟩
    unfold fX12_firstOwner_19 qfnd
    by_cases h0 : s (86 + c / 9) = 0
    · simp (disch := omega) only [qlit, qadd, qmul, qleT, qleF, qltT, qltF, qeqT, qeqF, qdiv, qrem, qmr, zbl0, zbl1, qzb, qzF0, qzT0, Option.bind_some, zbd_some, if_true, if_false, qneo, qneo', qlto, qltoF, qleo, qleo', qdT, qdF, decide_true, decide_false, Bool.true_and, Bool.and_true, Bool.false_and, Bool.and_false, Bool.not_true, Bool.not_false, Bool.true_or, Bool.or_true, Bool.false_or, Bool.or_false, q196_g6, m_ld hM, h0, qsubo]
      decide
    · simp (disch := omega) only [qlit, qadd, qmul, qleT, qleF, qltT, qltF, qeqT, qeqF, qdiv, qrem, qmr, zbl0, zbl1, qzb, qzF0, qzT0, Option.bind_some, zbd_some, if_true, if_false, qneo, qneo', qlto, qltoF, qleo, qleo', qdT, qdF, decide_true, decide_false, Bool.true_and, Bool.and_true, Bool.false_and, Bool.and_false, Bool.not_true, Bool.not_false, Bool.true_or, Bool.or_true, Bool.false_or, Bool.or_false, q196_g6, m_ld hM, h0, qsub]
      rfl
  | succ m ih =>
    intro i k hi hk
    obtain ⟨k, rfl⟩ : ∃ j, k = j + 1 := ⟨k - 1, by omega⟩
    have h1 := w101 i (by omega)
    unfold fX12_firstOwner_19 qfnd
    by_cases h : s (101 + i) = c
    · rw [decide_eq_true h, if_pos rfl]
      simp (disch := omega) only [qlit, qadd, qmul, qleT, qleF, qltT, qltF, qeqT, qeqF, qdiv, qrem, qmr, zbl0, zbl1, qzb, qzF0, qzT0, Option.bind_some, zbd_some, if_true, if_false, qneo, qneo', qlto, qltoF, qleo, qleo', qdT, qdF, decide_true, decide_false, Bool.true_and, Bool.and_true, Bool.false_and, Bool.and_false, Bool.not_true, Bool.not_false, Bool.true_or, Bool.or_true, Bool.false_or, Bool.or_false, q196_g6, m_ld hM, h]
      rfl
    · rw [decide_eq_false h, if_neg (by decide)]
      simp (disch := omega) only [qlit, qadd, qmul, qleT, qleF, qltT, qltF, qeqT, qeqF, qdiv, qrem, qmr, zbl0, zbl1, qzb, qzF0, qzT0, Option.bind_some, zbd_some, if_true, if_false, qneo, qneo', qlto, qltoF, qleo, qleo', qdT, qdF, decide_true, decide_false, Bool.true_and, Bool.and_true, Bool.false_and, Bool.and_false, Bool.not_true, Bool.not_false, Bool.true_or, Bool.or_true, Bool.false_or, Bool.or_false, q196_g6, m_ld hM, ih (i + 1) k]
theorem m_firstOwner (hN : 3000 ≤ N) (hM : rM V s) (hW : sWF s) (hL : sWL s) {c : Nat} (hc : c < 81) : fX12_firstOwner N 216 (qH g V X) 196 (Int32.ofNat c) = some (qo (sFO s c)) := by
  obtain ⟨⟨w0, w0b⟩, ⟨w1, w1b⟩, w2, w3, w4, w5, w95, w113, w101, w129, w134⟩ := id hW
  have h9 : c % 9 < 9 := Nat.mod_lt _ (by decide)
  have h19 := m_firstOwner19 (g := g) (X := X) (N := N) hM hW hc hL (s 3) 0 N (by omega) (by omega)
  unfold fX12_firstOwner sFO
  by_cases h : c % 9 < s 0 ∧ c / 9 < s 1
  · rw [if_pos h]
    simp (disch := omega) only [qlit, qadd, qmul, qleT, qleF, qltT, qltF, qeqT, qeqF, qdiv, qrem, qmr, zbl0, zbl1, qzb, qzF0, qzT0, Option.bind_some, zbd_some, if_true, if_false, qneo, qneo', qlto, qltoF, qleo, qleo', qdT, qdF, decide_true, decide_false, Bool.true_and, Bool.and_true, Bool.false_and, Bool.and_false, Bool.not_true, Bool.not_false, Bool.true_or, Bool.or_true, Bool.false_or, Bool.or_false, q196_c, m_isCell hM hW, h19]
    rfl
  · rw [if_neg h]
    simp (disch := omega) only [qlit, qadd, qmul, qleT, qleF, qltT, qltF, qeqT, qeqF, qdiv, qrem, qmr, zbl0, zbl1, qzb, qzF0, qzT0, Option.bind_some, zbd_some, if_true, if_false, qneo, qneo', qlto, qltoF, qleo, qleo', qdT, qdF, decide_true, decide_false, Bool.true_and, Bool.and_true, Bool.false_and, Bool.and_false, Bool.not_true, Bool.not_false, Bool.true_or, Bool.or_true, Bool.false_or, Bool.or_false, q196_c, m_isCell hM hW, h]
theorem sFO_lt (hW : sWF s) (hL : sWL s) {c o : Nat} (hc : c < 81) (h : sFO s c = some o) : o < 4 := by
  obtain ⟨⟨w0, w0b⟩, ⟨w1, w1b⟩, w2, w3, w4, w5, w95, w113, w101, w129, w134⟩ := id hW
  have hL := hL (c / 9) (by omega)
  unfold sFO at h
  split at h
  · split at h
    · rename_i f hf
      cases h
      have := qfnd_lt hf
      have := w95 f (by omega)
      omega
    · split at h
      · cases h
      · cases h; omega
  · cases h
theorem m_firstLandOf4 (hN : 3000 ≤ N) (hM : rM V s) (hW : sWF s) (hL : sWL s) {o : Nat} (ho : o < 1000) : ∀ m i k, i + m = 81 → m < k → fX12_firstLandOf_4 N 216 (qH g V X) k 196 (Int32.ofNat o) (Int32.ofNat (qsum (fun c => if sFO s c = some o then 1 else 0) i)) (Int32.ofNat i) = some (Int32.ofNat (sFL s o)) := by
  intro m
  induction m with
  | zero =>
    intro i k hi hk
    obtain ⟨k, rfl⟩ : ∃ j, k = j + 1 := ⟨k - 1, by omega⟩
    unfold fX12_firstLandOf_4 sFL
    have e : i = 81 := by omega
    simp (disch := omega) only [qlit, qadd, qmul, qleT, qleF, qltT, qltF, qeqT, qeqF, qdiv, qrem, qmr, zbl0, zbl1, qzb, qzF0, qzT0, Option.bind_some, zbd_some, if_true, if_false, qneo, qneo', qlto, qltoF, qleo, qleo', qdT, qdF, decide_true, decide_false, Bool.true_and, Bool.and_true, Bool.false_and, Bool.and_false, Bool.not_true, Bool.not_false, Bool.true_or, Bool.or_true, Bool.false_or, Bool.or_false, e]
  | succ m ih =>
    intro i k hi hk
    obtain ⟨k, rfl⟩ : ∃ j, k = j + 1 := ⟨k - 1, by omega⟩
    have hih := ih (i + 1) k (by omega) (by omega)
    have hq : qsum (fun c => if sFO s c = some o then 1 else 0) (i + 1) = qsum (fun c => if sFO s c = some o then 1 else 0) i + (if sFO s i = some o then 1 else 0) := rfl
    rw [hq] at hih
    unfold fX12_firstLandOf_4 fX12_firstLandOf_25
    cases h : sFO s i with
    | none =>
      rw [h, if_neg (by simp)] at hih
      simp (disch := omega) only [qlit, qadd, qmul, qleT, qleF, qltT, qltF, qeqT, qeqF, qdiv, qrem, qmr, zbl0, zbl1, qzb, qzF0, qzT0, Option.bind_some, zbd_some, if_true, if_false, qneo, qneo', qlto, qltoF, qleo, qleo', qdT, qdF, decide_true, decide_false, Bool.true_and, Bool.and_true, Bool.false_and, Bool.and_false, Bool.not_true, Bool.not_false, Bool.true_or, Bool.or_true, Bool.false_or, Bool.or_false, q196_c, m_firstOwner hN hM hW hL, h]
      exact hih
    | some x =>
      have hx := sFO_lt hW hL (by omega) h
      rw [h] at hih
      by_cases e : x = o
      · rw [if_pos (by rw [e])] at hih
        simp (disch := omega) only [qlit, qadd, qmul, qleT, qleF, qltT, qltF, qeqT, qeqF, qdiv, qrem, qmr, zbl0, zbl1, qzb, qzF0, qzT0, Option.bind_some, zbd_some, if_true, if_false, qneo, qneo', qlto, qltoF, qleo, qleo', qdT, qdF, decide_true, decide_false, Bool.true_and, Bool.and_true, Bool.false_and, Bool.and_false, Bool.not_true, Bool.not_false, Bool.true_or, Bool.or_true, Bool.false_or, Bool.or_false, q196_c, m_firstOwner hN hM hW hL, h, qo_some, e]
        exact hih
      · rw [if_neg (by simpa using e)] at hih
        simp (disch := omega) only [qlit, qadd, qmul, qleT, qleF, qltT, qltF, qeqT, qeqF, qdiv, qrem, qmr, zbl0, zbl1, qzb, qzF0, qzT0, Option.bind_some, zbd_some, if_true, if_false, qneo, qneo', qlto, qltoF, qleo, qleo', qdT, qdF, decide_true, decide_false, Bool.true_and, Bool.and_true, Bool.false_and, Bool.and_false, Bool.not_true, Bool.not_false, Bool.true_or, Bool.or_true, Bool.false_or, Bool.or_false, q196_c, m_firstOwner hN hM hW hL, h, qo_some, e]
        exact hih
theorem m_firstLandOf (hN : 3000 ≤ N) (hM : rM V s) (hW : sWF s) (hL : sWL s) {o : Nat} (ho : o < 1000) : fX12_firstLandOf N 216 (qH g V X) 196 (Int32.ofNat o) = some (Int32.ofNat (sFL s o)) := by
  unfold fX12_firstLandOf
  exact m_firstLandOf4 hN hM hW hL ho 81 0 N (by omega) (by omega)
theorem qsum_le {P : Nat → Nat} (h : ∀ i, P i ≤ 1) : ∀ n, qsum P n ≤ n := by
  intro n
  induction n with
  | zero => exact Nat.le_refl 0
  | succ n ih => have := h n; unfold qsum; omega
theorem sLand_le {o : Nat} : sLand s o ≤ 81 := qsum_le (fun i => by split <;> omega) 81
theorem sFL_le {o : Nat} : sFL s o ≤ 81 := qsum_le (fun i => by split <;> omega) 81
theorem qfar {a b : Nat} (ha : a ≤ 81) (hb : b ≤ 81) : ((-1000000 : Int32) < Int32.ofNat a - Int32.ofNat b) = True := by
  apply eq_true
  rw [Int32.lt_iff_toInt_lt, Int32.toInt_sub, Int32.toInt_ofNat_of_lt (by omega), Int32.toInt_ofNat_of_lt (by omega), Int.bmod_eq_of_le (by omega) (by omega)]
  have : (-1000000 : Int32).toInt = -1000000 := by decide
  omega
theorem q32le (x y : Int32) : (x ≤ y) = ¬ (y < x) := propext ⟨fun h => Int32.not_lt.mpr h, fun h => Int32.not_lt.mp h⟩
theorem tq_grown (hN : 3000 ≤ N) (hW : sWF s) (hD : sWD s) (hR : rF V 4 s) (hS : rS V 15 s) (hM : rM V s) (hM2 : rM V2 s) (hL : rL V 4 s) (hWL : sWL s) : ∀ m i k j (o : Option Nat) (M M2 : Int32), (∀ b, o = some b → b < s 2 ∧ M = M2) → (o = none → M2 = -1000000) → i + m = s 2 → m < k → m < j → ∃ o2, fX11_grown_6 N 216 (qH g V X) k 0 (qo o) M (Int32.ofNat i) = some (qo o2) ∧ fX12_grown_13 N 216 j (qH g V2 X) 196 (qo o) M2 (Int32.ofNat i) = some (qH g V2 X, qo o2) := by
  obtain ⟨⟨w0, w0b⟩, ⟨w1, w1b⟩, w2, w3, w4, w5, w95, w113, w101, w129, w134⟩ := id hW
  obtain ⟨d139, d140, d141, d147, d159, d164, d169, dinj⟩ := id hD
  obtain ⟨f0, f1, f2, f3, f4, f8, f10, f11, f12, f13, f14⟩ := rF4 hR
  obtain ⟨r1, r16, r17, r18, r19, r20, r21, r22⟩ := rS15 hS
  intro m
  induction m with
  | zero =>
    intro i k j o M M2 ho hn hi hk hj
    obtain ⟨k, rfl⟩ : ∃ j, k = j + 1 := ⟨k - 1, by omega⟩
    obtain ⟨j, rfl⟩ : ∃ q, j = q + 1 := ⟨j - 1, by omega⟩
    unfold fX11_grown_6 fX12_grown_13
    simp (disch := omega) only [qlit, qadd, qmul, qleT, qleF, qltT, qltF, qeqT, qeqF, qdiv, qrem, qmr, zbl0, zbl1, qzb, qzF0, qzT0, Option.bind_some, zbd_some, if_true, if_false, qneo, qneo', qlto, qltoF, qleo, qleo', qdT, qdF, decide_true, decide_false, Bool.true_and, Bool.and_true, Bool.false_and, Bool.and_false, Bool.not_true, Bool.not_false, Bool.true_or, Bool.or_true, Bool.false_or, Bool.or_false, q0_c, q0_g0, q0_g1, q0_g2, q0_g3, q0_g4, q0_g5, q0_g6, q0_g7, q0_g8, q0_g9, q0_g10, q0_g11, q0_g12, q0_g13, c4_g0, c4_g1, c4_g2, c4_g3, c4_g4, c4_g5, c4_g6, c4_g7, c4_g8, c4_g9, c4_g10, c4_g11, c4_g12, c4_g13, c4_g14, c4_c, c15_g1, c15_g0, c15_g2, c15_g3, c15_g4, c15_g5, c15_g6, c15_g7, c15_g8, c15_c, c16_at, c17_at, c18_at, c19_at, c20_at, c21_at, c22_at, c23_g1, c23_g0, c23_g2, c23_g3, c23_g4, c23_g5, c23_g6, c23_g7, c23_g8, c23_c, c24_at, c25_at, c26_at, c27_at, c28_at, c29_at, c30_at, c8_at, c9_at, c10_at, c11_at, c12_at, c13_at, c14_at, c192_at, c193_at, c194_at, c188_at, q1_g2, q191_g0, q191_g1, q191_g2, q191_g3, q191_g4, q191_g5, q191_g6, q191_g7, q191_g8, q187_g0, q187_g1, q187_g2, f0, f1, f2, f3, f4, f8, f10, f11, f12, f13, f14, r1, r16, r17, r18, r19, r20, r21, r22, q196_g6, m_ld hM2]
    exact ⟨o, rfl, rfl⟩
  | succ m ih =>
    intro i k j o M M2 ho hn hi hk hj
    obtain ⟨k, rfl⟩ : ∃ j, k = j + 1 := ⟨k - 1, by omega⟩
    obtain ⟨j, rfl⟩ : ∃ q, j = q + 1 := ⟨j - 1, by omega⟩
    have l1 := sLand_le (s := s) (o := i)
    have l2 := sFL_le (s := s) (o := i)
    have e9 : V 9 i = Int32.ofNat (sFL s i) := hL i (by omega)
    have e10 : fX11_at N 216 (qH g V X) 9 (Int32.ofNat i) = some (V 9 i) := e_at (qF_k5 qF_4) (by omega) (by omega)
    obtain ⟨o2, h1, h2⟩ := ih (i + 1) k j (some i) (Int32.ofNat (sLand s i) - Int32.ofNat (sFL s i)) _ (fun b hb => by cases hb; exact ⟨by omega, rfl⟩) (fun h => by cases h) (by omega) (by omega) (by omega)
    rw [qo_some] at h1 h2
    unfold fX11_grown_6 fX12_grown_13 fX11_grown_50 fX11_grown_55 fX12_grown_50
    cases o with
    | none =>
      rw [hn rfl]
      rw [c0_1, Option.bind_some, c4_g2, Option.bind_some, f2, if_neg (by rw [qle (by omega) (by omega)]; omega), c0_2, Option.bind_some, c15_c, Option.bind_some, e_landOf hN qS_15 hS hD (by omega), Option.bind_some, Option.bind_some, c4_g9, Option.bind_some, e10, e9, Option.bind_some, if_pos qo_none]
      rw [q196_g6, Option.bind_some, l2', m_ld hM2 (by omega), Option.bind_some, if_neg (by rw [qle (by omega) (by omega)]; omega), q196_c, Option.bind_some, m_landOf hN hM2 hD (by omega), Option.bind_some, Option.bind_some, m_firstLandOf hN hM2 hW hWL (by omega), Option.bind_some, if_pos (by rw [qfar l1 l2]; trivial)]
      exact ⟨o2, by rw [l1', qadd]; exact h1, by rw [l1', qadd]; exact h2⟩
    | some b =>
      obtain ⟨hb, hMM⟩ := ho b rfl
      subst hMM
      rw [qo_some]
      rw [c0_1, Option.bind_some, c4_g2, Option.bind_some, f2, if_neg (by rw [qle (by omega) (by omega)]; omega), c0_2, Option.bind_some, c15_c, Option.bind_some, e_landOf hN qS_15 hS hD (by omega), Option.bind_some, Option.bind_some, c4_g9, Option.bind_some, e10, e9, Option.bind_some, if_neg (by rw [qne1 (by omega)]; exact not_false)]
      have hc0 : ∀ {α : Type} (a b : α), (if Int32.ofNat (s 2) ≤ Int32.ofNat i then a else b) = b := fun a b => if_neg (by rw [qle (by omega) (by omega)]; omega)
      rw [q196_g6, Option.bind_some, l2', m_ld hM2 (by omega), Option.bind_some, hc0, q196_c, Option.bind_some, m_landOf hN hM2 hD (by omega), Option.bind_some, Option.bind_some, m_firstLandOf hN hM2 hW hWL (by omega), Option.bind_some, l1', qadd]
      by_cases h : M < Int32.ofNat (sLand s i) - Int32.ofNat (sFL s i)
      · rw [if_neg (by rw [q32le]; exact fun h2 => h2 h), if_pos h]
        exact ⟨o2, h1, h2⟩
      · rw [if_pos (by rw [q32le]; exact h), if_neg h]
        exact ih (i + 1) k j (some b) M M ho (fun h => by cases h) (by omega) (by omega) (by omega)
theorem s_27 (hN : 3000 ≤ N) {f : zF} (hI : Inv f) : ∃ f2, zlc27 N 216 f = some f2 ∧ Inv f2 := by
  obtain ⟨g, V, X, s, rfl, hg, hJ⟩ := hI
  obtain ⟨⟨⟨hW, hD, hG, h9⟩, hWL, hR, hL, hS, hM, hNs, hNm⟩, hU, hR2⟩ := id hJ
  have h2 := hW.2.2.1
  obtain ⟨o2, h1, h2⟩ := tq_grown (g := g) (X := X) hN hW hD hR hS hM hM.thr hL hWL (s 2) 0 N N none 0 (-1000000) (fun b hb => by cases hb) (fun _ => rfl) (by omega) (by omega) (by omega)
  unfold zlc27
  refine qstep (r := qo o2) hg hJ h1 ?_
  unfold fX12_grown
  rw [m_thr0, Option.bind_some]
  exact h2

end QK
