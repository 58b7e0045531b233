/-! acts undone: what is held and kept -/
def gQ (g : zF) : Prop := ∃ h, g 66 = .inl (4, 9, .inr (.inr (.inr (.inr h)))) ∧ ∀ i, i < 9 → h i = some (67 + 8 * i)
/-- how often a figure went: no more than hours -/
def sWG (s : Nat → Nat) : Prop := ∀ f, f < s 3 → s (153 + f) ≤ s 139
theorem sGoes_n {s : Nat → Nat} {f j : Nat} (h1 : j ≠ 141 + f) (h2 : j ≠ 147 + f) (h3 : j ≠ 153 + f) (h4 : ∀ t, t < 81 → j ≠ 169 + t) (hW : sWF s) : sGoes s f j = s j := by
  unfold sGoes
  split
  · rename_i hc
    unfold sCan at hc
    cases hb : sBeside s (s (141 + f)) (s (147 + f)) with
    | none => rw [hb] at hc; cases hc
    | some t =>
      have ht := sBeside_lt hW hb
      simp only [Option.getD_some]
      rw [sU_n h3, sU_n (h4 t ht), sU_n h1]
  · exact sU_n h2
theorem sGoes_g {s : Nat → Nat} {f : Nat} (hW : sWF s) (hf : f < s 3) : sGoes s f (153 + f) ≤ s (153 + f) + 1 := by
  obtain ⟨-, -, -, w3, -⟩ := id hW
  unfold sGoes
  split
  · rw [sU_s]; omega
  · rw [sU_n (by omega)]; omega
theorem sHourL_g : ∀ (n i : Nat) {s : Nat → Nat}, sWF s → sWD s → i + n = s 3 → (∀ f, f < s 3 → s (153 + f) ≤ s 139 + (if f < i then 1 else 0)) → ∀ f, f < s 3 → sHourL s i n (153 + f) ≤ s 139 + 1 := by
  intro n
  induction n with
  | zero =>
    intro i s hW hD hi h f hf
    have := h f hf
    unfold sHourL
    split at this <;> omega
  | succ n ih =>
    intro i s hW hD hi h f hf
    obtain ⟨h1, h2, h3, h4⟩ := sTurn_wd hW hD (f := i) (by omega)
    obtain ⟨-, -, -, w3, -⟩ := id hW
    have e3 := h2 3 (by omega)
    have key : ∀ j, j < s 3 → sTurn s i (153 + j) ≤ s 139 + (if j < i + 1 then 1 else 0) := by
      intro j hj
      have h0 := h j hj
      unfold sTurn
      split
      · by_cases e : j = i
        · subst e
          have := sGoes_g hW hj
          rw [if_neg (by omega)] at h0
          rw [if_pos (by omega)]
          omega
        · rw [sGoes_n (by omega) (by omega) (by omega) (fun t ht => by omega) hW]
          split at h0 <;> split <;> omega
      · split at h0 <;> split <;> omega
    have := ih (i + 1) (h2.wf hW) h1 (by omega) (by rw [e3, h3]; exact key) f (by omega)
    rw [h3] at this
    exact this
theorem sHour_wg {s : Nat → Nat} (hW : sWF s) (hD : sWD s) (hG : sWG s) : sWG (sHour s) := by
  obtain ⟨g1, g2, g3, g4⟩ := sHourL_wd (s 3) 0 hW hD (by omega)
  obtain ⟨-, -, -, w3, -⟩ := id hW
  intro f hf
  have e3 : sHour s 3 = s 3 := by unfold sHour; rw [sU_n (by omega), g2 3 (by omega)]
  rw [e3] at hf
  have h1 : sHour s 139 = s 139 + 1 := by unfold sHour; rw [sU_s, g3]
  have h2 : sHour s (153 + f) = sHourL s 0 (s 3) (153 + f) := by unfold sHour; exact sU_n (by omega)
  rw [h1, h2]
  exact sHourL_g (s 3) 0 hW hD (by omega) (fun f hf => by have := hG f hf; omega) f hf
theorem sWG.u {s : Nat → Nat} (hG : sWG s) (hW : sWF s) {k x : Nat} (h : 140 ≤ k ∧ (k < 153 ∨ 159 ≤ k)) : sWG (sU s k x) := by
  obtain ⟨-, -, -, w3, -⟩ := id hW
  intro f hf
  rw [sU_n (by omega)] at hf
  rw [sU_n (by omega), sU_n (by omega)]
  exact hG f hf
theorem sWalk_wg {s : Nat → Nat} (hG : sWG s) (hW : sWF s) {l d : Nat} (hl : l < s 4) : sWG (sWalk s l d) := by
  unfold sWalk
  obtain ⟨-, -, -, -, w4, -⟩ := id hW
  cases hb : sBeside s (s (159 + l)) d with
  | none => exact hG
  | some t =>
    dsimp only
    split
    · exact hG.u hW (by omega)
    · exact hG
theorem sDrawL_wg {s : Nat → Nat} {x : Int32} {l : Nat} (hG : sWG s) (hW : sWF s) (hl : l < s 4) : sWG (sDrawL x s l).2 := by
  obtain ⟨-, -, -, -, w4, -⟩ := id hW
  unfold sDrawL sDrawW
  split
  · exact hG.u hW (by omega)
  · split
    · exact hG.u hW (by omega)
    · split
      · exact sWalk_wg hG hW hl
      · exact hG
theorem sDrawA_wg : ∀ (n l : Nat) (x : Int32) (s : Nat → Nat), sWF s → sWD s → sWG s → l + n = s 4 → sWG (sDrawA x s l n).2 := by
  intro n
  induction n with
  | zero => intro l x s hW hD hG hl; exact hG
  | succ n ih =>
    intro l x s hW hD hG hl
    obtain ⟨h1, h2, h3⟩ := sDrawL_wd (x := x) hW hD (show l < s 4 by omega)
    exact ih (l + 1) (sDrawL x s l).1 (sDrawL x s l).2 (h2.wf hW) h1 (sDrawL_wg hG hW (by omega)) (by rw [h2 4 (by omega)]; omega)
theorem sDrawn_wg {s : Nat → Nat} {x : Int32} (hW : sWF s) (hD : sWD s) (hG : sWG s) : sWG (sDrawn x s).2 := by
  obtain ⟨g1, g2, g3⟩ := sDrawA_wd (s 4) 0 x s hW hD (by omega)
  exact sHour_wg (g2.wf hW) g1 (sDrawA_wg (s 4) 0 x s hW hD hG (by omega))
/-- a row that may stand: all but the field's relation to the heap -/
def sOK (s : Nat → Nat) : Prop := sWF s ∧ sWD s ∧ sWG s ∧ s 139 ≤ 1000
/-- the acts that can be undone: n of them, the next place of the ring, the rows that were -/
def rU (V : Nat → Nat → Int32) (s : Nat → Nat) : Prop := ∃ (n nx : Nat) (U : Nat → Nat → Nat), n ≤ 8 ∧ nx < 9 ∧ V 65 1 = Int32.ofNat n ∧ V 65 2 = Int32.ofNat nx ∧ V 196 23 = Int32.ofNat n ∧
  ∀ j, j < n → sEq s (U j) ∧ sOK (U j) ∧ rS V (67 + 8 * ((nx + 9 - n + j) % 9)) (U j) ∧ ∀ i, i < 111 → V 203 (111 * j + i) = Int32.ofNat (U j (139 + i))
section QU
variable {g : zF} {V : Nat → Nat → Int32} {X : Nat → Nat → Int64} {N : Nat} {s : Nat → Nat}
theorem c_stateIn (hg : gQ g) {i : Nat} (hi : i < 9) : fX10_stateIn N 216 (qH g V X) 65 (Int32.ofNat i) = some (some (67 + 8 * i)) := by
  obtain ⟨h, h1, h2⟩ := hg
  have e : qH g V X 66 = g 66 := by
    unfold qH qE
    rw [if_pos (by decide), if_neg (by decide), if_neg (by decide), if_neg (by decide), if_neg (by decide), if_pos (by decide)]
  have ea : zarr 216 (qH g V X) 4 66 = some (9, .inr (.inr (.inr (.inr h)))) := by
    unfold zarr
    rw [if_pos (by decide), e, h1]
    rfl
  have e1 : zlen 216 (qH g V X) 4 66 = some (Int32.ofNat 9) := by unfold zlen; rw [ea]
  have e2 : zlQ 216 (qH g V X) 4 66 (Int32.ofNat i) = some (some (67 + 8 * i)) := by
    unfold zlQ
    rw [ea]
    dsimp only
    rw [if_pos (qnn hi (by omega)), qnat (by omega), h2 i hi]
  unfold fX10_stateIn
  simp (disch := omega) only [qlit, qadd, qmul, qleT, qleF, qltT, qltF, qeqT, qeqF, qdiv, qrem, qmr, zbl0, zbl1, qzb, qzF0, qzT0, Option.bind_some, zbd_some, if_true, if_false, qneo, qneo', qlto, qltoF, qleo, qleo', qdT, qdF, decide_true, decide_false, Bool.true_and, Bool.and_true, Bool.false_and, Bool.and_false, Bool.not_true, Bool.not_false, Bool.true_or, Bool.or_true, Bool.false_or, Bool.or_false, q65_g0, e1, e2]
theorem c_hold (hg : gQ g) {nx : Nat} (hx : nx < 9) (h2 : V 65 2 = Int32.ofNat nx) (hS : rS V 15 s) (hW : sWF s) : ∃ W, fX10_hold N 216 (qH g V X) 65 15 = some (qH g W X) ∧ rS W (67 + 8 * nx) s ∧ qfr V W (67 + 8 * nx) 8 := by
  have hA := qS_ring nx hx
  unfold fX10_hold
  simp (disch := omega) only [qlit, qadd, qmul, qleT, qleF, qltT, qltF, qeqT, qeqF, qdiv, qrem, qmr, zbl0, zbl1, qzb, qzF0, qzT0, Option.bind_some, zbd_some, if_true, if_false, qneo, qneo', qlto, qltoF, qleo, qleo', qdT, qdF, decide_true, decide_false, Bool.true_and, Bool.and_true, Bool.false_and, Bool.and_false, Bool.not_true, Bool.not_false, Bool.true_or, Bool.or_true, Bool.false_or, Bool.or_false, q65_g2, q65_c, h2, c_stateIn hg hx]
  rw [qS_c hA, Option.bind_some, e_copyS hA qS_15 (Or.inl (by omega)), Option.bind_some]
  exact ⟨_, rfl, hS.copy hW, qcb_fr⟩
theorem c_min {f : zF} {a b : Nat} (ha : a < 2147483648) (hb : b < 2147483648) : fJ9_min_7cf53 N 216 f (Int32.ofNat a) (Int32.ofNat b) = some (Int32.ofNat (min a b)) := by
  unfold fJ9_min_7cf53
  by_cases h : b < a
  · rw [if_pos (by rw [qlt hb ha]; exact h), Nat.min_eq_right (by omega)]
  · rw [if_neg (by rw [qlt hb ha]; exact h), Nat.min_eq_left (by omega)]
theorem c_keep {n nx : Nat} (hn : n ≤ 8) (hx : nx < 9) (h1 : V 65 1 = Int32.ofNat n) (h2 : V 65 2 = Int32.ofNat nx) : ∃ W, fX10_keep N 216 (qH g V X) 65 = some (qH g W X) ∧ W 65 1 = Int32.ofNat (min (n + 1) 8) ∧ W 65 2 = Int32.ofNat ((nx + 1) % 9) ∧ qfr V W 65 1 := by
  unfold fX10_keep
  simp (disch := omega) only [qlit, qadd, qmul, qleT, qleF, qltT, qltF, qeqT, qeqF, qdiv, qrem, qmr, zbl0, zbl1, qzb, qzF0, qzT0, Option.bind_some, zbd_some, if_true, if_false, qneo, qneo', qlto, qltoF, qleo, qleo', qdT, qdF, decide_true, decide_false, Bool.true_and, Bool.and_true, Bool.false_and, Bool.and_false, Bool.not_true, Bool.not_false, Bool.true_or, Bool.or_true, Bool.false_or, Bool.or_false, q65_g1, q65_g2, q65_p1, q65_p2, h2, qw_s, upd_s, upd_n, h1, c_min]
  refine ⟨_, rfl, ?_, ?_, (qfr.w (by omega) (by omega)).tr (qfr.w (by omega) (by omega))⟩
  · rw [qw_s, upd_s]
  · rw [qw_s, upd_n (by omega), upd_s]
/-- the reference's rows shifted by one -/
theorem m_keep11 (hN : 3000 ≤ N) : ∀ m i k V, i + m = 777 → m < k → ∃ W, fX12_keep_11 N 216 k (qH g V X) 196 (Int32.ofNat i) = fX12_keep_45 N 216 (qH g W X) 196 ∧ W 196 23 = Int32.ofNat 7 ∧ (∀ j, j < 888 → W 203 j = if i ≤ j ∧ j < 777 then V 203 (j + 111) else V 203 j) ∧ (∀ b, b ≠ 196 → b ≠ 203 → W b = V b) ∧ (∀ j, j ≠ 23 → W 196 j = V 196 j) := by
  intro m
  induction m with
  | zero =>
    intro i k V hi hk
    obtain ⟨k, rfl⟩ : ∃ j, k = j + 1 := ⟨k - 1, by omega⟩
    unfold fX12_keep_11
    simp (disch := omega) only [qlit, qadd, qmul, qleT, qleF, qltT, qltF, qeqT, qeqF, qdiv, qrem, qmr, zbl0, zbl1, qzb, qzF0, qzT0, Option.bind_some, zbd_some, if_true, if_false, qneo, qneo', qlto, qltoF, qleo, qleo', qdT, qdF, decide_true, decide_false, Bool.true_and, Bool.and_true, Bool.false_and, Bool.and_false, Bool.not_true, Bool.not_false, Bool.true_or, Bool.or_true, Bool.false_or, Bool.or_false, q196_p23]
    refine ⟨_, rfl, by rw [qw_s, upd_s], fun j hj => ?_, fun b h1 h2 => by rw [qw_n h1], fun j hj => by rw [qw_s, upd_n hj]⟩
    rw [qw_n (by omega), if_neg (by omega)]
  | succ m ih =>
    intro i k V hi hk
    obtain ⟨k, rfl⟩ : ∃ j, k = j + 1 := ⟨k - 1, by omega⟩
    have e1 : zlI 216 (qH g V X) 0 203 (Int32.ofNat (i + 111)) = some (V 203 (i + 111)) := qlI (t := 0) qk_203 (Or.inl rfl) (by omega) (by omega)
    have e2 : ∀ x, zsI 216 (qH g V X) 0 203 (Int32.ofNat i) x = some (qH g (qw V 203 (upd (V 203) i x)) X) := fun x => qsI (t := 0) qk_203 (Or.inl rfl) (by omega) (by omega)
    obtain ⟨W, h1, h2, h3, h4, h5⟩ := ih (i + 1) k (qw V 203 (upd (V 203) i (V 203 (i + 111)))) (by omega) (by omega)
    unfold fX12_keep_11
    simp (disch := omega) only [qlit, qadd, qmul, qleT, qleF, qltT, qltF, qeqT, qeqF, qdiv, qrem, qmr, zbl0, zbl1, qzb, qzF0, qzT0, Option.bind_some, zbd_some, if_true, if_false, qneo, qneo', qlto, qltoF, qleo, qleo', qdT, qdF, decide_true, decide_false, Bool.true_and, Bool.and_true, Bool.false_and, Bool.and_false, Bool.not_true, Bool.not_false, Bool.true_or, Bool.or_true, Bool.false_or, Bool.or_false, q196_g21, e1, e2]
    refine ⟨W, h1, h2, fun j hj => ?_, fun b hb1 hb2 => ?_, fun j hj => ?_⟩
    · rw [h3 j hj, qw_s]
      by_cases e : j = i
      · subst e; rw [upd_s, if_neg (by omega), if_pos (by omega)]
      · rw [upd_n e]
        by_cases e2 : i + 1 ≤ j ∧ j < 777
        · rw [if_pos e2, if_pos (by omega), upd_n (by omega)]
        · rw [if_neg e2, if_neg (by omega)]
    · rw [h4 b hb1 hb2, qw_n hb2]
    · rw [h5 j hj, qw_n (by omega)]
theorem m_keep47 (hN : 3000 ≤ N) {n : Nat} (hn : n < 8) : ∀ m i k V, i + m = 111 → m < k → V 196 23 = Int32.ofNat n → ∃ W, fX12_keep_47 N 216 k (qH g V X) 196 (Int32.ofNat i) = some (qH g W X) ∧ W 196 23 = Int32.ofNat (n + 1) ∧ (∀ j, j < 888 → W 203 j = if 111 * n + i ≤ j ∧ j < 111 * n + 111 then V 198 (139 + (j - 111 * n)) else V 203 j) ∧ (∀ b, b ≠ 196 → b ≠ 203 → W b = V b) ∧ (∀ j, j ≠ 23 → W 196 j = V 196 j) := by
  intro m
  induction m with
  | zero =>
    intro i k V hi hk hv
    obtain ⟨k, rfl⟩ : ∃ j, k = j + 1 := ⟨k - 1, by omega⟩
    unfold fX12_keep_47
    simp (disch := omega) only [qlit, qadd, qmul, qleT, qleF, qltT, qltF, qeqT, qeqF, qdiv, qrem, qmr, zbl0, zbl1, qzb, qzF0, qzT0, Option.bind_some, zbd_some, if_true, if_false, qneo, qneo', qlto, qltoF, qleo, qleo', qdT, qdF, decide_true, decide_false, Bool.true_and, Bool.and_true, Bool.false_and, Bool.and_false, Bool.not_true, Bool.not_false, Bool.true_or, Bool.or_true, Bool.false_or, Bool.or_false, q196_g23, q196_p23, hv]
    refine ⟨_, rfl, by rw [qw_s, upd_s], fun j hj => ?_, fun b h1 h2 => by rw [qw_n h1], fun j hj => by rw [qw_s, upd_n hj]⟩
    rw [qw_n (by omega), if_neg (by omega)]
  | succ m ih =>
    intro i k V hi hk hv
    obtain ⟨k, rfl⟩ : ∃ j, k = j + 1 := ⟨k - 1, by omega⟩
    have e1 : zlI 216 (qH g V X) 0 198 (Int32.ofNat (139 + i)) = some (V 198 (139 + i)) := qlI (t := 0) qk_198 (Or.inl rfl) (by omega) (by omega)
    have e2 : ∀ x, zsI 216 (qH g V X) 0 203 (Int32.ofNat (111 * n + i)) x = some (qH g (qw V 203 (upd (V 203) (111 * n + i) x)) X) := fun x => qsI (t := 0) qk_203 (Or.inl rfl) (by omega) (by omega)
    obtain ⟨W, h1, h2, h3, h4, h5⟩ := ih (i + 1) k (qw V 203 (upd (V 203) (111 * n + i) (V 198 (139 + i)))) (by omega) (by omega) (by rw [qw_n (by omega)]; exact hv)
    unfold fX12_keep_47
    simp (disch := omega) only [qlit, qadd, qmul, qleT, qleF, qltT, qltF, qeqT, qeqF, qdiv, qrem, qmr, zbl0, zbl1, qzb, qzF0, qzT0, Option.bind_some, zbd_some, if_true, if_false, qneo, qneo', qlto, qltoF, qleo, qleo', qdT, qdF, decide_true, decide_false, Bool.true_and, Bool.and_true, Bool.false_and, Bool.and_false, Bool.not_true, Bool.not_false, Bool.true_or, Bool.or_true, Bool.false_or, Bool.or_false, q196_g21, q196_g23, q196_g6, hv, e1, e2]
    refine ⟨W, h1, h2, fun j hj => ?_, fun b hb1 hb2 => ?_, fun j hj => ?_⟩
    · rw [h3 j hj, qw_s, qw_n (by omega)]
      by_cases e : j = 111 * n + i
      · subst e; rw [upd_s, if_neg (by omega), if_pos (by omega), show 111 * n + i - 111 * n = i by omega]
      · rw [upd_n e]
        by_cases e2 : 111 * n + (i + 1) ≤ j ∧ j < 111 * n + 111
        · rw [if_pos e2, if_pos (by omega)]
        · rw [if_neg e2, if_neg (by omega)]
    · rw [h4 b hb1 hb2, qw_n hb2]
    · rw [h5 j hj, qw_n (by omega)]
theorem m_keep (hN : 3000 ≤ N) {n : Nat} (hn : n ≤ 8) (hv : V 196 23 = Int32.ofNat n) : ∃ W, fX12_keep N 216 (qH g V X) 196 = some (qH g W X) ∧ W 196 23 = Int32.ofNat (min (n + 1) 8) ∧
    (∀ j i, j < n ∧ (n = 8 → j < 7) → i < 111 → W 203 (111 * j + i) = V 203 (111 * (if n = 8 then j + 1 else j) + i)) ∧ (∀ i, i < 111 → W 203 (111 * (if n = 8 then 7 else n) + i) = V 198 (139 + i)) ∧ (∀ b, b ≠ 196 → b ≠ 203 → W b = V b) ∧ (∀ j, j ≠ 23 → W 196 j = V 196 j) := by
  unfold fX12_keep
  by_cases h8 : n = 8
  · subst h8
    obtain ⟨W, h1, h2, h3, h4, h5⟩ := m_keep11 (g := g) (X := X) hN 777 0 N V (by omega) (by omega)
    obtain ⟨Y, y1, y2, y3, y4, y5⟩ := m_keep47 (g := g) (X := X) hN (n := 7) (by omega) 111 0 N W (by omega) (by omega) h2
    unfold fX12_keep_45 at h1
    simp (disch := omega) only [qlit, qadd, qmul, qleT, qleF, qltT, qltF, qeqT, qeqF, qdiv, qrem, qmr, zbl0, zbl1, qzb, qzF0, qzT0, Option.bind_some, zbd_some, if_true, if_false, qneo, qneo', qlto, qltoF, qleo, qleo', qdT, qdF, decide_true, decide_false, Bool.true_and, Bool.and_true, Bool.false_and, Bool.and_false, Bool.not_true, Bool.not_false, Bool.true_or, Bool.or_true, Bool.false_or, Bool.or_false, q196_g23, hv, h1, y1]
    refine ⟨Y, rfl, y2, fun j i hj hi => ?_, fun i hi => ?_, fun b hb1 hb2 => by rw [y4 b hb1 hb2, h4 b hb1 hb2], fun j hj => by rw [y5 j hj, h5 j hj]⟩
    · have hj7 := hj.2 trivial
      rw [y3 _ (by omega), if_neg (by omega), h3 _ (by omega), if_pos (by omega)]
      congr 1
      omega
    · rw [y3 _ (by omega), if_pos (by omega), h4 198 (by omega) (by omega), show 111 * 7 + i - 111 * 7 = i by omega]
  · obtain ⟨Y, y1, y2, y3, y4, y5⟩ := m_keep47 (g := g) (X := X) hN (n := n) (by omega) 111 0 N V (by omega) (by omega) hv
    unfold fX12_keep_45
    simp (disch := omega) only [qlit, qadd, qmul, qleT, qleF, qltT, qltF, qeqT, qeqF, qdiv, qrem, qmr, zbl0, zbl1, qzb, qzF0, qzT0, Option.bind_some, zbd_some, if_true, if_false, qneo, qneo', qlto, qltoF, qleo, qleo', qdT, qdF, decide_true, decide_false, Bool.true_and, Bool.and_true, Bool.false_and, Bool.and_false, Bool.not_true, Bool.not_false, Bool.true_or, Bool.or_true, Bool.false_or, Bool.or_false, q196_g23, hv, y1]
    refine ⟨Y, rfl, by rw [y2, Nat.min_eq_left (by omega)], fun j i hj hi => ?_, fun i hi => ?_, y4, y5⟩
    · rw [y3 _ (by omega), if_neg (by omega), if_neg h8]
    · rw [if_neg h8, y3 _ (by omega), if_pos (by omega), show 111 * n + i - 111 * n = i by omega]
/-- what was held and kept on both sides: V before, W behind -/
theorem rU_push {W : Nat → Nat → Int32} {n nx : Nat} {U : Nat → Nat → Nat} {t : Nat → Nat} (hn : n ≤ 8) (hx : nx < 9) (hs : sOK s) (hM : ∀ i, i < 111 → V 198 (139 + i) = Int32.ofNat (s (139 + i))) (hst : sEq s t)
    (hU : ∀ j, j < n → sEq s (U j) ∧ sOK (U j) ∧ rS V (67 + 8 * ((nx + 9 - n + j) % 9)) (U j) ∧ ∀ i, i < 111 → V 203 (111 * j + i) = Int32.ofNat (U j (139 + i)))
    (h1 : W 65 1 = Int32.ofNat (min (n + 1) 8)) (h2 : W 65 2 = Int32.ofNat ((nx + 1) % 9)) (h3 : W 196 23 = Int32.ofNat (min (n + 1) 8))
    (h4 : rS W (67 + 8 * nx) s) (h5 : ∀ b, 67 ≤ b → b < 139 → (b < 67 + 8 * nx ∨ 67 + 8 * nx + 8 ≤ b) → W b = V b)
    (h6 : ∀ j i, j < n ∧ (n = 8 → j < 7) → i < 111 → W 203 (111 * j + i) = V 203 (111 * (if n = 8 then j + 1 else j) + i)) (h7 : ∀ i, i < 111 → W 203 (111 * (if n = 8 then 7 else n) + i) = V 198 (139 + i)) : rU W t := by
  have hrs : ∀ r u, r < 9 → r ≠ nx → rS V (67 + 8 * r) u → rS W (67 + 8 * r) u := by
    intro r u hr hne h
    unfold rS at h ⊢
    rw [h5 (67 + 8 * r) (by omega) (by omega) (by omega), h5 (67 + 8 * r + 1) (by omega) (by omega) (by omega), h5 (67 + 8 * r + 2) (by omega) (by omega) (by omega), h5 (67 + 8 * r + 3) (by omega) (by omega) (by omega), h5 (67 + 8 * r + 4) (by omega) (by omega) (by omega), h5 (67 + 8 * r + 5) (by omega) (by omega) (by omega), h5 (67 + 8 * r + 6) (by omega) (by omega) (by omega), h5 (67 + 8 * r + 7) (by omega) (by omega) (by omega)]
    exact h
  have hts : ∀ u, sEq s u → sEq t u := fun u h i hi => (h i hi).trans (hst i hi).symm
  by_cases h8 : n = 8
  · subst h8
    refine ⟨8, (nx + 1) % 9, fun j => if j = 7 then s else U (j + 1), by omega, by omega, h1, h2, h3, fun j hj => ?_⟩
    by_cases e : j = 7
    · subst e
      simp only [if_true] at h7 ⊢
      refine ⟨hts s sEq.rf, hs, ?_, fun i hi => by rw [h7 i hi, hM i hi]⟩
      rw [show ((nx + 1) % 9 + 9 - 8 + 7) % 9 = nx by omega]
      exact h4
    · simp only [if_neg e]
      obtain ⟨a1, a2, a3, a4⟩ := hU (j + 1) (by omega)
      refine ⟨hts _ a1, a2, ?_, fun i hi => ?_⟩
      · rw [show ((nx + 1) % 9 + 9 - 8 + j) % 9 = (nx + 9 - 8 + (j + 1)) % 9 by omega]
        exact hrs _ _ (by omega) (by omega) a3
      · rw [h6 j i ⟨by omega, fun _ => by omega⟩ hi]
        simp only [if_true]
        exact a4 i hi
  · rw [Nat.min_eq_left (by omega)] at h1 h3
    simp only [if_neg h8] at h6 h7
    refine ⟨n + 1, (nx + 1) % 9, fun j => if j = n then s else U j, by omega, by omega, h1, h2, h3, fun j hj => ?_⟩
    by_cases e : j = n
    · subst e
      simp only [if_true]
      refine ⟨hts s sEq.rf, hs, ?_, fun i hi => by rw [h7 i hi, hM i hi]⟩
      rw [show ((nx + 1) % 9 + 9 - (j + 1) + j) % 9 = nx by omega]
      exact h4
    · simp only [if_neg e]
      obtain ⟨a1, a2, a3, a4⟩ := hU j (by omega)
      refine ⟨hts _ a1, a2, ?_, fun i hi => ?_⟩
      · rw [show ((nx + 1) % 9 + 9 - (n + 1) + j) % 9 = (nx + 9 - n + j) % 9 by omega]
        exact hrs _ _ (by omega) (by omega) a3
      · rw [h6 j i ⟨by omega, fun _ => by omega⟩ hi]
        exact a4 i hi
/-- held, but not kept -/
theorem rU_held {W : Nat → Nat → Int32} {t : Nat → Nat} (hU : rU V s) (hst : sEq s t) (h1 : W 65 = V 65) (h3 : W 196 23 = V 196 23) (h6 : W 203 = V 203)
    (h5 : ∀ nx, V 65 2 = Int32.ofNat nx → nx < 9 → ∀ b, 67 ≤ b → b < 139 → (b < 67 + 8 * nx ∨ 67 + 8 * nx + 8 ≤ b) → W b = V b) : rU W t := by
  obtain ⟨n, nx, U, hn, hx, a1, a2, a3, a4⟩ := hU
  have h5 := h5 nx a2 hx
  have hrs : ∀ r u, r < 9 → r ≠ nx → rS V (67 + 8 * r) u → rS W (67 + 8 * r) u := by
    intro r u hr hne h
    unfold rS at h ⊢
    rw [h5 (67 + 8 * r) (by omega) (by omega) (by omega), h5 (67 + 8 * r + 1) (by omega) (by omega) (by omega), h5 (67 + 8 * r + 2) (by omega) (by omega) (by omega), h5 (67 + 8 * r + 3) (by omega) (by omega) (by omega), h5 (67 + 8 * r + 4) (by omega) (by omega) (by omega), h5 (67 + 8 * r + 5) (by omega) (by omega) (by omega), h5 (67 + 8 * r + 6) (by omega) (by omega) (by omega), h5 (67 + 8 * r + 7) (by omega) (by omega) (by omega)]
    exact h
  refine ⟨n, nx, U, hn, hx, by rw [h1]; exact a1, by rw [h1]; exact a2, by rw [h3]; exact a3, fun j hj => ?_⟩
  obtain ⟨b1, b2, b3, b4⟩ := a4 j hj
  refine ⟨fun i hi => (b1 i hi).trans (hst i hi).symm, b2, hrs _ _ (by omega) (by omega) b3, fun i hi => by rw [h6]; exact b4 i hi⟩
end QU
