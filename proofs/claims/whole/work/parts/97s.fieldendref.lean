/-! a field: the reference's end -/
section QFN
variable {g : zF} {V W U K C : Nat → Nat → Int32} {X Y Z D : Nat → Nat → Int64} {N n m p o k pl d e c ln w : Nat} {s t u B h r : Nat → Nat} {q : Nat → List Nat} {fl : Bool}
theorem r_at (hM : rM V u) {j : Nat} (hj : j < 431) : zlI 216 (qH g V X) 0 198 (Int32.ofNat j) = some (Int32.ofNat (u j)) := by
  rw [qlI (t := 0) qk_198 (Or.inl rfl) hj (by omega), hM j hj]
theorem r_put {j : Nat} {x : Int32} (hj : j < 431) : zsI 216 (qH g V X) 0 198 (Int32.ofNat j) x = some (qH g (qw V 198 (upd (V 198) j x)) X) := qsI (t := 0) qk_198 (Or.inl rfl) hj (by omega)
theorem G_80 : ∀ m i k V, i + m = 431 → m < k → (∀ j, j < 139 → V 199 j = Int32.ofNat (h j)) → (∀ j, j < i → V 198 j = Int32.ofNat (if j < 139 then h j else 0)) → ∃ W, fX12_field_80 N 216 k (qH g V X) 196 (Int32.ofNat i) = fX12_field_118 N 216 N (qH g W X) 196 (0 : Int32) ∧ (∀ b, b ≠ 198 → W b = V b) ∧ rM W (fun j => if j < 139 then h j else 0) := by
  intro m
  induction m with
  | zero =>
    intro i k V hi hk h9 h8
    obtain ⟨k, rfl⟩ : ∃ j, k = j + 1 := ⟨k - 1, by omega⟩
    unfold fX12_field_80
    rw [if_pos (by rw [show (431 : Int32) = Int32.ofNat 431 from rfl, qle (by omega) (by omega)]; omega)]
    exact ⟨V, rfl, fun _ _ => rfl, fun j hj => h8 j (by omega)⟩
  | succ m ih =>
    intro i k V hi hk h9 h8
    obtain ⟨k, rfl⟩ : ∃ j, k = j + 1 := ⟨k - 1, by omega⟩
    unfold fX12_field_80 fX12_field_109
    rw [if_neg (by rw [show (431 : Int32) = Int32.ofNat 431 from rfl, qle (by omega) (by omega)]; omega), q196_g6, Option.bind_some]
    by_cases hi9 : 139 ≤ i
    · rw [if_pos (by rw [show (139 : Int32) = Int32.ofNat 139 from rfl, qle (by omega) (by omega)]; exact hi9), r_put (by omega), Option.bind_some, l1, qadd]
      obtain ⟨W, w1, w2, w3⟩ := ih (i + 1) k (qw V 198 (upd (V 198) i 0)) (by omega) (by omega) (fun j hj => by rw [qw_n (by decide)]; exact h9 j hj) (fun j hj => by
        rw [qw_s]
        by_cases e : j = i
        · rw [e, upd_s, if_neg (by omega)]; rfl
        · rw [upd_n e]; exact h8 j (by omega))
      exact ⟨W, w1, fun b hb => by rw [w2 b hb, qw_n hb], w3⟩
    · rw [if_neg (by rw [show (139 : Int32) = Int32.ofNat 139 from rfl, qle (by omega) (by omega)]; exact hi9), q196_g7, Option.bind_some, g_at (by omega), Option.bind_some, h9 i (by omega), r_put (by omega), Option.bind_some, l1, qadd]
      obtain ⟨W, w1, w2, w3⟩ := ih (i + 1) k (qw V 198 (upd (V 198) i (Int32.ofNat (h i)))) (by omega) (by omega) (fun j hj => by rw [qw_n (by decide)]; exact h9 j hj) (fun j hj => by
        rw [qw_s]
        by_cases e : j = i
        · rw [e, upd_s, if_pos (by omega)]
        · rw [upd_n e]; exact h8 j (by omega))
      exact ⟨W, w1, fun b hb => by rw [w2 b hb, qw_n hb], w3⟩
theorem G_118 : ∀ m i k X, i + m = 15 → m < k → ∃ Y, fX12_field_118 N 216 k (qH g V X) 196 (Int32.ofNat i) = fX12_field_147 N 216 N (qH g V Y) 196 (0 : Int32) ∧ (∀ b, b ≠ 201 → Y b = X b) ∧ (∀ j, i ≤ j → j < 15 → Y 201 j = X 201 (15 + j)) ∧ ∀ j, j < i → Y 201 j = X 201 j := by
  intro m
  induction m with
  | zero =>
    intro i k X hi hk
    obtain ⟨k, rfl⟩ : ∃ j, k = j + 1 := ⟨k - 1, by omega⟩
    unfold fX12_field_118
    rw [if_pos (by rw [show (15 : Int32) = Int32.ofNat 15 from rfl, qle (by omega) (by omega)]; omega)]
    exact ⟨X, rfl, fun _ _ => rfl, fun j h1 h2 => by omega, fun _ _ => rfl⟩
  | succ m ih =>
    intro i k X hi hk
    obtain ⟨k, rfl⟩ : ∃ j, k = j + 1 := ⟨k - 1, by omega⟩
    unfold fX12_field_118
    rw [if_neg (by rw [show (15 : Int32) = Int32.ofNat 15 from rfl, qle (by omega) (by omega)]; omega), q196_g9, Option.bind_some, Option.bind_some, show (15 : Int32) = Int32.ofNat 15 from rfl, qadd, qlL qk_201 (by omega) (by omega), Option.bind_some, qsL qk_201 (by omega) (by omega), Option.bind_some, l1, qadd]
    obtain ⟨Y, y1, y2, y3, y4⟩ := ih (i + 1) k (qx X 201 (vp_updL (X 201) i (X 201 (15 + i)))) (by omega) (by omega)
    refine ⟨Y, y1, fun b hb => by rw [y2 b hb, qx_n hb], fun j h1 h2 => ?_, fun j hj => ?_⟩
    · by_cases e : j = i
      · rw [e, y4 i (by omega), qx_s, vpU_s]
      · rw [y3 j (by omega) h2, qx_s, vpU_n (by omega)]
    · rw [y4 j (by omega), qx_s, vpU_n (by omega)]
theorem G_147 : ∀ m i k V u, i + m = 6 → m < k → rM V u → ∃ W v, fX12_field_147 N 216 k (qH g V X) 196 (Int32.ofNat i) = fX12_field_199 N 216 N (qH g W X) 196 (0 : Int32) ∧ (∀ b, b ≠ 198 → W b = V b) ∧ rM W v ∧ (∀ j, ((141 + i ≤ j ∧ j < 147) ∨ (147 + i ≤ j ∧ j < 153)) → v j = u (j - 40)) ∧ ∀ j, ¬ ((141 + i ≤ j ∧ j < 147) ∨ (147 + i ≤ j ∧ j < 153)) → v j = u j := by
  intro m
  induction m with
  | zero =>
    intro i k V u hi hk hM
    obtain ⟨k, rfl⟩ : ∃ j, k = j + 1 := ⟨k - 1, by omega⟩
    unfold fX12_field_147
    rw [if_pos (by rw [show (6 : Int32) = Int32.ofNat 6 from rfl, qle (by omega) (by omega)]; omega)]
    exact ⟨V, u, rfl, fun _ _ => rfl, hM, fun j hj => by omega, fun _ _ => rfl⟩
  | succ m ih =>
    intro i k V u hi hk hM
    obtain ⟨k, rfl⟩ : ∃ j, k = j + 1 := ⟨k - 1, by omega⟩
    have hM1 := hM.set (k := 141 + i) (x := u (101 + i))
    have e1 : sU u (141 + i) (u (101 + i)) (107 + i) = u (107 + i) := sU_n (by omega)
    unfold fX12_field_147
    rw [if_neg (by rw [show (6 : Int32) = Int32.ofNat 6 from rfl, qle (by omega) (by omega)]; omega), q196_g6, Option.bind_some, Option.bind_some, show (101 : Int32) = Int32.ofNat 101 from rfl, qadd, r_at hM (by omega), Option.bind_some, show (141 : Int32) = Int32.ofNat 141 from rfl, qadd, r_put (by omega), Option.bind_some, q196_g6, Option.bind_some, Option.bind_some, show (107 : Int32) = Int32.ofNat 107 from rfl, qadd, r_at hM1 (by omega), Option.bind_some, e1, show (147 : Int32) = Int32.ofNat 147 from rfl, qadd, r_put (by omega), Option.bind_some, l1, qadd]
    obtain ⟨W, v, w1, w2, w3, w4, w5⟩ := ih (i + 1) k _ _ (by omega) (by omega) (hM1.set (k := 147 + i) (x := u (107 + i)))
    refine ⟨W, v, w1, fun b hb => by rw [w2 b hb, qw_n hb, qw_n hb], w3, fun j hj => ?_, fun j hj => ?_⟩
    · by_cases ea : j = 141 + i
      · rw [w5 j (by omega), sU_n (by omega), ea, sU_s, show 141 + i - 40 = 101 + i by omega]
      by_cases eb : j = 147 + i
      · rw [w5 j (by omega), eb, sU_s, show 147 + i - 40 = 107 + i by omega]
      rw [w4 j (by omega), sU_n (by omega), sU_n (by omega)]
    · rw [w5 j (by omega), sU_n (by omega), sU_n (by omega)]
theorem G_199 : ∀ m i k V u, i + m = 5 → m < k → rM V u → ∃ W v, fX12_field_199 N 216 k (qH g V X) 196 (Int32.ofNat i) = fX12_field_250 N 216 N (qH g W X) 196 (0 : Int32) ∧ (∀ b, b ≠ 198 → W b = V b) ∧ rM W v ∧ (∀ j, ((159 + i ≤ j ∧ j < 164) ∨ (164 + i ≤ j ∧ j < 169)) → v j = u (j - 40)) ∧ ∀ j, ¬ ((159 + i ≤ j ∧ j < 164) ∨ (164 + i ≤ j ∧ j < 169)) → v j = u j := by
  intro m
  induction m with
  | zero =>
    intro i k V u hi hk hM
    obtain ⟨k, rfl⟩ : ∃ j, k = j + 1 := ⟨k - 1, by omega⟩
    unfold fX12_field_199
    rw [if_pos (by rw [show (5 : Int32) = Int32.ofNat 5 from rfl, qle (by omega) (by omega)]; omega)]
    exact ⟨V, u, rfl, fun _ _ => rfl, hM, fun j hj => by omega, fun _ _ => rfl⟩
  | succ m ih =>
    intro i k V u hi hk hM
    obtain ⟨k, rfl⟩ : ∃ j, k = j + 1 := ⟨k - 1, by omega⟩
    have hM1 := hM.set (k := 159 + i) (x := u (119 + i))
    have e1 : sU u (159 + i) (u (119 + i)) (124 + i) = u (124 + i) := sU_n (by omega)
    unfold fX12_field_199
    rw [if_neg (by rw [show (5 : Int32) = Int32.ofNat 5 from rfl, qle (by omega) (by omega)]; omega), q196_g6, Option.bind_some, Option.bind_some, show (119 : Int32) = Int32.ofNat 119 from rfl, qadd, r_at hM (by omega), Option.bind_some, show (159 : Int32) = Int32.ofNat 159 from rfl, qadd, r_put (by omega), Option.bind_some, q196_g6, Option.bind_some, Option.bind_some, show (124 : Int32) = Int32.ofNat 124 from rfl, qadd, r_at hM1 (by omega), Option.bind_some, e1, show (164 : Int32) = Int32.ofNat 164 from rfl, qadd, r_put (by omega), Option.bind_some, l1, qadd]
    obtain ⟨W, v, w1, w2, w3, w4, w5⟩ := ih (i + 1) k _ _ (by omega) (by omega) (hM1.set (k := 164 + i) (x := u (124 + i)))
    refine ⟨W, v, w1, fun b hb => by rw [w2 b hb, qw_n hb, qw_n hb], w3, fun j hj => ?_, fun j hj => ?_⟩
    · by_cases ea : j = 159 + i
      · rw [w5 j (by omega), sU_n (by omega), ea, sU_s, show 159 + i - 40 = 119 + i by omega]
      by_cases eb : j = 164 + i
      · rw [w5 j (by omega), eb, sU_s, show 164 + i - 40 = 124 + i by omega]
      rw [w4 j (by omega), sU_n (by omega), sU_n (by omega)]
    · rw [w5 j (by omega), sU_n (by omega), sU_n (by omega)]
theorem qo_ow {x : Option Nat} : qo x + Int32.ofNat 1 = Int32.ofNat (ow x) := by
  cases x with
  | none => rfl
  | some v => exact qadd
theorem G_250 (hN : 3000 ≤ N) (hW : sWF h) (hL : sWL h) : ∀ m i k V u, i + m = 81 → m < k → rM V u → sEq h u → ∃ W v, fX12_field_250 N 216 k (qH g V X) 196 (Int32.ofNat i) = some (qH g (qw W 196 (upd (W 196) 23 0)) X, W 196 19) ∧ (∀ b, b ≠ 198 → W b = V b) ∧ rM W v ∧ (∀ c, i ≤ c → c < 81 → v (169 + c) = ow (sFO h c)) ∧ ∀ j, (j < 169 + i ∨ 250 ≤ j) → v j = u j := by
  intro m
  induction m with
  | zero =>
    intro i k V u hi hk hM hE
    obtain ⟨k, rfl⟩ : ∃ j, k = j + 1 := ⟨k - 1, by omega⟩
    unfold fX12_field_250
    rw [if_pos (by rw [show (81 : Int32) = Int32.ofNat 81 from rfl, qle (by omega) (by omega)]; omega), q196_p23, Option.bind_some, q196_g19, Option.bind_some, qw_s, upd_n (by decide)]
    exact ⟨V, u, rfl, fun _ _ => rfl, hM, fun c h1 h2 => by omega, fun _ _ => rfl⟩
  | succ m ih =>
    intro i k V u hi hk hM hE
    obtain ⟨k, rfl⟩ : ∃ j, k = j + 1 := ⟨k - 1, by omega⟩
    have hLu : sWL u := fun y hy => by rw [hE _ (by omega), hE _ (by omega)]; exact hL y hy
    unfold fX12_field_250
    rw [if_neg (by rw [show (81 : Int32) = Int32.ofNat 81 from rfl, qle (by omega) (by omega)]; omega), q196_g6, Option.bind_some, q196_c, Option.bind_some, m_firstOwner hN hM (hE.wf hW) hLu (by omega), Option.bind_some, sFO.k hW hE (by omega), l1, qo_ow, show (169 : Int32) = Int32.ofNat 169 from rfl, qadd, r_put (by omega), Option.bind_some, qadd]
    obtain ⟨W, v, w1, w2, w3, w4, w5⟩ := ih (i + 1) k _ _ (by omega) (by omega) (hM.set (k := 169 + i) (x := ow (sFO h i))) (hE.tr (sEq.u (by omega)))
    refine ⟨W, v, w1, fun b hb => by rw [w2 b hb, qw_n hb], w3, fun c h1 h2 => ?_, fun j hj => ?_⟩
    · by_cases e : c = i
      · rw [w5 _ (by omega), e, sU_s]
      · exact w4 c (by omega) h2
    · rw [w5 j (by omega), sU_n (by omega)]
/-- the end of a field without fault -/
theorem G_end (hN : 3000 ≤ N) (hB : fdB h) (h9 : ∀ j, j < 139 → V 199 j = Int32.ofNat (h j)) : ∃ W Y, fX12_field_80 N 216 N (qH g V X) 196 (0 : Int32) = some (qH g (qw W 196 (upd (W 196) 23 0)) Y, W 196 19) ∧ (∀ b, b ≠ 198 → W b = V b) ∧ rM W (fS h) ∧ (∀ b, b ≠ 201 → Y b = X b) ∧ ∀ j, j < 15 → Y 201 j = X 201 (15 + j) := by
  obtain ⟨b1, b2, b3, b4, b5, b6, b7, -⟩ := id hB
  have hW := hB.wf
  obtain ⟨W1, e1, f1, m1⟩ := G_80 (g := g) (X := X) (N := N) (h := h) 431 0 N V (by omega) (by omega) h9 (fun j hj => by omega)
  obtain ⟨Y, e2, y2, y3, -⟩ := G_118 (g := g) (V := W1) (N := N) 15 0 N X (by omega) (by omega)
  obtain ⟨W2, u2, e3, f3, m3, a3, c3⟩ := G_147 (g := g) (X := Y) (N := N) 6 0 N W1 _ (by omega) (by omega) m1
  obtain ⟨W3, u3, e4, f4, m4, a4, c4⟩ := G_199 (g := g) (X := Y) (N := N) 5 0 N W2 u2 (by omega) (by omega) m3
  have hE : sEq h u3 := fun j hj => by
    rw [c4 j (by omega), c3 j (by omega), if_pos hj]
  obtain ⟨W4, u4, e5, f5, m5, a5, c5⟩ := G_250 (g := g) (X := Y) hN hW b7 81 0 N W3 u3 (by omega) (by omega) m4 hE
  refine ⟨W4, Y, ?_, fun b hb => by rw [f5 b hb, f4 b hb, f3 b hb, f1 b hb], fun j hj => ?_, y2, fun j hj => y3 j (Nat.zero_le _) hj⟩
  · have e1' : fX12_field_80 N 216 N (qH g V X) 196 (0 : Int32) = fX12_field_118 N 216 N (qH g W1 X) 196 (0 : Int32) := e1
    have e2' : fX12_field_118 N 216 N (qH g W1 X) 196 (0 : Int32) = fX12_field_147 N 216 N (qH g W1 Y) 196 (0 : Int32) := e2
    have e3' : fX12_field_147 N 216 N (qH g W1 Y) 196 (0 : Int32) = fX12_field_199 N 216 N (qH g W2 Y) 196 (0 : Int32) := e3
    have e4' : fX12_field_199 N 216 N (qH g W2 Y) 196 (0 : Int32) = fX12_field_250 N 216 N (qH g W3 Y) 196 (0 : Int32) := e4
    rw [e1', e2', e3', e4']
    exact e5
  · rw [m5 j hj]
    congr 1
    by_cases j1 : 169 ≤ j ∧ j < 250
    · have := a5 (j - 169) (Nat.zero_le _) (by omega)
      rw [show 169 + (j - 169) = j by omega] at this
      have h2 := fS_o (h := h) (c := j - 169) (by omega)
      rw [show 169 + (j - 169) = j by omega] at h2
      rw [this, h2]
    rw [c5 j (by omega)]
    by_cases j2 : 159 ≤ j ∧ j < 169
    · rw [a4 j (by omega), c3 (j - 40) (by omega), if_pos (by omega), fS_m (i := j) (j := j - 40) (by omega) (by omega)]
    rw [c4 j (by omega)]
    by_cases j3 : 141 ≤ j ∧ j < 153
    · rw [a3 j (by omega), if_pos (by omega), fS_m (i := j) (j := j - 40) (by omega) (by omega)]
    rw [c3 j (by omega)]
    by_cases j4 : j < 139
    · rw [if_pos j4, fS_lo j4]
    · rw [if_neg j4, fS_0 (by omega)]
end QFN
