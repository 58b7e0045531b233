/-! the reference's methods on its row -/
def rM (V : Nat → Nat → Int32) (s : Nat → Nat) : Prop := ∀ i, i < 431 → V 198 i = Int32.ofNat (s i)
theorem l0 : (0 : Int32) = Int32.ofNat 0 := rfl
theorem l1 : (1 : Int32) = Int32.ofNat 1 := rfl
theorem l3 : (3 : Int32) = Int32.ofNat 3 := rfl
theorem l4 : (4 : Int32) = Int32.ofNat 4 := rfl
theorem l5 : (5 : Int32) = Int32.ofNat 5 := rfl
theorem l9 : (9 : Int32) = Int32.ofNat 9 := rfl
theorem l141 : (141 : Int32) = Int32.ofNat 141 := rfl
theorem l147 : (147 : Int32) = Int32.ofNat 147 := rfl
theorem l159 : (159 : Int32) = Int32.ofNat 159 := rfl
section QM
variable {g : zF} {V : Nat → Nat → Int32} {X : Nat → Nat → Int64} {N : Nat} {s : Nat → Nat}
theorem m_ld (hM : rM V s) {k : Nat} (hk : k < 431) : zlI 216 (qH g V X) 0 198 (Int32.ofNat k) = some (Int32.ofNat (s k)) := by
  rw [qlI (t := 0) qk_198 (Or.inl rfl) hk (by omega), hM k hk]
theorem m_st {k : Nat} {x : Int32} (hk : k < 431) : zsI 216 (qH g V X) 0 198 (Int32.ofNat k) x = some (qH g (qw V 198 (upd (V 198) k x)) X) := qsI (t := 0) qk_198 (Or.inl rfl) hk (by omega)
theorem rM.set (hM : rM V s) {k x : Nat} : rM (qw V 198 (upd (V 198) k (Int32.ofNat x))) (sU s k x) := by
  intro i hi
  rw [qw_s]
  by_cases e : i = k
  · subst e; rw [upd_s, sU_s]
  · rw [upd_n e, sU_n e]; exact hM i hi
theorem rM.fr {W : Nat → Nat → Int32} (hM : rM V s) (h : W 198 = V 198) : rM W s := fun i hi => by rw [h]; exact hM i hi
theorem m_isIn {k m : Nat} (hk : k < 2147483648) (hm : m < 2147483648) : fX12_isIn N 216 (qH g V X) (Int32.ofNat k) 0 (Int32.ofNat m - 1) = some (qz (decide (k < m))) := by
  unfold fX12_isIn
  rw [if_neg (Int32.ofNat_not_neg (by omega))]
  by_cases h0 : m = 0
  · subst h0
    rw [if_pos (by rw [show Int32.ofNat 0 - 1 = qo none by decide, qlto hk]; trivial)]; rfl
  · rw [qlit1, qsub (by omega)]
    by_cases h : k < m
    · rw [if_neg (by rw [qlt (by omega) (by omega)]; omega), decide_eq_true h]; rfl
    · rw [if_pos (by rw [qlt (by omega) (by omega)]; omega), decide_eq_false h]; rfl
theorem m_isInB {k a b : Nat} (hk : k < 2147483648) (ha : a < 2147483648) (hb : b < 2147483648) : fX12_isIn N 216 (qH g V X) (Int32.ofNat k) (Int32.ofNat a) (Int32.ofNat b) = some (qz (decide (a ≤ k ∧ k ≤ b))) := by
  unfold fX12_isIn
  by_cases h : k < a
  · rw [if_pos (by rw [qlt (by omega) (by omega)]; omega), decide_eq_false (by omega)]; rfl
  · rw [if_neg (by rw [qlt (by omega) (by omega)]; omega)]
    by_cases h2 : b < k
    · rw [if_pos (by rw [qlt (by omega) (by omega)]; omega), decide_eq_false (by omega)]; rfl
    · rw [if_neg (by rw [qlt (by omega) (by omega)]; omega), decide_eq_true (by omega)]; rfl
theorem m_isInN {p b : Int32} (hp : p < 0) : fX12_isIn N 216 (qH g V X) p 0 b = some (qz false) := by
  unfold fX12_isIn
  rw [if_pos hp]; rfl
theorem m_isCell (hM : rM V s) (hW : sWF s) {x y : Nat} (hx : x < 2147483648) (hy : y < 2147483648) : fX12_isCell N 216 (qH g V X) 196 (Int32.ofNat x) (Int32.ofNat y) = some (qz (decide (x < s 0 ∧ y < s 1))) := by
  obtain ⟨⟨w0, w0b⟩, ⟨w1, w1b⟩, w2, w3, w4, w5, w95, w113, w101, w129, w134⟩ := id hW
  unfold fX12_isCell
  rw [q196_g6, Option.bind_some, qlit0, m_ld hM (by omega), Option.bind_some, ← qlit0, m_isIn hx (by omega), Option.bind_some]
  by_cases h : x < s 0
  · rw [decide_eq_true h, if_neg qzt, Option.bind_some, l1, m_ld hM (by omega), Option.bind_some, ← l1, m_isIn hy (by omega), Option.bind_some]
    by_cases h2 : y < s 1
    · rw [decide_eq_true h2, if_neg qzt, decide_eq_true ⟨h, h2⟩]; rfl
    · rw [decide_eq_false h2, if_pos qzf, decide_eq_false (by omega)]; rfl
  · rw [decide_eq_false h, if_pos qzf, decide_eq_false (by omega)]; rfl
theorem m_isCellX (hM : rM V s) (hW : sWF s) {x y : Int32} (hx : x < 0) : fX12_isCell N 216 (qH g V X) 196 x y = some (qz false) := by
  unfold fX12_isCell
  rw [q196_g6, Option.bind_some, qlit0, m_ld hM (by omega), Option.bind_some, ← qlit0, m_isInN hx, Option.bind_some, if_pos qzf]; rfl
theorem m_isCellY (hM : rM V s) (hW : sWF s) {x : Nat} {y : Int32} (hx : x < 2147483648) (hy : y < 0) : fX12_isCell N 216 (qH g V X) 196 (Int32.ofNat x) y = some (qz false) := by
  obtain ⟨⟨w0, w0b⟩, ⟨w1, w1b⟩, w2, w3, w4, w5, w95, w113, w101, w129, w134⟩ := id hW
  unfold fX12_isCell
  rw [q196_g6, Option.bind_some, qlit0, m_ld hM (by omega), Option.bind_some, ← qlit0, m_isIn hx (by omega), Option.bind_some]
  by_cases h : x < s 0
  · rw [decide_eq_true h, if_neg qzt, Option.bind_some, l1, m_ld hM (by omega), Option.bind_some, m_isInN hy, Option.bind_some, if_pos qzf]; rfl
  · rw [decide_eq_false h, if_pos qzf]; rfl
theorem m_beside47 (hM : rM V s) (hW : sWF s) {x y : Nat} {u v : Int32} (hx : x < 1000) (hy : y < 1000) (h : u + v = Int32.ofNat y) : fX12_beside_47 N 216 (qH g V X) 196 (Int32.ofNat x) u v = some (qo (if x < s 0 ∧ y < s 1 then some (9 * y + x) else none)) := by
  unfold fX12_beside_47
  rw [q196_c, Option.bind_some, h, m_isCell hM hW (by omega) (by omega), Option.bind_some]
  by_cases h : x < s 0 ∧ y < s 1
  · rw [decide_eq_true h, if_neg qzt, if_pos h, l9, qmul, qadd]; rfl
  · rw [decide_eq_false h, if_pos qzf, if_neg h]; rfl
theorem m_beside (hM : rM V s) (hW : sWF s) {c d : Nat} (hc : c < 81) (hd : d < 4) : fX12_beside N 216 (qH g V X) 196 (Int32.ofNat c) (Int32.ofNat d) = some (qo (sBeside s c d)) := by
  have h9 : c % 9 < 9 := Nat.mod_lt _ (by decide)
  have h8 : c / 9 < 9 := by omega
  unfold fX12_beside fX12_beside_22 sBeside
  rw [l9, qrem (by omega) (by omega), qdiv (by omega) (by omega)]
  rcases (show d = 0 ∨ d = 1 ∨ d = 2 ∨ d = 3 by omega) with rfl | rfl | rfl | rfl
  · rw [if_pos (show Int32.ofNat 0 = (0 : Int32) from rfl), if_neg (show ¬ Int32.ofNat 0 = (1 : Int32) by decide), if_neg (show ¬ Int32.ofNat 0 = (3 : Int32) by decide), if_pos rfl, show Int32.ofNat (c % 9) + 1 = Int32.ofNat (c % 9 + 1) by rw [l1, qadd], m_beside47 hM hW (y := c / 9) (by omega) (by omega) (by rw [l0, qadd]; rfl)]
  · rw [if_neg (show ¬ Int32.ofNat 1 = (0 : Int32) by decide), if_neg (show ¬ Int32.ofNat 1 = (2 : Int32) by decide), if_pos (show Int32.ofNat 1 = (1 : Int32) from rfl), if_neg (by decide), if_pos rfl, show Int32.ofNat (c % 9) + 0 = Int32.ofNat (c % 9) by rw [l0, qadd]; rfl, m_beside47 hM hW (y := c / 9 + 1) (by omega) (by omega) (by rw [l1, qadd])]
  · rw [if_neg (show ¬ Int32.ofNat 2 = (0 : Int32) by decide), if_pos (show Int32.ofNat 2 = (2 : Int32) from rfl), if_neg (show ¬ Int32.ofNat 2 = (1 : Int32) by decide), if_neg (show ¬ Int32.ofNat 2 = (3 : Int32) by decide), if_neg (by decide), if_neg (by decide), if_pos rfl]
    by_cases h0 : c % 9 = 0
    · rw [h0, qdec0, if_neg (by omega)]
      unfold fX12_beside_47
      rw [q196_c, Option.bind_some, m_isCellX hM hW (by decide), Option.bind_some, if_pos qzf]; rfl
    · rw [qdec (by omega), m_beside47 hM hW (y := c / 9) (by omega) (by omega) (by rw [l0, qadd]; rfl)]
      congr 3
      exact propext ⟨fun h => ⟨by omega, h.1, h.2⟩, fun h => ⟨h.2.1, h.2.2⟩⟩
  · rw [if_neg (show ¬ Int32.ofNat 3 = (0 : Int32) by decide), if_neg (show ¬ Int32.ofNat 3 = (2 : Int32) by decide), if_neg (show ¬ Int32.ofNat 3 = (1 : Int32) by decide), if_pos (show Int32.ofNat 3 = (3 : Int32) from rfl), if_neg (by decide), if_neg (by decide), if_neg (by decide), show Int32.ofNat (c % 9) + 0 = Int32.ofNat (c % 9) by rw [l0, qadd]; rfl]
    by_cases h0 : c / 9 = 0
    · rw [h0, if_neg (by omega)]
      unfold fX12_beside_47
      rw [q196_c, Option.bind_some, qdec0, m_isCellY hM hW (by omega) (by decide), Option.bind_some, if_pos qzf]; rfl
    · rw [m_beside47 hM hW (y := c / 9 - 1) (by omega) (by omega) (qdec (by omega))]
      congr 3
      exact propext ⟨fun h => ⟨h.1, by omega, h.2⟩, fun h => ⟨h.1, h.2.2⟩⟩
theorem m_figureAt2 (hM : rM V s) (hW : sWF s) (hD : sWD s) {c : Nat} (hc : c < 2147483648) : ∀ m i k, i + m = s 3 → m < k → fX12_figureAt_2 N 216 (qH g V X) k 196 (Int32.ofNat c) (Int32.ofNat i) = some (qo (qfnd (fun f => decide (s (141 + f) = c)) i m)) := by
  intro m
  obtain ⟨⟨w0, w0b⟩, ⟨w1, w1b⟩, w2, w3, w4, w5, w95, w113, w101, w129, w134⟩ := id hW
  obtain ⟨d139, d140, d141, d147, d159, d164, d169, dinj⟩ := id hD
  induction m with
  | zero =>
    intro i k hi hk
    obtain ⟨k, rfl⟩ : ∃ j, k = j + 1 := ⟨k - 1, by omega⟩
    unfold fX12_figureAt_2
    rw [q196_g6, Option.bind_some, l3, m_ld hM (by omega), Option.bind_some, if_pos (by rw [qle (by omega) (by omega)]; omega)]; rfl
  | succ m ih =>
    intro i k hi hk
    obtain ⟨k, rfl⟩ : ∃ j, k = j + 1 := ⟨k - 1, by omega⟩
    have h1 := d141 i (by omega)
    unfold fX12_figureAt_2 qfnd
    rw [q196_g6, Option.bind_some, l3, m_ld hM (by omega), Option.bind_some, if_neg (by rw [qle (by omega) (by omega)]; omega), Option.bind_some, l141, qadd, m_ld hM (by omega), Option.bind_some, l1, qadd]
    by_cases h : s (141 + i) = c
    · rw [if_pos (by rw [h]), if_pos (decide_eq_true h)]; rfl
    · rw [if_neg (by rw [qeq (by omega) (by omega)]; omega), ih (i + 1) k (by omega) (by omega), if_neg (by simp [h])]
theorem m_figureAt (hN : 3000 ≤ N) (hM : rM V s) (hW : sWF s) (hD : sWD s) {c : Nat} (hc : c < 2147483648) : fX12_figureAt N 216 (qH g V X) 196 (Int32.ofNat c) = some (qo (sFig s c)) := by
  unfold fX12_figureAt sFig
  have h3 := hW.2.2.2.1
  exact m_figureAt2 hM hW hD hc (s 3) 0 N (by omega) (by omega)
theorem m_lookerAt2 (hM : rM V s) (hW : sWF s) (hD : sWD s) {c : Nat} (hc : c < 2147483648) : ∀ m i k, i + m = s 4 → m < k → fX12_lookerAt_2 N 216 (qH g V X) k 196 (Int32.ofNat c) (Int32.ofNat i) = some (qo (qfnd (fun f => decide (s (159 + f) = c)) i m)) := by
  intro m
  obtain ⟨⟨w0, w0b⟩, ⟨w1, w1b⟩, w2, w3, w4, w5, w95, w113, w101, w129, w134⟩ := id hW
  obtain ⟨d139, d140, d141, d147, d159, d164, d169, dinj⟩ := id hD
  induction m with
  | zero =>
    intro i k hi hk
    obtain ⟨k, rfl⟩ : ∃ j, k = j + 1 := ⟨k - 1, by omega⟩
    unfold fX12_lookerAt_2
    rw [q196_g6, Option.bind_some, l4, m_ld hM (by omega), Option.bind_some, if_pos (by rw [qle (by omega) (by omega)]; omega)]; rfl
  | succ m ih =>
    intro i k hi hk
    obtain ⟨k, rfl⟩ : ∃ j, k = j + 1 := ⟨k - 1, by omega⟩
    have h1 := d159 i (by omega)
    unfold fX12_lookerAt_2 qfnd
    rw [q196_g6, Option.bind_some, l4, m_ld hM (by omega), Option.bind_some, if_neg (by rw [qle (by omega) (by omega)]; omega), Option.bind_some, l159, qadd, m_ld hM (by omega), Option.bind_some, l1, qadd]
    by_cases h : s (159 + i) = c
    · rw [if_pos (by rw [h]), if_pos (decide_eq_true h)]; rfl
    · rw [if_neg (by rw [qeq (by omega) (by omega)]; omega), ih (i + 1) k (by omega) (by omega), if_neg (by simp [h])]
theorem m_lookerAt (hN : 3000 ≤ N) (hM : rM V s) (hW : sWF s) (hD : sWD s) {c : Nat} (hc : c < 2147483648) : fX12_lookerAt N 216 (qH g V X) 196 (Int32.ofNat c) = some (qo (sLook s c)) := by
  unfold fX12_lookerAt sLook
  have h3 := hW.2.2.2.2.1
  exact m_lookerAt2 hM hW hD hc (s 4) 0 N (by omega) (by omega)
theorem q0le {k : Nat} (h : k < 2147483648) : 0 ≤ Int32.ofNat k := by rw [qlit0, qle (by omega) (by omega)]; omega
theorem m_canGo (hN : 3000 ≤ N) (hM : rM V s) (hW : sWF s) (hD : sWD s) {f : Nat} (hf : f < s 3) : fX12_canGo N 216 (qH g V X) 196 (Int32.ofNat f) = some (qz (sCan s f)) := by
  obtain ⟨⟨w0, w0b⟩, ⟨w1, w1b⟩, w2, w3, w4, w5, w95, w113, w101, w129, w134⟩ := id hW
  obtain ⟨d139, d140, d141, d147, d159, d164, d169, dinj⟩ := id hD
  unfold fX12_canGo sCan
  rw [q196_g6, Option.bind_some, l141, qadd, m_ld hM (by omega), Option.bind_some, Option.bind_some, l147, qadd, m_ld hM (by omega), Option.bind_some, q196_c, Option.bind_some, m_beside hM hW (d141 f hf) (d147 f hf), Option.bind_some]
  cases hb : sBeside s (s (141 + f)) (s (147 + f)) with
  | none => rw [if_pos (by decide)]; rfl
  | some t =>
    have ht := sBeside_lt hW hb
    have h5 := w5 t ht
    dsimp only
    unfold sFree
    rw [qo_some, if_neg (Int32.ofNat_not_neg (by omega)), Option.bind_some, l5, qadd, m_ld hM (by omega), Option.bind_some]
    by_cases h0 : s (5 + t) = 0
    · rw [if_pos (by rw [h0]; rfl), Option.bind_some, m_figureAt hN hM hW hD (by omega), Option.bind_some, decide_eq_true h0]
      cases h1 : sFig s t with
      | some k => rw [qo_some, if_pos (q0le (sFig_lt hW h1))]; rfl
      | none =>
        rw [if_neg (by decide), Option.bind_some, m_lookerAt hN hM hW hD (by omega), Option.bind_some]
        cases h2 : sLook s t with
        | some k => rw [qo_some, if_pos (q0le (sLook_lt hW h2))]; rfl
        | none => rw [if_neg (by decide)]; rfl
    · rw [if_neg (by rw [qlit0, qeq (by omega) (by omega)]; exact h0), decide_eq_false h0]; rfl
end QM
