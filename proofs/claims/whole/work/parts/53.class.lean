/-! the class's methods on a field and a state -/
section QC
variable {g : zF} {V : Nat → Nat → Int32} {X : Nat → Nat → Int64} {N a φ : Nat} {s : Nat → Nat}
theorem qzf : qz false = 0 := rfl
theorem qzt : ¬ qz true = 0 := by decide
theorem e_at {r n k : Nat} (h : r < 216 ∧ qK r = 20 ∧ qL r = n) (hk : k < n) (hn : n < 2147483648) : fX11_at N 216 (qH g V X) r (Int32.ofNat k) = some (V r k) := by
  unfold fX11_at
  rw [if_neg (Int32.ofNat_not_neg (by omega)), qlen (t := 0) h (Or.inl rfl), Option.bind_some, if_neg (by rw [qle (by omega) (by omega)]; omega), qlI (t := 0) h (Or.inl rfl) hk hn]
  rfl
theorem e_put {r n k : Nat} {x : Int32} (h : r < 216 ∧ qK r = 20 ∧ qL r = n) (hk : k < n) (hn : n < 2147483648) : fX11_put N 216 (qH g V X) r (Int32.ofNat k) x = some (qH g (qw V r (upd (V r) k x)) X) := by
  unfold fX11_put
  rw [if_neg (Int32.ofNat_not_neg (by omega)), qlen (t := 0) h (Or.inl rfl), Option.bind_some, if_neg (by rw [qle (by omega) (by omega)]; omega), qsI (t := 0) h (Or.inl rfl) hk hn]
  rfl
theorem e_copy {r b n : Nat} (h : r < 216 ∧ qK r = 20 ∧ qL r = n) (h2 : b < 216 ∧ qK b = 20 ∧ qL b = n) (hn : n < 2147483648) : fX11_copy N 216 (qH g V X) r b = some (qH g (qw V b (fun i => if i < n then V r i else V b i)) X) := by
  unfold fX11_copy fJ9_min_7cf53
  rw [qlen (t := 0) h (Or.inl rfl), Option.bind_some, qlen (t := 0) h2 (Or.inl rfl), Option.bind_some, if_neg (by rw [qlt (by omega) (by omega)]; omega), Option.bind_some, qcpI h h2 hn]
  rfl
theorem e_copyNames {r b n : Nat} (h : r < 216 ∧ qK r = 21 ∧ qL r = n) (h2 : b < 216 ∧ qK b = 21 ∧ qL b = n) (hn : n < 2147483648) : fX11_copyNames N 216 (qH g V X) r b = some (qH g V (qx X b (fun i => if i < n then X r i else X b i))) := by
  unfold fX11_copyNames fJ9_min_7cf53
  rw [qlenL h, Option.bind_some, qlenL h2, Option.bind_some, if_neg (by rw [qlt (by omega) (by omega)]; omega), Option.bind_some, qcpL h h2 hn]
  rfl
theorem e_divides {d k : Nat} (hd : 1 ≤ d) (hd2 : d < 2147483648) (hk : k < 2147483648) : fX11_divides N 216 (qH g V X) (Int32.ofNat d) (Int32.ofNat k) = some (qz (decide (k % d = 0))) := by
  unfold fX11_divides znz
  simp (disch := omega) only [qlit0, qle, qeq, qrem, Nat.le_zero]
  rw [if_neg (by omega), if_neg (by omega)]
  have hm : k % d ≤ k := Nat.mod_le _ _
  simp (disch := omega) only [Option.bind_some, qeq]
  by_cases h : k % d = 0
  · rw [if_pos h, decide_eq_true h]; rfl
  · rw [if_neg h, decide_eq_false h]; rfl
theorem e_beside61 (hF : qF φ) (hR : rF V φ s) (hW : sWF s) {x y : Nat} (hx : x < 100) (hy : y < 100) : fX2_beside_61 N 216 (qH g V X) φ (Int32.ofNat x) (Int32.ofNat y) = some (qo (if x < s 0 ∧ y < s 1 then some (9 * y + x) else none)) := by
  obtain ⟨⟨hw, hw2⟩, ⟨hh, hh2⟩, -⟩ := hW
  obtain ⟨r0, r1, -⟩ := hR
  unfold fX2_beside_61
  simp (disch := omega) only [qF_g0 hF, qF_g1 hF, r0, r1, Option.bind_some, qlit, qadd, qmul, qle, qlt, qmr, Nat.not_lt_zero, if_false]
  split
  · rw [if_neg (by omega)]
  · split
    · rw [if_neg (by omega)]
    · rw [if_pos (by omega)]; rfl
theorem e_beside61x {y : Int32} : fX2_beside_61 N 216 (qH g V X) φ (-1) y = some (qo none) := by
  unfold fX2_beside_61
  rw [if_pos (by decide)]
  rfl
theorem e_beside61y (hF : qF φ) (hR : rF V φ s) (hW : sWF s) {x : Nat} (hx : x < 100) : fX2_beside_61 N 216 (qH g V X) φ (Int32.ofNat x) (-1) = some (qo none) := by
  obtain ⟨⟨hw, hw2⟩, ⟨hh, hh2⟩, -⟩ := hW
  obtain ⟨r0, r1, -⟩ := hR
  unfold fX2_beside_61
  rw [if_neg (Int32.ofNat_not_neg (by omega)), qF_g0 hF, Option.bind_some]
  split
  · rfl
  · rw [if_pos (by decide)]; rfl
theorem e_beside (hF : qF φ) (hR : rF V φ s) (hW : sWF s) {c d : Nat} (hc : c < 81) (hd : d < 4) : fX2_beside N 216 (qH g V X) φ (Int32.ofNat c) (Int32.ofNat d) = some (qo (sBeside s c d)) := by
  have h9 : c % 9 < 9 := Nat.mod_lt _ (by decide)
  have h8 : c / 9 < 9 := by omega
  unfold fX2_beside sBeside
  rw [show (9 : Int32) = Int32.ofNat 9 from rfl, qrem (by omega) (by omega), qdiv (by omega) (by omega)]
  rcases (show d = 0 ∨ d = 1 ∨ d = 2 ∨ d = 3 by omega) with rfl | rfl | rfl | rfl
  · rw [if_pos (show Int32.ofNat 0 = (0 : Int32) from rfl), if_pos rfl, qlit1, qadd, e_beside61 hF hR hW (by omega) (by omega)]
  · rw [if_neg (show ¬ Int32.ofNat 1 = (0 : Int32) by decide), if_pos (show Int32.ofNat 1 = (1 : Int32) from rfl), if_neg (by decide), if_pos rfl, qlit1, qadd, e_beside61 hF hR hW (by omega) (by omega)]
  · rw [if_neg (show ¬ Int32.ofNat 2 = (0 : Int32) by decide), if_neg (show ¬ Int32.ofNat 2 = (1 : Int32) by decide), if_pos (show Int32.ofNat 2 = (2 : Int32) from rfl), if_neg (by decide), if_neg (by decide), if_pos rfl]
    by_cases h0 : c % 9 = 0
    · rw [h0, qdec0, e_beside61x, if_neg (by omega)]
    · rw [qdec (by omega), e_beside61 hF hR hW (by omega) (by omega)]
      congr 3
      exact propext ⟨fun h => ⟨by omega, h.1, h.2⟩, fun h => ⟨h.2.1, h.2.2⟩⟩
  · rw [if_neg (show ¬ Int32.ofNat 3 = (0 : Int32) by decide), if_neg (show ¬ Int32.ofNat 3 = (1 : Int32) by decide), if_neg (show ¬ Int32.ofNat 3 = (2 : Int32) by decide), if_neg (by decide), if_neg (by decide), if_neg (by decide)]
    by_cases h0 : c / 9 = 0
    · rw [h0, qdec0, e_beside61y hF hR hW (by omega), if_neg (by omega)]
    · rw [qdec (by omega), e_beside61 hF hR hW (by omega) (by omega)]
      congr 3
      exact propext ⟨fun h => ⟨h.1, by omega, h.2⟩, fun h => ⟨h.1, h.2.2⟩⟩
theorem e_hasHedge (hF : qF φ) (hR : rF V φ s) (hW : sWF s) {c : Nat} (hc : c < 81) : fX2_hasHedge N 216 (qH g V X) φ (Int32.ofNat c) = some (qz (decide (s (5 + c) = 1))) := by
  obtain ⟨⟨w0, w0b⟩, ⟨w1, w1b⟩, w2, w3, w4, w5, w95, w113, w101, w129, w134⟩ := id hW
  obtain ⟨f0, f1, f2, f3, f4, f5, f95, f113, f101, f129, f134⟩ := id hR
  have hb := w5 c hc
  unfold fX2_hasHedge
  rw [if_neg (Int32.ofNat_not_neg (by omega)), qF_g8 hF, Option.bind_some, qlen (t := 0) (qF_k4 hF) (Or.inl rfl), Option.bind_some, if_neg (by rw [qle (by omega) (by omega)]; omega), Option.bind_some, qlI (t := 0) (qF_k4 hF) (Or.inl rfl) hc (by omega), Option.bind_some, f5 c hc, qlit1]
  by_cases h : s (5 + c) = 1
  · rw [if_pos (by rw [h]), decide_eq_true h]; rfl
  · rw [if_neg (by rw [qeq (by omega) (by omega)]; omega), decide_eq_false h]; rfl
theorem e_figureIn2 (hA : qS a φ) (hF : qF φ) (hR : rF V φ s) (hS : rS V a s) (hW : sWF s) (hD : sWD s) {c : Nat} (hc : c < 2147483648) : ∀ m i k, i + m = s 3 → m < k → fX8_figureIn_2 N 216 (qH g V X) k a (Int32.ofNat c) (Int32.ofNat i) = some (qo (qfnd (fun f => decide (s (141 + f) = c)) i m)) := by
  intro m
  obtain ⟨⟨w0, w0b⟩, ⟨w1, w1b⟩, w2, w3, w4, w5, w95, w113, w101, w129, w134⟩ := id hW
  obtain ⟨f0, f1, f2, f3, f4, f5, f95, f113, f101, f129, f134⟩ := id hR
  induction m with
  | zero =>
    intro i k hi hk
    obtain ⟨k, rfl⟩ : ∃ j, k = j + 1 := ⟨k - 1, by omega⟩
    unfold fX8_figureIn_2
    rw [qS_g0 hA, Option.bind_some, qF_g3 hF, Option.bind_some, f3, if_pos (by rw [qle (by omega) (by omega)]; omega)]
    rfl
  | succ m ih =>
    intro i k hi hk
    obtain ⟨k, rfl⟩ : ∃ j, k = j + 1 := ⟨k - 1, by omega⟩
    have hv := hD.2.2.1 i (by omega)
    unfold fX8_figureIn_2 qfnd
    rw [qS_g0 hA, Option.bind_some, qF_g3 hF, Option.bind_some, f3, if_neg (by rw [qle (by omega) (by omega)]; omega), qS_g2 hA, Option.bind_some, qlen (t := 0) (qS_k1 hA) (Or.inl rfl), Option.bind_some, if_neg (by rw [qle (by omega) (by omega)]; omega), Option.bind_some, qlI (t := 0) (qS_k1 hA) (Or.inl rfl) (by omega) (by omega), Option.bind_some, hS.2.1 i (by omega), qlit1, qadd]
    by_cases h : s (141 + i) = c
    · rw [if_pos (by rw [h]), if_pos (decide_eq_true h)]; rfl
    · rw [if_neg (by rw [qeq (by omega) (by omega)]; omega), ih (i + 1) k (by omega) (by omega), if_neg (by simp [h])]
theorem e_figureIn (hN : 3000 ≤ N) (hA : qS a φ) (hF : qF φ) (hR : rF V φ s) (hS : rS V a s) (hW : sWF s) (hD : sWD s) {c : Nat} (hc : c < 2147483648) : fX8_figureIn N 216 (qH g V X) a (Int32.ofNat c) = some (qo (sFig s c)) := by
  unfold fX8_figureIn sFig
  have h3 := hW.2.2.2.1
  exact e_figureIn2 hA hF hR hS hW hD hc (s 3) 0 N (by omega) (by omega)
theorem e_lookerIn2 (hA : qS a φ) (hF : qF φ) (hR : rF V φ s) (hS : rS V a s) (hW : sWF s) (hD : sWD s) {c : Nat} (hc : c < 2147483648) : ∀ m i k, i + m = s 4 → m < k → fX8_lookerIn_2 N 216 (qH g V X) k a (Int32.ofNat c) (Int32.ofNat i) = some (qo (qfnd (fun f => decide (s (159 + f) = c)) i m)) := by
  intro m
  obtain ⟨⟨w0, w0b⟩, ⟨w1, w1b⟩, w2, w3, w4, w5, w95, w113, w101, w129, w134⟩ := id hW
  obtain ⟨f0, f1, f2, f3, f4, f5, f95, f113, f101, f129, f134⟩ := id hR
  induction m with
  | zero =>
    intro i k hi hk
    obtain ⟨k, rfl⟩ : ∃ j, k = j + 1 := ⟨k - 1, by omega⟩
    unfold fX8_lookerIn_2
    rw [qS_g0 hA, Option.bind_some, qF_g4 hF, Option.bind_some, f4, if_pos (by rw [qle (by omega) (by omega)]; omega)]
    rfl
  | succ m ih =>
    intro i k hi hk
    obtain ⟨k, rfl⟩ : ∃ j, k = j + 1 := ⟨k - 1, by omega⟩
    have hv := hD.2.2.2.2.1 i (by omega)
    unfold fX8_lookerIn_2 qfnd
    rw [qS_g0 hA, Option.bind_some, qF_g4 hF, Option.bind_some, f4, if_neg (by rw [qle (by omega) (by omega)]; omega), qS_g5 hA, Option.bind_some, qlen (t := 0) (qS_k4 hA) (Or.inl rfl), Option.bind_some, if_neg (by rw [qle (by omega) (by omega)]; omega), Option.bind_some, qlI (t := 0) (qS_k4 hA) (Or.inl rfl) (by omega) (by omega), Option.bind_some, hS.2.2.2.2.1 i (by omega), qlit1, qadd]
    by_cases h : s (159 + i) = c
    · rw [if_pos (by rw [h]), if_pos (decide_eq_true h)]; rfl
    · rw [if_neg (by rw [qeq (by omega) (by omega)]; omega), ih (i + 1) k (by omega) (by omega), if_neg (by simp [h])]
theorem e_lookerIn (hN : 3000 ≤ N) (hA : qS a φ) (hF : qF φ) (hR : rF V φ s) (hS : rS V a s) (hW : sWF s) (hD : sWD s) {c : Nat} (hc : c < 2147483648) : fX8_lookerIn N 216 (qH g V X) a (Int32.ofNat c) = some (qo (sLook s c)) := by
  unfold fX8_lookerIn sLook
  have h4 := hW.2.2.2.2.1
  exact e_lookerIn2 hA hF hR hS hW hD hc (s 4) 0 N (by omega) (by omega)
theorem sFig_lt (hW : sWF s) {c k : Nat} (h : sFig s c = some k) : k < 2147483648 := by
  have h1 := (qfnd_lt h).2.1
  have h3 := hW.2.2.2.1
  omega
theorem sLook_lt (hW : sWF s) {c k : Nat} (h : sLook s c = some k) : k < 2147483648 := by
  have h1 := (qfnd_lt h).2.1
  have h3 := hW.2.2.2.2.1
  omega
theorem e_hasSomebody (hN : 3000 ≤ N) (hA : qS a φ) (hF : qF φ) (hR : rF V φ s) (hS : rS V a s) (hW : sWF s) (hD : sWD s) {c : Nat} (hc : c < 2147483648) : fX8_hasSomebody N 216 (qH g V X) a (Int32.ofNat c) = some (qz (!((sFig s c).isNone && (sLook s c).isNone))) := by
  unfold fX8_hasSomebody
  rw [qS_c hA, Option.bind_some, e_figureIn hN hA hF hR hS hW hD hc, Option.bind_some]
  cases h1 : sFig s c with
  | some k => rw [if_neg (by rw [qo_some, qne1 (sFig_lt hW h1)]; exact not_false)]; rfl
  | none =>
    rw [if_pos qo_none, Option.bind_some, e_lookerIn hN hA hF hR hS hW hD hc, Option.bind_some]
    cases h2 : sLook s c with
    | some k => rw [if_neg (by rw [qo_some, qne1 (sLook_lt hW h2)]; exact not_false)]; rfl
    | none => rfl
theorem e_canGo (hN : 3000 ≤ N) (hA : qS a φ) (hF : qF φ) (hR : rF V φ s) (hS : rS V a s) (hW : sWF s) (hD : sWD s) {f : Nat} (hf : f < s 3) : fX8_canGo N 216 (qH g V X) a (Int32.ofNat f) = some (qz (sCan s f)) := by
  obtain ⟨⟨w0, w0b⟩, ⟨w1, w1b⟩, w2, w3, w4, w5, w95, w113, w101, w129, w134⟩ := id hW
  obtain ⟨d139, d140, d141, d147, d159, d164, d169, dinj⟩ := id hD
  obtain ⟨r139, r141, r147, r153, r159, r164, r140, r169⟩ := id hS
  unfold fX8_canGo sCan
  rw [qS_g0 hA, Option.bind_some, qS_g2 hA, Option.bind_some, e_at (qS_k1 hA) (by omega) (by omega), Option.bind_some, qS_g3 hA, Option.bind_some, e_at (qS_k2 hA) (by omega) (by omega), Option.bind_some, qF_c hF, Option.bind_some, r141 f hf, r147 f hf, e_beside hF hR hW (d141 f hf) (d147 f hf), Option.bind_some]
  cases hb : sBeside s (s (141 + f)) (s (147 + f)) with
  | none => rfl
  | some t =>
    have ht := sBeside_lt hW hb
    have h5 := w5 t ht
    dsimp only
    unfold sFree
    rw [qo_some, if_neg (by rw [qne1 (by omega)]; exact not_false), Option.bind_some, qF_c hF, Option.bind_some, e_hasHedge hF hR hW ht, Option.bind_some]
    by_cases h0 : s (5 + t) = 0
    · rw [if_pos (by rw [h0]; rfl), qS_c hA, Option.bind_some, e_figureIn hN hA hF hR hS hW hD (by omega), Option.bind_some, decide_eq_true h0]
      cases h1 : sFig s t with
      | some k => rw [if_neg (by rw [qo_some, qne1 (sFig_lt hW h1)]; exact not_false)]; rfl
      | none =>
        rw [if_pos qo_none, Option.bind_some, e_lookerIn hN hA hF hR hS hW hD (by omega), Option.bind_some]
        cases h2 : sLook s t with
        | some k => rw [if_neg (by rw [qo_some, qne1 (sLook_lt hW h2)]; exact not_false)]; rfl
        | none => rfl
    · rw [if_neg (by rw [decide_eq_true (show s (5 + t) = 1 by omega)]; decide), decide_eq_false h0]; rfl
theorem sShut_lt (l : Nat) : sShut s l < 2 := Nat.mod_lt _ (by decide)
theorem qfm : ∀ d : Nat, d < 24 → 0 < d → (if 0 ≤ (Int32.ofInt (-(d : Int)) ^^^ (24 : Int32)) then some (zrem (Int32.ofInt (-(d : Int))) 24) else if zrem (Int32.ofInt (-(d : Int))) 24 = 0 then some (zrem (Int32.ofInt (-(d : Int))) 24) else some (zrem (Int32.ofInt (-(d : Int))) 24 + 24)) = some (Int32.ofNat (24 - d)) := by decide +kernel
theorem e_floorMod {x y : Nat} (hx : x ≤ 200000) (hy : y ≤ 23) : fJ9_floorMod_7cf53 N 216 (qH g V X) (Int32.ofNat x - Int32.ofNat y) (24 : Int32) = some (Int32.ofNat ((x + 24 - y) % 24)) := by
  unfold fJ9_floorMod_7cf53 znz
  rw [if_neg (by decide), Option.bind_some]
  by_cases h : y ≤ x
  · have hx2 : (x - y) ^^^ 24 < 2 ^ 20 := Nat.xor_lt_two_pow (by omega) (by decide)
    rw [qsub h, show (24 : Int32) = Int32.ofNat 24 from rfl, qxor, if_pos (by rw [qlit0, qle (by omega) (by omega)]; omega), qrem (by omega) (by omega)]
    congr 2
    omega
  · have e : Int32.ofNat x - Int32.ofNat y = Int32.ofInt (-((y - x : Nat) : Int)) := by
      apply Int32.toInt_inj.mp
      rw [Int32.toInt_sub, Int32.toInt_ofNat_of_lt (by omega), Int32.toInt_ofNat_of_lt (by omega), Int32.toInt_ofInt_of_le (by omega) (by omega), Int.bmod_eq_of_le (by omega) (by omega)]
      omega
    rw [e, qfm (y - x) (by omega) (by omega)]
    congr 2
    omega
theorem e_looks (hN : 3000 ≤ N) (hA : qS a φ) (hF : qF φ) (hR : rF V φ s) (hS : rS V a s) (hW : sWF s) (hD : sWD s) {l : Nat} (hl : l < s 4) : fX8_looks N 216 (qH g V X) a (Int32.ofNat l) = some (qz (sLooks s l)) := by
  obtain ⟨⟨w0, w0b⟩, ⟨w1, w1b⟩, w2, w3, w4, w5, w95, w113, w101, w129, w134⟩ := id hW
  obtain ⟨d139, d140, d141, d147, d159, d164, d169, dinj⟩ := id hD
  obtain ⟨r139, r141, r147, r153, r159, r164, r140, r169⟩ := id hS
  obtain ⟨f0, f1, f2, f3, f4, f5, f95, f113, f101, f129, f134⟩ := id hR
  have hm : (s 139 + 24 - s (129 + l)) % 24 < 24 := Nat.mod_lt _ (by decide)
  have hs := sShut_lt (s := s) l
  have h134 := w134 l hl
  unfold fX8_looks sLooks
  rw [qS_g1 hA, Option.bind_some, qS_g0 hA, Option.bind_some, qF_g13 hF, Option.bind_some, e_at (qF_k9 hF) (by omega) (by omega), Option.bind_some, r139, f129 l hl, e_floorMod (by omega) (w129 l hl), Option.bind_some, qS_g7 hA, Option.bind_some, e_at (qS_k6 hA) (by omega) (by omega), Option.bind_some, r140 l hl]
  by_cases h0 : sShut s l = 0
  · rw [if_pos (by rw [h0]; rfl), Option.bind_some, qF_g14 hF, Option.bind_some, e_at (qF_k10 hF) (by omega) (by omega), Option.bind_some, f134 l hl, decide_eq_true h0]
    by_cases h1 : (s 139 + 24 - s (129 + l)) % 24 < s (134 + l)
    · rw [if_neg (by rw [qle (by omega) (by omega)]; omega), decide_eq_true h1]; rfl
    · rw [if_pos (by rw [qle (by omega) (by omega)]; omega), decide_eq_false h1]; rfl
  · rw [if_neg (by rw [qlit0, qeq (by omega) (by omega)]; omega), decide_eq_false h0]; rfl
/-! sight -/
theorem sLn_even {d : Nat} (hW : sWF s) (hd : d % 2 = 0) (hd4 : d < 4) : ∀ (n : Nat) (o : Option Nat) (r : Nat), (∀ c, o = some c → c / 9 = r ∧ c < 81) → ∀ t, t ∈ sLn s d n o → t / 9 = r := by
  intro n
  induction n with
  | zero => intro o r _ t ht; unfold sLn at ht; cases ht
  | succ n ih =>
    intro o r ho t ht
    cases o with
    | none => unfold sLn at ht; cases ht
    | some c =>
      obtain ⟨h1, h2⟩ := ho c rfl
      unfold sLn at ht
      split at ht
      · rcases List.mem_cons.mp ht with rfl | ht
        · exact h1
        · refine ih _ r (fun c2 hc2 => ⟨?_, sBeside_lt hW hc2⟩) t ht
          obtain ⟨⟨-, w0⟩, -⟩ := hW
          unfold sBeside at hc2
          rcases (show d = 0 ∨ d = 2 by omega) with rfl | rfl
          · rw [if_pos rfl] at hc2
            split at hc2 <;> first | (cases hc2; omega) | cases hc2
          · rw [if_neg (by decide), if_neg (by decide), if_pos rfl] at hc2
            split at hc2 <;> first | (cases hc2; omega) | cases hc2
      · cases ht
theorem sLn_odd {d : Nat} (hW : sWF s) (hd : d % 2 = 1) (hd4 : d < 4) : ∀ (n : Nat) (o : Option Nat) (r : Nat), (∀ c, o = some c → c % 9 = r ∧ c < 81) → ∀ t, t ∈ sLn s d n o → t % 9 = r := by
  intro n
  induction n with
  | zero => intro o r _ t ht; unfold sLn at ht; cases ht
  | succ n ih =>
    intro o r ho t ht
    cases o with
    | none => unfold sLn at ht; cases ht
    | some c =>
      obtain ⟨h1, h2⟩ := ho c rfl
      unfold sLn at ht
      split at ht
      · rcases List.mem_cons.mp ht with rfl | ht
        · exact h1
        · refine ih _ r (fun c2 hc2 => ⟨?_, sBeside_lt hW hc2⟩) t ht
          unfold sBeside at hc2
          rcases (show d = 1 ∨ d = 3 by omega) with rfl | rfl
          · rw [if_neg (by decide), if_pos rfl] at hc2
            split at hc2 <;> first | (cases hc2; omega) | cases hc2
          · rw [if_neg (by decide), if_neg (by decide), if_neg (by decide)] at hc2
            split at hc2 <;> first | (cases hc2; omega) | cases hc2
      · cases ht
theorem e_inSight58 (hA : qS a φ) (hF : qF φ) (hR : rF V φ s) (hW : sWF s) {d t : Nat} (hd : d < 4) (ht : t < 81) : ∀ m k (o : Option Nat), (∀ c, o = some c → c < 81) → m ≤ 9 → m < k → fX8_isInSight_58 N 216 (qH g V X) k a (Int32.ofNat d) (Int32.ofNat t) (qo o) 1 (Int32.ofNat (9 - m)) = some (qz (decide (t ∈ sLn s d m o))) := by
  intro m
  induction m with
  | zero =>
    intro k o ho hm hk
    obtain ⟨k, rfl⟩ : ∃ j, k = j + 1 := ⟨k - 1, by omega⟩
    unfold fX8_isInSight_58 sLn
    rw [if_neg (by decide), if_pos (by decide)]
    rfl
  | succ m ih =>
    intro k o ho hm hk
    obtain ⟨k, rfl⟩ : ∃ j, k = j + 1 := ⟨k - 1, by omega⟩
    unfold fX8_isInSight_58
    rw [if_neg (by decide), if_neg (by rw [show (9 : Int32) = Int32.ofNat 9 from rfl, qle (by omega) (by omega)]; omega)]
    cases o with
    | none => unfold sLn; rw [if_pos qo_none]; rfl
    | some c =>
      have hc := ho c rfl
      have h5 := hW.2.2.2.2.2.1 c hc
      unfold sLn
      rw [qo_some, if_neg (by rw [qne1 (by omega)]; exact not_false), qS_g0 hA, Option.bind_some, qF_c hF, Option.bind_some, e_hasHedge hF hR hW hc, Option.bind_some]
      by_cases h0 : s (5 + c) = 0
      · rw [if_pos (by rw [h0]; rfl), if_pos h0]
        by_cases h1 : c = t
        · subst h1
          rw [if_pos rfl, decide_eq_true List.mem_cons_self]; rfl
        · rw [if_neg (by rw [qeq (by omega) (by omega)]; omega), Option.bind_some, qF_c hF, Option.bind_some, e_beside hF hR hW hc hd, Option.bind_some, qlit1, qadd, show 9 - (m + 1) + 1 = 9 - m by omega, ← qlit1, ih k _ (fun c2 h2 => sBeside_lt hW h2) (by omega) (by omega)]
          congr 2
          simp [Ne.symm h1]
      · rw [if_neg (by rw [decide_eq_true (show s (5 + c) = 1 by omega)]; decide), if_neg h0]; rfl
theorem e_inSight0 {d : Int32} {t o : Int32} {k : Nat} : fX8_isInSight_58 N 216 (qH g V X) (k + 1) a d t o 0 0 = some (qz false) := by
  unfold fX8_isInSight_58
  rw [if_pos rfl]
  rfl
theorem e_isInSight (hN : 3000 ≤ N) (hA : qS a φ) (hF : qF φ) (hR : rF V φ s) (hS : rS V a s) (hW : sWF s) (hD : sWD s) {l d t : Nat} (hl : l < s 4) (hd : d < 4) (ht : t < 81) : fX8_isInSight N 216 (qH g V X) a (Int32.ofNat l) (Int32.ofNat d) (Int32.ofNat t) = some (qz (decide (t ∈ sLn s d 9 (some (s (159 + l)))))) := by
  obtain ⟨⟨w0, w0b⟩, ⟨w1, w1b⟩, w2, w3, w4, w5, w95, w113, w101, w129, w134⟩ := id hW
  obtain ⟨d139, d140, d141, d147, d159, d164, d169, dinj⟩ := id hD
  obtain ⟨r139, r141, r147, r153, r159, r164, r140, r169⟩ := id hS
  have hp := d159 l hl
  obtain ⟨N, rfl⟩ : ∃ j, N = j + 1 := ⟨N - 1, by omega⟩
  unfold fX8_isInSight fX8_isInSight_53
  rw [qS_g5 hA, Option.bind_some, e_at (qS_k4 hA) (by omega) (by omega), Option.bind_some, r159 l hl, show (9 : Int32) = Int32.ofNat 9 from rfl, show (2 : Int32) = Int32.ofNat 2 from rfl, qrem (by omega) (by omega), qrem (by omega) (by omega), qrem (by omega) (by omega), qdiv (by omega) (by omega), qdiv (by omega) (by omega)]
  have hmain : fX8_isInSight_58 (N + 1) 216 (qH g V X) (N + 1) a (Int32.ofNat d) (Int32.ofNat t) (Int32.ofNat (s (159 + l))) 1 0 = some (qz (decide (t ∈ sLn s d 9 (some (s (159 + l)))))) := e_inSight58 hA hF hR hW hd ht 9 (N + 1) (some (s (159 + l))) (fun c hc => by cases hc; exact hp) (by omega) (by omega)
  by_cases he : d % 2 = 0
  · rw [if_pos (by rw [he]; rfl)]
    by_cases h1 : s (159 + l) / 9 = t / 9
    · rw [if_pos (by rw [h1]), hmain]
    · rw [if_neg (by rw [qeq (by omega) (by omega)]; omega), e_inSight0, decide_eq_false]
      intro hm
      exact h1 (sLn_even hW he hd 9 _ _ (fun c hc => by cases hc; exact ⟨rfl, hp⟩) t hm).symm
  · rw [if_neg (by rw [qlit0, qeq (by omega) (by omega)]; omega)]
    by_cases h1 : s (159 + l) % 9 = t % 9
    · rw [if_pos (by rw [h1]), hmain]
    · rw [if_neg (by rw [qeq (by omega) (by omega)]; omega), e_inSight0, decide_eq_false]
      intro hm
      exact h1 (sLn_odd hW (by omega) hd 9 _ _ (fun c hc => by cases hc; exact ⟨rfl, hp⟩) t hm).symm
theorem qbits_sh {l : Nat} (hl : l < 31) : zishl (1 : Int32) (Int32.ofNat l) = Int32.ofNat (2 ^ l) := by
  rw [qlit1, qshl (by omega), Nat.one_mul]
theorem e_seers2 (hN : 3000 ≤ N) (hA : qS a φ) (hF : qF φ) (hR : rF V φ s) (hS : rS V a s) (hW : sWF s) (hD : sWD s) {t : Nat} (ht : t < 81) : ∀ m i k, i + m = s 4 → m < k → fX8_seers_14 N 216 (qH g V X) k a (Int32.ofNat (qbits (fun l => sLooks s l && decide (t ∈ sLn s (s (164 + l)) 9 (some (s (159 + l))))) i)) (Int32.ofNat t) (Int32.ofNat i) = some (Int32.ofNat (qbits (fun l => sLooks s l && decide (t ∈ sLn s (s (164 + l)) 9 (some (s (159 + l))))) (s 4))) := by
  intro m
  obtain ⟨⟨w0, w0b⟩, ⟨w1, w1b⟩, w2, w3, w4, w5, w95, w113, w101, w129, w134⟩ := id hW
  obtain ⟨f0, f1, f2, f3, f4, f5, f95, f113, f101, f129, f134⟩ := id hR
  obtain ⟨r139, r141, r147, r153, r159, r164, r140, r169⟩ := id hS
  induction m with
  | zero =>
    intro i k hi hk
    obtain ⟨k, rfl⟩ : ∃ j, k = j + 1 := ⟨k - 1, by omega⟩
    unfold fX8_seers_14
    rw [qS_g0 hA, Option.bind_some, qF_g4 hF, Option.bind_some, f4, if_pos (by rw [qle (by omega) (by omega)]; omega), show i = s 4 by omega]
  | succ m ih =>
    intro i k hi hk
    obtain ⟨k, rfl⟩ : ∃ j, k = j + 1 := ⟨k - 1, by omega⟩
    have hq : qbits (fun l => sLooks s l && decide (t ∈ sLn s (s (164 + l)) 9 (some (s (159 + l))))) (i + 1) = qbits (fun l => sLooks s l && decide (t ∈ sLn s (s (164 + l)) 9 (some (s (159 + l))))) i + (if (sLooks s i && decide (t ∈ sLn s (s (164 + i)) 9 (some (s (159 + i))))) = true then 2 ^ i else 0) := rfl
    have hih := ih (i + 1) k (by omega) (by omega)
    unfold fX8_seers_14 fX8_seers_61
    rw [qS_g0 hA, Option.bind_some, qF_g4 hF, Option.bind_some, f4, if_neg (by rw [qle (by omega) (by omega)]; omega), qS_c hA, Option.bind_some, e_looks hN hA hF hR hS hW hD (by omega), Option.bind_some, qlit1, qadd]
    cases hL : sLooks s i with
    | false =>
      rw [hL] at hq
      rw [if_pos qzf, ← hih, hq]
      rfl
    | true =>
      rw [hL] at hq
      rw [if_neg (by decide), qS_g6 hA, Option.bind_some, e_at (qS_k5 hA) (by omega) (by omega), Option.bind_some, Option.bind_some, r164 i (by omega), e_isInSight hN hA hF hR hS hW hD (by omega) (hD.2.2.2.2.2.1 i (by omega)) ht, Option.bind_some]
      by_cases hT : t ∈ sLn s (s (164 + i)) 9 (some (s (159 + i)))
      · rw [decide_eq_true hT] at hq ⊢
        rw [if_neg (by decide), ← qlit1, qbits_sh (by omega), qor, qbits_or, ← hih, hq]
        rfl
      · rw [decide_eq_false hT] at hq ⊢
        rw [if_pos qzf, ← hih, hq]
        rfl
theorem e_seers (hN : 3000 ≤ N) (hA : qS a φ) (hF : qF φ) (hR : rF V φ s) (hS : rS V a s) (hW : sWF s) (hD : sWD s) {f : Nat} (hf : f < s 3) : fX8_seers N 216 (qH g V X) a (Int32.ofNat f) = some (Int32.ofNat (sSeers s f)) := by
  obtain ⟨⟨w0, w0b⟩, ⟨w1, w1b⟩, w2, w3, w4, w5, w95, w113, w101, w129, w134⟩ := id hW
  obtain ⟨d139, d140, d141, d147, d159, d164, d169, dinj⟩ := id hD
  unfold fX8_seers sSeers sSight
  rw [qS_g2 hA, Option.bind_some, e_at (qS_k1 hA) (by omega) (by omega), Option.bind_some, hS.2.1 f hf]
  exact e_seers2 hN hA hF hR hS hW hD (d141 f hf) (s 4) 0 N (by omega) (by omega)
theorem e_sight2 (hN : 3000 ≤ N) (hA : qS a φ) (hF : qF φ) (hR : rF V φ s) (hS : rS V a s) (hW : sWF s) (hD : sWD s) {l d : Nat} (hl : l < s 4) (hd : d < 4) : ∀ m i k, i + m = s 3 → m < k → fX8_sight_5 N 216 (qH g V X) k a (Int32.ofNat l) (Int32.ofNat d) (Int32.ofNat (qbits (fun f => sSight s (s (159 + l)) d f) i)) (Int32.ofNat i) = some (Int32.ofNat (sSeen s (s (159 + l)) d)) := by
  intro m
  obtain ⟨⟨w0, w0b⟩, ⟨w1, w1b⟩, w2, w3, w4, w5, w95, w113, w101, w129, w134⟩ := id hW
  obtain ⟨f0, f1, f2, f3, f4, f5, f95, f113, f101, f129, f134⟩ := id hR
  obtain ⟨r139, r141, r147, r153, r159, r164, r140, r169⟩ := id hS
  induction m with
  | zero =>
    intro i k hi hk
    obtain ⟨k, rfl⟩ : ∃ j, k = j + 1 := ⟨k - 1, by omega⟩
    unfold fX8_sight_5 sSeen
    rw [qS_g0 hA, Option.bind_some, qF_g3 hF, Option.bind_some, f3, if_pos (by rw [qle (by omega) (by omega)]; omega), show i = s 3 by omega]
  | succ m ih =>
    intro i k hi hk
    obtain ⟨k, rfl⟩ : ∃ j, k = j + 1 := ⟨k - 1, by omega⟩
    have hq : qbits (fun f => sSight s (s (159 + l)) d f) (i + 1) = qbits (fun f => sSight s (s (159 + l)) d f) i + (if sSight s (s (159 + l)) d i = true then 2 ^ i else 0) := rfl
    have hih := ih (i + 1) k (by omega) (by omega)
    unfold fX8_sight_5 fX8_sight_42
    rw [qS_g0 hA, Option.bind_some, qF_g3 hF, Option.bind_some, f3, if_neg (by rw [qle (by omega) (by omega)]; omega), qS_g2 hA, Option.bind_some, e_at (qS_k1 hA) (by omega) (by omega), Option.bind_some, qS_c hA, Option.bind_some, r141 i (by omega), e_isInSight hN hA hF hR hS hW hD hl hd (hD.2.2.1 i (by omega)), Option.bind_some, qlit1, qadd]
    by_cases hT : s (141 + i) ∈ sLn s d 9 (some (s (159 + l)))
    · have hb : sSight s (s (159 + l)) d i = true := decide_eq_true hT
      rw [hb] at hq
      rw [decide_eq_true hT, if_neg (by decide), ← qlit1, qbits_sh (by omega), qor, qbits_or, ← hih, hq]
      rfl
    · have hb : sSight s (s (159 + l)) d i = false := decide_eq_false hT
      rw [hb] at hq
      rw [decide_eq_false hT, if_pos qzf, ← hih, hq]
      rfl
theorem e_sight (hN : 3000 ≤ N) (hA : qS a φ) (hF : qF φ) (hR : rF V φ s) (hS : rS V a s) (hW : sWF s) (hD : sWD s) {l d : Nat} (hl : l < s 4) (hd : d < 4) : fX8_sight N 216 (qH g V X) a (Int32.ofNat l) (Int32.ofNat d) = some (Int32.ofNat (sSeen s (s (159 + l)) d)) := by
  unfold fX8_sight
  have h3 := hW.2.2.2.1
  exact e_sight2 hN hA hF hR hS hW hD hl hd (s 3) 0 N (by omega) (by omega)
end QC
