/-! images -/
section QIM
variable {g : zF} {V W K : Nat → Nat → Int32} {X Y : Nat → Nat → Int64} {N : Nat} {s t u : Nat → Nat}
def qLF (j : Nat) : Nat := [0, 4, 6, 5, 81, 4, 6, 6, 6, 5, 5].getD j 0
def qLG (j : Nat) : Nat := [0, 0, 0, 0, 81, 4, 6, 6, 6, 5, 5].getD j 0
def qLN (j : Nat) : Nat := [0, 40, 40, 40].getD j 0
def xcb (X : Nat → Nat → Int64) (a b k : Nat) : Nat → Nat → Int64 := fun r => if a < r ∧ r ≤ a + k then (fun i => if i < qLF (r - a) then X (b + (r - a)) i else X r i) else X r
theorem xcb_0 {a b : Nat} : X = xcb X a b 0 := by
  funext r
  unfold xcb
  rw [if_neg (by omega)]
theorem xcb_s {a b K j : Nat} (k : Nat) (hd : b + K ≤ a ∨ a + K ≤ b) (hj : j = k + 1) (hk : j < K) {n : Nat} (hn : n = qLF j) : qx (xcb X a b k) (a + j) (fun i => if i < n then xcb X a b k (b + j) i else xcb X a b k (a + j) i) = xcb X a b j := by
  subst hn
  funext r
  unfold qx
  by_cases h : r = a + j
  · subst h
    rw [if_pos rfl]
    have e1 : xcb X a b k (b + j) = X (b + j) := by
      unfold xcb
      rw [if_neg (by omega)]
    have e2 : xcb X a b k (a + j) = X (a + j) := by
      unfold xcb
      rw [if_neg (by omega)]
    have e3 : xcb X a b j (a + j) = (fun i => if i < qLF j then X (b + j) i else X (a + j) i) := by
      unfold xcb
      rw [if_pos (by omega), show a + j - a = j by omega]
    rw [e1, e2, e3]
  · rw [if_neg h]
    unfold xcb
    by_cases h3 : a < r ∧ r ≤ a + k
    · rw [if_pos h3, if_pos (by omega)]
    · rw [if_neg h3, if_neg (by omega)]
theorem xcb_a {a b k j i : Nat} (hj : 0 < j) (hk : j ≤ k) (hi : i < qLF j) : xcb X a b k (a + j) i = X (b + j) i := by
  unfold xcb
  rw [if_pos (by omega), show a + j - a = j by omega, if_pos hi]
theorem xcb_n {a b k r : Nat} (h : ¬ (a < r ∧ r ≤ a + k)) : xcb X a b k r = X r := by
  unfold xcb
  rw [if_neg h]
theorem qcb_3 {a b : Nat} {r0 : Nat → Int32} : qw V a r0 = qcb V a b r0 qLG 3 := by
  funext r
  unfold qw qcb
  by_cases h : r = a
  · rw [if_pos h, if_pos h]
  · rw [if_neg h, if_neg h]
    by_cases h2 : a < r ∧ r ≤ a + 3
    · rw [if_pos h2]
      have : qLG (r - a) = 0 := by
        have : r - a = 1 ∨ r - a = 2 ∨ r - a = 3 := by omega
        rcases this with e | e | e <;> rw [e] <;> rfl
      funext i
      rw [if_neg (by omega)]
    · rw [if_neg h2]
def rC5 (x y : Nat → Int32) : Nat → Int32 := upd (upd (upd (upd (upd x 0 (y 0)) 1 (y 1)) 2 (y 2)) 3 (y 3)) 4 (y 4)
theorem e_copyF {a b : Nat} (hA : qF a) (hB : qF b) (hd : b + 11 ≤ a ∨ a + 11 ≤ b) : fX2_copyFrom N 216 (qH g V X) a b = some (qH g (qcb V a b (rC5 (V a) (V b)) qLG 10) (xcb X a b 3)) := by
  have hb : b ≠ a := by omega
  have hx1 := xcb_s (X := X) (a := a) (b := b) (K := 11) (j := 1) (n := 4) 0 hd rfl (by omega) rfl
  rw [← xcb_0] at hx1
  unfold fX2_copyFrom
  rw [qF_g0 hB, Option.bind_some, qF_p0 hA, Option.bind_some, qF_g1 hB, Option.bind_some, qw_n hb, qF_p1 hA, Option.bind_some, qw_qw, qw_s, qF_g2 hB, Option.bind_some, qw_n hb, qF_p2 hA, Option.bind_some, qw_qw, qw_s, qF_g3 hB, Option.bind_some, qw_n hb, qF_p3 hA, Option.bind_some, qw_qw, qw_s, qF_g4 hB, Option.bind_some, qw_n hb, qF_p4 hA, Option.bind_some, qw_qw, qw_s, qcb_3 (b := b),
    qF_g5 hB, Option.bind_some, qF_g5 hA, Option.bind_some, e_copyNames (qF_k1 hB) (qF_k1 hA) (by omega), Option.bind_some, hx1,
    qF_g6 hB, Option.bind_some, qF_g6 hA, Option.bind_some, e_copyNames (qF_k2 hB) (qF_k2 hA) (by omega), Option.bind_some, xcb_s (K := 11) (j := 2) (n := 6) 1 hd rfl (by omega) rfl,
    qF_g7 hB, Option.bind_some, qF_g7 hA, Option.bind_some, e_copyNames (qF_k3 hB) (qF_k3 hA) (by omega), Option.bind_some, xcb_s (K := 11) (j := 3) (n := 5) 2 hd rfl (by omega) rfl,
    qF_g8 hB, Option.bind_some, qF_g8 hA, Option.bind_some, e_copy (qF_k4 hB) (qF_k4 hA) (by omega), Option.bind_some, qcb_s (K := 11) (j := 4) (L := qLG) (n := 81) 3 hd rfl (by omega) rfl,
    qF_g9 hB, Option.bind_some, qF_g9 hA, Option.bind_some, e_copy (qF_k5 hB) (qF_k5 hA) (by omega), Option.bind_some, qcb_s (K := 11) (j := 5) (L := qLG) (n := 4) 4 hd rfl (by omega) rfl,
    qF_g10 hB, Option.bind_some, qF_g10 hA, Option.bind_some, e_copy (qF_k6 hB) (qF_k6 hA) (by omega), Option.bind_some, qcb_s (K := 11) (j := 6) (L := qLG) (n := 6) 5 hd rfl (by omega) rfl,
    qF_g11 hB, Option.bind_some, qF_g11 hA, Option.bind_some, e_copy (qF_k7 hB) (qF_k7 hA) (by omega), Option.bind_some, qcb_s (K := 11) (j := 7) (L := qLG) (n := 6) 6 hd rfl (by omega) rfl,
    qF_g12 hB, Option.bind_some, qF_g12 hA, Option.bind_some, e_copy (qF_k8 hB) (qF_k8 hA) (by omega), Option.bind_some, qcb_s (K := 11) (j := 8) (L := qLG) (n := 6) 7 hd rfl (by omega) rfl,
    qF_g13 hB, Option.bind_some, qF_g13 hA, Option.bind_some, e_copy (qF_k9 hB) (qF_k9 hA) (by omega), Option.bind_some, qcb_s (K := 11) (j := 9) (L := qLG) (n := 5) 8 hd rfl (by omega) rfl,
    qF_g14 hB, Option.bind_some, qF_g14 hA, Option.bind_some, e_copy (qF_k10 hB) (qF_k10 hA) (by omega), Option.bind_some, qcb_s (K := 11) (j := 10) (L := qLG) (n := 5) 9 hd rfl (by omega) rfl]
  rfl
theorem e_copyN {a b : Nat} (hA : qN a) (hB : qN b) (hd : b + 4 ≤ a ∨ a + 4 ≤ b) : fX6_copyFrom N 216 (qH g V X) a b = some (qH g (qcb V a b (upd (V a) 0 (V b 0)) qLN 3) X) := by
  unfold fX6_copyFrom
  rw [qN_g0 hB, Option.bind_some, qN_p0 hA, Option.bind_some, qcb_0 (b := b) (L := qLN), qN_g1 hB, Option.bind_some, qN_g1 hA, Option.bind_some, e_copy (qN_k1 hB) (qN_k1 hA) (by omega), Option.bind_some, qcb_s (K := 4) (j := 1) (L := qLN) (n := 40) 0 hd rfl (by omega) rfl, qN_g2 hB, Option.bind_some, qN_g2 hA, Option.bind_some, e_copy (qN_k2 hB) (qN_k2 hA) (by omega), Option.bind_some, qcb_s (K := 4) (j := 2) (L := qLN) (n := 40) 1 hd rfl (by omega) rfl, qN_g3 hB, Option.bind_some, qN_g3 hA, Option.bind_some, e_copy (qN_k3 hB) (qN_k3 hA) (by omega), Option.bind_some, qcb_s (K := 4) (j := 3) (L := qLN) (n := 40) 2 hd rfl (by omega) rfl]
theorem qcb_n {a b k r : Nat} {r0 : Nat → Int32} {L : Nat → Nat} (h : r < a ∨ a + k < r) : qcb V a b r0 L k r = V r := by
  unfold qcb
  rw [if_neg (by omega), if_neg (by omega)]
/-- field, state and sentence copied from (φ, σ, ν) to (α, β, γ) -/
def cpd (V W : Nat → Nat → Int32) (X Y : Nat → Nat → Int64) (α β γ φ σ ν : Nat) : Prop := (∀ s, sWF s → rF V φ s → rF W α s) ∧ (∀ s, sWF s → rL V φ s → rL W α s) ∧ (∀ s, sWF s → rS V σ s → rS W β s) ∧ (∀ s, rN V ν s → rN W γ s) ∧ (∀ μ z s, ¬ (α < μ ∧ μ ≤ α + 3) → sWF s → rNm X φ μ z s → rNm Y α μ z s) ∧ (∀ r, ¬ ((α ≤ r ∧ r < α + 11) ∨ (β ≤ r ∧ r < β + 8) ∨ (γ ≤ r ∧ r < γ + 4)) → W r = V r) ∧ ∀ r, ¬ (α < r ∧ r ≤ α + 3) → Y r = X r
theorem cpd_of {α β γ φ σ ν : Nat} (h1 : φ + 11 ≤ σ ∧ σ + 8 ≤ ν) (h2 : α + 11 ≤ β ∧ β + 8 ≤ γ) (h3 : ν + 4 ≤ α ∨ γ + 4 ≤ φ) : ∀ V1 V2 V3, V1 = qcb V α φ (rC5 (V α) (V φ)) qLG 10 → V2 = qcb V1 β σ (upd (V1 β) 1 (V1 σ 1)) qLS 7 → V3 = qcb V2 γ ν (upd (V2 γ) 0 (V2 ν 0)) qLN 3 → cpd V V3 X (xcb X α φ 3) α β γ φ σ ν := by
  intro V1 V2 V3 e1 e2 e3
  have n1 : ∀ r, (r < α ∨ α + 11 ≤ r) → V1 r = V r := fun r h => by rw [e1]; exact qcb_n (by omega)
  have n2 : ∀ r, (r < β ∨ β + 8 ≤ r) → V2 r = V1 r := fun r h => by rw [e2]; exact qcb_n (by omega)
  have n3 : ∀ r, (r < γ ∨ γ + 4 ≤ r) → V3 r = V2 r := fun r h => by rw [e3]; exact qcb_n (by omega)
  have eF0 : ∀ j, j < 5 → V3 α j = V φ j := by
    intro j hj
    rw [n3 α (by omega), n2 α (by omega), e1, qcb_r]
    unfold rC5 upd
    have : j = 0 ∨ j = 1 ∨ j = 2 ∨ j = 3 ∨ j = 4 := by omega
    rcases this with rfl | rfl | rfl | rfl | rfl <;> rfl
  have eF : ∀ r j, 0 < r → r ≤ 10 → j < qLG r → V3 (α + r) j = V (φ + r) j := by
    intro r j a1 a2 a3
    rw [n3 _ (by omega), n2 _ (by omega), e1, qcb_a a1 a2 a3]
  have eX : ∀ r j, 0 < r → r ≤ 3 → j < qLF r → xcb X α φ 3 (α + r) j = X (φ + r) j := fun r j a1 a2 a3 => xcb_a a1 a2 a3
  have eN0 : V3 γ 0 = V ν 0 := by
    rw [e3, qcb_r, upd_s, n2 _ (by omega), n1 _ (by omega)]
  have eN : ∀ r j, 0 < r → r ≤ 3 → j < qLN r → V3 (γ + r) j = V (ν + r) j := by
    intro r j a1 a2 a3
    rw [e3, qcb_a a1 a2 a3, n2 _ (by omega), n1 _ (by omega)]
  refine ⟨fun s hW hR => ?_, fun s hW hL => ?_, fun s hW hS => ?_, fun s hN => ?_, fun μ z s hμ hW hN => ?_, fun r hr => ?_, fun r hr => xcb_n (by omega)⟩
  · obtain ⟨⟨w0, w0b⟩, ⟨w1, w1b⟩, w2, w3, w4, w5, w95, w113, w101, w129, w134⟩ := id hW
    obtain ⟨f0, f1, f2, f3, f4, fH, fO, fE, fP, fF, fL⟩ := hR
    refine ⟨by rw [eF0 0 (by omega)]; exact f0, by rw [eF0 1 (by omega)]; exact f1, by rw [eF0 2 (by omega)]; exact f2, by rw [eF0 3 (by omega)]; exact f3, by rw [eF0 4 (by omega)]; exact f4, fun c hc => ?_, fun c hc => ?_, fun c hc => ?_, fun c hc => ?_, fun c hc => ?_, fun c hc => ?_⟩
    · rw [eF 4 c (by omega) (by omega) (by show c < 81; omega)]; exact fH c hc
    · rw [eF 6 c (by omega) (by omega) (by show c < 6; omega)]; exact fO c hc
    · rw [eF 7 c (by omega) (by omega) (by show c < 6; omega)]; exact fE c hc
    · rw [eF 8 c (by omega) (by omega) (by show c < 6; omega)]; exact fP c hc
    · rw [eF 9 c (by omega) (by omega) (by show c < 5; omega)]; exact fF c hc
    · rw [eF 10 c (by omega) (by omega) (by show c < 5; omega)]; exact fL c hc
  · obtain ⟨⟨w0, w0b⟩, ⟨w1, w1b⟩, w2, w3, w4, w5, w95, w113, w101, w129, w134⟩ := id hW
    intro c hc
    rw [eF 5 c (by omega) (by omega) (by show c < 4; omega)]; exact hL c hc
  · have : rS V1 σ s := hS.pt (fun b j a1 a2 => by rw [n1 b (by omega)])
    have h4 : rS V2 β s := by rw [e2]; exact this.copy hW
    exact h4.pt (fun b j a1 a2 => by rw [n3 b (by omega)])
  · obtain ⟨m0, m1, m2, m3⟩ := hN
    refine ⟨by rw [eN0]; exact m0, m1, m2, fun i hi => ?_⟩
    rw [eN 1 i (by omega) (by omega) (by show i < 40; omega), eN 2 i (by omega) (by omega) (by show i < 40; omega), eN 3 i (by omega) (by omega) (by show i < 40; omega)]
    exact m3 i hi
  · obtain ⟨⟨w0, w0b⟩, ⟨w1, w1b⟩, w2, w3, w4, w5, w95, w113, w101, w129, w134⟩ := id hW
    obtain ⟨m1, m2, m3, m4⟩ := hN
    have hX : xcb X α φ 3 μ = X μ := xcb_n hμ
    refine ⟨fun o ho => ?_, fun o ho => ?_, fun o ho => ?_, fun f l hf hl => ?_⟩
    · rw [eX 1 o (by omega) (by omega) (by show o < 4; omega), hX]; exact m1 o ho
    · rw [eX 2 o (by omega) (by omega) (by show o < 6; omega), hX]; exact m2 o ho
    · rw [eX 3 o (by omega) (by omega) (by show o < 5; omega), hX]; exact m3 o ho
    · rw [eX 2 f (by omega) (by omega) (by show f < 6; omega), eX 3 l (by omega) (by omega) (by show l < 5; omega)]; exact m4 f l hf hl
  · rw [n3 r (by omega), n2 r (by omega), n1 r (by omega)]
theorem m_image51 {k : Nat} (hk : k < 2) : ∀ m fu Y, m ≤ 15 → m < fu → ∃ Y2, fX12_image_51 N 216 fu (qH g V Y) 196 (Int32.ofNat k) (Int32.ofNat (15 - m)) = some (qH g (qw V 214 (upd (V 214) k (Int32.ofNat 1))) Y2, Int32.ofNat 1) ∧ (∀ i, 15 - m ≤ i → i < 15 → Y2 213 (15 * k + i) = Y 201 i) ∧ ∀ b j, ¬ (b = 213 ∧ 15 * k + (15 - m) ≤ j ∧ j < 15 * k + 15) → Y2 b j = Y b j := by
  intro m
  induction m with
  | zero =>
    intro fu Y hm hf
    obtain ⟨fu, rfl⟩ := Nat.exists_eq_succ_of_ne_zero (n := fu) (by omega)
    refine ⟨Y, ?_, fun i a1 a2 => by omega, fun b j hb => rfl⟩
    unfold fX12_image_51
    rw [if_pos (by rw [show (15 : Int32) = Int32.ofNat 15 from rfl, qle (by omega) (by omega)]; omega), q196_g49, Option.bind_some, qsZ qk_214 (by omega) (by omega) (Or.inr rfl), Option.bind_some]
    rfl
  | succ m ih =>
    intro fu Y hm hf
    obtain ⟨fu, rfl⟩ := Nat.exists_eq_succ_of_ne_zero (n := fu) (by omega)
    obtain ⟨Y2, h1, h2, h3⟩ := ih fu (qx Y 213 (vp_updL (Y 213) (15 * k + (15 - (m + 1))) (Y 201 (15 - (m + 1))))) (by omega) (by omega)
    refine ⟨Y2, ?_, fun i a1 a2 => ?_, fun b j hb => ?_⟩
    · unfold fX12_image_51
      rw [if_neg (by rw [show (15 : Int32) = Int32.ofNat 15 from rfl, qle (by omega) (by omega)]; omega), q196_g48, Option.bind_some, q196_g9, Option.bind_some, qlL qk_201 (by omega) (by omega), Option.bind_some, show (15 : Int32) = Int32.ofNat 15 from rfl, qmul, qadd, qsL qk_213 (by omega) (by omega), Option.bind_some, l1, qadd, show 15 - (m + 1) + 1 = 15 - m by omega]
      exact h1
    · by_cases e : i = 15 - (m + 1)
      · subst e
        rw [h3 213 _ (by omega), qx_s, vpU_s]
      · rw [h2 i (by omega) a2, qx_n (by decide)]
    · rw [h3 b j (by omega)]
      by_cases e : b = 213
      · subst e
        rw [qx_s, vpU_n (by omega)]
      · rw [qx_n e]
theorem m_image18 {k : Nat} (hk : k < 2) (hN : 3000 ≤ N) : ∀ m fu W, m ≤ 431 → m < fu → ∃ W2 Y2, fX12_image_18 N 216 fu (qH g W X) 196 (Int32.ofNat k) (Int32.ofNat (431 - m)) = some (qH g W2 Y2, Int32.ofNat 1) ∧ (∀ i, 431 - m ≤ i → i < 431 → W2 212 (431 * k + i) = W 198 i) ∧ W2 214 k = Int32.ofNat 1 ∧ (∀ b j, ¬ ((b = 212 ∧ 431 * k + (431 - m) ≤ j ∧ j < 431 * k + 431) ∨ (b = 214 ∧ j = k)) → W2 b j = W b j) ∧ (∀ i, i < 15 → Y2 213 (15 * k + i) = X 201 i) ∧ ∀ b j, ¬ (b = 213 ∧ 15 * k ≤ j ∧ j < 15 * k + 15) → Y2 b j = X b j := by
  intro m
  induction m with
  | zero =>
    intro fu W hm hf
    obtain ⟨fu, rfl⟩ := Nat.exists_eq_succ_of_ne_zero (n := fu) (by omega)
    obtain ⟨Y2, h1, h2, h3⟩ := m_image51 (g := g) (V := W) (N := N) hk 15 N X (by omega) (by omega)
    refine ⟨qw W 214 (upd (W 214) k (Int32.ofNat 1)), Y2, ?_, fun i a1 a2 => by omega, by rw [qw_s, upd_s], fun b j hb => ?_, fun i a1 => h2 i (by omega) a1, fun b j hb => h3 b j (by omega)⟩
    · unfold fX12_image_18
      rw [if_pos (by rw [show (431 : Int32) = Int32.ofNat 431 from rfl, qle (by omega) (by omega)]; omega), l0]
      exact h1
    · by_cases e : b = 214
      · subst e
        rw [qw_s, upd_n (by omega)]
      · rw [qw_n e]
  | succ m ih =>
    intro fu W hm hf
    obtain ⟨fu, rfl⟩ := Nat.exists_eq_succ_of_ne_zero (n := fu) (by omega)
    obtain ⟨W2, Y2, h1, h2, h2b, h3, h4, h5⟩ := ih fu (qw W 212 (upd (W 212) (431 * k + (431 - (m + 1))) (W 198 (431 - (m + 1))))) (by omega) (by omega)
    refine ⟨W2, Y2, ?_, fun i a1 a2 => ?_, h2b, fun b j hb => ?_, h4, h5⟩
    · unfold fX12_image_18
      rw [if_neg (by rw [show (431 : Int32) = Int32.ofNat 431 from rfl, qle (by omega) (by omega)]; omega), q196_g47, Option.bind_some, q196_g6, Option.bind_some, qlI (t := 0) qk_198 (Or.inl rfl) (by omega) (by omega), Option.bind_some, show (431 : Int32) = Int32.ofNat 431 from rfl, qmul, qadd, qsI (t := 0) qk_212 (Or.inl rfl) (by omega) (by omega), Option.bind_some, l1, qadd, show 431 - (m + 1) + 1 = 431 - m by omega]
      exact h1
    · by_cases e : i = 431 - (m + 1)
      · subst e
        rw [h3 212 _ (by omega), qw_s, upd_s]
      · rw [h2 i (by omega) a2, qw_n (by decide)]
    · rw [h3 b j (by omega)]
      by_cases e : b = 212
      · subst e
        rw [qw_s, upd_n (by omega)]
      · rw [qw_n e]
theorem m_restore60 {k : Nat} (hk : k < 2) : ∀ m fu Y, m ≤ 15 → m < fu → ∃ Y2, fX12_restore_60 N 216 fu (qH g V Y) 196 (Int32.ofNat k) (Int32.ofNat (15 - m)) = some (qH g (qw V 196 (upd (V 196) 23 (Int32.ofNat 0))) Y2, Int32.ofNat 1) ∧ (∀ i, 15 - m ≤ i → i < 15 → Y2 201 i = Y 213 (15 * k + i)) ∧ ∀ b j, ¬ (b = 201 ∧ 15 - m ≤ j ∧ j < 15) → Y2 b j = Y b j := by
  intro m
  induction m with
  | zero =>
    intro fu Y hm hf
    obtain ⟨fu, rfl⟩ := Nat.exists_eq_succ_of_ne_zero (n := fu) (by omega)
    refine ⟨Y, ?_, fun i a1 a2 => by omega, fun b j hb => rfl⟩
    unfold fX12_restore_60
    rw [if_pos (by rw [show (15 : Int32) = Int32.ofNat 15 from rfl, qle (by omega) (by omega)]; omega), q196_p23, Option.bind_some]
    rfl
  | succ m ih =>
    intro fu Y hm hf
    obtain ⟨fu, rfl⟩ := Nat.exists_eq_succ_of_ne_zero (n := fu) (by omega)
    obtain ⟨Y2, h1, h2, h3⟩ := ih fu (qx Y 201 (vp_updL (Y 201) (15 - (m + 1)) (Y 213 (15 * k + (15 - (m + 1)))))) (by omega) (by omega)
    refine ⟨Y2, ?_, fun i a1 a2 => ?_, fun b j hb => ?_⟩
    · unfold fX12_restore_60
      rw [if_neg (by rw [show (15 : Int32) = Int32.ofNat 15 from rfl, qle (by omega) (by omega)]; omega), q196_g9, Option.bind_some, q196_g48, Option.bind_some, show (15 : Int32) = Int32.ofNat 15 from rfl, qmul, qadd, qlL qk_213 (by omega) (by omega), Option.bind_some, qsL qk_201 (by omega) (by omega), Option.bind_some, l1, qadd, show 15 - (m + 1) + 1 = 15 - m by omega]
      exact h1
    · by_cases e : i = 15 - (m + 1)
      · subst e
        rw [h3 201 _ (by omega), qx_s, vpU_s]
      · rw [h2 i (by omega) a2, qx_n (by decide)]
    · rw [h3 b j (by omega)]
      by_cases e : b = 201
      · subst e
        rw [qx_s, vpU_n (by omega)]
      · rw [qx_n e]
theorem m_restore27 {k : Nat} (hk : k < 2) (hN : 3000 ≤ N) : ∀ m fu W, m ≤ 431 → m < fu → ∃ W2 Y2, fX12_restore_27 N 216 fu (qH g W X) 196 (Int32.ofNat k) (Int32.ofNat (431 - m)) = some (qH g W2 Y2, Int32.ofNat 1) ∧ (∀ i, 431 - m ≤ i → i < 431 → W2 198 i = W 212 (431 * k + i)) ∧ W2 196 23 = Int32.ofNat 0 ∧ (∀ b j, ¬ ((b = 198 ∧ 431 - m ≤ j ∧ j < 431) ∨ (b = 196 ∧ j = 23)) → W2 b j = W b j) ∧ (∀ i, i < 15 → Y2 201 i = X 213 (15 * k + i)) ∧ ∀ b j, ¬ (b = 201 ∧ j < 15) → Y2 b j = X b j := by
  intro m
  induction m with
  | zero =>
    intro fu W hm hf
    obtain ⟨fu, rfl⟩ := Nat.exists_eq_succ_of_ne_zero (n := fu) (by omega)
    obtain ⟨Y2, h1, h2, h3⟩ := m_restore60 (g := g) (V := W) (N := N) hk 15 N X (by omega) (by omega)
    refine ⟨qw W 196 (upd (W 196) 23 (Int32.ofNat 0)), Y2, ?_, fun i a1 a2 => by omega, by rw [qw_s, upd_s], fun b j hb => ?_, fun i a1 => h2 i (by omega) a1, fun b j hb => h3 b j (by omega)⟩
    · unfold fX12_restore_27
      rw [if_pos (by rw [show (431 : Int32) = Int32.ofNat 431 from rfl, qle (by omega) (by omega)]; omega), l0]
      exact h1
    · by_cases e : b = 196
      · subst e
        rw [qw_s, upd_n (by omega)]
      · rw [qw_n e]
  | succ m ih =>
    intro fu W hm hf
    obtain ⟨fu, rfl⟩ := Nat.exists_eq_succ_of_ne_zero (n := fu) (by omega)
    obtain ⟨W2, Y2, h1, h2, h2b, h3, h4, h5⟩ := ih fu (qw W 198 (upd (W 198) (431 - (m + 1)) (W 212 (431 * k + (431 - (m + 1)))))) (by omega) (by omega)
    refine ⟨W2, Y2, ?_, fun i a1 a2 => ?_, h2b, fun b j hb => ?_, h4, h5⟩
    · unfold fX12_restore_27
      rw [if_neg (by rw [show (431 : Int32) = Int32.ofNat 431 from rfl, qle (by omega) (by omega)]; omega), q196_g6, Option.bind_some, q196_g47, Option.bind_some, show (431 : Int32) = Int32.ofNat 431 from rfl, qmul, qadd, qlI (t := 0) qk_212 (Or.inl rfl) (by omega) (by omega), Option.bind_some, qsI (t := 0) qk_198 (Or.inl rfl) (by omega) (by omega), Option.bind_some, l1, qadd, show 431 - (m + 1) + 1 = 431 - m by omega]
      exact h1
    · by_cases e : i = 431 - (m + 1)
      · subst e
        rw [h3 198 _ (by omega), qw_s, upd_s]
      · rw [h2 i (by omega) a2, qw_n (by decide)]
    · rw [h3 b j (by omega)]
      by_cases e : b = 198
      · subst e
        rw [qw_s, upd_n (by omega)]
      · rw [qw_n e]
theorem c_imgNo {p : Int32} (h : qrg p 0 2 = false) : fX11_imageIn N 216 (qH g V X) 0 p = some none := by
  unfold fX11_imageIn
  rw [if_neg (fun e => by subst e; exact absurd h (by decide)), if_neg (fun e => by subst e; exact absurd h (by decide))]
theorem m_in2 {p : Int32} : fX12_isIn N 216 (qH g V X) p 0 1 = some (qz (qrg p 0 2)) := m_in (a := 0) (b := 1) (by omega) (by omega)

theorem jImg {k A : Nat} {V3 W2 : Nat → Nat → Int32} {Y2 : Nat → Nat → Int64} (hk : k < 2) (hA : A = 139 + 24 * k) (hJ : jA V X s) (cp : cpd V V3 X Y (A + 1) (A + 12) (A + 20) 4 15 31) (e1 : ∀ i, i < 431 → W2 212 (431 * k + i) = V3 198 i) (e2 : W2 214 k = Int32.ofNat 1) (e2b : W2 A 3 = Int32.ofNat 1) (e3 : ∀ b j, ¬ (b = 212 ∧ 431 * k ≤ j ∧ j < 431 * k + 431) → ¬ (b = 214 ∧ j = k) → ¬ (b = 196 ∧ j = 0) → ¬ (b = A ∧ j = 3) → W2 b j = V3 b j)
    (e4 : ∀ i, i < 15 → Y2 213 (15 * k + i) = Y 201 i) (e5 : ∀ b j, ¬ (b = 213 ∧ 15 * k ≤ j ∧ j < 15 * k + 15) → Y2 b j = Y b j) : jA W2 Y2 s := by
  obtain ⟨⟨hO, hWL, hR, hL, hS, hM, hNs, hNm⟩, hU, j1, j2, j3, j4, j5, j6, j7, j8, j9, j10, j11⟩ := id hJ
  obtain ⟨c1, c2, c3, c4, c5, c6, c7⟩ := id cp
  have hWV : ∀ b j, ¬ (A ≤ b ∧ b < A + 24) → ¬ (b = 212 ∧ 431 * k ≤ j ∧ j < 431 * k + 431) → ¬ (b = 214 ∧ j = k) → ¬ (b = 196 ∧ j = 0) → W2 b j = V b j := by
    intro b j b1 b2 b3 b4
    rw [e3 b j b2 b3 b4 (by omega), c6 b (by omega)]
  have hYX : ∀ b j, ¬ (A + 1 < b ∧ b ≤ A + 4) → ¬ (b = 213 ∧ 15 * k ≤ j ∧ j < 15 * k + 15) → Y2 b j = X b j := by
    intro b j b1 b2
    rw [e5 b j b2, c7 b (by omega)]
  have hnew : jI W2 Y2 A k := by
    refine Or.inr ⟨e2b, e2, s, hO, hWL, (c1 s hO.1 hR).pt (fun b j a1 a2 => e3 b j (by omega) (by omega) (by omega) (by omega)), (c2 s hO.1 hL).pt (fun b j a1 a2 => e3 b j (by omega) (by omega) (by omega) (by omega)), (c3 s hO.1 hS).pt (fun b j a1 a2 => e3 b j (by omega) (by omega) (by omega) (by omega)), (c4 s hNs).pt (fun b j a1 a2 => e3 b j (by omega) (by omega) (by omega) (by omega)), ?_, fun i hi => ?_⟩
    · obtain ⟨n1, n2, n3, n4⟩ := c5 201 0 s (by omega) hO.1 hNm
      obtain ⟨⟨w0, w0b⟩, ⟨w1, w1b⟩, w2, w3, w4, -⟩ := id hO.1
      refine ⟨fun o ho => ?_, fun o ho => ?_, fun o ho => ?_, fun f l hf hl => ?_⟩
      · have := n1 o ho
        rw [Nat.zero_add] at this
        rw [e5 _ _ (by omega), e4 _ (by omega)]; exact this
      · have := n2 o ho
        rw [Nat.zero_add] at this
        rw [e5 _ _ (by omega), e4 _ (by omega)]; exact this
      · have := n3 o ho
        rw [Nat.zero_add] at this
        rw [e5 _ _ (by omega), e4 _ (by omega)]; exact this
      · rw [e5 _ _ (by omega), e5 _ _ (by omega)]; exact n4 f l hf hl
    · rw [e1 i hi, c6 198 (by omega)]
      exact hM i hi
  refine ⟨hJ.1.pt (fun b j hb => hWV b j (by omega) (by omega) (by omega) (by omega)) (fun b j hb => hYX b j (by omega) (by omega)), hU.pt sEq.rf (fun b j hb => hWV b j (by omega) (by omega) (by omega) (by omega)), j1.pt (fun b j hb => hWV b j (by omega) (by omega) (by omega) (by omega)), j2.pt (fun b j hb => hYX b j (by omega) (by omega)), j3.pt (fun b j hb => hWV b j (by omega) (by omega) (by omega) (by omega)), ?_, ?_, j6.pt (fun b j hb => hWV b j (by omega) (by omega) (by omega) (by omega)), j7.pt (fun b j hb => hWV b j (by omega) (by omega) (by omega) (by omega)), j8.pt (fun b j hb => hWV b j (by omega) (by omega) (by omega) (by omega)), j9.pt (fun b j hb => hWV b j (by omega) (by omega) (by omega) (by omega)), j10.pt (fun b j hb => hWV b j (by omega) (by omega) (by omega) (by omega)), j11.pt (fun b j hb => hWV b j (by omega) (by omega) (by omega) (by omega))⟩
  · by_cases e : k = 0
    · subst e; subst hA; exact hnew
    · exact j4.pt (fun b j hb => hWV b j (by omega) (by omega) (by omega) (by omega)) (fun b j hb => hYX b j (by omega) (by omega))
  · by_cases e : k = 0
    · exact j5.pt (fun b j hb => hWV b j (by omega) (by omega) (by omega) (by omega)) (fun b j hb => hYX b j (by omega) (by omega))
    · have : k = 1 := by omega
      subst this; subst hA; exact hnew

theorem c_image0 : ∃ V3 Y, fX11_image N 216 (qH g V X) 0 (Int32.ofNat 0) = some (qH g (qw V3 139 (upd (V3 139) 3 (Int32.ofNat 1))) Y, Int32.ofNat 1) ∧ cpd V V3 X Y 140 151 159 4 15 31 := by
  refine ⟨_, _, ?_, cpd_of (by omega) (by omega) (by omega) _ _ _ rfl rfl rfl⟩
  unfold fX11_image fX11_imageIn
  rw [q0_c, Option.bind_some, if_pos (by decide), q0_g9, Option.bind_some, Option.bind_some]
  dsimp only
  rw [q139_g0, Option.bind_some, q0_g1, Option.bind_some, qF_c qF_140, Option.bind_some, e_copyF qF_140 qF_4 (by omega), Option.bind_some, q139_g1, Option.bind_some, q0_g2, Option.bind_some, qS_c qS_151, Option.bind_some, e_copyS qS_151 qS_15 (by omega), Option.bind_some, q139_g2, Option.bind_some, q0_g4, Option.bind_some, qN_c qN_159, Option.bind_some, e_copyN qN_159 qN_31 (by omega), Option.bind_some, q139_p3 _ (Or.inr rfl), Option.bind_some]
  rfl
theorem c_restore0 (h : V 139 3 = Int32.ofNat 1) : ∃ V3 Y, fX11_restore N 216 (qH g V X) 0 (Int32.ofNat 0) = some (qH g (qw V3 65 (upd (V3 65) 1 (Int32.ofNat 0))) Y, Int32.ofNat 1) ∧ cpd V V3 X Y 4 15 31 140 151 159 := by
  refine ⟨_, _, ?_, cpd_of (by omega) (by omega) (by omega) _ _ _ rfl rfl rfl⟩
  unfold fX11_restore fX11_imageIn
  rw [q0_c, Option.bind_some, if_pos (by decide), q0_g9, Option.bind_some, Option.bind_some]
  dsimp only
  rw [q139_g3, Option.bind_some, h, if_neg (by decide), q0_g1, Option.bind_some, q139_g0, Option.bind_some, qF_c qF_4, Option.bind_some, e_copyF qF_4 qF_140 (by omega), Option.bind_some, q0_g2, Option.bind_some, q139_g1, Option.bind_some, qS_c qS_15, Option.bind_some, e_copyS qS_15 qS_151 (by omega), Option.bind_some, q0_g4, Option.bind_some, q139_g2, Option.bind_some, qN_c qN_31, Option.bind_some, e_copyN qN_31 qN_159 (by omega), Option.bind_some, q0_g8, Option.bind_some, q65_c, Option.bind_some]
  unfold fX10_clear
  rw [q65_p1, Option.bind_some, Option.bind_some]
  rfl
theorem c_restoreNo0 (h : V 139 3 = Int32.ofNat 0) : fX11_restore N 216 (qH g V X) 0 (Int32.ofNat 0) = some (qH g V X, Int32.ofNat 0) := by
  unfold fX11_restore fX11_imageIn
  rw [q0_c, Option.bind_some, if_pos (by decide), q0_g9, Option.bind_some, Option.bind_some]
  dsimp only
  rw [q139_g3, Option.bind_some, h, if_pos (by decide)]
  rfl

theorem c_image1 : ∃ V3 Y, fX11_image N 216 (qH g V X) 0 (Int32.ofNat 1) = some (qH g (qw V3 163 (upd (V3 163) 3 (Int32.ofNat 1))) Y, Int32.ofNat 1) ∧ cpd V V3 X Y 164 175 183 4 15 31 := by
  refine ⟨_, _, ?_, cpd_of (by omega) (by omega) (by omega) _ _ _ rfl rfl rfl⟩
  unfold fX11_image fX11_imageIn
  rw [q0_c, Option.bind_some, if_neg (by decide), if_pos (by decide), q0_g10, Option.bind_some, Option.bind_some]
  dsimp only
  rw [q163_g0, Option.bind_some, q0_g1, Option.bind_some, qF_c qF_164, Option.bind_some, e_copyF qF_164 qF_4 (by omega), Option.bind_some, q163_g1, Option.bind_some, q0_g2, Option.bind_some, qS_c qS_175, Option.bind_some, e_copyS qS_175 qS_15 (by omega), Option.bind_some, q163_g2, Option.bind_some, q0_g4, Option.bind_some, qN_c qN_183, Option.bind_some, e_copyN qN_183 qN_31 (by omega), Option.bind_some, q163_p3 _ (Or.inr rfl), Option.bind_some]
  rfl
theorem c_restore1 (h : V 163 3 = Int32.ofNat 1) : ∃ V3 Y, fX11_restore N 216 (qH g V X) 0 (Int32.ofNat 1) = some (qH g (qw V3 65 (upd (V3 65) 1 (Int32.ofNat 0))) Y, Int32.ofNat 1) ∧ cpd V V3 X Y 4 15 31 164 175 183 := by
  refine ⟨_, _, ?_, cpd_of (by omega) (by omega) (by omega) _ _ _ rfl rfl rfl⟩
  unfold fX11_restore fX11_imageIn
  rw [q0_c, Option.bind_some, if_neg (by decide), if_pos (by decide), q0_g10, Option.bind_some, Option.bind_some]
  dsimp only
  rw [q163_g3, Option.bind_some, h, if_neg (by decide), q0_g1, Option.bind_some, q163_g0, Option.bind_some, qF_c qF_4, Option.bind_some, e_copyF qF_4 qF_164 (by omega), Option.bind_some, q0_g2, Option.bind_some, q163_g1, Option.bind_some, qS_c qS_15, Option.bind_some, e_copyS qS_15 qS_175 (by omega), Option.bind_some, q0_g4, Option.bind_some, q163_g2, Option.bind_some, qN_c qN_31, Option.bind_some, e_copyN qN_31 qN_183 (by omega), Option.bind_some, q0_g8, Option.bind_some, q65_c, Option.bind_some]
  unfold fX10_clear
  rw [q65_p1, Option.bind_some, Option.bind_some]
  rfl
theorem c_restoreNo1 (h : V 163 3 = Int32.ofNat 0) : fX11_restore N 216 (qH g V X) 0 (Int32.ofNat 1) = some (qH g V X, Int32.ofNat 0) := by
  unfold fX11_restore fX11_imageIn
  rw [q0_c, Option.bind_some, if_neg (by decide), if_pos (by decide), q0_g10, Option.bind_some, Option.bind_some]
  dsimp only
  rw [q163_g3, Option.bind_some, h, if_pos (by decide)]
  rfl

theorem s_38 (hN : 3000 ≤ N) {f : zF} (hI : Inv f) (p1 : Int32) : ∃ f2, zlc38 N 216 f p1 = some f2 ∧ Inv f2 := by
  obtain ⟨g, V, X, s, rfl, hg, hJ⟩ := hI
  obtain ⟨⟨⟨hW, hD, hG, h9⟩, hWL, hR, hL, hS, hM, hNs, hNm⟩, hU, hR2⟩ := id hJ
  unfold zlc38
  cases hp : qrg p1 0 2 with
  | false =>
    refine cstep (o1 := fX11_image N 216 (qH g V X) 0 p1) (m := fun ff => fX12_image N 216 ff 196 p1) (V1 := V) (X1 := X) (V2 := qT V) (X2 := X) (r := Int32.ofNat 0) hg ?_ ?_ hJ.thr
    · unfold fX11_image
      rw [q0_c, Option.bind_some, c_imgNo hp, Option.bind_some]
      rfl
    · unfold fX12_image
      rw [m_thr0, Option.bind_some, m_in2, Option.bind_some, hp, if_pos qzf]
      rfl
  | true =>
    obtain ⟨k, rfl, hk, -, hk2⟩ := qrg_e hp
    have key : ∃ V3 Y, fX11_image N 216 (qH g V X) 0 (Int32.ofNat k) = some (qH g (qw V3 (139 + 24 * k) (upd (V3 (139 + 24 * k)) 3 (Int32.ofNat 1))) Y, Int32.ofNat 1) ∧ cpd V V3 X Y (139 + 24 * k + 1) (139 + 24 * k + 12) (139 + 24 * k + 20) 4 15 31 := by
      have : k = 0 ∨ k = 1 := by omega
      rcases this with rfl | rfl
      · exact c_image0
      · exact c_image1
    obtain ⟨V3, Y, hc, cp⟩ := key
    obtain ⟨W2, Y2, h1, h2, h3, h4, h5, h6⟩ := m_image18 (g := g) (X := Y) hk2 hN 431 N (qT (qw V3 (139 + 24 * k) (upd (V3 (139 + 24 * k)) 3 (Int32.ofNat 1)))) (by omega) (by omega)
    refine cstep (o1 := fX11_image N 216 (qH g V X) 0 (Int32.ofNat k)) (m := fun ff => fX12_image N 216 ff 196 (Int32.ofNat k)) (V2 := W2) (X2 := Y2) (r := Int32.ofNat 1) hg hc ?_ (jImg hk2 rfl hJ cp (fun i hi => ?_) h3 ?_ (fun b j b1 b2 b3 b4 => ?_) h5 h6)
    · unfold fX12_image
      rw [m_thr0, Option.bind_some, m_in2, Option.bind_some, hp, if_neg qzt]
      exact h1
    · rw [h2 i (by omega) hi, qT_n (by decide), qw_n (by omega)]
    · rw [h4 _ _ (by omega), qT_n (by omega), qw_s, upd_s]
    · rw [h4 _ _ (by omega)]
      have : qT (qw V3 (139 + 24 * k) (upd (V3 (139 + 24 * k)) 3 (Int32.ofNat 1))) b j = qw V3 (139 + 24 * k) (upd (V3 (139 + 24 * k)) 3 (Int32.ofNat 1)) b j := by
        by_cases e : b = 196
        · subst e; exact qT_j (by omega)
        · rw [qT_n e]
      rw [this]
      by_cases e : b = 139 + 24 * k
      · subst e
        rw [qw_s, upd_n (by omega)]
      · rw [qw_n e]
theorem s_39 (hN : 3000 ≤ N) {f : zF} (hI : Inv f) (p1 : Int32) : ∃ f2, zlc39 N 216 f p1 = some f2 ∧ Inv f2 := by
  obtain ⟨g, V, X, s, rfl, hg, hJ⟩ := hI
  obtain ⟨⟨⟨hW, hD, hG, h9⟩, hWL, hR, hL, hS, hM, hNs, hNm⟩, hU, hR2⟩ := id hJ
  unfold zlc39
  cases hp : qrg p1 0 2 with
  | false =>
    refine cstep (o1 := fX11_restore N 216 (qH g V X) 0 p1) (m := fun ff => fX12_restore N 216 ff 196 p1) (V1 := V) (X1 := X) (V2 := qT V) (X2 := X) (r := Int32.ofNat 0) hg ?_ ?_ hJ.thr
    · unfold fX11_restore
      rw [q0_c, Option.bind_some, c_imgNo hp, Option.bind_some]
      rfl
    · unfold fX12_restore
      rw [m_thr0, Option.bind_some, m_in2, Option.bind_some, hp, if_pos qzf]
      rfl
  | true =>
    obtain ⟨k, rfl, hk, -, hk2⟩ := qrg_e hp
    have hji : jI V X (139 + 24 * k) k := by
      have : k = 0 ∨ k = 1 := by omega
      rcases this with rfl | rfl
      · exact hR2.2.2.2.1
      · exact hR2.2.2.2.2.1
    rcases hji with ⟨i1, i2⟩ | ⟨i1, i2, t, t1, t2, t3, t4, t5, t6, t7, t8⟩
    · have hc : fX11_restore N 216 (qH g V X) 0 (Int32.ofNat k) = some (qH g V X, Int32.ofNat 0) := by
        have : k = 0 ∨ k = 1 := by omega
        rcases this with rfl | rfl
        · exact c_restoreNo0 i1
        · exact c_restoreNo1 i1
      refine cstep (o1 := fX11_restore N 216 (qH g V X) 0 (Int32.ofNat k)) (m := fun ff => fX12_restore N 216 ff 196 (Int32.ofNat k)) (V1 := V) (X1 := X) (V2 := qT V) (X2 := X) (r := Int32.ofNat 0) hg hc ?_ hJ.thr
      unfold fX12_restore
      rw [m_thr0, Option.bind_some, m_in2, Option.bind_some, hp, if_neg qzt, q196_g49, Option.bind_some, qlI (t := 3) qk_214 (Or.inr (Or.inr rfl)) hk2 (by omega), Option.bind_some, qT_n (by decide), i2, if_pos (by decide)]
      rfl
    · have key : ∃ V3 Y, fX11_restore N 216 (qH g V X) 0 (Int32.ofNat k) = some (qH g (qw V3 65 (upd (V3 65) 1 (Int32.ofNat 0))) Y, Int32.ofNat 1) ∧ cpd V V3 X Y 4 15 31 (139 + 24 * k + 1) (139 + 24 * k + 12) (139 + 24 * k + 20) := by
        have : k = 0 ∨ k = 1 := by omega
        rcases this with rfl | rfl
        · exact c_restore0 i1
        · exact c_restore1 i1
      obtain ⟨V3, Y, hc, cp⟩ := key
      obtain ⟨W2, Y2, h1, h2, h3, h4, h5, h6⟩ := m_restore27 (g := g) (X := Y) hk2 hN 431 N (qT (qw V3 65 (upd (V3 65) 1 (Int32.ofNat 0)))) (by omega) (by omega)
      obtain ⟨c1, c2, c3, c4, c5, c6, c7⟩ := id cp
      have hW2 : ∀ b j, ¬ (b = 198 ∧ j < 431) → ¬ (b = 196 ∧ (j = 0 ∨ j = 23)) → ¬ (b = 65 ∧ j = 1) → W2 b j = V3 b j := by
        intro b j b1 b2 b3
        rw [h4 _ _ (by omega)]
        have : qT (qw V3 65 (upd (V3 65) 1 (Int32.ofNat 0))) b j = qw V3 65 (upd (V3 65) 1 (Int32.ofNat 0)) b j := by
          by_cases e : b = 196
          · subst e; exact qT_j (by omega)
          · rw [qT_n e]
        rw [this]
        by_cases e : b = 65
        · subst e
          rw [qw_s, upd_n (by omega)]
        · rw [qw_n e]
      have hWV : ∀ b j, ¬ (b = 198 ∧ j < 431) → ¬ (b = 196 ∧ (j = 0 ∨ j = 23)) → ¬ (b = 65 ∧ j = 1) → ¬ ((4 ≤ b ∧ b < 23) ∨ (31 ≤ b ∧ b < 35)) → W2 b j = V b j := by
        intro b j b1 b2 b3 b4
        rw [hW2 b j b1 b2 b3, c6 b (by omega)]
      have hYX : ∀ b j, ¬ (4 < b ∧ b < 8) → ¬ (b = 201 ∧ j < 15) → Y2 b j = X b j := by
        intro b j b1 b2
        rw [h6 b j b2, c7 b (by omega)]
      refine cstep (s := t) (o1 := fX11_restore N 216 (qH g V X) 0 (Int32.ofNat k)) (m := fun ff => fX12_restore N 216 ff 196 (Int32.ofNat k)) (V2 := W2) (X2 := Y2) (r := Int32.ofNat 1) hg hc ?_ ⟨⟨t1, t2, (c1 t t1.1 t3).pt (fun b j a1 a2 => hW2 b j (by omega) (by omega) (by omega)), (c2 t t1.1 t4).pt (fun b j a1 a2 => hW2 b j (by omega) (by omega) (by omega)), (c3 t t1.1 t5).pt (fun b j a1 a2 => hW2 b j (by omega) (by omega) (by omega)), fun i hi => ?_, (c4 t t6).pt (fun b j a1 a2 => hW2 b j (by omega) (by omega) (by omega)), ?_⟩, ?_, hR2.pt (fun b j hb b1 b2 b3 b4 => hWV b j (by unfold scr at hb; omega) (by unfold scr at hb; omega) (by unfold scr at hb; omega) (by unfold scr at hb; omega)) (fun b j hb b1 b2 => hYX b j (by omega) (by omega))⟩
      · unfold fX12_restore
        have e214 : qT (qw V3 65 (upd (V3 65) 1 (Int32.ofNat 0))) 214 k = Int32.ofNat 1 := by
          rw [qT_n (by decide), qw_n (by decide), c6 214 (by omega), i2]
        rw [m_thr0, Option.bind_some, m_in2, Option.bind_some, hp, if_neg qzt, q196_g49, Option.bind_some, qlI (t := 3) qk_214 (Or.inr (Or.inr rfl)) hk2 (by omega), Option.bind_some, e214, if_neg (by decide)]
        exact h1
      · rw [h2 i (by omega) hi, qT_n (by decide), qw_n (by decide), c6 212 (by omega)]
        exact t8 i hi
      · obtain ⟨n1, n2, n3, n4⟩ := c5 213 (15 * k) t (by omega) t1.1 t7
        obtain ⟨⟨w0, w0b⟩, ⟨w1, w1b⟩, w2, w3, w4, -⟩ := id t1.1
        refine ⟨fun o ho => ?_, fun o ho => ?_, fun o ho => ?_, fun f l hf hl => ?_⟩
        · rw [h6 _ _ (by omega), h5 _ (by omega), Nat.zero_add]; exact n1 o ho
        · rw [h6 _ _ (by omega), h5 _ (by omega), Nat.zero_add]; exact n2 o ho
        · rw [h6 _ _ (by omega), h5 _ (by omega), Nat.zero_add]; exact n3 o ho
        · rw [h6 _ _ (by omega), h6 _ _ (by omega)]; exact n4 f l hf hl
      · obtain ⟨n, nx, U, hn, hx, u1, u2, u3, hU4⟩ := hU
        refine ⟨0, nx, U, by omega, hx, ?_, ?_, h3, fun j hj => by omega⟩
        · rw [h4 _ _ (by omega), qT_n (by decide), qw_s, upd_s]
        · rw [hWV _ _ (by omega) (by omega) (by omega) (by omega)]; exact u2

end QIM
