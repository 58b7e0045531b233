/-! steps: hours, drawn, undo -/
section QST
variable {g : zF} {V W K : Nat → Nat → Int32} {X : Nat → Nat → Int64} {N : Nat} {s t u : Nat → Nat}
theorem c_rng {α : Type} {p : Int32} {a b : Nat} (ha : a < 1000) (hb : b < 1000) {e x : α} : (if p < Int32.ofNat a then e else if p ≤ Int32.ofNat b then x else e) = if qrg p a (b + 1) = true then x else e := by
  rcases qarg p with h | ⟨k, hk, rfl⟩
  · have h3 : p < Int32.ofNat a := by
      rw [Int32.lt_iff_toInt_lt] at h ⊢
      rw [Int32.toInt_ofNat_of_lt (by omega)]
      have : (0 : Int32).toInt = 0 := rfl
      omega
    rw [if_pos h3, qrg_n h, if_neg (by decide)]
  · rw [qrg_k hk]
    by_cases h1 : k < a
    · rw [if_pos (by rw [qlt hk (by omega)]; exact h1), decide_eq_false (by omega), if_neg (by decide)]
    · rw [if_neg (by rw [qlt hk (by omega)]; exact h1)]
      by_cases h2 : k ≤ b
      · rw [if_pos (by rw [qle hk (by omega)]; exact h2), decide_eq_true (by omega), if_pos rfl]
      · rw [if_neg (by rw [qle hk (by omega)]; exact h2), decide_eq_false (by omega), if_neg (by decide)]
theorem sGo_1000 {n : Nat} (h : ¬ s 139 < 1000) : sGo n s = s := by
  cases n with
  | zero => rfl
  | succ n => unfold sGo; rw [if_neg h]
theorem sDr_1000 {n : Nat} {x : Int32} (h : ¬ s 139 < 1000) : (sDr n x s).2 = s := by
  cases n with
  | zero => rfl
  | succ n => unfold sDr; rw [if_neg h]
theorem m_in1 {p : Int32} : fX12_isIn N 216 (qH g V X) p 1 60 = some (qz (qrg p 1 61)) := m_in (a := 1) (b := 60) (by omega) (by omega)

theorem s_14 (hN : 3000 ≤ N) {f : zF} (hI : Inv f) (p1 : Int32) : ∃ f2, zlc14 N 216 f p1 = some f2 ∧ Inv f2 := by
  obtain ⟨g, V, X, s, rfl, hg, hJ⟩ := hI
  obtain ⟨⟨⟨hW, hD, hG, h9⟩, hWL, hR, hL, hS, hM, hNs, hNm⟩, hU, hR2⟩ := id hJ
  obtain ⟨n, nx, U, hn, hx, u1, u2, u3, hU4⟩ := id hU
  unfold zlc14
  cases hp : qrg p1 1 61 with
  | false =>
    refine cstep (o1 := fX11_hours N 216 (qH g V X) 0 p1) (m := fun ff => fX12_hours N 216 ff 196 p1) (V1 := V) (X1 := X) (V2 := qT V) (X2 := X) (r := -1) hg ?_ ?_ hJ.thr
    · unfold fX11_hours
      rw [show (1 : Int32) = Int32.ofNat 1 from rfl, show (60 : Int32) = Int32.ofNat 60 from rfl, c_rng (by omega) (by omega), hp, if_neg (by decide)]
    · unfold fX12_hours
      rw [m_thr0, Option.bind_some, m_in1, Option.bind_some, hp, if_pos qzf]
  | true =>
    obtain ⟨n0, rfl, hn0, hn1, hn2⟩ := qrg_e hp
    obtain ⟨W1, a1', a2', a3'⟩ := c_hold (g := g) (X := X) (N := N) hg hx u2 hS hW
    have e1 : rF W1 4 s := hR.fr a3' (Or.inl (by omega))
    have e2 : rS W1 15 s := hS.fr a3' (Or.inl (by omega))
    obtain ⟨o1, o2, o3, o4, o5⟩ := sGo_ok n0 s hJ.1.1
    obtain ⟨W2, b1, b2, b3⟩ := c_hoursL (g := g) (X := X) hN (n := n0) (by omega) (b := Int32.ofNat (s 139)) n0 0 N W1 s (by omega) (by omega) e1 e2 hJ.1.1
    obtain ⟨w, hw⟩ : ∃ w, (sGo n0 s) 139 = s 139 + w := ⟨(sGo n0 s) 139 - s 139, by omega⟩
    have e65 : W2 65 = V 65 := by rw [b3 65 (by omega), a3' 65 (by omega)]
    obtain ⟨W3, g1, g2, g0, g3⟩ := c_gone (g := g) (X := X) (N := N) (V := W2) (h0 := s 139) (w := w) hn hx (by rw [e65]; exact u1) (by rw [e65]; exact u2) (by rw [← hw]; exact b2.1) (by omega)
    have hc : fX11_hours N 216 (qH g V X) 0 (Int32.ofNat n0) = some (qH g W3 X, Int32.ofNat ((sGo n0 s) 139 - s 139)) := by
      unfold fX11_hours
      rw [show (1 : Int32) = Int32.ofNat 1 from rfl, show (60 : Int32) = Int32.ofNat 60 from rfl, c_rng (by omega) (by omega), hp, if_pos rfl, c0_2, Option.bind_some, c15_g1, Option.bind_some, hS.1, q0_g8, Option.bind_some, Option.bind_some, q65_c, Option.bind_some, a1', Option.bind_some, l0, b1, g1, hw, show s 139 + w - s 139 = w by omega]
    have hfr : ∀ b, ¬ ((67 + 8 * nx ≤ b ∧ b < 67 + 8 * nx + 8) ∨ (15 ≤ b ∧ b < 23) ∨ b = 65) → W3 b = V b := by
      intro b hb
      by_cases hw0 : w = 0
      · rw [g0 hw0, b3 b (by omega), a3' b (by omega)]
      · rw [(g3 hw0).2.2 b (by omega), b3 b (by omega), a3' b (by omega)]
    have f1 : rS W3 15 (sGo n0 s) := by
      by_cases hw0 : w = 0
      · rw [g0 hw0]; exact b2
      · exact b2.fr (g3 hw0).2.2 (Or.inl (by omega))
    have f2 : rS W3 (67 + 8 * nx) s := by
      have h2 := a2'.fr b3 (Or.inr (by omega))
      by_cases hw0 : w = 0
      · rw [g0 hw0]; exact h2
      · exact h2.fr (g3 hw0).2.2 (Or.inr (by omega))
    have f3 := hfr
    have hMW : rM W3 s := fun i hi => by rw [hfr 198 (by omega)]; exact hM i hi
    by_cases h9' : s 139 < 1000
    · have hw0 : w ≠ 0 := by have := o5 h9' (by omega); omega
      obtain ⟨a1, a2, -⟩ := g3 hw0
      obtain ⟨K, k0, k1, k2, k3, k4, k5⟩ := m_keep (g := g) (X := X) (V := qT W3) (N := N) hN hn (by rw [qT_j (by omega), hfr 196 (by omega)]; exact u3)
      have hMK : rM K s := fun i hi => by rw [k4 198 (by omega) (by omega), qT_n (by omega)]; exact hMW i hi
      obtain ⟨Z, z1, z2, z3⟩ := m_goesOn2 (g := g) (X := X) hN (n := n0) (by omega) n0 0 N K s (by omega) (by omega) hMK hJ.1.1
      rw [Nat.zero_add] at z1
      refine cstep (o1 := fX11_hours N 216 (qH g V X) 0 (Int32.ofNat n0)) (m := fun ff => fX12_hours N 216 ff 196 (Int32.ofNat n0)) (X2 := X) hg hc ?_ (act_fin2 hJ (t := sGo n0 s) (Z := Z) o1 o2 hn hx hU4 f1 f2 f3 a1 a2 k1 k2 k3 k4 k5 (fun b j hb => by rw [z3 b (by omega)]) z2)
      unfold fX12_hours fX12_goesOn
      rw [m_thr0, Option.bind_some, m_in1, Option.bind_some, hp, if_neg qzt, q196_g6, Option.bind_some, show (139 : Int32) = Int32.ofNat 139 from rfl, m_ld hMW.thr (by omega), Option.bind_some, if_neg (by rw [show (1000 : Int32) = Int32.ofNat 1000 from rfl, qeq (by omega) (by omega)]; omega), q196_c, Option.bind_some, k0, Option.bind_some, q196_c, Option.bind_some, l0, z1, zbd_some]
    · have hT : sGo n0 s = s := sGo_1000 h9'
      have hw0 : w = 0 := by rw [hT] at hw; omega
      have hJ2 := (act_no hJ u2 hx (by rw [hT] at f1; exact f1) (fun b hb => by rw [g0 hw0, b3 b (by omega), a3' b (by omega)])).thr
      rw [hw, show s 139 + w - s 139 = w by omega] at hc
      refine cstep (o1 := fX11_hours N 216 (qH g V X) 0 (Int32.ofNat n0)) (m := fun ff => fX12_hours N 216 ff 196 (Int32.ofNat n0)) (X2 := X) hg hc (V2 := qT W3) ?_ hJ2
      unfold fX12_hours
      rw [m_thr0, Option.bind_some, m_in1, Option.bind_some, hp, if_neg qzt, q196_g6, Option.bind_some, show (139 : Int32) = Int32.ofNat 139 from rfl, m_ld hMW.thr (by omega), Option.bind_some, if_pos (by rw [show (1000 : Int32) = Int32.ofNat 1000 from rfl, qeq (by omega) (by omega)]; omega), hw0]
      rfl

theorem s_32 (hN : 3000 ≤ N) {f : zF} (hI : Inv f) (p1 p2 : Int32) : ∃ f2, zlc32 N 216 f p1 p2 = some f2 ∧ Inv f2 := by
  obtain ⟨g, V, X, s, rfl, hg, hJ⟩ := hI
  obtain ⟨⟨⟨hW, hD, hG, h9⟩, hWL, hR, hL, hS, hM, hNs, hNm⟩, hU, hR2⟩ := id hJ
  obtain ⟨n, nx, U, hn, hx, u1, u2, u3, hU4⟩ := id hU
  unfold zlc32
  cases hp : qrg p1 1 61 with
  | false =>
    refine cstep (o1 := fX11_drawn N 216 (qH g V X) 0 p1 p2) (m := fun ff => fX12_drawn N 216 ff 196 p1 p2) (V1 := V) (X1 := X) (V2 := qT V) (X2 := X) (r := -1) hg ?_ ?_ hJ.thr
    · unfold fX11_drawn
      rw [show (1 : Int32) = Int32.ofNat 1 from rfl, show (60 : Int32) = Int32.ofNat 60 from rfl, c_rng (by omega) (by omega), hp, if_neg (by decide)]
    · unfold fX12_drawn
      rw [m_thr0, Option.bind_some, m_in1, Option.bind_some, hp, if_pos qzf]
  | true =>
    obtain ⟨n0, rfl, hn0, hn1, hn2⟩ := qrg_e hp
    obtain ⟨W1, a1', a2', a3'⟩ := c_hold (g := g) (X := X) (N := N) hg hx u2 hS hW
    have e1 : rF W1 4 s := hR.fr a3' (Or.inl (by omega))
    have e2 : rS W1 15 s := hS.fr a3' (Or.inl (by omega))
    obtain ⟨o1, o2, o3, o4, o5⟩ := sDr_ok n0 p2 s hJ.1.1
    obtain ⟨W2, b1, b2, b3⟩ := c_drawnL (g := g) (X := X) hN (n := n0) (by omega) (b := Int32.ofNat (s 139)) n0 0 N W1 s p2 (by omega) (by omega) e1 e2 hJ.1.1
    obtain ⟨w, hw⟩ : ∃ w, ((sDr n0 p2 s).2) 139 = s 139 + w := ⟨((sDr n0 p2 s).2) 139 - s 139, by omega⟩
    have e65 : W2 65 = V 65 := by rw [b3 65 (by omega), a3' 65 (by omega)]
    obtain ⟨W3, g1, g2, g0, g3⟩ := c_gone (g := g) (X := X) (N := N) (V := W2) (h0 := s 139) (w := w) hn hx (by rw [e65]; exact u1) (by rw [e65]; exact u2) (by rw [← hw]; exact b2.1) (by omega)
    have hc : fX11_drawn N 216 (qH g V X) 0 (Int32.ofNat n0) p2 = some (qH g W3 X, Int32.ofNat (((sDr n0 p2 s).2) 139 - s 139)) := by
      unfold fX11_drawn
      rw [show (1 : Int32) = Int32.ofNat 1 from rfl, show (60 : Int32) = Int32.ofNat 60 from rfl, c_rng (by omega) (by omega), hp, if_pos rfl, c0_2, Option.bind_some, c15_g1, Option.bind_some, hS.1, q0_g8, Option.bind_some, Option.bind_some, q65_c, Option.bind_some, a1', Option.bind_some, l0, b1, g2, hw, show s 139 + w - s 139 = w by omega]
    have hfr : ∀ b, ¬ ((67 + 8 * nx ≤ b ∧ b < 67 + 8 * nx + 8) ∨ (15 ≤ b ∧ b < 23) ∨ b = 65) → W3 b = V b := by
      intro b hb
      by_cases hw0 : w = 0
      · rw [g0 hw0, b3 b (by omega), a3' b (by omega)]
      · rw [(g3 hw0).2.2 b (by omega), b3 b (by omega), a3' b (by omega)]
    have f1 : rS W3 15 ((sDr n0 p2 s).2) := by
      by_cases hw0 : w = 0
      · rw [g0 hw0]; exact b2
      · exact b2.fr (g3 hw0).2.2 (Or.inl (by omega))
    have f2 : rS W3 (67 + 8 * nx) s := by
      have h2 := a2'.fr b3 (Or.inr (by omega))
      by_cases hw0 : w = 0
      · rw [g0 hw0]; exact h2
      · exact h2.fr (g3 hw0).2.2 (Or.inr (by omega))
    have f3 := hfr
    have hMW : rM W3 s := fun i hi => by rw [hfr 198 (by omega)]; exact hM i hi
    by_cases h9' : s 139 < 1000
    · have hw0 : w ≠ 0 := by have := o5 h9' (by omega); omega
      obtain ⟨a1, a2, -⟩ := g3 hw0
      obtain ⟨K, k0, k1, k2, k3, k4, k5⟩ := m_keep (g := g) (X := X) (V := qT W3) (N := N) hN hn (by rw [qT_j (by omega), hfr 196 (by omega)]; exact u3)
      have hMK : rM K s := fun i hi => by rw [k4 198 (by omega) (by omega), qT_n (by omega)]; exact hMW i hi
      obtain ⟨Z, z1, z2, z3⟩ := m_draws (g := g) (X := X) (V := K) hN (n := n0) (by omega) (x := p2) hMK hJ.1.1
      refine cstep (o1 := fX11_drawn N 216 (qH g V X) 0 (Int32.ofNat n0) p2) (m := fun ff => fX12_drawn N 216 ff 196 (Int32.ofNat n0) p2) (X2 := X) hg hc ?_ (act_fin2 hJ (t := (sDr n0 p2 s).2) (Z := Z) o1 o2 hn hx hU4 f1 f2 f3 a1 a2 k1 k2 k3 k4 k5 z3 z2)
      unfold fX12_drawn fX12_drawn_35
      rw [m_thr0, Option.bind_some, m_in1, Option.bind_some, hp, if_neg qzt, q196_g6, Option.bind_some, show (139 : Int32) = Int32.ofNat 139 from rfl, m_ld hMW.thr (by omega), Option.bind_some, if_neg (by rw [show (1000 : Int32) = Int32.ofNat 1000 from rfl, qle (by omega) (by omega)]; omega), q196_c, Option.bind_some, k0, Option.bind_some, q196_c, Option.bind_some, z1, zbd_some]
    · have hT : (sDr n0 p2 s).2 = s := sDr_1000 h9'
      have hw0 : w = 0 := by rw [hT] at hw; omega
      rw [hw, show s 139 + w - s 139 = w by omega] at hc
      obtain ⟨Z, z1, z2, z3⟩ := m_draws (g := g) (X := X) (V := qT W3) hN (n := n0) (by omega) (x := p2) hMW.thr hJ.1.1
      rw [hT] at z1 z2
      have hJ2 := (act_no hJ u2 hx (by rw [hT] at f1; exact f1) (fun b hb => by rw [g0 hw0, b3 b (by omega), a3' b (by omega)])).thr
      refine cstep (o1 := fX11_drawn N 216 (qH g V X) 0 (Int32.ofNat n0) p2) (m := fun ff => fX12_drawn N 216 ff 196 (Int32.ofNat n0) p2) (X2 := X) hg hc (V2 := Z) ?_ ⟨hJ2.1.go hJ.1.1 sKp.rf (hJ2.1.2.2.2.2.1.pt (fun b j b1 b2 => z3 b j (by omega))) z2 (fun b j hb => z3 b j (by omega)), hJ2.2.1.pt sEq.rf (fun b j hb => z3 b j (by omega)), hJ2.2.2.pt (fun b j hb b1 b2 b3 b4 => z3 b j (by unfold scr at hb; omega)) (fun _ _ _ _ _ => rfl)⟩
      unfold fX12_drawn fX12_drawn_35
      rw [m_thr0, Option.bind_some, m_in1, Option.bind_some, hp, if_neg qzt, q196_g6, Option.bind_some, show (139 : Int32) = Int32.ofNat 139 from rfl, m_ld hMW.thr (by omega), Option.bind_some, if_pos (by rw [show (1000 : Int32) = Int32.ofNat 1000 from rfl, qle (by omega) (by omega)]; omega), q196_c, Option.bind_some, z1, zbd_some, hw0, Nat.sub_self]

theorem sOK.cg (h : ∀ i, i < 250 → t i = u i) (hu : sOK u) : sOK t := by
  obtain ⟨hW, hD, hG, h9⟩ := hu
  have hW2 : sWF t := (show sEq u t from fun i hi => h i (by omega)).wf hW
  obtain ⟨⟨w0, w0b⟩, ⟨w1, w1b⟩, w2, w3, w4, w5, w95, w113, w101, w129, w134⟩ := id hW
  obtain ⟨d139, d140, d141, d147, d159, d164, d169, dinj⟩ := id hD
  have e3 := h 3 (by omega)
  have e4 := h 4 (by omega)
  refine ⟨hW2, ?_, ?_, by rw [h 139 (by omega)]; exact h9⟩
  · unfold sWD
    rw [e3, e4, h 139 (by omega), h 140 (by omega)]
    refine ⟨d139, d140, fun j hj => ?_, fun j hj => ?_, fun j hj => ?_, fun j hj => ?_, fun j hj => ?_, fun i j hi hj e => ?_⟩
    · rw [h _ (by omega)]; exact d141 j hj
    · rw [h _ (by omega)]; exact d147 j hj
    · rw [h _ (by omega)]; exact d159 j hj
    · rw [h _ (by omega)]; exact d164 j hj
    · rw [h _ (by omega)]; exact d169 j hj
    · rw [h _ (by omega), h _ (by omega)] at e; exact dinj i j hi hj e
  · intro f hf
    rw [e3] at hf
    rw [h _ (by omega), h 139 (by omega)]
    exact hG f hf
theorem rS.cg (h : ∀ i, i < 250 → t i = u i) (hW : sWF u) {a : Nat} (hS : rS V a u) : rS V a t := by
  obtain ⟨⟨w0, w0b⟩, ⟨w1, w1b⟩, w2, w3, w4, w5, w95, w113, w101, w129, w134⟩ := id hW
  obtain ⟨r139, r141, r147, r153, r159, r164, r140, r169⟩ := id hS
  unfold rS sShut
  rw [h 3 (by omega), h 4 (by omega), h 139 (by omega), h 140 (by omega)]
  refine ⟨r139, fun j hj => ?_, fun j hj => ?_, fun j hj => ?_, fun j hj => ?_, fun j hj => ?_, r140, fun j hj => ?_⟩
  · rw [h _ (by omega)]; exact r141 j hj
  · rw [h _ (by omega)]; exact r147 j hj
  · rw [h _ (by omega)]; exact r153 j hj
  · rw [h _ (by omega)]; exact r159 j hj
  · rw [h _ (by omega)]; exact r164 j hj
  · rw [h _ (by omega)]; exact r169 j hj
theorem m_undo26 (hN : 3000 ≤ N) {n : Nat} (hn : n < 8) : ∀ m i k V, i + m = 111 → m < k → V 196 23 = Int32.ofNat n → ∃ W, fX12_undo_26 N 216 k (qH g V X) 196 (Int32.ofNat i) = some (qH g W X, Int32.ofNat n) ∧ (∀ j, W 198 j = if 139 + i ≤ j ∧ j < 250 then V 203 (111 * n + (j - 139)) else V 198 j) ∧ qfr V W 198 1 := by
  intro m
  induction m with
  | zero =>
    intro i k V hi hk hv
    obtain ⟨k, rfl⟩ : ∃ j, k = j + 1 := ⟨k - 1, by omega⟩
    unfold fX12_undo_26
    rw [if_pos (by rw [show (111 : Int32) = Int32.ofNat 111 from rfl, qle (by omega) (by omega)]; omega), q196_g23, Option.bind_some, hv]
    exact ⟨V, rfl, fun j => by rw [if_neg (by omega)], qfr.rf⟩
  | succ m ih =>
    intro i k V hi hk hv
    obtain ⟨k, rfl⟩ : ∃ j, k = j + 1 := ⟨k - 1, by omega⟩
    have e1 : zlI 216 (qH g V X) 0 203 (Int32.ofNat (111 * n + i)) = some (V 203 (111 * n + i)) := qlI (t := 0) qk_203 (Or.inl rfl) (by omega) (by omega)
    obtain ⟨W, h1, h2, h3⟩ := ih (i + 1) k (qw V 198 (upd (V 198) (139 + i) (V 203 (111 * n + i)))) (by omega) (by omega) (by rw [qw_n (by omega)]; exact hv)
    unfold fX12_undo_26
    rw [if_neg (by rw [show (111 : Int32) = Int32.ofNat 111 from rfl, qle (by omega) (by omega)]; omega), q196_g6, Option.bind_some, q196_g21, Option.bind_some, q196_g23, Option.bind_some, hv, show (111 : Int32) = Int32.ofNat 111 from rfl, qmul, qadd, e1, Option.bind_some, show (139 : Int32) = Int32.ofNat 139 from rfl, qadd, m_st (by omega), Option.bind_some, l1', qadd, h1]
    refine ⟨W, rfl, fun j => ?_, (qfr.w (by omega) (by omega)).tr h3⟩
    rw [h2 j, qw_n (by omega), qw_s]
    by_cases e : j = 139 + i
    · subst e; rw [upd_s, if_neg (by omega), if_pos (by omega), show 139 + i - 139 = i by omega]
    · rw [upd_n e]
      by_cases e2 : 139 + (i + 1) ≤ j ∧ j < 250
      · rw [if_pos e2, if_pos (by omega)]
      · rw [if_neg e2, if_neg (by omega)]
theorem s_15 (hN : 3000 ≤ N) {f : zF} (hI : Inv f) : ∃ f2, zlc15 N 216 f = some f2 ∧ Inv f2 := by
  obtain ⟨g, V, X, s, rfl, hg, hJ⟩ := hI
  obtain ⟨⟨⟨hW, hD, hG, h9⟩, hWL, hR, hL, hS, hM, hNs, hNm⟩, hU, hR2⟩ := id hJ
  obtain ⟨n, nx, U, hn, hx, u1, u2, u3, hU4⟩ := id hU
  unfold zlc15
  have hst := c_stateIn (N := N) (V := V) (X := X) hg (i := (nx + 8) % 9) (by omega)
  by_cases h0 : n = 0
  · subst h0
    refine cstep (o1 := fX11_undo N 216 (qH g V X) 0) (m := fun ff => fX12_undo N 216 ff 196) (V1 := V) (X1 := X) (V2 := qT V) (X2 := X) (r := -1) hg ?_ ?_ hJ.thr
    · unfold fX11_undo fX10_giveBack
      rw [q0_g8, Option.bind_some, c0_2, Option.bind_some, q65_c, Option.bind_some, q65_g2, Option.bind_some, u2, show (8 : Int32) = Int32.ofNat 8 from rfl, show (9 : Int32) = Int32.ofNat 9 from rfl, qadd, qrem (by omega) (by omega), Option.bind_some, hst, Option.bind_some, q65_g1, Option.bind_some, u1, if_pos (by decide), zbd_some]
    · unfold fX12_undo
      rw [m_thr0, Option.bind_some, q196_g23, Option.bind_some, qT_j (by omega), u3, if_pos (by decide)]
  · have hA := qS_ring ((nx + 8) % 9) (by omega)
    obtain ⟨v1, v2, v3, v4⟩ := hU4 (n - 1) (by omega)
    rw [show (nx + 9 - n + (n - 1)) % 9 = (nx + 8) % 9 by omega] at v3
    have hC := v3.copy (a := 15) v2.1
    have hfc : qfr V (qcb V 15 (67 + 8 * ((nx + 8) % 9)) (upd (V 15) 1 (V (67 + 8 * ((nx + 8) % 9)) 1)) qLS 7) 15 8 := qcb_fr
    have hcp := e_copyS (g := g) (X := X) (V := V) (N := N) qS_15 hA (Or.inr (by omega))
    generalize qcb V 15 (67 + 8 * ((nx + 8) % 9)) (upd (V 15) 1 (V (67 + 8 * ((nx + 8) % 9)) 1)) qLS 7 = C at *
    obtain ⟨W, hWd⟩ : ∃ W, W = qw C 65 (upd (upd (C 65) 2 (Int32.ofNat ((nx + 8) % 9))) 1 (Int32.ofNat (n - 1))) := ⟨_, rfl⟩
    have hc : fX11_undo N 216 (qH g V X) 0 = some (qH g W X, Int32.ofNat (n - 1)) := by
      unfold fX11_undo fX10_giveBack
      rw [q0_g8, Option.bind_some, c0_2, Option.bind_some, q65_c, Option.bind_some, q65_g2, Option.bind_some, u2, show (8 : Int32) = Int32.ofNat 8 from rfl, show (9 : Int32) = Int32.ofNat 9 from rfl, qadd, qrem (by omega) (by omega), Option.bind_some, hst, Option.bind_some, q65_g1, Option.bind_some, u1, if_neg (by rw [qlit0, qeq (by omega) (by omega)]; exact h0)]
      dsimp only
      rw [c15_c, Option.bind_some, hcp, Option.bind_some, q65_p2, Option.bind_some, q65_g1, Option.bind_some, q65_p1, Option.bind_some, q65_g1, Option.bind_some, qw_s, upd_n (by omega), hfc 65 (by omega), u1, qlit1, qsub (by omega), qw_s, upd_s, qw_qw, zbd_some, hWd, hfc 65 (by omega)]
    have hW65 : W 65 1 = Int32.ofNat (n - 1) ∧ W 65 2 = Int32.ofNat ((nx + 8) % 9) := by
      rw [hWd, qw_s]
      exact ⟨upd_s, by rw [upd_n (by omega), upd_s]⟩
    have hWf : ∀ b, ¬ ((15 ≤ b ∧ b < 23) ∨ b = 65) → W b = V b := fun b hb => by rw [hWd, qw_n (by omega), hfc b (by omega)]
    have hW15 : rS W 15 (U (n - 1)) := hC.pt (fun b j b1 b2 => by rw [hWd, qw_n (by omega)])
    obtain ⟨Z, z1, z2, z3⟩ := m_undo26 (g := g) (X := X) hN (n := n - 1) (by omega) 111 0 N (qw (qT W) 196 (upd (qT W 196) 23 (Int32.ofNat (n - 1)))) (by omega) (by omega) (by rw [qw_s, upd_s])
    have hMW : rM W s := fun i hi => by rw [hWf 198 (by omega)]; exact hM i hi
    have hm : fX12_undo N 216 (qH g W X) 196 = some (qH g Z X, Int32.ofNat (n - 1)) := by
      unfold fX12_undo
      rw [m_thr0, Option.bind_some, q196_g23, Option.bind_some, qT_j (by omega), hWf 196 (by omega), u3, if_neg (by rw [qlit0, qeq (by omega) (by omega)]; exact h0), Option.bind_some, qlit1, qsub (by omega), q196_p23, Option.bind_some, l0, z1]
    obtain ⟨t, ht⟩ : ∃ t, t = fun i => if 139 ≤ i ∧ i < 250 then U (n - 1) i else s i := ⟨_, rfl⟩
    have ht1 : ∀ i, i < 250 → t i = U (n - 1) i := by
      intro i hi
      rw [ht]
      dsimp only
      split
      · rfl
      · exact (v1 i (by omega)).symm
    have ht2 : sKp s t := by
      intro i hi
      rw [ht]
      dsimp only
      rw [if_neg (by omega)]
    have hZ : ∀ b j, ¬ (b = 198 ∨ (b = 196 ∧ (j = 0 ∨ j = 23))) → Z b j = W b j := by
      intro b j hb
      rw [z3 b (by omega)]
      by_cases e : b = 196
      · subst e; rw [qw_s, upd_n (by omega), qT_j (by omega)]
      · rw [qw_n e, qT_n e]
    have hZM : rM Z t := by
      intro i hi
      rw [z2 i, qw_n (by omega), qw_n (by omega), qT_n (by omega), qT_n (by omega), hWf 203 (by omega), hWf 198 (by omega), ht]
      dsimp only
      by_cases e : 139 ≤ i ∧ i < 250
      · rw [if_pos (by omega), if_pos e, v4 (i - 139) (by omega), show 139 + (i - 139) = i by omega]
      · rw [if_neg (by omega), if_neg e]; exact hM i hi
    refine cstep (o1 := fX11_undo N 216 (qH g V X) 0) (m := fun ff => fX12_undo N 216 ff 196) (X2 := X) (V2 := Z) (s := t) hg hc hm ⟨hJ.1.go (v2.cg ht1) ht2 ((hW15.cg ht1 v2.1).pt (fun b j b1 b2 => hZ b j (by omega))) hZM (fun b j hb => by rw [hZ b j (by omega), hWf b (by omega)]), ?_, hR2.pt (fun b j hb b1 b2 b3 b4 => by unfold scr at hb; rw [hZ b j (by omega), hWf b (by omega)]) (fun _ _ _ _ _ => rfl)⟩
    refine ⟨n - 1, (nx + 8) % 9, U, by omega, by omega, by rw [hZ 65 1 (by omega)]; exact hW65.1, by rw [hZ 65 2 (by omega)]; exact hW65.2, by rw [z3 196 (by omega), qw_s, upd_s], fun j hj => ?_⟩
    obtain ⟨y1, y2, y3, y4⟩ := hU4 j (by omega)
    refine ⟨fun i hi => (y1 i hi).trans (ht2 i (Or.inl hi)).symm, y2, ?_, fun i hi => ?_⟩
    · rw [show ((nx + 8) % 9 + 9 - (n - 1) + j) % 9 = (nx + 9 - n + j) % 9 by omega]
      exact y3.pt (fun b j b1 b2 => by rw [hZ b j (by omega), hWf b (by omega)])
    · rw [hZ 203 _ (by omega), hWf 203 (by omega)]; exact y4 i hi
end QST
