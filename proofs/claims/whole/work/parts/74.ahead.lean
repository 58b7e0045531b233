/-! what would go on: where, comes, odds -/
section QWH
variable {g : zF} {V W K : Nat → Nat → Int32} {X : Nat → Nat → Int64} {N : Nat} {s t u : Nat → Nat}
theorem sIt_ok : ∀ n (s : Nat → Nat), sWF s → sWD s → s 139 + n ≤ 100000 → sWF (sIt n s) ∧ sWD (sIt n s) ∧ sKp s (sIt n s) := by
  intro n
  induction n with
  | zero => intro s hW hD h9; exact ⟨hW, hD, sKp.rf⟩
  | succ n ih =>
    intro s hW hD h9
    obtain ⟨h1, h2, h3, h4⟩ := sHour_wd hW hD (by omega)
    obtain ⟨a1, a2, a3⟩ := ih (sHour s) (h2.wf hW) h1 (by omega)
    exact ⟨a1, a2, (sHour_k hW hD).tr a3⟩
theorem m_tries2 (hN : 3000 ≤ N) : ∀ m i k V, i + m = 111 → m < k → ∃ W, fX12_tries_2 N 216 k (qH g V X) 196 (Int32.ofNat i) = some (qH g W X) ∧ (∀ j, W 204 j = if i ≤ j ∧ j < 111 then V 198 (139 + j) else V 204 j) ∧ qfr V W 204 1 := by
  intro m
  induction m with
  | zero =>
    intro i k V hi hk
    obtain ⟨k, rfl⟩ : ∃ j, k = j + 1 := ⟨k - 1, by omega⟩
    unfold fX12_tries_2
    rw [if_pos (by rw [show (111 : Int32) = Int32.ofNat 111 from rfl, qle (by omega) (by omega)]; omega)]
    exact ⟨V, rfl, fun j => by rw [if_neg (by omega)], qfr.rf⟩
  | succ m ih =>
    intro i k V hi hk
    obtain ⟨k, rfl⟩ : ∃ j, k = j + 1 := ⟨k - 1, by omega⟩
    have e1 : zlI 216 (qH g V X) 0 198 (Int32.ofNat (139 + i)) = some (V 198 (139 + i)) := qlI (t := 0) qk_198 (Or.inl rfl) (by omega) (by omega)
    have e2 : ∀ x, zsI 216 (qH g V X) 0 204 (Int32.ofNat i) x = some (qH g (qw V 204 (upd (V 204) i x)) X) := fun x => qsI (t := 0) qk_204 (Or.inl rfl) (by omega) (by omega)
    obtain ⟨W, h1, h2, h3⟩ := ih (i + 1) k (qw V 204 (upd (V 204) i (V 198 (139 + i)))) (by omega) (by omega)
    unfold fX12_tries_2
    rw [if_neg (by rw [show (111 : Int32) = Int32.ofNat 111 from rfl, qle (by omega) (by omega)]; omega), q196_g22, Option.bind_some, q196_g6, Option.bind_some, show (139 : Int32) = Int32.ofNat 139 from rfl, qadd, e1, Option.bind_some, e2, Option.bind_some, l1', qadd, h1]
    refine ⟨W, rfl, fun j => ?_, (qfr.w (by omega) (by omega)).tr h3⟩
    rw [h2 j, qw_n (by omega), qw_s]
    by_cases e : j = i
    · subst e; rw [upd_s, if_neg (by omega), if_pos (by omega)]
    · rw [upd_n e]
      by_cases e2 : i + 1 ≤ j ∧ j < 111
      · rw [if_pos e2, if_pos (by omega)]
      · rw [if_neg e2, if_neg (by omega)]
theorem m_tries (hN : 3000 ≤ N) : ∃ W, fX12_tries N 216 (qH g V X) 196 = some (qH g W X) ∧ (∀ j, j < 111 → W 204 j = V 198 (139 + j)) ∧ qfr V W 204 1 := by
  obtain ⟨W, h1, h2, h3⟩ := m_tries2 (g := g) (X := X) hN 111 0 N V (by omega) (by omega)
  exact ⟨W, h1, fun j hj => by rw [h2 j, if_pos (by omega)], h3⟩
theorem m_back2 (hN : 3000 ≤ N) : ∀ m i k V, i + m = 111 → m < k → ∃ W, fX12_back_2 N 216 k (qH g V X) 196 (Int32.ofNat i) = some (qH g W X) ∧ (∀ j, W 198 j = if 139 + i ≤ j ∧ j < 250 then V 204 (j - 139) else V 198 j) ∧ qfr V W 198 1 := by
  intro m
  induction m with
  | zero =>
    intro i k V hi hk
    obtain ⟨k, rfl⟩ : ∃ j, k = j + 1 := ⟨k - 1, by omega⟩
    unfold fX12_back_2
    rw [if_pos (by rw [show (111 : Int32) = Int32.ofNat 111 from rfl, qle (by omega) (by omega)]; omega)]
    exact ⟨V, rfl, fun j => by rw [if_neg (by omega)], qfr.rf⟩
  | succ m ih =>
    intro i k V hi hk
    obtain ⟨k, rfl⟩ : ∃ j, k = j + 1 := ⟨k - 1, by omega⟩
    have e1 : zlI 216 (qH g V X) 0 204 (Int32.ofNat i) = some (V 204 i) := qlI (t := 0) qk_204 (Or.inl rfl) (by omega) (by omega)
    obtain ⟨W, h1, h2, h3⟩ := ih (i + 1) k (qw V 198 (upd (V 198) (139 + i) (V 204 i))) (by omega) (by omega)
    unfold fX12_back_2
    rw [if_neg (by rw [show (111 : Int32) = Int32.ofNat 111 from rfl, qle (by omega) (by omega)]; omega), q196_g6, Option.bind_some, q196_g22, Option.bind_some, e1, Option.bind_some, show (139 : Int32) = Int32.ofNat 139 from rfl, qadd, m_st (by omega), Option.bind_some, l1', qadd, h1]
    refine ⟨W, rfl, fun j => ?_, (qfr.w (by omega) (by omega)).tr h3⟩
    rw [h2 j, qw_n (by omega), qw_s]
    by_cases e : j = 139 + i
    · subst e; rw [upd_s, if_neg (by omega), if_pos (by omega), show 139 + i - 139 = i by omega]
    · rw [upd_n e]
      by_cases e2 : 139 + (i + 1) ≤ j ∧ j < 250
      · rw [if_pos e2, if_pos (by omega)]
      · rw [if_neg e2, if_neg (by omega)]
/-- brought back: the row as it was when it was kept -/
theorem m_back (hN : 3000 ≤ N) (hM : rM V t) (hk : sKp s t) (hb : ∀ j, j < 111 → V 204 j = Int32.ofNat (s (139 + j))) : ∃ W, fX12_back N 216 (qH g V X) 196 = some (qH g W X) ∧ rM W s ∧ qfr V W 198 1 := by
  obtain ⟨W, h1, h2, h3⟩ := m_back2 (g := g) (X := X) hN 111 0 N V (by omega) (by omega)
  refine ⟨W, h1, fun i hi => ?_, h3⟩
  rw [h2 i]
  by_cases e : 139 + 0 ≤ i ∧ i < 250
  · rw [if_pos e, hb _ (by omega), show 139 + (i - 139) = i by omega]
  · rw [if_neg e, hM i hi, hk i (by omega)]
theorem look_fin (hJ : jA V X s) (e : ∀ b j, ¬ scr b j → b ≠ 198 → W b j = V b j) (hM : rM W s) : jA W X s := by
  obtain ⟨j1, j2, j3⟩ := hJ
  exact ⟨j1.go j1.1 sKp.rf (j1.2.2.2.2.1.pt (fun b j b1 b2 => e b j (by unfold scr; omega) (by omega))) hM (fun b j hb => e b j (by unfold scr; omega) (by omega)), j2.pt sEq.rf (fun b j hb => e b j (by unfold scr; omega) (by omega)), j3.pt (fun b j hb b1 b2 b3 b4 => e b j hb b2) (fun _ _ _ _ _ => rfl)⟩
theorem c_where37 (hN : 3000 ≤ N) {n f : Nat} (hn : n < 1000) (hf : f < s 3) : ∀ m i k W u, i + m = n → m < k → rF W 4 u → rS W 23 u → sWF u → sWD u → u 139 + m ≤ 50000 → u 3 = s 3 → ∃ W2, fX11_where_37 N 216 k (qH g W X) 0 (Int32.ofNat f) (Int32.ofNat n) (Int32.ofNat i) = some (qH g W2 X, Int32.ofNat (sIt m u (141 + f))) ∧ qfr W W2 23 8 := by
  intro m
  induction m with
  | zero =>
    intro i k W u hi hk hR hS hW hD h9 h3
    obtain ⟨k, rfl⟩ : ∃ j, k = j + 1 := ⟨k - 1, by omega⟩
    obtain ⟨⟨w0, w0b⟩, ⟨w1, w1b⟩, w2, w3, w4, w5, w95, w113, w101, w129, w134⟩ := id hW
    have r24 : W 24 f = Int32.ofNat (u (141 + f)) := hS.2.1 f (by omega)
    unfold fX11_where_37 sIt
    rw [if_pos (by rw [qle (by omega) (by omega)]; omega), q0_g3, Option.bind_some, c23_g2, Option.bind_some, c24_at (by omega), Option.bind_some, r24]
    exact ⟨W, rfl, qfr.rf⟩
  | succ m ih =>
    intro i k W u hi hk hR hS hW hD h9 h3
    obtain ⟨k, rfl⟩ : ∃ j, k = j + 1 := ⟨k - 1, by omega⟩
    obtain ⟨a1, a2, a3, a4⟩ := sHour_wd hW hD (by omega)
    obtain ⟨W1, b1, b2, b3⟩ := e_goHour (g := g) (X := X) hN qS_23 qF_4 hR hS hW hD (by omega)
    obtain ⟨W2, c1, c2⟩ := ih (i + 1) k W1 (sHour u) (by omega) (by omega) (a2.toF hW (hR.fr b3 (Or.inl (by omega)))) b2 (a2.wf hW) a1 (by omega) (by rw [a2 3 (by omega)]; exact h3)
    unfold fX11_where_37 sIt
    rw [if_neg (by rw [qle (by omega) (by omega)]; omega), q0_g3, Option.bind_some, c23_c, Option.bind_some, b1, Option.bind_some, l1', qadd, c1]
    exact ⟨W2, rfl, b3.tr c2⟩
theorem m_where32 (hN : 3000 ≤ N) {n f : Nat} (hn : n < 1000) (hf : f < s 3) (hs3 : s 3 ≤ 6) : ∀ m i k V u, i + m = n → m < k → rM V u → sWF u → sWD u → u 139 + m ≤ 50000 → sKp s u → (∀ j, j < 111 → V 204 j = Int32.ofNat (s (139 + j))) → ∃ W, fX12_where_32 N 216 k (qH g V X) 196 (Int32.ofNat f) (Int32.ofNat n) (Int32.ofNat i) = some (qH g W X, Int32.ofNat (sIt m u (141 + f))) ∧ rM W s ∧ qfr V W 198 1 := by
  intro m
  induction m with
  | zero =>
    intro i k V u hi hk hM hW hD h9 hkp hb
    obtain ⟨k, rfl⟩ : ∃ j, k = j + 1 := ⟨k - 1, by omega⟩
    obtain ⟨W, b1, b2, b3⟩ := m_back (g := g) (X := X) hN hM hkp hb
    unfold fX12_where_32 sIt
    rw [if_pos (by rw [qle (by omega) (by omega)]; omega), q196_g6, Option.bind_some, show (141 : Int32) = Int32.ofNat 141 from rfl, qadd, m_ld hM (by omega), Option.bind_some, q196_c, Option.bind_some, b1, Option.bind_some]
    exact ⟨W, rfl, b2, b3⟩
  | succ m ih =>
    intro i k V u hi hk hM hW hD h9 hkp hb
    obtain ⟨k, rfl⟩ : ∃ j, k = j + 1 := ⟨k - 1, by omega⟩
    obtain ⟨a1, a2, a3, a4⟩ := sHour_wd hW hD (by omega)
    obtain ⟨W1, b1, b2, b3⟩ := m_hour (g := g) (X := X) hN hM hW hD
    obtain ⟨W2, c1, c2, c3⟩ := ih (i + 1) k W1 (sHour u) (by omega) (by omega) b2 (a2.wf hW) a1 (by omega) (hkp.tr (sHour_k hW hD)) (fun j hj => by rw [b3 204 (by omega)]; exact hb j hj)
    unfold fX12_where_32 sIt
    rw [if_neg (by rw [qle (by omega) (by omega)]; omega), q196_c, Option.bind_some, b1, Option.bind_some, l1', qadd, c1]
    exact ⟨W2, rfl, c2, b3.tr c3⟩
theorem c_rng0 {α : Type} {p : Int32} {b : Nat} (hb : b < 1000) {e x : α} : (if p < 0 then e else if p ≤ Int32.ofNat b then x else e) = if qrg p 0 (b + 1) = true then x else e := c_rng (a := 0) (by omega) hb
theorem c_scr (hS : rS V 15 s) (hW : sWF s) : ∃ C, fX8_copyFrom N 216 (qH g V X) 23 15 = some (qH g C X) ∧ rS C 23 s ∧ qfr V C 23 8 :=
  ⟨_, e_copyS qS_23 qS_15 (Or.inl (by omega)), hS.copy hW, qcb_fr⟩
theorem s_16 (hN : 3000 ≤ N) {f : zF} (hI : Inv f) (p1 p2 : Int32) : ∃ f2, zlc16 N 216 f p1 p2 = some f2 ∧ Inv f2 := by
  obtain ⟨g, V, X, s, rfl, hg, hJ⟩ := hI
  obtain ⟨⟨⟨hW, hD, hG, h9⟩, hWL, hR, hL, hS, hM, hNs, hNm⟩, hU, hR2⟩ := id hJ
  unfold zlc16
  have h3 := hW.2.2.2.1
  cases hp : qrg p1 0 (s 3) with
  | false =>
    refine cstep (o1 := fX11_where N 216 (qH g V X) 0 p1 p2) (m := fun ff => fX12_where N 216 ff 196 p1 p2) (V1 := V) (X1 := X) (V2 := qT V) (X2 := X) (r := -1) hg ?_ ?_ hJ.thr
    · unfold fX11_where
      rw [c0_1, Option.bind_some, c4_c, Option.bind_some, c_hasFigure hR hW, Option.bind_some, hp, if_pos qzf]
    · unfold fX12_where
      rw [m_thr0, Option.bind_some, q196_c, Option.bind_some, m_isFigure hM.thr hW, Option.bind_some, hp, if_pos qzf]
  | true =>
    obtain ⟨v, rfl, hv0, -, hv⟩ := qrg_e hp
    cases hq : qrg p2 0 201 with
    | false =>
      refine cstep (o1 := fX11_where N 216 (qH g V X) 0 (Int32.ofNat v) p2) (m := fun ff => fX12_where N 216 ff 196 (Int32.ofNat v) p2) (V1 := V) (X1 := X) (V2 := qT V) (X2 := X) (r := -1) hg ?_ ?_ hJ.thr
      · unfold fX11_where
        rw [c0_1, Option.bind_some, c4_c, Option.bind_some, c_hasFigure hR hW, Option.bind_some, hp, if_neg qzt, show (200 : Int32) = Int32.ofNat 200 from rfl, c_rng0 (by omega), hq, if_neg (by decide)]
      · unfold fX12_where
        rw [m_thr0, Option.bind_some, q196_c, Option.bind_some, m_isFigure hM.thr hW, Option.bind_some, hp, if_neg qzt, show fX12_isIn N 216 (qH g (qT V) X) p2 0 200 = some (qz (qrg p2 0 201)) from m_in (a := 0) (b := 200) (by omega) (by omega), Option.bind_some, hq, if_pos qzf]
    | true =>
      obtain ⟨n, rfl, hn0, -, hn⟩ := qrg_e hq
      obtain ⟨C, a1, a2, a3⟩ := c_scr (g := g) (X := X) (N := N) hS hW
      obtain ⟨W, b1, b2⟩ := c_where37 (g := g) (X := X) (s := s) hN (n := n) (by omega) hv n 0 N C s (by omega) (by omega) (hR.fr a3 (Or.inl (by omega))) a2 hW hD (by omega) rfl
      have hWf : qfr V W 23 8 := a3.tr b2
      have hMW : rM W s := fun i hi => by rw [hWf 198 (by omega)]; exact hM i hi
      obtain ⟨T, t1, t2, t3⟩ := m_tries (g := g) (X := X) (V := qT W) hN
      obtain ⟨Z, z1, z2, z3⟩ := m_where32 (g := g) (X := X) (s := s) hN (n := n) (by omega) hv h3 n 0 N T s (by omega) (by omega) (fun i hi => by rw [t3 198 (by omega)]; exact hMW.thr i hi) hW hD (by omega) sKp.rf (fun j hj => by rw [t2 j hj]; exact hMW.thr (139 + j) (by omega))
      refine cstep (o1 := fX11_where N 216 (qH g V X) 0 (Int32.ofNat v) (Int32.ofNat n)) (m := fun ff => fX12_where N 216 ff 196 (Int32.ofNat v) (Int32.ofNat n)) (V1 := W) (X1 := X) (V2 := Z) (X2 := X) (r := Int32.ofNat (sIt n s (141 + v))) hg ?_ ?_ (look_fin hJ (fun b j hb hb2 => ?_) z2)
      · unfold fX11_where
        rw [c0_1, Option.bind_some, c4_c, Option.bind_some, c_hasFigure hR hW, Option.bind_some, hp, if_neg qzt, show (200 : Int32) = Int32.ofNat 200 from rfl, c_rng0 (by omega), hq, if_pos rfl, q0_g3, Option.bind_some, c0_2, Option.bind_some, c23_c, Option.bind_some, a1, Option.bind_some, l0, b1]
      · unfold fX12_where
        rw [m_thr0, Option.bind_some, q196_c, Option.bind_some, m_isFigure hMW.thr hW, Option.bind_some, hp, if_neg qzt, show fX12_isIn N 216 (qH g (qT W) X) (Int32.ofNat n) 0 200 = some (qz (qrg (Int32.ofNat n) 0 201)) from m_in (a := 0) (b := 200) (by omega) (by omega), Option.bind_some, hq, if_neg qzt, Option.bind_some, t1, Option.bind_some, l0, z1]
      · unfold scr at hb
        rw [z3 b (by omega), t3 b (by omega)]
        by_cases e : b = 196
        · subst e; rw [qT_j (by omega), hWf 196 (by omega)]
        · rw [qT_n e, hWf b (by omega)]
def sCm (f c : Nat) : Nat → Nat → (Nat → Nat) → Option Nat
  | 0, _, _ => none
  | m + 1, h, s => if s (141 + f) = c then some h else sCm f c m (h + 1) (sHour s)
theorem sCm_lt {f c : Nat} : ∀ m h s k, sCm f c m h s = some k → h ≤ k ∧ k < h + m := by
  intro m
  induction m with
  | zero => intro h s k e; cases e
  | succ m ih =>
    intro h s k e
    unfold sCm at e
    split at e
    · cases e; omega
    · have := ih _ _ _ e; omega
theorem c_comes47 (hN : 3000 ≤ N) {c f : Nat} (hc : c < 1000) (hf : f < s 3) : ∀ m h k W u, h + m = 201 → m < k → rF W 4 u → rS W 23 u → sWF u → sWD u → u 139 + m ≤ 50000 → u 3 = s 3 → ∃ W2, fX11_comes_47 N 216 k (qH g W X) 0 (Int32.ofNat f) (Int32.ofNat c) (Int32.ofNat h) = some (qH g W2 X, qo (sCm f c m h u)) ∧ qfr W W2 23 8 := by
  intro m
  induction m with
  | zero =>
    intro i k W u hi hk hR hS hW hD h9 h3
    obtain ⟨k, rfl⟩ : ∃ j, k = j + 1 := ⟨k - 1, by omega⟩
    unfold fX11_comes_47 sCm
    rw [if_pos (by rw [show (200 : Int32) = Int32.ofNat 200 from rfl, qlt (by omega) (by omega)]; omega)]
    exact ⟨W, rfl, qfr.rf⟩
  | succ m ih =>
    intro i k W u hi hk hR hS hW hD h9 h3
    obtain ⟨k, rfl⟩ : ∃ j, k = j + 1 := ⟨k - 1, by omega⟩
    obtain ⟨⟨w0, w0b⟩, ⟨w1, w1b⟩, w2, w3, w4, w5, w95, w113, w101, w129, w134⟩ := id hW
    have hd := hD.2.2.1 f (by omega)
    have r24 : W 24 f = Int32.ofNat (u (141 + f)) := hS.2.1 f (by omega)
    obtain ⟨a1, a2, a3, a4⟩ := sHour_wd hW hD (by omega)
    obtain ⟨W1, b1, b2, b3⟩ := e_goHour (g := g) (X := X) hN qS_23 qF_4 hR hS hW hD (by omega)
    obtain ⟨W2, c1, c2⟩ := ih (i + 1) k W1 (sHour u) (by omega) (by omega) (a2.toF hW (hR.fr b3 (Or.inl (by omega)))) b2 (a2.wf hW) a1 (by omega) (by rw [a2 3 (by omega)]; exact h3)
    unfold fX11_comes_47 sCm
    rw [if_neg (by rw [show (200 : Int32) = Int32.ofNat 200 from rfl, qlt (by omega) (by omega)]; omega), q0_g3, Option.bind_some, c23_g2, Option.bind_some, c24_at (by omega), Option.bind_some, r24]
    by_cases h : u (141 + f) = c
    · rw [if_pos (by rw [h]), if_pos h]
      exact ⟨W, rfl, qfr.rf⟩
    · rw [if_neg (by rw [qeq (by omega) (by omega)]; exact h), if_neg h, Option.bind_some, c23_c, Option.bind_some, b1, Option.bind_some, l1', qadd, c1]
      exact ⟨W2, rfl, b3.tr c2⟩
theorem m_comes28 (hN : 3000 ≤ N) {c f n : Nat} (hc : c < 1000) (hf : f < s 3) (hn : n < 1000) : ∀ m h k V u, h + m = n + 1 → m + 1 < k → rM V u → sWF u → sWD u → u 139 + m ≤ 50000 → sKp s u → ∃ W t, fX12_comesIn_28 N 216 k (qH g V X) 196 (Int32.ofNat f) (Int32.ofNat c) (Int32.ofNat n) (qo none) (Int32.ofNat h) = fX12_comesIn_68 N 216 (qH g W X) 196 (qo (sCm f c m h (sHour u))) ∧ rM W t ∧ sKp s t ∧ qfr V W 198 1 := by
  intro m
  induction m with
  | zero =>
    intro i k V u hi hk hM hW hD h9 hkp
    obtain ⟨k, rfl⟩ : ∃ j, k = j + 1 := ⟨k - 1, by omega⟩
    unfold fX12_comesIn_28 sCm
    rw [if_pos (by rw [qlt (by omega) (by omega)]; omega)]
    exact ⟨V, u, rfl, hM, hkp, qfr.rf⟩
  | succ m ih =>
    intro i k V u hi hk hM hW hD h9 hkp
    obtain ⟨k, rfl⟩ : ∃ j, k = j + 1 := ⟨k - 1, by omega⟩
    obtain ⟨k, rfl⟩ : ∃ j, k = j + 1 := ⟨k - 1, by omega⟩
    obtain ⟨⟨w0, w0b⟩, ⟨w1, w1b⟩, w2, w3, w4, w5, w95, w113, w101, w129, w134⟩ := id hW
    have e3 : u 3 = s 3 := hkp 3 (by omega)
    obtain ⟨a1, a2, a3, a4⟩ := sHour_wd hW hD (by omega)
    obtain ⟨W1, b1, b2, b3⟩ := m_hour (g := g) (X := X) hN hM hW hD
    have hd := a1.2.2.1 f (by rw [a2 3 (by omega)]; omega)
    have hkp2 := hkp.tr (sHour_k hW hD)
    conv => enter [1, W, 1, t, 1, 1]; unfold fX12_comesIn_28
    unfold sCm
    rw [if_neg (by rw [qlt (by omega) (by omega)]; omega), if_neg (by decide), q196_c, Option.bind_some, b1, Option.bind_some, q196_g6, Option.bind_some, show (141 : Int32) = Int32.ofNat 141 from rfl, qadd, m_ld b2 (by omega), Option.bind_some]
    unfold fX12_comesIn_62
    by_cases h : sHour u (141 + f) = c
    · refine ⟨W1, sHour u, ?_, b2, hkp2, b3⟩
      rw [if_pos (by rw [h]), if_pos h, l1', qadd, qo_some]
      unfold fX12_comesIn_28
      by_cases h2 : n < i + 1
      · rw [if_pos (by rw [qlt (by omega) (by omega)]; exact h2)]
      · rw [if_neg (by rw [qlt (by omega) (by omega)]; exact h2), if_pos (q0le (by omega))]
    · obtain ⟨W2, t, c1, c2, c3, c4⟩ := ih (i + 1) (k + 1) W1 (sHour u) (by omega) (by omega) b2 (a2.wf hW) a1 (by omega) hkp2
      refine ⟨W2, t, ?_, c2, c3, b3.tr c4⟩
      rw [if_neg (by rw [qeq (by omega) (by omega)]; exact h), if_neg h, l1', qadd]
      exact c1

theorem m_comes68 (hN : 3000 ≤ N) (hM : rM V t) (hk : sKp s t) (hb : ∀ j, j < 111 → V 204 j = Int32.ofNat (s (139 + j))) {x : Int32} : ∃ W, fX12_comesIn_68 N 216 (qH g V X) 196 x = some (qH g W X, x) ∧ rM W s ∧ qfr V W 198 1 := by
  obtain ⟨W, h1, h2, h3⟩ := m_back (g := g) (X := X) hN hM hk hb
  unfold fX12_comesIn_68
  rw [q196_c, Option.bind_some, h1, Option.bind_some]
  exact ⟨W, rfl, h2, h3⟩
/-- from an hour on: 0 or 1; the row kept may be another -/
theorem m_comesIn (hN : 3000 ≤ N) {c f n : Nat} (hc : c < 1000) (hf : f < s 3) (hn : n < 1000) (hM : rM V u) (hW : sWF u) (hD : sWD u) (h9 : u 139 + n ≤ 50000) (hkp : sKp s u) (hb : ∀ j, j < 111 → V 204 j = Int32.ofNat (s (139 + j))) :
    (∃ W, fX12_comesIn N 216 (qH g V X) 196 (Int32.ofNat f) (Int32.ofNat c) (Int32.ofNat 0) (Int32.ofNat n) = some (qH g W X, qo (sCm f c (n + 1) 0 u)) ∧ rM W s ∧ qfr V W 198 1) ∧
    (∃ W, fX12_comesIn N 216 (qH g V X) 196 (Int32.ofNat f) (Int32.ofNat c) (Int32.ofNat 1) (Int32.ofNat n) = some (qH g W X, qo (sCm f c n 1 (sHour u))) ∧ rM W s ∧ qfr V W 198 1) := by
  obtain ⟨⟨w0, w0b⟩, ⟨w1, w1b⟩, w2, w3, w4, w5, w95, w113, w101, w129, w134⟩ := id hW
  have e3 : u 3 = s 3 := hkp 3 (by omega)
  obtain ⟨W1, t, a1, a2, a3, a4⟩ := m_comes28 (g := g) (X := X) hN hc hf hn n 1 N V u (by omega) (by omega) hM hW hD (by omega) hkp
  obtain ⟨W2, b1, b2, b3⟩ := m_comes68 (g := g) (X := X) (x := qo (sCm f c n 1 (sHour u))) hN a2 a3 (fun j hj => by rw [a4 204 (by omega)]; exact hb j hj)
  have hd := hD.2.2.1 f (by omega)
  have hz : fX12_comesIn_23 N 216 (qH g V X) 196 (Int32.ofNat f) (Int32.ofNat c) (Int32.ofNat n) (-1) = some (qH g W2 X, qo (sCm f c n 1 (sHour u))) := by
    unfold fX12_comesIn_23
    rw [l1', show (-Int32.ofNat 1 : Int32) = qo none from qmr, a1, b1]
  refine ⟨?_, ⟨W2, ?_, b2, a4.tr b3⟩⟩
  · unfold fX12_comesIn fX12_comesIn_22
    rw [if_pos (show Int32.ofNat 0 = (0 : Int32) from rfl), q196_g6, Option.bind_some, show (141 : Int32) = Int32.ofNat 141 from rfl, qadd, m_ld hM (by omega), Option.bind_some]
    by_cases h : u (141 + f) = c
    · obtain ⟨W3, d1, d2, d3⟩ := m_comes68 (g := g) (X := X) (x := Int32.ofNat 0) hN hM hkp hb
      rw [if_pos (by rw [h])]
      refine ⟨W3, ?_, d2, d3⟩
      have es : sCm f c (n + 1) 0 u = some 0 := by unfold sCm; rw [if_pos h]
      rw [es, qo_some]
      unfold fX12_comesIn_23
      obtain ⟨M, rfl⟩ : ∃ j, N = j + 1 := ⟨N - 1, by omega⟩
      unfold fX12_comesIn_28
      by_cases h2 : n < 1
      · rw [if_pos (by rw [l1', qlt (by omega) (by omega)]; exact h2)]; exact d1
      · rw [if_neg (by rw [l1', qlt (by omega) (by omega)]; exact h2), if_pos (by decide)]; exact d1
    · rw [if_neg (by rw [qeq (by omega) (by omega)]; exact h), hz]
      have es : sCm f c (n + 1) 0 u = sCm f c n 1 (sHour u) := by conv => lhs; unfold sCm
                                                                  rw [if_neg h]
      rw [es]
      exact ⟨W2, rfl, b2, a4.tr b3⟩
  · unfold fX12_comesIn fX12_comesIn_22
    rw [if_neg (by decide), hz]
theorem s_17 (hN : 3000 ≤ N) {f : zF} (hI : Inv f) (p1 p2 p3 : Int32) : ∃ f2, zlc17 N 216 f p1 p2 p3 = some f2 ∧ Inv f2 := by
  obtain ⟨g, V, X, s, rfl, hg, hJ⟩ := hI
  obtain ⟨⟨⟨hW, hD, hG, h9⟩, hWL, hR, hL, hS, hM, hNs, hNm⟩, hU, hR2⟩ := id hJ
  unfold zlc17
  obtain ⟨⟨w0, w0b⟩, ⟨w1, w1b⟩, w2, w3, w4, w5, w95, w113, w101, w129, w134⟩ := id hW
  cases hp : qrg p1 0 (s 3) with
  | false =>
    refine cstep (o1 := fX11_comes N 216 (qH g V X) 0 p1 p2 p3) (m := fun ff => fX12_comes N 216 ff 196 p1 p2 p3) (V1 := V) (X1 := X) (V2 := qT V) (X2 := X) (r := -1) hg ?_ ?_ hJ.thr
    · unfold fX11_comes
      rw [c0_1, Option.bind_some, c4_c, Option.bind_some, c_hasFigure hR hW, Option.bind_some, hp, if_pos qzf]
    · unfold fX12_comes
      rw [m_thr0, Option.bind_some, q196_c, Option.bind_some, m_isFigure hM.thr hW, Option.bind_some, hp, if_pos qzf]
  | true =>
    obtain ⟨v, rfl, hv0, -, hv⟩ := qrg_e hp
    cases hq : (qrg p2 0 (s 0) && qrg p3 0 (s 1)) with
    | false =>
      refine cstep (o1 := fX11_comes N 216 (qH g V X) 0 (Int32.ofNat v) p2 p3) (m := fun ff => fX12_comes N 216 ff 196 (Int32.ofNat v) p2 p3) (V1 := V) (X1 := X) (V2 := qT V) (X2 := X) (r := -1) hg ?_ ?_ hJ.thr
      · unfold fX11_comes
        rw [c0_1, Option.bind_some, c4_c, Option.bind_some, c_hasFigure hR hW, Option.bind_some, hp, if_neg qzt, Option.bind_some, c4_c, Option.bind_some, c_hasCell hR hW, Option.bind_some, hq, if_pos qzf]
      · unfold fX12_comes
        rw [m_thr0, Option.bind_some, q196_c, Option.bind_some, m_isFigure hM.thr hW, Option.bind_some, hp, if_neg qzt, Option.bind_some, m_isCellP hM.thr hW, Option.bind_some, hq, if_pos qzf]
    | true =>
      rw [Bool.and_eq_true] at hq
      obtain ⟨x, rfl, hx0, -, hx⟩ := qrg_e hq.1
      obtain ⟨y, rfl, hy0, -, hy⟩ := qrg_e hq.2
      have hq : (qrg (Int32.ofNat x) 0 (s 0) && qrg (Int32.ofNat y) 0 (s 1)) = true := by rw [Bool.and_eq_true]; exact hq
      obtain ⟨C, a1, a2, a3⟩ := c_scr (g := g) (X := X) (N := N) hS hW
      obtain ⟨W, b1, b2⟩ := c_comes47 (g := g) (X := X) (s := s) hN (c := 9 * y + x) (f := v) (by omega) hv 201 0 N C s (by omega) (by omega) (hR.fr a3 (Or.inl (by omega))) a2 hW hD (by omega) rfl
      have hWf : qfr V W 23 8 := a3.tr b2
      have hMW : rM W s := fun i hi => by rw [hWf 198 (by omega)]; exact hM i hi
      obtain ⟨T, t1, t2, t3⟩ := m_tries (g := g) (X := X) (V := qT W) hN
      obtain ⟨⟨Z, z1, z2, z3⟩, -⟩ := m_comesIn (g := g) (X := X) (s := s) (V := T) (u := s) (c := 9 * y + x) (f := v) (n := 200) hN (by omega) hv (by omega) (fun i hi => by rw [t3 198 (by omega)]; exact hMW.thr i hi) hW hD (by omega) sKp.rf (fun j hj => by rw [t2 j hj]; exact hMW.thr (139 + j) (by omega))
      refine cstep (o1 := fX11_comes N 216 (qH g V X) 0 (Int32.ofNat v) (Int32.ofNat x) (Int32.ofNat y)) (m := fun ff => fX12_comes N 216 ff 196 (Int32.ofNat v) (Int32.ofNat x) (Int32.ofNat y)) (V1 := W) (X1 := X) (V2 := Z) (X2 := X) (r := qo (sCm v (9 * y + x) 201 0 s)) hg ?_ ?_ (look_fin hJ (fun b j hb hb2 => ?_) z2)
      · unfold fX11_comes
        rw [c0_1, Option.bind_some, c4_c, Option.bind_some, c_hasFigure hR hW, Option.bind_some, hp, if_neg qzt, Option.bind_some, c4_c, Option.bind_some, c_hasCell hR hW, Option.bind_some, hq, if_neg qzt, q0_g3, Option.bind_some, c0_2, Option.bind_some, c23_c, Option.bind_some, a1, Option.bind_some, show (9 : Int32) = Int32.ofNat 9 from rfl, qmul, qadd, l0, b1]
      · unfold fX12_comes
        rw [m_thr0, Option.bind_some, q196_c, Option.bind_some, m_isFigure hMW.thr hW, Option.bind_some, hp, if_neg qzt, Option.bind_some, m_isCellP hMW.thr hW, Option.bind_some, hq, if_neg qzt, Option.bind_some, t1, Option.bind_some, q196_c, Option.bind_some, show (9 : Int32) = Int32.ofNat 9 from rfl, qmul, qadd, l0, show (200 : Int32) = Int32.ofNat 200 from rfl, z1, zbd_some]
      · unfold scr at hb
        rw [z3 b (by omega), t3 b (by omega)]
        by_cases e : b = 196
        · subst e; rw [qT_j (by omega), hWf 196 (by omega)]
        · rw [qT_n e, hWf b (by omega)]
end QWH
