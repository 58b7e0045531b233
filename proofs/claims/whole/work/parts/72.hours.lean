/-! hours that go by, draws, what would go on -/
section QHO
variable {g : zF} {V W K : Nat → Nat → Int32} {X : Nat → Nat → Int64} {N : Nat} {s t : Nat → Nat}
def sGo : Nat → (Nat → Nat) → (Nat → Nat)
  | 0, s => s
  | n + 1, s => if s 139 < 1000 then sGo n (sHour s) else s
def sDr : Nat → Int32 → (Nat → Nat) → Int32 × (Nat → Nat)
  | 0, x, s => (x, s)
  | n + 1, x, s => if s 139 < 1000 then sDr n (sDrawn x s).1 (sDrawn x s).2 else (x, s)
def sIt : Nat → (Nat → Nat) → (Nat → Nat)
  | 0, s => s
  | n + 1, s => sIt n (sHour s)
theorem sHour_ok (h : sOK s) (h9 : s 139 < 1000) : sOK (sHour s) ∧ sKp s (sHour s) ∧ sHour s 139 = s 139 + 1 := by
  obtain ⟨hW, hD, hG, -⟩ := h
  obtain ⟨h1, h2, h3, h4⟩ := sHour_wd hW hD (by omega)
  exact ⟨⟨h2.wf hW, h1, sHour_wg hW hD hG, by omega⟩, sHour_k hW hD, h3⟩
theorem sDrawn_ok {x : Int32} (h : sOK s) (h9 : s 139 < 1000) : sOK (sDrawn x s).2 ∧ sKp s (sDrawn x s).2 ∧ (sDrawn x s).2 139 = s 139 + 1 := by
  obtain ⟨hW, hD, hG, -⟩ := h
  obtain ⟨h1, h2, h3⟩ := sDrawn_wd (x := x) hW hD (by omega)
  exact ⟨⟨h2.wf hW, h1, sDrawn_wg hW hD hG, by omega⟩, sDrawn_k hW hD, h3⟩
theorem sGo_ok : ∀ n (s : Nat → Nat), sOK s → sOK (sGo n s) ∧ sKp s (sGo n s) ∧ s 139 ≤ sGo n s 139 ∧ sGo n s 139 ≤ s 139 + n ∧ (s 139 < 1000 → 1 ≤ n → s 139 < sGo n s 139) := by
  intro n
  induction n with
  | zero => intro s h; exact ⟨h, sKp.rf, Nat.le_refl _, Nat.le_refl _, fun _ h => by omega⟩
  | succ n ih =>
    intro s h
    unfold sGo
    split
    · rename_i h9
      obtain ⟨a1, a2, a3⟩ := sHour_ok h h9
      obtain ⟨b1, b2, b3, b4, b5⟩ := ih _ a1
      exact ⟨b1, a2.tr b2, by omega, by omega, fun _ _ => by omega⟩
    · rename_i h9
      exact ⟨h, sKp.rf, Nat.le_refl _, by omega, fun h _ => absurd h h9⟩
theorem sDr_ok : ∀ n x (s : Nat → Nat), sOK s → sOK (sDr n x s).2 ∧ sKp s (sDr n x s).2 ∧ s 139 ≤ (sDr n x s).2 139 ∧ (sDr n x s).2 139 ≤ s 139 + n ∧ (s 139 < 1000 → 1 ≤ n → s 139 < (sDr n x s).2 139) := by
  intro n
  induction n with
  | zero => intro x s h; exact ⟨h, sKp.rf, Nat.le_refl _, Nat.le_refl _, fun _ h => by omega⟩
  | succ n ih =>
    intro x s h
    unfold sDr
    split
    · rename_i h9
      obtain ⟨a1, a2, a3⟩ := sDrawn_ok (x := x) h h9
      obtain ⟨b1, b2, b3, b4, b5⟩ := ih (sDrawn x s).1 _ a1
      exact ⟨b1, a2.tr b2, by omega, by omega, fun _ _ => by omega⟩
    · rename_i h9
      exact ⟨h, sKp.rf, Nat.le_refl _, Nat.le_add_right _ _, fun h _ => absurd h h9⟩
theorem c_hoursL (hN : 3000 ≤ N) {n : Nat} (hn : n < 100) {b : Int32} : ∀ m i k W s, i + m = n → m < k → rF W 4 s → rS W 15 s → sOK s → ∃ W2, fX11_hours_34 N 216 k (qH g W X) 0 (Int32.ofNat n) b (Int32.ofNat i) = fX11_hours_65 N 216 (qH g W2 X) 0 b ∧ rS W2 15 (sGo m s) ∧ qfr W W2 15 8 := by
  intro m
  induction m with
  | zero =>
    intro i k W s hi hk hR hS hs
    obtain ⟨k, rfl⟩ : ∃ j, k = j + 1 := ⟨k - 1, by omega⟩
    refine ⟨W, ?_, hS, qfr.rf⟩
    unfold fX11_hours_34
    rw [if_pos (by rw [qle (by omega) (by omega)]; omega)]
  | succ m ih =>
    intro i k W s hi hk hR hS hs
    obtain ⟨k, rfl⟩ : ∃ j, k = j + 1 := ⟨k - 1, by omega⟩
    have h9 := hs.2.2.2
    unfold fX11_hours_34 sGo
    rw [if_neg (by rw [qle (by omega) (by omega)]; omega), c0_2, Option.bind_some, c15_g1, Option.bind_some, hS.1, show (1000 : Int32) = Int32.ofNat 1000 from rfl]
    by_cases h : s 139 < 1000
    · obtain ⟨a1, a2, a3⟩ := sHour_ok hs h
      obtain ⟨W1, b1, b2, b3⟩ := e_goHour (g := g) (X := X) hN qS_15 qF_4 hR hS hs.1 hs.2.1 (by omega)
      obtain ⟨W2, c1, c2, c3⟩ := ih (i + 1) k W1 (sHour s) (by omega) (by omega) (a2.eq.toF hs.1 (hR.fr b3 (Or.inl (by omega)))) b2 a1
      rw [if_neg (by rw [qle (by omega) (by omega)]; omega), if_pos h, Option.bind_some, c15_c, Option.bind_some, b1, Option.bind_some, l1', qadd, c1]
      exact ⟨W2, rfl, c2, b3.tr c3⟩
    · rw [if_pos (by rw [qle (by omega) (by omega)]; omega), if_neg h]
      exact ⟨W, rfl, hS, qfr.rf⟩
theorem c_drawnL (hN : 3000 ≤ N) {n : Nat} (hn : n < 100) {b : Int32} : ∀ m i k W s x, i + m = n → m < k → rF W 4 s → rS W 15 s → sOK s → ∃ W2, fX11_drawn_38 N 216 k (qH g W X) 0 (Int32.ofNat n) b x (Int32.ofNat i) = fX11_drawn_74 N 216 (qH g W2 X) 0 b ∧ rS W2 15 (sDr m x s).2 ∧ qfr W W2 15 8 := by
  intro m
  induction m with
  | zero =>
    intro i k W s x hi hk hR hS hs
    obtain ⟨k, rfl⟩ : ∃ j, k = j + 1 := ⟨k - 1, by omega⟩
    refine ⟨W, ?_, hS, qfr.rf⟩
    unfold fX11_drawn_38
    rw [if_pos (by rw [qle (by omega) (by omega)]; omega)]
  | succ m ih =>
    intro i k W s x hi hk hR hS hs
    obtain ⟨k, rfl⟩ : ∃ j, k = j + 1 := ⟨k - 1, by omega⟩
    have h9 := hs.2.2.2
    unfold fX11_drawn_38 sDr
    rw [if_neg (by rw [qle (by omega) (by omega)]; omega), c0_2, Option.bind_some, c15_g1, Option.bind_some, hS.1, show (1000 : Int32) = Int32.ofNat 1000 from rfl]
    by_cases h : s 139 < 1000
    · obtain ⟨a1, a2, a3⟩ := sDrawn_ok (x := x) hs h
      obtain ⟨W1, b1, b2, b3⟩ := e_goDrawnHour (g := g) (X := X) hN qS_15 qF_4 hR hS hs.1 hs.2.1 (by omega) (by omega) (x := x)
      obtain ⟨W2, c1, c2, c3⟩ := ih (i + 1) k W1 (sDrawn x s).2 (sDrawn x s).1 (by omega) (by omega) (a2.eq.toF hs.1 (hR.fr b3 (Or.inl (by omega)))) b2 a1
      rw [if_neg (by rw [qle (by omega) (by omega)]; omega), if_pos h, Option.bind_some, c15_c, Option.bind_some, b1, zbd_some, l1', qadd, c1]
      exact ⟨W2, rfl, c2, b3.tr c3⟩
    · rw [if_pos (by rw [qle (by omega) (by omega)]; omega), if_neg h]
      exact ⟨W, rfl, hS, qfr.rf⟩
theorem c_gone {n nx h0 w : Nat} (hn : n ≤ 8) (hx : nx < 9) (h1 : V 65 1 = Int32.ofNat n) (h2 : V 65 2 = Int32.ofNat nx) (h3 : V 15 1 = Int32.ofNat (h0 + w)) (hw : h0 + w < 100000) :
    ∃ W, fX11_hours_65 N 216 (qH g V X) 0 (Int32.ofNat h0) = some (qH g W X, Int32.ofNat w) ∧ fX11_drawn_74 N 216 (qH g V X) 0 (Int32.ofNat h0) = some (qH g W X, Int32.ofNat w) ∧ (w = 0 → W = V) ∧ (w ≠ 0 → W 65 1 = Int32.ofNat (min (n + 1) 8) ∧ W 65 2 = Int32.ofNat ((nx + 1) % 9) ∧ qfr V W 65 1) := by
  unfold fX11_hours_65 fX11_drawn_74 fX11_keepIfGone
  rw [c0_2, Option.bind_some, c15_g1, Option.bind_some, h3, q0_c, Option.bind_some, qsub (by omega), show h0 + w - h0 = w by omega]
  by_cases h : w = 0
  · subst h
    rw [if_pos (by decide), zbd_some]
    exact ⟨V, rfl, rfl, fun _ => rfl, fun h => absurd rfl h⟩
  · obtain ⟨W3, c1, c2, c3, c4⟩ := c_keep (g := g) (X := X) (N := N) hn hx h1 h2
    rw [if_neg (by rw [qlit0, qle (by omega) (by omega)]; omega), q0_g8, Option.bind_some, q65_c, Option.bind_some, c1, Option.bind_some, zbd_some]
    exact ⟨W3, rfl, rfl, fun h2 => absurd h2 h, fun _ => ⟨c2, c3, c4⟩⟩
theorem act_fin2 {Z : Nat → Nat → Int32} (hJ : jA V X s) (ht : sOK t) (hk : sKp s t) {n nx : Nat} {U : Nat → Nat → Nat} (hn : n ≤ 8) (hx : nx < 9)
    (hU : ∀ j, j < n → sEq s (U j) ∧ sOK (U j) ∧ rS V (67 + 8 * ((nx + 9 - n + j) % 9)) (U j) ∧ ∀ i, i < 111 → V 203 (111 * j + i) = Int32.ofNat (U j (139 + i)))
    (hS : rS W 15 t) (hH : rS W (67 + 8 * nx) s) (hf : ∀ b, ¬ ((67 + 8 * nx ≤ b ∧ b < 67 + 8 * nx + 8) ∨ (15 ≤ b ∧ b < 23) ∨ b = 65) → W b = V b) (h1 : W 65 1 = Int32.ofNat (min (n + 1) 8)) (h2 : W 65 2 = Int32.ofNat ((nx + 1) % 9))
    (k1 : K 196 23 = Int32.ofNat (min (n + 1) 8)) (k2 : ∀ j i, j < n ∧ (n = 8 → j < 7) → i < 111 → K 203 (111 * j + i) = qT W 203 (111 * (if n = 8 then j + 1 else j) + i)) (k3 : ∀ i, i < 111 → K 203 (111 * (if n = 8 then 7 else n) + i) = qT W 198 (139 + i))
    (k4 : ∀ b, b ≠ 196 → b ≠ 203 → K b = qT W b) (k5 : ∀ j, j ≠ 23 → K 196 j = qT W 196 j) (hZ : ∀ b j, ¬ (b = 198 ∨ (b = 196 ∧ j = 36)) → Z b j = K b j) (hM : rM Z t) : jA Z X t := by
  have e : ∀ b, b ≠ 196 → b ≠ 203 → b ≠ 198 → Z b = W b := fun b b1 b2 b3 => by rw [show Z b = K b from funext (fun j => hZ b j (by omega)), k4 b b1 b2, qT_n b1]
  have e203 : Z 203 = K 203 := funext (fun j => hZ 203 j (by omega))
  refine act_do hJ ht hk hn hx hU (hS.pt (fun b j b1 b2 => by rw [e b (by omega) (by omega) (by omega)])) hM (hH.pt (fun b j b1 b2 => by rw [e b (by omega) (by omega) (by omega)])) (by rw [e 65 (by omega) (by omega) (by omega)]; exact h1) (by rw [e 65 (by omega) (by omega) (by omega)]; exact h2) (by rw [hZ _ _ (by omega)]; exact k1) (fun j i hj hi => ?_) (fun i hi => ?_) (fun b j hb hb2 => ?_)
  · rw [e203, k2 j i hj hi, qT_n (by omega), hf 203 (by omega)]
  · rw [e203, k3 i hi, qT_n (by omega), hf 198 (by omega)]
  · by_cases e196 : b = 196
    · subst e196
      unfold scr at hb
      rw [hZ _ _ (by omega), k5 j (by omega), qT_j (by omega), hf 196 (by omega)]
    · rw [e b e196 (by omega) (by omega), hf b (by omega)]
theorem m_goesOn2 (hN : 3000 ≤ N) {n : Nat} (hn : n < 2000) : ∀ m i k V s, i + m = n → m < k → rM V s → sOK s → ∃ W, fX12_goesOn_2 N 216 k (qH g V X) 196 (Int32.ofNat n) (Int32.ofNat i) = some (qH g W X, Int32.ofNat (i + (sGo m s 139 - s 139))) ∧ rM W (sGo m s) ∧ qfr V W 198 1 := by
  intro m
  induction m with
  | zero =>
    intro i k V s hi hk hM hs
    obtain ⟨k, rfl⟩ : ∃ j, k = j + 1 := ⟨k - 1, by omega⟩
    refine ⟨V, ?_, hM, qfr.rf⟩
    unfold fX12_goesOn_2 sGo
    rw [if_pos (by rw [qle (by omega) (by omega)]; omega), Nat.sub_self, Nat.add_zero]
  | succ m ih =>
    intro i k V s hi hk hM hs
    obtain ⟨k, rfl⟩ : ∃ j, k = j + 1 := ⟨k - 1, by omega⟩
    have h9 := hs.2.2.2
    unfold fX12_goesOn_2 sGo
    rw [if_neg (by rw [qle (by omega) (by omega)]; omega), q196_g6, Option.bind_some, show (139 : Int32) = Int32.ofNat 139 from rfl, m_ld hM (by omega), Option.bind_some, show (1000 : Int32) = Int32.ofNat 1000 from rfl]
    by_cases h : s 139 < 1000
    · obtain ⟨a1, a2, a3⟩ := sHour_ok hs h
      obtain ⟨W1, b1, b2, b3⟩ := m_hour (g := g) (X := X) hN hM hs.1 hs.2.1
      obtain ⟨W2, c1, c2, c3⟩ := ih (i + 1) k W1 (sHour s) (by omega) (by omega) b2 a1
      obtain ⟨d1, d2, d3, d4, d5⟩ := sGo_ok m (sHour s) a1
      rw [if_neg (by rw [qle (by omega) (by omega)]; omega), if_pos h, q196_c, Option.bind_some, b1, Option.bind_some, l1', qadd, c1]
      exact ⟨W2, by rw [show i + 1 + (sGo m (sHour s) 139 - sHour s 139) = i + (sGo m (sHour s) 139 - s 139) by omega], c2, b3.tr c3⟩
    · rw [if_pos (by rw [qle (by omega) (by omega)]; omega), if_neg h, Nat.sub_self, Nat.add_zero]
      exact ⟨V, rfl, hM, qfr.rf⟩
/-- the reference's draws: rows and the seed -/
def mfr (V W : Nat → Nat → Int32) : Prop := ∀ b j, ¬ (b = 198 ∨ (b = 196 ∧ j = 36)) → W b j = V b j
theorem mfr.rf {V : Nat → Nat → Int32} : mfr V V := fun _ _ _ => rfl
theorem mfr.tr {V W U : Nat → Nat → Int32} (h : mfr V W) (h2 : mfr W U) : mfr V U := fun b j hb => (h2 b j hb).trans (h b j hb)
theorem mfr.of {V W : Nat → Nat → Int32} (h : qfr V W 198 1) : mfr V W := fun b j hb => by rw [h b (by omega)]
theorem m_draw {x : Int32} (hx : V 196 36 = x) {n : Nat} (hn : n = 8 ∨ n = 4) : ∃ W, fX12_draw N 216 (qH g V X) 196 (Int32.ofNat n) = some (qH g W X, Int32.ofNat (dDr (dNx x) % n)) ∧ W 196 36 = dNx x ∧ mfr V W ∧ W 198 = V 198 := by
  obtain ⟨hq, hu⟩ := qush (dNx x)
  have hz : znz (Int32.ofNat n) = some () := by rcases hn with rfl | rfl <;> rfl
  unfold fX12_draw
  rw [q196_g36, Option.bind_some, q196_p36, Option.bind_some, q196_g36, Option.bind_some, hz, Option.bind_some, qw_s, upd_s, hx, show x * 1103515245 + 12345 = dNx x from rfl, hu, qrem (by omega) (by omega)]
  refine ⟨_, rfl, by rw [qw_s, upd_s], fun b j hb => ?_, qw_n (by omega)⟩
  by_cases e : b = 196
  · subst e; rw [qw_s, upd_n (by omega)]
  · rw [qw_n e]
theorem m_drawLooker (hN : 3000 ≤ N) {x : Int32} (hM : rM V s) (hx : V 196 36 = x) (hs : sOK s) {l : Nat} (hl : l < s 4) : ∃ W, fX12_drawLooker N 216 (qH g V X) 196 (Int32.ofNat l) = some (qH g W X) ∧ rM W (sDrawL x s l).2 ∧ W 196 36 = (sDrawL x s l).1 ∧ mfr V W := by
  obtain ⟨hW, hD, hG, h9⟩ := hs
  obtain ⟨⟨w0, w0b⟩, ⟨w1, w1b⟩, w2, w3, w4, w5, w95, w113, w101, w129, w134⟩ := id hW
  obtain ⟨d139, d140, d141, d147, d159, d164, d169, dinj⟩ := id hD
  obtain ⟨W1, a1, a2, a3, a4⟩ := m_draw (g := g) (X := X) (N := N) hx (n := 8) (Or.inl rfl)
  have hM1 : rM W1 s := fun i hi => by rw [a4]; exact hM i hi
  have hm8 : dDr (dNx x) % 8 < 8 := Nat.mod_lt _ (by decide)
  unfold fX12_drawLooker sDrawL sDrawW
  rw [q196_c, Option.bind_some, show (8 : Int32) = Int32.ofNat 8 from rfl, a1, zbd_some, show (4 : Int32) = Int32.ofNat 4 from rfl]
  generalize dDr (dNx x) % 8 = w at *
  unfold fX12_drawLooker_23 fX12_drawLooker_42
  by_cases c4 : w < 4
  · have hM2 := hM1.set (k := 164 + l) (x := w)
    rw [if_neg (by rw [qle (by omega) (by omega)]; omega), if_pos c4, q196_g6, Option.bind_some, show (164 : Int32) = Int32.ofNat 164 from rfl, qadd, m_st (by omega), Option.bind_some, if_neg (by rw [show (4 : Int32) = Int32.ofNat 4 from rfl, qeq (by omega) (by omega)]; omega), if_neg (by rw [show (5 : Int32) = Int32.ofNat 5 from rfl, qeq (by omega) (by omega)]; omega)]
    exact ⟨_, rfl, hM2, by rw [qw_n (by omega)]; exact a2, a3.tr (mfr.of (qfr.w (by omega) (by omega)))⟩
  · rw [if_pos (by rw [qle (by omega) (by omega)]; omega), if_neg c4]
    by_cases c5 : w = 4
    · have hM2 := hM1.set (k := 140) (x := s 140 ^^^ 2 ^ l)
      rw [if_pos (by rw [c5]; rfl), if_pos c5, q196_g6, Option.bind_some, show (140 : Int32) = Int32.ofNat 140 from rfl, m_ld hM1 (by omega), Option.bind_some, qlit1, qshl1 (by omega), qxor, m_st (by omega), Option.bind_some, if_neg (by rw [c5]; decide)]
      exact ⟨_, rfl, hM2, by rw [qw_n (by omega)]; exact a2, a3.tr (mfr.of (qfr.w (by omega) (by omega)))⟩
    · rw [if_neg (by rw [show (4 : Int32) = Int32.ofNat 4 from rfl, qeq (by omega) (by omega)]; omega), if_neg c5]
      by_cases c6 : w = 5
      · obtain ⟨W2, e1, e2, e3, e4⟩ := m_draw (g := g) (X := X) (N := N) a2 (n := 4) (Or.inr rfl)
        have hM2 : rM W2 s := fun i hi => by rw [e4]; exact hM1 i hi
        have hm4 : dDr (dNx (dNx x)) % 4 < 4 := Nat.mod_lt _ (by decide)
        have dl := d159 l hl
        rw [if_pos (by rw [c6]; rfl), if_pos c6, q196_c, Option.bind_some, show (4 : Int32) = Int32.ofNat 4 from rfl, e1, zbd_some, q196_c, Option.bind_some, m_whyWalk hN hM2 hW hD hl hm4, Option.bind_some]
        have hwl := sWhyWalk_lt (s := s) (l := l) (d := dDr (dNx (dNx x)) % 4)
        by_cases h0 : sWhyWalk s l (dDr (dNx (dNx x)) % 4) = 0
        · obtain ⟨t, ht, ht2⟩ := sWalk_t h0
          rw [if_pos (by rw [h0]; rfl), q196_g6, Option.bind_some, Option.bind_some, show (159 : Int32) = Int32.ofNat 159 from rfl, qadd, m_ld hM2 (by omega), Option.bind_some, Option.bind_some, m_beside hM2 hW dl hm4, Option.bind_some, ht, qo_some, m_st (by omega), Option.bind_some]
          refine ⟨_, rfl, ?_, by rw [qw_n (by omega)]; exact e2, a3.tr (e3.tr (mfr.of (qfr.w (by omega) (by omega))))⟩
          dsimp only
          rw [ht2]
          exact hM2.set
        · rw [if_neg (by rw [qlit0, qeq (by omega) (by omega)]; exact h0)]
          refine ⟨_, rfl, ?_, e2, a3.tr e3⟩
          dsimp only
          rw [sWalk_s h0]
          exact hM2
      · rw [if_neg (by rw [show (5 : Int32) = Int32.ofNat 5 from rfl, qeq (by omega) (by omega)]; omega), if_neg c6]
        exact ⟨W1, rfl, hM1, a2, a3⟩
theorem sDrawL_ok {x : Int32} (hs : sOK s) {l : Nat} (hl : l < s 4) : sOK (sDrawL x s l).2 ∧ sKp s (sDrawL x s l).2 := by
  obtain ⟨hW, hD, hG, h9⟩ := hs
  obtain ⟨h1, h2, h3⟩ := sDrawL_wd (x := x) hW hD hl
  exact ⟨⟨h2.wf hW, h1, sDrawL_wg hG hW hl, by omega⟩, sDrawL_k hW hl⟩
theorem m_draws29 (hN : 3000 ≤ N) {r7 : zF → Nat → Int32 → Int32 → Option (zF × Int32)} {a1 a3 : Int32} : ∀ m l k V s x, l + m = s 4 → m < k → rM V s → V 196 36 = x → sOK s → ∃ W, fX12_draws_29 r7 N 216 k (qH g V X) 196 a1 a3 (Int32.ofNat l) = r7 (qH g W X) 196 a1 (a3 + 1) ∧ rM W (sHour (sDrawA x s l m).2) ∧ W 196 36 = (sDrawA x s l m).1 ∧ mfr V W := by
  intro m
  induction m with
  | zero =>
    intro l k V s x hl hk hM hx hs
    obtain ⟨k, rfl⟩ : ∃ j, k = j + 1 := ⟨k - 1, by omega⟩
    have hw4 := hs.1.2.2.2.2.1
    obtain ⟨W, h1, h2, h3⟩ := m_hour (g := g) (X := X) hN hM hs.1 hs.2.1
    unfold fX12_draws_29
    rw [q196_g6, Option.bind_some, show (4 : Int32) = Int32.ofNat 4 from rfl, m_ld hM (by omega), Option.bind_some, if_pos (by rw [qle (by omega) (by omega)]; omega), q196_c, Option.bind_some, h1, Option.bind_some]
    exact ⟨W, rfl, h2, by rw [h3 196 (by omega)]; exact hx, mfr.of h3⟩
  | succ m ih =>
    intro l k V s x hl hk hM hx hs
    obtain ⟨k, rfl⟩ : ∃ j, k = j + 1 := ⟨k - 1, by omega⟩
    have hw4 := hs.1.2.2.2.2.1
    obtain ⟨W, h1, h2, h3, h4⟩ := m_drawLooker (g := g) (X := X) hN hM hx hs (l := l) (by omega)
    obtain ⟨k1, k2⟩ := sDrawL_ok (x := x) hs (l := l) (by omega)
    obtain ⟨W2, e1, e2, e3, e4⟩ := ih (l + 1) k W (sDrawL x s l).2 (sDrawL x s l).1 (by rw [k2 4 (by omega)]; omega) (by omega) h2 h3 k1
    unfold fX12_draws_29
    rw [q196_g6, Option.bind_some, show (4 : Int32) = Int32.ofNat 4 from rfl, m_ld hM (by omega), Option.bind_some, if_neg (by rw [qle (by omega) (by omega)]; omega), q196_c, Option.bind_some, h1, Option.bind_some, l1', qadd, e1]
    exact ⟨W2, rfl, e2, e3, h4.tr e4⟩
theorem m_draws7 (hN : 3000 ≤ N) {n : Nat} (hn : n < 2000) : ∀ m i k V s x, i + m = n → m < k → rM V s → V 196 36 = x → sOK s → ∃ W, fX12_draws_7 N 216 k (qH g V X) 196 (Int32.ofNat n) (Int32.ofNat i) = some (qH g W X, Int32.ofNat (i + ((sDr m x s).2 139 - s 139))) ∧ rM W (sDr m x s).2 ∧ mfr V W := by
  intro m
  induction m with
  | zero =>
    intro i k V s x hi hk hM hx hs
    obtain ⟨k, rfl⟩ : ∃ j, k = j + 1 := ⟨k - 1, by omega⟩
    refine ⟨V, ?_, hM, mfr.rf⟩
    unfold fX12_draws_7 sDr
    rw [if_pos (by rw [qle (by omega) (by omega)]; omega), Nat.sub_self, Nat.add_zero]
  | succ m ih =>
    intro i k V s x hi hk hM hx hs
    obtain ⟨k, rfl⟩ : ∃ j, k = j + 1 := ⟨k - 1, by omega⟩
    have h9 := hs.2.2.2
    have hw4 := hs.1.2.2.2.2.1
    unfold fX12_draws_7 sDr
    rw [if_neg (by rw [qle (by omega) (by omega)]; omega), q196_g6, Option.bind_some, show (139 : Int32) = Int32.ofNat 139 from rfl, m_ld hM (by omega), Option.bind_some, show (1000 : Int32) = Int32.ofNat 1000 from rfl]
    by_cases h : s 139 < 1000
    · obtain ⟨a1, a2, a3⟩ := sDrawn_ok (x := x) hs h
      obtain ⟨W1, b1, b2, b3, b4⟩ := m_draws29 (g := g) (X := X) hN (r7 := fX12_draws_7 N 216 k) (a1 := Int32.ofNat n) (a3 := Int32.ofNat i) (s 4) 0 N V s x (by omega) (by omega) hM hx hs
      obtain ⟨W2, c1, c2, c3⟩ := ih (i + 1) k W1 (sDrawn x s).2 (sDrawn x s).1 (by omega) (by omega) b2 b3 a1
      obtain ⟨d1, d2, d3, d4, d5⟩ := sDr_ok m (sDrawn x s).1 (sDrawn x s).2 a1
      rw [if_neg (by rw [qle (by omega) (by omega)]; omega), if_pos h, l0, b1, l1', qadd, c1]
      exact ⟨W2, by rw [show i + 1 + ((sDr m (sDrawn x s).1 (sDrawn x s).2).2 139 - (sDrawn x s).2 139) = i + ((sDr m (sDrawn x s).1 (sDrawn x s).2).2 139 - s 139) by omega], c2, b4.tr c3⟩
    · rw [if_pos (by rw [qle (by omega) (by omega)]; omega), if_neg h, Nat.sub_self, Nat.add_zero]
      exact ⟨V, rfl, hM, mfr.rf⟩
theorem m_draws (hN : 3000 ≤ N) {n : Nat} (hn : n < 2000) {x : Int32} (hM : rM V s) (hs : sOK s) : ∃ W, fX12_draws N 216 (qH g V X) 196 (Int32.ofNat n) x = some (qH g W X, Int32.ofNat ((sDr n x s).2 139 - s 139)) ∧ rM W (sDr n x s).2 ∧ mfr V W := by
  obtain ⟨W, h1, h2, h3⟩ := m_draws7 (g := g) (X := X) hN hn n 0 N (qw V 196 (upd (V 196) 36 x)) s x (by omega) (by omega) (hM.fr (qw_n (by omega))) (by rw [qw_s, upd_s]) hs
  unfold fX12_draws
  rw [q196_p36, Option.bind_some, l0, h1, Nat.zero_add]
  refine ⟨W, rfl, h2, mfr.tr (fun b j hb => ?_) h3⟩
  by_cases e : b = 196
  · subst e; rw [qw_s, upd_n (by omega)]
  · rw [qw_n e]

end QHO
