/-! odds; what each could see; few -/
section QFE
variable {g : zF} {V W K : Nat → Nat → Int32} {X : Nat → Nat → Int64} {N : Nat} {s t u : Nat → Nat}
theorem sGoes_m {f j : Nat} (hW : sWF s) (hf : f < s 3) (hj : j < s 3) : s (153 + j) ≤ sGoes s f (153 + j) := by
  obtain ⟨-, -, -, w3, -⟩ := id hW
  by_cases e : j = f
  · subst e
    unfold sGoes
    split
    · rw [sU_s]; omega
    · rw [sU_n (by omega)]; omega
  · rw [sGoes_n (by omega) (by omega) (by omega) (fun t ht => by omega) hW]; omega
theorem sHourL_m : ∀ (n i : Nat) {s : Nat → Nat}, sWF s → sWD s → i + n = s 3 → ∀ j, j < s 3 → s (153 + j) ≤ sHourL s i n (153 + j) := by
  intro n
  induction n with
  | zero => intro i s hW hD hi j hj; exact Nat.le_refl _
  | succ n ih =>
    intro i s hW hD hi j hj
    obtain ⟨h1, h2, h3, h4⟩ := sTurn_wd hW hD (f := i) (by omega)
    have h5 := ih (i + 1) (h2.wf hW) h1 (by rw [h2 3 (by omega)]; omega) j (by rw [h2 3 (by omega)]; exact hj)
    refine Nat.le_trans ?_ h5
    unfold sTurn
    split
    · exact sGoes_m hW (by omega) hj
    · exact Nat.le_refl _
theorem sHour_m (hW : sWF s) (hD : sWD s) {j : Nat} (hj : j < s 3) : s (153 + j) ≤ sHour s (153 + j) := by
  obtain ⟨-, -, -, w3, -⟩ := id hW
  unfold sHour
  rw [sU_n (by omega)]
  exact sHourL_m (s 3) 0 hW hD (by omega) j hj
theorem sWalk_e {l d j : Nat} (h : 153 + j < 159) (hl : l < 100) : sWalk s l d (153 + j) = s (153 + j) := by
  unfold sWalk
  cases hb : sBeside s (s (159 + l)) d with
  | none => exact Eq.refl (s (153 + j))
  | some t =>
    dsimp only
    split
    · exact sU_n (by omega)
    · exact Eq.refl (s (153 + j))
theorem sDrawW_e {w d l j : Nat} {y z : Int32} (h : 153 + j < 159) (hl : l < 100) : (sDrawW w y z d s l).2 (153 + j) = s (153 + j) := by
  unfold sDrawW
  by_cases h1 : w < 4
  · rw [if_pos h1]; exact sU_n (by omega)
  · rw [if_neg h1]
    by_cases h2 : w = 4
    · rw [if_pos h2]
      show sFlip s l (153 + j) = _
      unfold sFlip
      exact sU_n (by omega)
    · rw [if_neg h2]
      by_cases h3 : w = 5
      · rw [if_pos h3]; exact sWalk_e h hl
      · rw [if_neg h3]
theorem sDrawL_e {x : Int32} {l j : Nat} (hW : sWF s) (hl : l < s 4) (hj : j < s 3) : (sDrawL x s l).2 (153 + j) = s (153 + j) := by
  obtain ⟨-, -, -, w3, w4, -⟩ := id hW
  rw [sDrawL]
  exact sDrawW_e (by omega) (by omega)
theorem sDrawA_e : ∀ (n l : Nat) (x : Int32) (s : Nat → Nat), sWF s → sWD s → l + n = s 4 → ∀ j, j < s 3 → (sDrawA x s l n).2 (153 + j) = s (153 + j) := by
  intro n
  induction n with
  | zero => intro l x s hW hD hl j hj; rfl
  | succ n ih =>
    intro l x s hW hD hl j hj
    obtain ⟨h1, h2, h3⟩ := sDrawL_wd (x := x) hW hD (show l < s 4 by omega)
    have := ih (l + 1) (sDrawL x s l).1 (sDrawL x s l).2 (h2.wf hW) h1 (by rw [h2 4 (by omega)]; omega) j (by rw [h2 3 (by omega)]; exact hj)
    rw [sDrawL_e hW (by omega) hj] at this
    exact this
theorem sDrawn_m {x : Int32} (hW : sWF s) (hD : sWD s) {j : Nat} (hj : j < s 3) : s (153 + j) ≤ (sDrawn x s).2 (153 + j) := by
  obtain ⟨g1, g2, g3⟩ := sDrawA_wd (s 4) 0 x s hW hD (by omega)
  have h := sDrawA_e (s 4) 0 x s hW hD (by omega) j hj
  have h2 := sHour_m (g2.wf hW) g1 (j := j) (by rw [g2 3 (by omega)]; exact hj)
  rw [h] at h2
  exact h2
theorem sDr_m : ∀ n x (s : Nat → Nat), sOK s → ∀ j, j < s 3 → s (153 + j) ≤ (sDr n x s).2 (153 + j) := by
  intro n
  induction n with
  | zero => intro x s h j hj; exact Nat.le_refl _
  | succ n ih =>
    intro x s h j hj
    unfold sDr
    split
    · rename_i h9
      obtain ⟨a1, a2, a3⟩ := sDrawn_ok (x := x) h h9
      exact Nat.le_trans (sDrawn_m h.1 h.2.1 hj) (ih _ _ a1 j (by rw [a2 3 (by omega)]; exact hj))
    · exact Nat.le_refl _
theorem c_odds16 (hN : 3000 ≤ N) {f : Nat} (hf : f < s 3) (hg9 : s (153 + f) ≤ 1000) : ∀ m i k W u x, i + m = 20 → m < k → rF W 4 u → rS W 23 u → sOK u → u 3 = s 3 → u (153 + f) = s (153 + f) → W 18 f = Int32.ofNat (s (153 + f)) → ∃ W2, fX11_goesDrawn_16 N 216 k (qH g W X) 0 (Int32.ofNat f) x (Int32.ofNat i) = some (qH g W2 X, qz (decide (s (153 + f) < (sDr m x u).2 (153 + f)))) ∧ qfr W W2 23 8 := by
  intro m
  induction m with
  | zero =>
    intro i k W u x hi hk hR hS hs h3 hu h18
    obtain ⟨k, rfl⟩ : ∃ j, k = j + 1 := ⟨k - 1, by omega⟩
    unfold fX11_goesDrawn_16 sDr
    rw [if_pos (by rw [show (20 : Int32) = Int32.ofNat 20 from rfl, qle (by omega) (by omega)]; omega), decide_eq_false (by dsimp only; omega)]
    exact ⟨W, rfl, qfr.rf⟩
  | succ m ih =>
    intro i k W u x hi hk hR hS hs h3 hu h18
    obtain ⟨k, rfl⟩ : ∃ j, k = j + 1 := ⟨k - 1, by omega⟩
    have h9 := hs.2.2.2
    have hw3 := hs.1.2.2.2.1
    unfold fX11_goesDrawn_16 sDr
    rw [if_neg (by rw [show (20 : Int32) = Int32.ofNat 20 from rfl, qle (by omega) (by omega)]; omega), q0_g3, Option.bind_some, c23_g1, Option.bind_some, hS.1, show (1000 : Int32) = Int32.ofNat 1000 from rfl]
    by_cases h : u 139 < 1000
    · obtain ⟨a1, a2, a3⟩ := sDrawn_ok (x := x) hs h
      obtain ⟨W1, b1, b2, b3⟩ := e_goDrawnHour (g := g) (X := X) hN qS_23 qF_4 hR hS hs.1 hs.2.1 (by omega) (by omega) (x := x)
      have r26 : W1 26 f = Int32.ofNat ((sDrawn x u).2 (153 + f)) := b2.2.2.2.1 f (by rw [a2 3 (by omega)]; omega)
      have r18 : W1 18 f = Int32.ofNat (s (153 + f)) := by rw [b3 18 (by omega)]; exact h18
      have hgu := a1.2.2.1 f (by rw [a2 3 (by omega)]; omega)
      have hmono := sDrawn_m (x := x) hs.1 hs.2.1 (j := f) (by omega)
      rw [if_neg (by rw [qle (by omega) (by omega)]; omega), if_pos h, Option.bind_some, c23_c, Option.bind_some, b1, zbd_some, q0_g3, Option.bind_some, c23_g4, Option.bind_some, c26_at (by omega), Option.bind_some, c0_2, Option.bind_some, c15_g4, Option.bind_some, c18_at (by omega), Option.bind_some, r26, r18]
      by_cases h2 : (sDrawn x u).2 (153 + f) ≤ s (153 + f)
      · obtain ⟨W2, c1, c2⟩ := ih (i + 1) k W1 (sDrawn x u).2 (sDrawn x u).1 (by omega) (by omega) (a2.eq.toF hs.1 (hR.fr b3 (Or.inl (by omega)))) b2 a1 (by rw [a2 3 (by omega)]; exact h3) (by omega) r18
        rw [if_pos (by rw [qle (by omega) (by omega)]; exact h2), l1', qadd, c1]
        exact ⟨W2, rfl, b3.tr c2⟩
      · have := sDr_m m (sDrawn x u).1 (sDrawn x u).2 a1 f (by rw [a2 3 (by omega)]; omega)
        rw [if_neg (by rw [qle (by omega) (by omega)]; exact h2), decide_eq_true (by omega)]
        exact ⟨W1, rfl, b3⟩
    · rw [if_pos (by rw [qle (by omega) (by omega)]; omega), if_neg h, decide_eq_false (by dsimp only; omega)]
      exact ⟨W, rfl, qfr.rf⟩
def sOd (s : Nat → Nat) (f : Nat) (x : Int32) (i : Nat) : Nat := if s (153 + f) < (sDr 20 (x + Int32.ofNat i) s).2 (153 + f) then 1 else 0
theorem c_odds30 (hN : 3000 ≤ N) {f n : Nat} (hf : f < s 3) (hn : n < 100) (hs : sOK s) {x : Int32} : ∀ m i k W, i + m = n → m < k → rF W 4 s → rS W 15 s → ∃ W2, fX11_odds_30 N 216 k (qH g W X) 0 (Int32.ofNat f) (Int32.ofNat n) x (Int32.ofNat (qsum (sOd s f x) i)) (Int32.ofNat i) = some (qH g W2 X, Int32.ofNat (qsum (sOd s f x) n)) ∧ qfr W W2 23 8 := by
  intro m
  induction m with
  | zero =>
    intro i k W hi hk hR hS
    obtain ⟨k, rfl⟩ : ∃ j, k = j + 1 := ⟨k - 1, by omega⟩
    unfold fX11_odds_30
    rw [if_pos (by rw [qle (by omega) (by omega)]; omega), show i = n by omega]
    exact ⟨W, rfl, qfr.rf⟩
  | succ m ih =>
    intro i k W hi hk hR hS
    obtain ⟨k, rfl⟩ : ∃ j, k = j + 1 := ⟨k - 1, by omega⟩
    have h9 := hs.2.2.2
    have hG := hs.2.2.1 f hf
    obtain ⟨C, a1, a2, a3⟩ := c_scr (g := g) (X := X) (N := N) hS hs.1
    obtain ⟨W1, b1, b2⟩ := c_odds16 (g := g) (X := X) (s := s) hN hf (by omega) 20 0 N C s (x + Int32.ofNat i) (by omega) (by omega) (hR.fr a3 (Or.inl (by omega))) a2 hs rfl rfl (by rw [a3 18 (by omega)]; exact hS.2.2.2.1 f hf)
    have hgd : fX11_goesDrawn N 216 (qH g W X) 0 (Int32.ofNat f) (x + Int32.ofNat i) = some (qH g W1 X, qz (decide (s (153 + f) < (sDr 20 (x + Int32.ofNat i) s).2 (153 + f)))) := by
      unfold fX11_goesDrawn
      rw [q0_g3, Option.bind_some, c0_2, Option.bind_some, c23_c, Option.bind_some, a1, Option.bind_some, l0, b1]
    have hfr : qfr W W1 23 8 := a3.tr b2
    obtain ⟨W2, c1, c2⟩ := ih (i + 1) k W1 (by omega) (by omega) (hR.fr hfr (Or.inl (by omega))) (hS.fr hfr (Or.inl (by omega)))
    have hq : qsum (sOd s f x) (i + 1) = qsum (sOd s f x) i + sOd s f x i := rfl
    rw [hq] at c1
    unfold sOd at c1
    unfold fX11_odds_30 fX11_odds_51
    rw [if_neg (by rw [qle (by omega) (by omega)]; omega), q0_c, Option.bind_some, hgd, zbd_some]
    by_cases h : s (153 + f) < (sDr 20 (x + Int32.ofNat i) s).2 (153 + f)
    · rw [if_pos h] at c1
      rw [decide_eq_true h, if_neg qzt, l1', qadd, qadd]
      exact ⟨W2, c1, hfr.tr c2⟩
    · rw [if_neg h] at c1
      rw [decide_eq_false h, if_pos qzf, l1', qadd]
      exact ⟨W2, c1, hfr.tr c2⟩
theorem m_odds47 (hN : 3000 ≤ N) {f n : Nat} (hf : f < s 3) (hn : n < 100) (hs : sOK s) {x : Int32} : ∀ m i k V, i + m = n → m < k → rM V s → (∀ j, j < 111 → V 204 j = Int32.ofNat (s (139 + j))) → ∃ W, fX12_odds_47 N 216 k (qH g V X) 196 (Int32.ofNat f) (Int32.ofNat n) x (Int32.ofNat (s (153 + f))) (Int32.ofNat (qsum (sOd s f x) i)) (Int32.ofNat i) = some (qH g W X, Int32.ofNat (qsum (sOd s f x) n)) ∧ rM W s ∧ mfr V W := by
  intro m
  induction m with
  | zero =>
    intro i k V hi hk hM hb
    obtain ⟨k, rfl⟩ : ∃ j, k = j + 1 := ⟨k - 1, by omega⟩
    unfold fX12_odds_47
    rw [if_pos (by rw [qle (by omega) (by omega)]; omega), show i = n by omega]
    exact ⟨V, rfl, hM, mfr.rf⟩
  | succ m ih =>
    intro i k V hi hk hM hb
    obtain ⟨k, rfl⟩ : ∃ j, k = j + 1 := ⟨k - 1, by omega⟩
    have h9 := hs.2.2.2
    have hG := hs.2.2.1 f hf
    have hw3 := hs.1.2.2.2.1
    obtain ⟨Z, z1, z2, z3⟩ := m_draws (g := g) (X := X) (V := V) hN (n := 20) (by omega) (x := x + Int32.ofNat i) hM hs
    obtain ⟨o1, o2, -⟩ := sDr_ok 20 (x + Int32.ofNat i) s hs
    have hGz := o1.2.2.1 f (by rw [o2 3 (by omega)]; exact hf)
    have hz9 := o1.2.2.2
    obtain ⟨Y, y1, y2, y3⟩ := m_back (g := g) (X := X) hN z2 o2 (fun j hj => by rw [z3 204 j (by omega)]; exact hb j hj)
    have hmf : mfr V Y := z3.tr (mfr.of y3)
    obtain ⟨W2, c1, c2, c3⟩ := ih (i + 1) k Y (by omega) (by omega) y2 (fun j hj => by rw [hmf 204 j (by omega)]; exact hb j hj)
    have hq : qsum (sOd s f x) (i + 1) = qsum (sOd s f x) i + sOd s f x i := rfl
    rw [hq] at c1
    unfold sOd at c1
    unfold fX12_odds_47 fX12_odds_86
    rw [if_neg (by rw [qle (by omega) (by omega)]; omega), q196_c, Option.bind_some, show (20 : Int32) = Int32.ofNat 20 from rfl, z1, zbd_some, q196_g6, Option.bind_some, show (153 : Int32) = Int32.ofNat 153 from rfl, qadd, m_ld z2 (by omega), Option.bind_some, q196_c, Option.bind_some, y1, Option.bind_some, Option.bind_some, Option.bind_some, l0, l1', qadd, qadd, qadd, Nat.add_zero]
    by_cases h : s (153 + f) < (sDr 20 (x + Int32.ofNat i) s).2 (153 + f)
    · rw [if_pos h] at c1
      rw [if_neg (by rw [qle (by omega) (by omega)]; omega)]
      exact ⟨W2, c1, c2, hmf.tr c3⟩
    · rw [if_neg h, Nat.add_zero] at c1
      rw [if_pos (by rw [qle (by omega) (by omega)]; omega)]
      exact ⟨W2, c1, c2, hmf.tr c3⟩
theorem s_33 (hN : 3000 ≤ N) {f : zF} (hI : Inv f) (p1 p2 p3 : Int32) : ∃ f2, zlc33 N 216 f p1 p2 p3 = some f2 ∧ Inv f2 := by
  obtain ⟨g, V, X, s, rfl, hg, hJ⟩ := hI
  obtain ⟨⟨⟨hW, hD, hG, h9⟩, hWL, hR, hL, hS, hM, hNs, hNm⟩, hU, hR2⟩ := id hJ
  unfold zlc33
  obtain ⟨⟨w0, w0b⟩, ⟨w1, w1b⟩, w2, w3, w4, w5, w95, w113, w101, w129, w134⟩ := id hW
  cases hp : qrg p1 0 (s 3) with
  | false =>
    refine cstep (o1 := fX11_odds N 216 (qH g V X) 0 p1 p2 p3) (m := fun ff => fX12_odds N 216 ff 196 p1 p2 p3) (V1 := V) (X1 := X) (V2 := qT V) (X2 := X) (r := -1) hg ?_ ?_ hJ.thr
    · unfold fX11_odds
      rw [c0_1, Option.bind_some, c4_c, Option.bind_some, c_hasFigure hR hW, Option.bind_some, hp, if_pos qzf]
    · unfold fX12_odds
      rw [m_thr0, Option.bind_some, q196_c, Option.bind_some, m_isFigure hM.thr hW, Option.bind_some, hp, if_pos qzf]
  | true =>
    obtain ⟨v, rfl, hv0, -, hv⟩ := qrg_e hp
    have hin : ∀ {V : Nat → Nat → Int32} {p : Int32}, fX12_isIn N 216 (qH g V X) p 1 30 = some (qz (qrg p 1 31)) := fun {V p} => m_in (a := 1) (b := 30) (by omega) (by omega)
    cases hr : qrg p2 1 31 with
    | false =>
      refine cstep (o1 := fX11_odds N 216 (qH g V X) 0 (Int32.ofNat v) p2 p3) (m := fun ff => fX12_odds N 216 ff 196 (Int32.ofNat v) p2 p3) (V1 := V) (X1 := X) (V2 := qT V) (X2 := X) (r := -1) hg ?_ ?_ hJ.thr
      · unfold fX11_odds
        rw [c0_1, Option.bind_some, c4_c, Option.bind_some, c_hasFigure hR hW, Option.bind_some, hp, if_neg qzt, l1', show (30 : Int32) = Int32.ofNat 30 from rfl, c_rng (by omega) (by omega), hr, if_neg (by decide)]
      · unfold fX12_odds
        rw [m_thr0, Option.bind_some, q196_c, Option.bind_some, m_isFigure hM.thr hW, Option.bind_some, hp, if_neg qzt, hin, Option.bind_some, hr, if_pos qzf]
    | true =>
      obtain ⟨n, rfl, hn0, hn1, hn⟩ := qrg_e hr
      obtain ⟨W, b1, b2⟩ := c_odds30 (g := g) (X := X) hN (f := v) (n := n) hv (by omega) hJ.1.1 (x := p3) n 0 N V (by omega) (by omega) hR hS
      have hMW : rM W s := fun i hi => by rw [b2 198 (by omega)]; exact hM i hi
      obtain ⟨T, t1, t2, t3⟩ := m_tries (g := g) (X := X) (V := qT W) hN
      have hMT : rM T s := fun i hi => by rw [t3 198 (by omega)]; exact hMW.thr i hi
      obtain ⟨Z, z1, z2, z3⟩ := m_odds47 (g := g) (X := X) hN (f := v) (n := n) hv (by omega) hJ.1.1 (x := p3) n 0 N T (by omega) (by omega) hMT (fun j hj => by rw [t2 j hj]; exact hMW.thr (139 + j) (by omega))
      refine cstep (o1 := fX11_odds N 216 (qH g V X) 0 (Int32.ofNat v) (Int32.ofNat n) p3) (m := fun ff => fX12_odds N 216 ff 196 (Int32.ofNat v) (Int32.ofNat n) p3) (V1 := W) (X1 := X) (V2 := Z) (X2 := X) (r := Int32.ofNat (qsum (sOd s v p3) n)) hg ?_ ?_ (look_fin hJ (fun b j hb hb2 => ?_) z2)
      · unfold fX11_odds
        rw [c0_1, Option.bind_some, c4_c, Option.bind_some, c_hasFigure hR hW, Option.bind_some, hp, if_neg qzt, l1', show (30 : Int32) = Int32.ofNat 30 from rfl, c_rng (by omega) (by omega), hr, if_pos rfl]
        exact b1
      · unfold fX12_odds
        rw [m_thr0, Option.bind_some, q196_c, Option.bind_some, m_isFigure hMW.thr hW, Option.bind_some, hp, if_neg qzt, hin, Option.bind_some, hr, if_neg qzt, Option.bind_some, t1, Option.bind_some, q196_g6, Option.bind_some, show (153 : Int32) = Int32.ofNat 153 from rfl, qadd, m_ld hMT (by omega), Option.bind_some]
        exact z1
      · unfold scr at hb
        rw [z3 b j (by omega), t3 b (by omega)]
        by_cases e : b = 196
        · subst e; rw [qT_j (by omega), b2 196 (by omega)]
        · rw [qT_n e, b2 b (by omega)]
/-- what looker l would see to a side -/
def sgt (s : Nat → Nat) (now : Bool) (l d : Nat) : Nat := if now && !sLooks s l then 0 else sSeen s (s (159 + l)) d
theorem sgt_lt (hW : sWF s) {now : Bool} {l d : Nat} : sgt s now l d < 64 := by
  unfold sgt
  split
  · omega
  · exact sSeen_lt hW
theorem c_mark37 (hN : 3000 ≤ N) {r2 : zF → Nat → Int32 → Int32 → Option zF} {a1 : Int32} {l : Nat} (hl : l < s 4) (hs : sOK s) {b : Bool} : ∀ m i k W, i + m = 4 → m < k → rF W 4 s → rS W 15 s → ∃ W2, fX11_markSights_37 r2 N 216 k (qH g W X) 0 a1 (Int32.ofNat l) (qz b) (Int32.ofNat i) = r2 (qH g W2 X) 0 a1 (Int32.ofNat (l + 1)) ∧ qfr W W2 195 1 ∧ (∀ j, j < 20 → W2 195 j = if 4 * l + i ≤ j ∧ j < 4 * l + 4 then Int32.ofNat (if b then sSeen s (s (159 + l)) (j - 4 * l) else 0) else W 195 j) := by
  have hw4 := hs.1.2.2.2.2.1
  intro m
  induction m with
  | zero =>
    intro i k W hi hk hR hS
    obtain ⟨k, rfl⟩ : ∃ j, k = j + 1 := ⟨k - 1, by omega⟩
    unfold fX11_markSights_37
    rw [if_pos (by rw [show (4 : Int32) = Int32.ofNat 4 from rfl, qle (by omega) (by omega)]; omega), l1', qadd]
    exact ⟨W, rfl, qfr.rf, fun j hj => by rw [if_neg (by omega)]⟩
  | succ m ih =>
    intro i k W hi hk hR hS
    obtain ⟨k, rfl⟩ : ∃ j, k = j + 1 := ⟨k - 1, by omega⟩
    have hput : ∀ x, fX11_put N 216 (qH g W X) 195 (Int32.ofNat (4 * l + i)) x = some (qH g (qw W 195 (upd (W 195) (4 * l + i) x)) X) := fun x => e_put qk_195 (by omega) (by omega)
    have go : ∀ x, x = Int32.ofNat (if b then sSeen s (s (159 + l)) i else 0) → ∃ W2, fX11_markSights_37 r2 N 216 k (qH g (qw W 195 (upd (W 195) (4 * l + i) x)) X) 0 a1 (Int32.ofNat l) (qz b) (Int32.ofNat (i + 1)) = r2 (qH g W2 X) 0 a1 (Int32.ofNat (l + 1)) ∧ qfr W W2 195 1 ∧ (∀ j, j < 20 → W2 195 j = if 4 * l + i ≤ j ∧ j < 4 * l + 4 then Int32.ofNat (if b then sSeen s (s (159 + l)) (j - 4 * l) else 0) else W 195 j) := by
      intro x hx
      have hfr : qfr W (qw W 195 (upd (W 195) (4 * l + i) x)) 195 1 := qfr.w (by omega) (by omega)
      obtain ⟨W2, c1, c2, c3⟩ := ih (i + 1) k _ (by omega) (by omega) (hR.fr hfr (Or.inl (by omega))) (hS.fr hfr (Or.inl (by omega)))
      refine ⟨W2, c1, hfr.tr c2, fun j hj => ?_⟩
      rw [c3 j hj, qw_s]
      by_cases e : j = 4 * l + i
      · subst e
        rw [upd_s, if_neg (by omega), if_pos (by omega), hx, show 4 * l + i - 4 * l = i by omega]
      · rw [upd_n e]
        by_cases e2 : 4 * l + (i + 1) ≤ j ∧ j < 4 * l + 4
        · rw [if_pos e2, if_pos (show 4 * l + i ≤ j ∧ j < 4 * l + 4 by omega)]
        · rw [if_neg e2, if_neg (show ¬ (4 * l + i ≤ j ∧ j < 4 * l + 4) by omega)]
    unfold fX11_markSights_37 fX11_markSights_71
    rw [if_neg (by rw [show (4 : Int32) = Int32.ofNat 4 from rfl, qle (by omega) (by omega)]; omega), q0_g13, Option.bind_some, show (4 : Int32) = Int32.ofNat 4 from rfl, qmul, qadd]
    cases b with
    | false =>
      rw [if_pos qzf, hput, Option.bind_some, l1', qadd]
      exact go _ rfl
    | true =>
      rw [if_neg qzt, c0_2, Option.bind_some, c15_c, Option.bind_some, e_sight hN qS_15 qF_4 hR hS hs.1 hs.2.1 hl (by omega), Option.bind_some, hput, Option.bind_some, l1', qadd]
      exact go _ rfl
theorem c_mark2 (hN : 3000 ≤ N) (hs : sOK s) {now : Bool} : ∀ m l k W, l + m = s 4 → m < k → rF W 4 s → rS W 15 s → (∀ l2 d, l2 < l → d < 4 → W 195 (4 * l2 + d) = Int32.ofNat (sgt s now l2 d)) → ∃ W2, fX11_markSights_2 N 216 k (qH g W X) 0 (qz now) (Int32.ofNat l) = some (qH g W2 X) ∧ qfr W W2 195 1 ∧ (∀ l2 d, l2 < s 4 → d < 4 → W2 195 (4 * l2 + d) = Int32.ofNat (sgt s now l2 d)) := by
  have hw4 := hs.1.2.2.2.2.1
  intro m
  induction m with
  | zero =>
    intro l k W hi hk hR hS hq
    obtain ⟨k, rfl⟩ : ∃ j, k = j + 1 := ⟨k - 1, by omega⟩
    have f4 : W 4 4 = Int32.ofNat (s 4) := hR.2.2.2.2.1
    unfold fX11_markSights_2
    rw [c0_1, Option.bind_some, c4_g4, Option.bind_some, f4, if_pos (by rw [qle (by omega) (by omega)]; omega)]
    exact ⟨W, rfl, qfr.rf, fun l2 d h1 h2 => hq l2 d (by omega) h2⟩
  | succ m ih =>
    intro l k W hi hk hR hS hq
    obtain ⟨k, rfl⟩ : ∃ j, k = j + 1 := ⟨k - 1, by omega⟩
    have f4 : W 4 4 = Int32.ofNat (s 4) := hR.2.2.2.2.1
    have go : ∀ b, b = !(now && !sLooks s l) → ∃ W2, fX11_markSights_33 (fX11_markSights_2 N 216 k) N 216 (qH g W X) 0 (qz now) (Int32.ofNat l) (qz b) = some (qH g W2 X) ∧ qfr W W2 195 1 ∧ (∀ l2 d, l2 < s 4 → d < 4 → W2 195 (4 * l2 + d) = Int32.ofNat (sgt s now l2 d)) := by
      intro b hb
      obtain ⟨W1, a1, a2, a3⟩ := c_mark37 (g := g) (X := X) hN (r2 := fX11_markSights_2 N 216 k) (a1 := qz now) (l := l) (by omega) hs (b := b) 4 0 N W (by omega) (by omega) hR hS
      obtain ⟨W2, c1, c2, c3⟩ := ih (l + 1) k W1 (by omega) (by omega) (hR.fr a2 (Or.inl (by omega))) (hS.fr a2 (Or.inl (by omega))) (fun l2 d h1 h2 => by
        rw [a3 _ (by omega)]
        by_cases e : l2 = l
        · subst e
          rw [if_pos (by omega), show 4 * l2 + d - 4 * l2 = d by omega, hb]
          unfold sgt
          cases h : (now && !sLooks s l2) <;> rfl
        · rw [if_neg (by omega)]; exact hq l2 d (by omega) h2)
      unfold fX11_markSights_33
      rw [l0, a1]
      exact ⟨W2, c1, a2.tr c2, c3⟩
    unfold fX11_markSights_2 fX11_markSights_28
    rw [c0_1, Option.bind_some, c4_g4, Option.bind_some, f4, if_neg (by rw [qle (by omega) (by omega)]; omega)]
    cases now with
    | false =>
      rw [if_pos qzf]
      exact go true rfl
    | true =>
      rw [if_neg qzt, c0_2, Option.bind_some, c15_c, Option.bind_some, e_looks hN qS_15 qF_4 hR hS hs.1 hs.2.1 (by omega), Option.bind_some]
      cases hL : sLooks s l with
      | false =>
        rw [if_pos qzf]
        exact go false (by rw [hL]; rfl)
      | true =>
        rw [if_neg qzt]
        exact go true (by rw [hL]; rfl)
theorem c_mark (hN : 3000 ≤ N) (hs : sOK s) {now : Bool} (hR : rF V 4 s) (hS : rS V 15 s) : ∃ W, fX11_markSights N 216 (qH g V X) 0 (qz now) = some (qH g W X) ∧ qfr V W 195 1 ∧ (∀ l2 d, l2 < s 4 → d < 4 → W 195 (4 * l2 + d) = Int32.ofNat (sgt s now l2 d)) := by
  have hw4 := hs.1.2.2.2.2.1
  unfold fX11_markSights
  exact c_mark2 hN hs (s 4) 0 N V (by omega) (by omega) hR hS (fun l2 d h => by omega)
end QFE
