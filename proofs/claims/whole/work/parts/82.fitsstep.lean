/-! fits: the step -/
section QFV
variable {g : zF} {V W K : Nat → Nat → Int32} {X Y : Nat → Nat → Int64} {N n : Nat} {s t u B : Nat → Nat}
theorem nuF_f {p : Nat → Bool} {a : Nat} (h : p a = false) : nuF p (a + 1) = nuF p a := by
  show (if p a = true then _ else _) = _
  rw [if_neg (by rw [h]; decide)]
theorem nuF_t {p : Nat → Bool} {a : Nat} (h : p a = true) : nuF p (a + 1) = (sU (nuF p a).1 (nuF p a).2 a, (nuF p a).2 + 1) := by
  show (if p a = true then _ else _) = _
  rw [if_pos h]
/-- the cell of way f at hour i -/
def pth (s : Nat → Nat) (c0 f i : Nat) : Nat := (trc s (f % 9 + 1) c0 (f / 9) i).1
def ftB (s B : Nat → Nat) (mm f : Nat) : Bool := ftA (pth s (kE B 0) f) (kE B) 0 mm
theorem pth_lt (hW : sWF s) {c0 f i : Nat} (hc : c0 < 81) (hf : f < 36) : pth s c0 f i < 81 := (trc_lt hW hc (by omega) i).1
theorem pth_n {f : Nat} (hW : sWF s) {c0 : Nat} (hc : c0 < 81) (i : Nat) : pth s c0 f i < 1000 := by
  have h : ∀ d0 i, (trc s (f % 9 + 1) c0 d0 i).1 < 81 := by
    intro d0 i
    induction i with
    | zero => exact hc
    | succ i ih =>
      unfold trc
      split
      · unfold stp
        cases hb : sBeside s (trc s (f % 9 + 1) c0 d0 i).1 (trc s (f % 9 + 1) c0 d0 i).2 with
        | none => exact ih
        | some t =>
          have := sBeside_lt hW hb
          dsimp only
          split
          · exact this
          · exact ih
      · exact ih
  have := h (f / 9) i
  unfold pth
  omega
theorem c_readL (hW : sWF s) {mm : Nat} (h8 : mm ≤ 8) (hn : n / 2 = mm) (hn2 : n % 2 = 0) : ∀ m k V i, i + m = mm → m < k → cB V B n → rF V 4 s → V 187 4 = Int32.ofNat mm → ∃ W, fX4_readCells_40 N 216 k (qH g V X) 187 1 4 (Int32.ofNat i) = some (qH g W X, qz (okA s B i m)) ∧ (okA s B i m = true → ∀ j, i ≤ j → j < mm → W 189 j = Int32.ofNat (kE B j)) ∧ ∀ b j, ¬ (b = 189 ∧ i ≤ j) → W b j = V b j := by
  intro m
  induction m with
  | zero =>
    intro k V i hi hk hB hR h4
    obtain ⟨k, rfl⟩ := Nat.exists_eq_succ_of_ne_zero (n := k) (by omega)
    refine ⟨V, ?_, fun _ j a1 a2 => by omega, fun _ _ _ => rfl⟩
    unfold fX4_readCells_40
    rw [q187_g4, Option.bind_some, h4, if_pos (by rw [qle (by omega) (by omega)]; omega)]
    rfl
  | succ m ih =>
    intro k V i hi hk hB hR h4
    obtain ⟨k, rfl⟩ := Nat.exists_eq_succ_of_ne_zero (n := k) (by omega)
    have e1 := c_signAt (g := g) (X := X) (N := N) hB (i := 2 * i) (by omega)
    have e2 := c_signAt (g := g) (X := X) (N := N) hB (i := 2 * i + 1) (by omega)
    have b1 := (hB.2.2 (2 * i) (by omega)).1
    have b2 := (hB.2.2 (2 * i + 1) (by omega)).1
    have go : ∀ W, (if qz (qrg (Int32.ofNat (B (2 * i))) 0 (s 0) && qrg (Int32.ofNat (B (2 * i + 1))) 0 (s 1)) = 0 then ((zbl (0 : Int32)).bind fun y => some (qH g V X, y)) else ((fX2_hasHedge N 216 (qH g V X) 4 (Int32.ofNat (kE B i))).bind fun x10 => (if x10 = 0 then ((fX11_put N 216 (qH g V X) 189 (Int32.ofNat i) (Int32.ofNat (kE B i))).bind fun f12 => (fX4_readCells_40 N 216 k f12 187 1 4 (Int32.ofNat (i + 1)))) else ((zbl (0 : Int32)).bind fun y => some (qH g V X, y))))) = W → fX4_readCells_40 N 216 (k + 1) (qH g V X) 187 1 4 (Int32.ofNat i) = W := by
      intro W hW2
      unfold fX4_readCells_40
      rw [q187_g4, Option.bind_some, h4, if_neg (by rw [qle (by omega) (by omega)]; omega), q1_c, Option.bind_some, show (2 : Int32) = Int32.ofNat 2 from rfl, qmul, e1, Option.bind_some, Option.bind_some, l1, qadd, e2, Option.bind_some, qF_c qF_4, Option.bind_some, c_hasCell hR hW, Option.bind_some, Option.bind_some, show (9 : Int32) = Int32.ofNat 9 from rfl, qmul, qadd, q187_g3, Option.bind_some, qadd]
      exact hW2
    cases hc : qrg (Int32.ofNat (B (2 * i))) 0 (s 0) && qrg (Int32.ofNat (B (2 * i + 1))) 0 (s 1) with
    | false =>
      have ho : okA s B i (m + 1) = false := by unfold okA okc; rw [hc]; rfl
      refine ⟨V, go _ ?_, fun h => (by rw [ho] at h; cases h), fun _ _ _ => rfl⟩
      rw [hc, if_pos qzf, ho]
      rfl
    | true =>
      have hE := okc_e hW hc b1 b2
      have h5 := hW.2.2.2.2.2.1 _ hE
      by_cases h0 : s (5 + kE B i) = 0
      · have ho : okA s B i (m + 1) = okA s B (i + 1) m := by unfold okA okc; rw [hc, decide_eq_true h0]; cases m <;> rfl
        obtain ⟨W, x1, x2, x3⟩ := ih k (qw V 189 (upd (V 189) i (Int32.ofNat (kE B i)))) (i + 1) (by omega) (by omega) ⟨by rw [qw_n (by decide)]; exact hB.1, hB.2.1, fun j hj => by rw [qw_n (by decide)]; exact hB.2.2 j hj⟩ (hR.pt (fun b j a1 a2 => by rw [qw_n (by omega)])) (by rw [qw_n (by decide)]; exact h4)
        refine ⟨W, go _ ?_, fun h j a1 a2 => ?_, fun b j hb => ?_⟩
        · rw [hc, if_neg qzt, e_hasHedge qF_4 hR hW hE, Option.bind_some, decide_eq_false (by omega), if_pos qzf, e_put qk_189 (by omega) (by omega), Option.bind_some, ho]
          exact x1
        · rw [ho] at h
          by_cases e : j = i
          · subst e
            rw [x3 189 _ (by omega), qw_s, upd_s]
          · exact x2 h j (by omega) a2
        · rw [x3 b j (by omega)]
          by_cases e : b = 189
          · subst e
            rw [qw_s, upd_n (by omega)]
          · rw [qw_n e]
      · have ho : okA s B i (m + 1) = false := by unfold okA okc; rw [decide_eq_false h0, Bool.and_false]; rfl
        refine ⟨V, go _ ?_, fun h => (by rw [ho] at h; cases h), fun _ _ _ => rfl⟩
        rw [hc, if_neg qzt, e_hasHedge qF_4 hR hW hE, Option.bind_some, decide_eq_true (by omega), if_neg qzt, ho]
        rfl
theorem okA_at {mm : Nat} : ∀ m i, i + m = mm → okA s B i m = true → ∀ j, i ≤ j → j < mm → okc s B j = true := by
  intro m
  induction m with
  | zero => intro i hi h j a1 a2; omega
  | succ m ih =>
    intro i hi h j a1 a2
    unfold okA at h
    rw [Bool.and_eq_true] at h
    by_cases e : j = i
    · subst e; exact h.1
    · exact ih (i + 1) (by omega) h.2 j (by omega) a2
theorem m_readL (hM : rM V s) (hW : sWF s) {mm : Nat} (hB : mB V B n) (h8 : mm ≤ 8) (hn : n / 2 = mm) (hn2 : n % 2 = 0) : ∀ m k i, i + m = mm → m < k → fX12_fits_39 N 216 k (qH g V X) 196 (Int32.ofNat i) = if okA s B i m = true then fX12_fits_99 N 216 N (qH g V X) 196 0 0 else some (qH g V X, -1) := by
  intro m
  induction m with
  | zero =>
    intro k i hi hk
    obtain ⟨k, rfl⟩ := Nat.exists_eq_succ_of_ne_zero (n := k) (by omega)
    unfold fX12_fits_39
    rw [q196_g3, Option.bind_some, hB.1, show (2 : Int32) = Int32.ofNat 2 from rfl, qdiv (by omega) (by omega), if_pos (by rw [qle (by omega) (by omega)]; omega), if_pos (by rfl)]
  | succ m ih =>
    intro k i hi hk
    obtain ⟨k, rfl⟩ := Nat.exists_eq_succ_of_ne_zero (n := k) (by omega)
    have b1 := (hB.2.2 (2 * i) (by omega)).1
    have b2 := (hB.2.2 (2 * i + 1) (by omega)).1
    unfold fX12_fits_39
    rw [q196_g3, Option.bind_some, hB.1, show (2 : Int32) = Int32.ofNat 2 from rfl, qdiv (by omega) (by omega), if_neg (by rw [qle (by omega) (by omega)]; omega), q196_c, Option.bind_some, qmul, m_oct hB (by omega), Option.bind_some, Option.bind_some, l1, qadd, m_oct hB (by omega), Option.bind_some, Option.bind_some, m_isCellP hM hW, Option.bind_some]
    cases hc : qrg (Int32.ofNat (B (2 * i))) 0 (s 0) && qrg (Int32.ofNat (B (2 * i + 1))) 0 (s 1) with
    | false =>
      have ho : okA s B i (m + 1) = false := by unfold okA okc; rw [hc]; rfl
      rw [if_pos qzf, ho, if_neg (by decide)]
    | true =>
      have hE := okc_e hW hc b1 b2
      have h5 := hW.2.2.2.2.2.1 _ hE
      rw [if_neg qzt, q196_g6, Option.bind_some, Option.bind_some, m_cellT hB (by omega), Option.bind_some, l5, qadd, m_ld hM (by omega), Option.bind_some]
      by_cases h0 : s (5 + kE B i) = 0
      · have ho : okA s B i (m + 1) = okA s B (i + 1) m := by unfold okA okc; rw [hc, decide_eq_true h0]; cases m <;> rfl
        rw [if_pos (by rw [h0]; decide), qadd, ho]
        have := ih k (i + 1) (by omega) (by omega)
        exact this
      · have ho : okA s B i (m + 1) = false := by unfold okA okc; rw [decide_eq_false h0, Bool.and_false]; rfl
        rw [if_neg (by rw [l0, qle (by omega) (by omega)]; omega), ho, if_neg (by decide)]
/-- all ways laid and those that fit counted: the class -/
theorem c_findL (hN : 3000 ≤ N) (hW : sWF s) {mm : Nat} (h2 : 1 ≤ mm) (h8 : mm ≤ 8) (hE : ∀ j, j < mm → kE B j < 81) : ∀ m k V a, a + m = 36 → rF V 4 s → V 187 4 = Int32.ofNat mm → (∀ j, j < mm → V 189 j = Int32.ofNat (kE B j)) → (∀ f i, f < a → i < 13 → V 190 (13 * f + i) = Int32.ofNat (pth s (kE B 0) f i)) → (∀ j, j < (nuF (ftB s B mm) a).2 → V 188 j = Int32.ofNat ((nuF (ftB s B mm) a).1 j)) → ∃ W, fX4_find_4 N 216 (m + (k + 1)) (qH g V X) 187 4 (Int32.ofNat (nuF (ftB s B mm) a).2) (Int32.ofNat a) = fX4_find_4 N 216 (k + 1) (qH g W X) 187 4 (Int32.ofNat (nuF (ftB s B mm) 36).2) (Int32.ofNat 36) ∧
    (∀ f i, f < 36 → i < 13 → W 190 (13 * f + i) = Int32.ofNat (pth s (kE B 0) f i)) ∧ (∀ j, j < (nuF (ftB s B mm) 36).2 → W 188 j = Int32.ofNat ((nuF (ftB s B mm) 36).1 j)) ∧ ∀ b j, ¬ (b = 190 ∨ (b = 188 ∧ (nuF (ftB s B mm) 36).2 ≠ 0)) → W b j = V b j := by
  intro m
  induction m with
  | zero =>
    intro k V a ha hR h4 h9 hp hnu
    have : a = 36 := by omega
    subst this
    exact ⟨V, by rw [Nat.zero_add], fun f i a1 a2 => hp f i a1 a2, hnu, fun _ _ _ => rfl⟩
  | succ m ih =>
    intro k V a ha hR h4 h9 hp hnu
    have hE0 := hE 0 (by omega)
    have hpn : ∀ i, pth s (kE B 0) a i < 1000 := pth_n hW hE0
    obtain ⟨W, x1, x2, x3⟩ := c_goA (g := g) (X := X) (N := N) hW (f := a) (K := a % 9 + 1) (c0 := kE B 0) (d0 := a / 9) (by omega) (by omega) hE0 (by omega) 13 N V 0 (by omega) (by omega) hR
    have hGo : fX4_goAlone N 216 (qH g V X) 187 4 (Int32.ofNat a) = some (qH g W X) := by
      unfold fX4_goAlone
      rw [q187_g3, Option.bind_some, l0, e_at qk_189 (by omega) (by omega), Option.bind_some, h9 0 (by omega), show (9 : Int32) = Int32.ofNat 9 from rfl, qdiv (by omega) (by omega), qrem (by omega) (by omega), l1, qadd]
      exact x1
    have w4 : W 187 4 = Int32.ofNat mm := by rw [x3 _ _ (by omega)]; exact h4
    have w9 : ∀ j, j < mm → W 189 j = Int32.ofNat (kE B j) := fun j hj => by rw [x3 _ _ (by omega)]; exact h9 j hj
    have hAs := c_asS (g := g) (V := W) (X := X) (N := N) (f := a) (mm := mm) (p := pth s (kE B 0) a) (E := kE B) (by omega) h8 w4 (fun j hj => x2 j (by omega) (by omega)) w9 hpn (fun j hj => by have := hE j hj; omega) mm N 0 (by omega) (by omega)
    have hpW : ∀ f i, f < a + 1 → i < 13 → W 190 (13 * f + i) = Int32.ofNat (pth s (kE B 0) f i) := by
      intro f i a1 a2
      by_cases e : f = a
      · subst e
        exact x2 i (by omega) a2
      · rw [x3 _ _ (by omega)]
        exact hp f i (by omega) a2
    have hc := (nuF_le (p := ftB s B mm) a).1
    have go : ∀ r, (if qz (ftB s B mm a) = 0 then fX4_find_4 N 216 (m + (k + 1)) (qH g W X) 187 4 (Int32.ofNat (nuF (ftB s B mm) a).2) (Int32.ofNat (a + 1)) else ((fX11_put N 216 (qH g W X) 188 (Int32.ofNat (nuF (ftB s B mm) a).2) (Int32.ofNat a)).bind fun f7 => fX4_find_4 N 216 (m + (k + 1)) f7 187 4 (Int32.ofNat ((nuF (ftB s B mm) a).2 + 1)) (Int32.ofNat (a + 1)))) = r → fX4_find_4 N 216 (m + 1 + (k + 1)) (qH g V X) 187 4 (Int32.ofNat (nuF (ftB s B mm) a).2) (Int32.ofNat a) = r := by
      intro r hr
      rw [show m + 1 + (k + 1) = (m + (k + 1)) + 1 by omega]
      conv => lhs; unfold fX4_find_4
      unfold fX4_isAsShown
      rw [if_neg (by rw [show (36 : Int32) = Int32.ofNat 36 from rfl, qle (by omega) (by omega)]; omega), q187_c, Option.bind_some, hGo, Option.bind_some, q187_c, Option.bind_some, l0, hAs, Option.bind_some, q187_g0, Option.bind_some]
      unfold fX4_find_36
      rw [l1, qadd, qadd]
      exact hr
    cases hf : ftB s B mm a with
    | false =>
      have en : nuF (ftB s B mm) (a + 1) = nuF (ftB s B mm) a := nuF_f hf
      obtain ⟨W2, y1, y2, y3, y4⟩ := ih k W (a + 1) (by omega) (hR.pt (fun b j a1 a2 => x3 b j (by omega))) w4 w9 hpW (by rw [en]; intro j hj; rw [x3 _ _ (by omega)]; exact hnu j hj)
      rw [en] at y1
      refine ⟨W2, go _ ?_, y2, y3, fun b j hb => ?_⟩
      · rw [hf, if_pos qzf]
        exact y1
      · rw [y4 b j hb, x3 b j (by omega)]
    | true =>
      have en : nuF (ftB s B mm) (a + 1) = (sU (nuF (ftB s B mm) a).1 (nuF (ftB s B mm) a).2 a, (nuF (ftB s B mm) a).2 + 1) := nuF_t hf
      have hm := nuF_mono (p := ftB s B mm) (a := a + 1) (b := 36) (by omega)
      obtain ⟨W2, y1, y2, y3, y4⟩ := ih k (qw W 188 (upd (W 188) (nuF (ftB s B mm) a).2 (Int32.ofNat a))) (a + 1) (by omega) (hR.pt (fun b j a1 a2 => by rw [qw_n (by omega)]; exact x3 b j (by omega))) (by rw [qw_n (by decide)]; exact w4) (fun j hj => by rw [qw_n (by decide)]; exact w9 j hj) (fun f i a1 a2 => by rw [qw_n (by decide)]; exact hpW f i a1 a2) (by
        rw [en]
        intro j hj
        dsimp only at hj ⊢
        rw [qw_s]
        by_cases e : j = (nuF (ftB s B mm) a).2
        · subst e
          rw [upd_s, sU_s]
        · rw [upd_n e, sU_n e, x3 _ _ (by omega)]
          exact hnu j (by omega))
      rw [en] at y1 hm
      dsimp only at y1 hm
      refine ⟨W2, go _ ?_, y2, y3, fun b j hb => ?_⟩
      · rw [hf, if_neg qzt, e_put qk_188 (by omega) (by omega), Option.bind_some]
        exact y1
      · rw [y4 b j hb, qw_n (by omega), x3 b j (by omega)]
/-- .. and the reference: first counted .. -/
theorem m_countL (hN : 3000 ≤ N) (hW : sWF s) {mm : Nat} (h2 : 1 ≤ mm) (h8 : mm ≤ 8) (hn : n / 2 = mm) (hn2 : n % 2 = 0) (hE : ∀ j, j < mm → kE B j < 81) : ∀ m k V a, a + m = 36 → rM V s → mB V B n → (∀ f i, f < a → i < 13 → V 207 (13 * f + i) = Int32.ofNat (pth s (kE B 0) f i)) → ∃ W, fX12_fits_99 N 216 (m + (k + 1)) (qH g V X) 196 (Int32.ofNat (nuF (ftB s B mm) a).2) (Int32.ofNat a) = fX12_fits_99 N 216 (k + 1) (qH g W X) 196 (Int32.ofNat (nuF (ftB s B mm) 36).2) (Int32.ofNat 36) ∧ (∀ f i, f < 36 → i < 13 → W 207 (13 * f + i) = Int32.ofNat (pth s (kE B 0) f i)) ∧ ∀ b j, b ≠ 207 → W b j = V b j := by
  intro m
  induction m with
  | zero =>
    intro k V a ha hM hB hp
    have : a = 36 := by omega
    subst this
    exact ⟨V, by rw [Nat.zero_add], fun f i a1 a2 => hp f i a1 a2, fun _ _ _ => rfl⟩
  | succ m ih =>
    intro k V a ha hM hB hp
    have hE0 := hE 0 (by omega)
    have hpn : ∀ i, pth s (kE B 0) a i < 1000 := pth_n hW hE0
    obtain ⟨W, x1, x2, x3⟩ := m_layT (g := g) (X := X) (N := N) hW (f := a) (c0 := kE B 0) (d0 := a / 9) (by omega) hE0 (by omega) 13 N V 0 (by omega) (by omega) hM
    have hBW : mB W B n := ⟨by rw [x3 _ _ (by omega)]; exact hB.1, hB.2.1, fun j hj => by rw [x3 _ _ (by omega)]; exact hB.2.2 j hj⟩
    have hMW : rM W s := fun i hi => by rw [x3 _ _ (by omega)]; exact hM i hi
    have hLay : fX12_laysTrail N 216 (qH g V X) 196 (Int32.ofNat a) (Int32.ofNat (kE B 0)) = some (qH g W X) := by
      unfold fX12_laysTrail
      rw [show (9 : Int32) = Int32.ofNat 9 from rfl, qdiv (by omega) (by omega)]
      exact x1
    have hFit := m_isFitL (g := g) (X := X) (N := N) (f := a) (p := pth s (kE B 0) a) (by omega) hBW hn h8 (fun j hj => x2 j (by omega) (by omega)) hpn (fun j hj => by have := hE j hj; omega) mm N 0 (by omega) (by omega)
    have hpW : ∀ f i, f < a + 1 → i < 13 → W 207 (13 * f + i) = Int32.ofNat (pth s (kE B 0) f i) := by
      intro f i a1 a2
      by_cases e : f = a
      · subst e
        exact x2 i (by omega) a2
      · rw [x3 _ _ (by omega)]
        exact hp f i (by omega) a2
    have hcell := m_cellT (g := g) (X := X) (N := N) hB (i := 0) (by omega)
    obtain ⟨W2, y1, y2, y4⟩ := ih k W (a + 1) (by omega) hMW hBW hpW
    refine ⟨W2, ?_, y2, fun b j hb => by rw [y4 b j hb, x3 b j (by omega)]⟩
    rw [show m + 1 + (k + 1) = (m + (k + 1)) + 1 by omega]
    conv => lhs; unfold fX12_fits_99
    unfold fX12_isFit
    rw [if_neg (by rw [show (36 : Int32) = Int32.ofNat 36 from rfl, qle (by omega) (by omega)]; omega), q196_c, Option.bind_some, l0, hcell, Option.bind_some, Option.bind_some, hLay, Option.bind_some, q196_c, Option.bind_some, hFit, Option.bind_some]
    unfold fX12_fits_129
    cases hf : ftA (pth s (kE B 0) a) (kE B) 0 mm with
    | false =>
      have en : nuF (ftB s B mm) (a + 1) = nuF (ftB s B mm) a := nuF_f hf
      rw [en] at y1
      rw [if_pos (by decide), qadd, l1, qadd]
      exact y1
    | true =>
      have en : nuF (ftB s B mm) (a + 1) = (sU (nuF (ftB s B mm) a).1 (nuF (ftB s B mm) a).2 a, (nuF (ftB s B mm) a).2 + 1) := nuF_t hf
      rw [en] at y1
      rw [if_neg (by decide), l1, qadd, qadd]
      exact y1
/-- .. then written -/
theorem m_listL (hN : 3000 ≤ N) (hW : sWF s) {mm : Nat} {r : Int32} (h2 : 1 ≤ mm) (h8 : mm ≤ 8) (hn : n / 2 = mm) (hn2 : n % 2 = 0) (hE : ∀ j, j < mm → kE B j < 81) : ∀ m k V a, a + m = 36 → mB V B n → (∀ f i, f < 36 → i < 13 → V 207 (13 * f + i) = Int32.ofNat (pth s (kE B 0) f i)) → V 196 32 = Int32.ofNat (nuF (ftB s B mm) a).2 → (∀ j, j < (nuF (ftB s B mm) a).2 → V 206 j = Int32.ofNat ((nuF (ftB s B mm) a).1 j)) → ∃ W, fX12_fits_150 N 216 (m + (k + 1)) (qH g V X) 196 r (Int32.ofNat a) = fX12_fits_150 N 216 (k + 1) (qH g W X) 196 r (Int32.ofNat 36) ∧ W 196 32 = Int32.ofNat (nuF (ftB s B mm) 36).2 ∧ (∀ j, j < (nuF (ftB s B mm) 36).2 → W 206 j = Int32.ofNat ((nuF (ftB s B mm) 36).1 j)) ∧ ∀ b j, b ≠ 206 → ¬ (b = 196 ∧ j = 32) → W b j = V b j := by
  intro m
  induction m with
  | zero =>
    intro k V a ha hB hp h32 hnu
    have : a = 36 := by omega
    subst this
    exact ⟨V, by rw [Nat.zero_add], h32, hnu, fun _ _ _ _ => rfl⟩
  | succ m ih =>
    intro k V a ha hB hp h32 hnu
    have hE0 := hE 0 (by omega)
    have hpn : ∀ i, pth s (kE B 0) a i < 1000 := pth_n hW hE0
    have hc := (nuF_le (p := ftB s B mm) a).1
    have hFit := m_isFitL (g := g) (X := X) (N := N) (f := a) (p := pth s (kE B 0) a) (by omega) hB hn h8 (fun j hj => hp a j (by omega) (by omega)) hpn (fun j hj => by have := hE j hj; omega) mm N 0 (by omega) (by omega)
    rw [show m + 1 + (k + 1) = (m + (k + 1)) + 1 by omega]
    cases hf : ftA (pth s (kE B 0) a) (kE B) 0 mm with
    | false =>
      have en : nuF (ftB s B mm) (a + 1) = nuF (ftB s B mm) a := nuF_f hf
      obtain ⟨W2, y1, y2, y3, y4⟩ := ih k V (a + 1) (by omega) hB hp (by rw [en]; exact h32) (by rw [en]; exact hnu)
      refine ⟨W2, ?_, y2, y3, y4⟩
      conv => lhs; unfold fX12_fits_150
      unfold fX12_isFit
      rw [if_neg (by rw [show (36 : Int32) = Int32.ofNat 36 from rfl, qle (by omega) (by omega)]; omega), q196_c, Option.bind_some, l0, hFit, Option.bind_some, hf, if_pos (by decide)]
      unfold fX12_fits_187
      rw [l1, qadd]
      exact y1
    | true =>
      have en : nuF (ftB s B mm) (a + 1) = (sU (nuF (ftB s B mm) a).1 (nuF (ftB s B mm) a).2 a, (nuF (ftB s B mm) a).2 + 1) := nuF_t hf
      obtain ⟨W2, y1, y2, y3, y4⟩ := ih k (qw (qw V 206 (upd (V 206) (nuF (ftB s B mm) a).2 (Int32.ofNat a))) 196 (upd (V 196) 32 (Int32.ofNat ((nuF (ftB s B mm) a).2 + 1)))) (a + 1) (by omega) ⟨by rw [qw_s, upd_n (by decide)]; exact hB.1, hB.2.1, fun j hj => by rw [qw_n (by decide), qw_n (by decide)]; exact hB.2.2 j hj⟩ (fun f i a1 a2 => by rw [qw_n (by decide), qw_n (by decide)]; exact hp f i a1 a2) (by rw [en, qw_s, upd_s]) (by
        rw [en]
        intro j hj
        dsimp only at hj ⊢
        rw [qw_n (by decide), qw_s]
        by_cases e : j = (nuF (ftB s B mm) a).2
        · subst e
          rw [upd_s, sU_s]
        · rw [upd_n e, sU_n e]
          exact hnu j (by omega))
      refine ⟨W2, ?_, y2, y3, fun b j b1 b2 => ?_⟩
      · conv => lhs; unfold fX12_fits_150
        unfold fX12_isFit
        rw [if_neg (by rw [show (36 : Int32) = Int32.ofNat 36 from rfl, qle (by omega) (by omega)]; omega), q196_c, Option.bind_some, l0, hFit, Option.bind_some, hf, if_neg (by decide), q196_g30, Option.bind_some, q196_g32, Option.bind_some, h32, qsI (t := 0) qk_206 (Or.inl rfl) (by omega) (by omega), Option.bind_some, q196_g32, Option.bind_some, qw_n (by decide), h32, l1, qadd, q196_p32, Option.bind_some, qw_n (by decide)]
        unfold fX12_fits_187
        rw [l1, qadd]
        exact y1
      · rw [y4 b j b1 b2]
        by_cases e : b = 196
        · subst e
          rw [qw_s, upd_n (by omega)]
        · rw [qw_n e, qw_n b1]


def okFit (s B : Nat → Nat) (n : Nat) : Bool := decide (n % 2 = 0 ∧ 2 ≤ n / 2 ∧ n / 2 ≤ 8) && okA s B 0 (n / 2)
theorem c_read (hN : 3000 ≤ N) (hW : sWF s) (hB : cB V B n) (hR : rF V 4 s) : ∃ W, fX4_readCells N 216 (qH g V X) 187 1 4 = some (qH g W X, qz (okFit s B n)) ∧ W 187 4 = Int32.ofNat (n / 2) ∧ (okFit s B n = true → ∀ j, j < n / 2 → W 189 j = Int32.ofNat (kE B j)) ∧ ∀ b j, ¬ (b = 187 ∧ j = 4) → b ≠ 189 → W b j = V b j := by
  have h9 := hB.2.1
  unfold fX4_readCells
  rw [q1_g2, Option.bind_some, hB.1, show (2 : Int32) = Int32.ofNat 2 from rfl, qdiv (by omega) (by omega), q187_p4, Option.bind_some, q1_g2, Option.bind_some, qw_n (by decide), hB.1, qrem (by omega) (by omega)]
  have hfr : ∀ b j, ¬ (b = 187 ∧ j = 4) → qw V 187 (upd (V 187) 4 (Int32.ofNat (n / 2))) b j = V b j := by
    intro b j hb
    by_cases e : b = 187
    · subst e
      rw [qw_s, upd_n (by omega)]
    · rw [qw_n e]
  have no : okFit s B n = false → ∃ W, ((zbl (0 : Int32)).bind fun y => some (qH g (qw V 187 (upd (V 187) 4 (Int32.ofNat (n / 2)))) X, y)) = some (qH g W X, qz (okFit s B n)) ∧ W 187 4 = Int32.ofNat (n / 2) ∧ (okFit s B n = true → ∀ j, j < n / 2 → W 189 j = Int32.ofNat (kE B j)) ∧ ∀ b j, ¬ (b = 187 ∧ j = 4) → b ≠ 189 → W b j = V b j := by
    intro h
    exact ⟨_, by rw [h]; rfl, by rw [qw_s, upd_s], fun h2 => (by rw [h] at h2; cases h2), fun b j b1 _ => hfr b j b1⟩
  by_cases h0 : n % 2 = 0
  · rw [if_pos (by rw [h0]; rfl), q187_g4, Option.bind_some, qw_s, upd_s]
    by_cases h2 : n / 2 < 2
    · rw [if_pos (by rw [qlt (by omega) (by omega)]; exact h2)]
      exact no (by unfold okFit; rw [decide_eq_false (by omega)]; rfl)
    · rw [if_neg (by rw [qlt (by omega) (by omega)]; exact h2), Option.bind_some]
      by_cases h8 : n / 2 ≤ 8
      · rw [if_pos (by rw [show (8 : Int32) = Int32.ofNat 8 from rfl, qle (by omega) (by omega)]; exact h8)]
        obtain ⟨W, x1, x2, x3⟩ := c_readL (g := g) (X := X) (N := N) hW h8 rfl h0 (n / 2) N (qw V 187 (upd (V 187) 4 (Int32.ofNat (n / 2)))) 0 (by omega) (by omega) ⟨by rw [qw_n (by decide)]; exact hB.1, h9, fun j hj => by rw [qw_n (by decide)]; exact hB.2.2 j hj⟩ (hR.pt (fun b j a1 a2 => by rw [qw_n (by omega)])) (by rw [qw_s, upd_s])
        have eo : okFit s B n = okA s B 0 (n / 2) := by unfold okFit; rw [decide_eq_true (by omega)]; rfl
        refine ⟨W, ?_, by rw [x3 _ _ (by omega), qw_s, upd_s], fun h j hj => x2 (by rw [← eo]; exact h) j (by omega) hj, fun b j b1 b2 => by rw [x3 _ _ (by omega)]; exact hfr b j b1⟩
        rw [eo]
        exact x1
      · rw [if_neg (by rw [show (8 : Int32) = Int32.ofNat 8 from rfl, qle (by omega) (by omega)]; exact h8)]
        exact no (by unfold okFit; rw [decide_eq_false (by omega)]; rfl)
  · rw [if_neg (by rw [l0, qeq (by omega) (by omega)]; exact h0)]
    exact no (by unfold okFit; rw [decide_eq_false (by omega)]; rfl)
/-- how many fit, and the hour to ask -/
def nFit (s B : Nat → Nat) (mm : Nat) : Nat := (nuF (ftB s B mm) 36).2
def nuN (s B : Nat → Nat) (mm : Nat) : Nat → Nat := (nuF (ftB s B mm) 36).1
def askF (s B : Nat → Nat) (mm : Nat) : Nat := bsH (fun h => mxH (fun j => pth s (kE B 0) (nuN s B mm j)) h (nFit s B mm) (nFit s B mm)) 1 2 11
theorem nFit_le {mm : Nat} : nFit s B mm ≤ 36 := (nuF_le 36).1
theorem nuN_lt {mm j : Nat} : nuN s B mm j < 36 := by have := (nuF_le (p := ftB s B mm) 36).2 j; unfold nuN; omega
theorem c_find (hN : 3000 ≤ N) (hW : sWF s) {mm : Nat} (h2 : 1 ≤ mm) (h8 : mm ≤ 8) (hE : ∀ j, j < mm → kE B j < 81) (hR : rF V 4 s) (h4 : V 187 4 = Int32.ofNat mm) (h9 : ∀ j, j < mm → V 189 j = Int32.ofNat (kE B j)) : ∃ W, fX4_find N 216 (qH g V X) 187 4 = some (qH g W X, Int32.ofNat (nFit s B mm)) ∧ (nFit s B mm = 0 → ∀ b j, b ≠ 190 → W b j = V b j) ∧ (nFit s B mm ≠ 0 → W 187 1 = Int32.ofNat (nFit s B mm) ∧ W 187 2 = Int32.ofNat (askF s B mm) ∧ ∀ j, j < nFit s B mm → W 188 j = Int32.ofNat (nuN s B mm j)) ∧ ∀ b j, b ≠ 190 → b ≠ 188 → b ≠ 187 → W b j = V b j := by
  obtain ⟨W, x1, x2, x3, x4⟩ := c_findL (g := g) (X := X) hN hW h2 h8 hE 36 (N - 37) V 0 (by omega) hR h4 h9 (fun f i h => by omega) (fun j hj => absurd hj (Nat.not_lt_zero _))
  have hc := nFit_le (s := s) (B := B) (mm := mm)
  rw [show 36 + (N - 37 + 1) = N by omega] at x1
  have e1 : fX4_find N 216 (qH g V X) 187 4 = fX4_find_4 N 216 (N - 37 + 1) (qH g W X) 187 4 (Int32.ofNat (nFit s B mm)) (Int32.ofNat 36) := x1
  rw [e1]
  unfold fX4_find_4
  rw [if_pos (by rw [show (36 : Int32) = Int32.ofNat 36 from rfl, qle (by omega) (by omega)]; omega)]
  by_cases h0 : nFit s B mm = 0
  · rw [if_pos (by rw [h0]; decide)]
    exact ⟨W, rfl, fun _ b j hb => x4 b j (by rintro (h | ⟨-, h⟩); exact hb h; exact h h0), fun h => absurd h0 h, fun b j b1 b2 b3 => x4 b j (by omega)⟩
  · rw [if_neg (by rw [l0, qle (by omega) (by omega)]; omega), q187_p1, Option.bind_some, q187_c, Option.bind_some]
    have hb := c_best (g := g) (X := X) (N := N) (V := qw W 187 (upd (W 187) 1 (Int32.ofNat (nFit s B mm)))) (nu := nuN s B mm) (c := nFit s B mm) (P := fun f i => pth s (kE B 0) f i) hN hc (fun j => nuN_lt) (fun f i => pth_n hW (hE 0 (by omega)) i) (by rw [qw_s, upd_s]) (fun j hj => by rw [qw_n (by decide)]; exact x3 j hj) (fun f i a1 a2 => by rw [qw_n (by decide)]; exact x2 f i a1 a2) 11 N 1 2 (by omega) (by omega) (by omega)
    have hb2 : fX4_bestHour N 216 (qH g (qw W 187 (upd (W 187) 1 (Int32.ofNat (nFit s B mm)))) X) 187 = some (Int32.ofNat (askF s B mm)) := hb
    rw [hb2, Option.bind_some, q187_p2, Option.bind_some, qw_qw, qw_s]
    refine ⟨_, rfl, fun h => absurd h h0, fun _ => ⟨by rw [qw_s, upd_n (by decide), upd_s], by rw [qw_s, upd_s], fun j hj => by rw [qw_n (by decide)]; exact x3 j hj⟩, fun b j b1 b2 b3 => by rw [qw_n b3]; exact x4 b j (by omega)⟩
theorem m_find (hN : 3000 ≤ N) (hW : sWF s) {mm : Nat} (h2 : 1 ≤ mm) (h8 : mm ≤ 8) (hn : n / 2 = mm) (hn2 : n % 2 = 0) (hE : ∀ j, j < mm → kE B j < 81) (hM : rM V s) (hB : mB V B n) : ∃ W, fX12_fits_99 N 216 N (qH g V X) 196 0 0 = some (qH g W X, Int32.ofNat (nFit s B mm)) ∧ (nFit s B mm = 0 → ∀ b j, b ≠ 207 → W b j = V b j) ∧ (nFit s B mm ≠ 0 → W 196 32 = Int32.ofNat (nFit s B mm) ∧ W 196 33 = Int32.ofNat (askF s B mm) ∧ ∀ j, j < nFit s B mm → W 206 j = Int32.ofNat (nuN s B mm j)) ∧ ∀ b j, b ≠ 206 → b ≠ 207 → ¬ (b = 196 ∧ (j = 32 ∨ j = 33)) → W b j = V b j := by
  obtain ⟨W, x1, x2, x4⟩ := m_countL (g := g) (X := X) hN hW h2 h8 hn hn2 hE 36 (N - 37) V 0 (by omega) hM hB (fun f i h => by omega)
  have hc := nFit_le (s := s) (B := B) (mm := mm)
  rw [show 36 + (N - 37 + 1) = N by omega] at x1
  have e1 : fX12_fits_99 N 216 N (qH g V X) 196 0 0 = fX12_fits_99 N 216 (N - 37 + 1) (qH g W X) 196 (Int32.ofNat (nFit s B mm)) (Int32.ofNat 36) := x1
  rw [e1]
  unfold fX12_fits_99
  rw [if_pos (by rw [show (36 : Int32) = Int32.ofNat 36 from rfl, qle (by omega) (by omega)]; omega)]
  by_cases h0 : nFit s B mm = 0
  · rw [if_pos (by rw [h0]; decide), h0]
    exact ⟨W, rfl, fun _ b j hb => x4 b j hb, fun h => absurd rfl h, fun b j b1 b2 b3 => x4 b j b2⟩
  · rw [if_neg (by rw [l0, qeq (by omega) (by omega)]; exact h0), q196_p32, Option.bind_some]
    have hBW : mB (qw W 196 (upd (W 196) 32 0)) B n := ⟨by rw [qw_s, upd_n (by decide), x4 _ _ (by decide)]; exact hB.1, hB.2.1, fun j hj => by rw [qw_n (by decide), x4 _ _ (by decide)]; exact hB.2.2 j hj⟩
    obtain ⟨W2, y1, y2, y3, y4⟩ := m_listL (g := g) (X := X) (r := Int32.ofNat (nFit s B mm)) hN hW h2 h8 hn hn2 hE 36 (N - 37) (qw W 196 (upd (W 196) 32 0)) 0 (by omega) hBW (fun f i a1 a2 => by rw [qw_n (by decide)]; exact x2 f i a1 a2) (by rw [qw_s, upd_s]; rfl) (fun j hj => absurd hj (Nat.not_lt_zero _))
    rw [show 36 + (N - 37 + 1) = N by omega] at y1
    have e2 : fX12_fits_150 N 216 N (qH g (qw W 196 (upd (W 196) 32 0)) X) 196 (Int32.ofNat (nFit s B mm)) 0 = fX12_fits_150 N 216 (N - 37 + 1) (qH g W2 X) 196 (Int32.ofNat (nFit s B mm)) (Int32.ofNat 36) := y1
    have w33 : ∀ b j, b ≠ 206 → b ≠ 207 → ¬ (b = 196 ∧ (j = 32 ∨ j = 33)) → W2 b j = V b j := by
      intro b j b1 b2 b3
      rw [y4 b j b1 (by omega)]
      have : qw W 196 (upd (W 196) 32 0) b j = W b j := by
        by_cases e : b = 196
        · subst e
          rw [qw_s, upd_n (by omega)]
        · rw [qw_n e]
      rw [this, x4 b j b2]
    rw [e2]
    unfold fX12_fits_150
    rw [if_pos (by rw [show (36 : Int32) = Int32.ofNat 36 from rfl, qle (by omega) (by omega)]; omega), q196_p33, Option.bind_some]
    obtain ⟨W3, z1, z2, z3⟩ := m_best (g := g) (X := X) (N := N) (nu := nuN s B mm) (c := nFit s B mm) (P := fun f i => pth s (kE B 0) f i) (r := Int32.ofNat (nFit s B mm)) hN hc (fun j => nuN_lt) (fun f i => pth_n hW (hE 0 (by omega)) i) 11 N (qw W2 196 (upd (W2 196) 33 (Int32.ofNat 1))) 1 2 (by rw [qw_s, upd_n (by decide)]; exact y2) (fun j hj => by rw [qw_n (by decide)]; exact y3 j hj) (fun f i a1 a2 => by rw [qw_n (by decide), y4 _ _ (by decide) (by omega), qw_n (by decide)]; exact x2 f i a1 a2) (by rw [qw_s, upd_s]) (by omega) (by omega) (by omega)
    refine ⟨W3, z1, fun h => absurd h h0, fun _ => ⟨?_, z2, fun j hj => ?_⟩, fun b j b1 b2 b3 => ?_⟩
    · rw [z3 _ _ (by omega), qw_s, upd_n (by decide)]; exact y2
    · rw [z3 _ _ (by omega), qw_n (by decide)]; exact y3 j hj
    · rw [z3 b j (by omega)]
      by_cases e : b = 196
      · subst e
        rw [qw_s, upd_n (by omega)]
        exact w33 _ _ b1 b2 b3
      · rw [qw_n e]
        exact w33 _ _ b1 b2 b3
theorem m_taken {lim : Int32} : fX12_taken N 216 (qH g V X) 196 lim = some (qH g (qw V 196 (upd (upd (upd (upd (V 196) 3 (V 196 2)) 2 0) 4 0) 5 lim)) X) := by
  unfold fX12_taken
  rw [q196_g2, Option.bind_some, q196_p3, Option.bind_some, q196_p2, Option.bind_some, qw_qw, qw_s, q196_p4, Option.bind_some, qw_qw, qw_s, q196_p5, Option.bind_some, qw_qw, qw_s]
theorem jFit (hJ : jA V X s) (hT : jT W) (hX : jX W) (e : ∀ b j, ¬ (b = 1 ∧ j = 2) → b ≠ 187 → b ≠ 188 → b ≠ 189 → b ≠ 190 → ¬ (b = 196 ∧ (j = 0 ∨ (2 ≤ j ∧ j ≤ 5) ∨ j = 32 ∨ j = 33)) → b ≠ 206 → b ≠ 207 → W b j = V b j) : jA W X s := by
  obtain ⟨h1, h2, j1, j2, j3, j4, j5, j6, j7, j8, j9, j10, j11⟩ := hJ
  refine ⟨h1.pt (fun b j h => e b j (by omega) (by omega) (by omega) (by omega) (by omega) (by omega) (by omega) (by omega)) (fun _ _ _ => rfl), h2.pt sEq.rf (fun b j h => e b j (by omega) (by omega) (by omega) (by omega) (by omega) (by omega) (by omega) (by omega)), hT, j2, ?_, ?_, ?_, ?_, ?_, ?_, hX, ?_, ?_⟩
  · exact j3.pt (fun b j h => e b j (by omega) (by omega) (by omega) (by omega) (by omega) (by omega) (by omega) (by omega))
  · exact j4.pt (fun b j h => e b j (by omega) (by omega) (by omega) (by omega) (by omega) (by omega) (by omega) (by omega)) (fun _ _ _ => rfl)
  · exact j5.pt (fun b j h => e b j (by omega) (by omega) (by omega) (by omega) (by omega) (by omega) (by omega) (by omega)) (fun _ _ _ => rfl)
  · exact j6.pt (fun b j h => e b j (by omega) (by omega) (by omega) (by omega) (by omega) (by omega) (by omega) (by omega))
  · exact j7.pt (fun b j h => e b j (by omega) (by omega) (by omega) (by omega) (by omega) (by omega) (by omega) (by omega))
  · exact j8.pt (fun b j h => e b j (by omega) (by omega) (by omega) (by omega) (by omega) (by omega) (by omega) (by omega))
  · exact j10.pt (fun b j h => e b j (by omega) (by omega) (by omega) (by omega) (by omega) (by omega) (by omega) (by omega))
  · exact j11.pt (fun b j h => e b j (by omega) (by omega) (by omega) (by omega) (by omega) (by omega) (by omega) (by omega))
theorem jT0 (h1 : V 1 2 = Int32.ofNat 0) (h2 : V 196 2 = Int32.ofNat 0) : jT V := ⟨0, fun _ => 0, ⟨h1, by omega, fun i hi => absurd hi (Nat.not_lt_zero _)⟩, h2, fun i hi => absurd hi (Nat.not_lt_zero _)⟩
theorem s_24 (hN : 3000 ≤ N) {f : zF} (hI : Inv f) : ∃ f2, zlc24 N 216 f = some f2 ∧ Inv f2 := by
  obtain ⟨g, V, X, s, rfl, hg, hJ⟩ := hI
  obtain ⟨⟨⟨hW, hD, hG, h9⟩, hWL, hR, hL, hS, hM, hNs, hNm⟩, hU, hR2⟩ := id hJ
  unfold zlc24
  obtain ⟨n, B, hcB, hn2, hB197⟩ := hR2.1
  have hjX := hR2.2.2.2.2.2.2.2.2.1
  have hn9 := hcB.2.1
  obtain ⟨W1, a1, a2, a3, a4⟩ := c_read (g := g) (X := X) hN hW hcB hR
  -- the reference's start
  have mstart : ∀ K : Nat → Nat → Int32, (∀ b j, ¬ (b = 1 ∧ j = 2) → b ≠ 187 → b ≠ 188 → b ≠ 189 → b ≠ 190 → K b j = V b j) → ∃ M, fX12_fits N 216 (qH g K X) 196 = (if okFit s B n = true then fX12_fits_99 N 216 N (qH g M X) 196 0 0 else some (qH g M X, -1)) ∧ mB M B n ∧ rM M s ∧ M 196 2 = Int32.ofNat 0 ∧ ∀ b j, ¬ (b = 196 ∧ (j = 0 ∨ (2 ≤ j ∧ j ≤ 5))) → M b j = K b j := by
    intro K hK
    have k2 : qT K 196 2 = Int32.ofNat n := by rw [qT_j (by decide), hK _ _ (by omega) (by omega) (by omega) (by omega) (by omega)]; exact hn2
    have hM3 : (qw (qT K) 196 (upd (upd (upd (upd (qT K 196) 3 (Int32.ofNat n)) 2 0) 4 0) 5 (940 : Int32))) 196 3 = Int32.ofNat n := by rw [qw_s, upd_n (by decide), upd_n (by decide), upd_n (by decide), upd_s]
    have hBM : mB (qw (qT K) 196 (upd (upd (upd (upd (qT K 196) 3 (Int32.ofNat n)) 2 0) 4 0) 5 (940 : Int32))) B n := ⟨hM3, hn9, fun i hi => ⟨(hcB.2.2 i hi).1, by rw [qw_n (by decide), qT_n (by decide), hK _ _ (by omega) (by omega) (by omega) (by omega) (by omega)]; exact hB197 i hi⟩⟩
    have hMM : rM (qw (qT K) 196 (upd (upd (upd (upd (qT K 196) 3 (Int32.ofNat n)) 2 0) 4 0) 5 (940 : Int32))) s := fun i hi => by rw [qw_n (by decide), qT_n (by decide), hK _ _ (by omega) (by omega) (by omega) (by omega) (by omega)]; exact hM i hi
    refine ⟨_, ?_, hBM, hMM, by rw [qw_s, upd_n (by decide), upd_n (by decide), upd_s]; rfl, fun b j hb => ?_⟩
    · unfold fX12_fits
      rw [m_thr0, Option.bind_some, q196_c, Option.bind_some, m_taken, Option.bind_some, k2, q196_g3, Option.bind_some, hM3, show (4 : Int32) = Int32.ofNat 4 from rfl, show (16 : Int32) = Int32.ofNat 16 from rfl, m_in (by omega) (by omega), Option.bind_some, qrg_k (by omega)]
      by_cases hr : 4 ≤ n ∧ n < 16 + 1
      · rw [decide_eq_true hr, if_neg qzt, Option.bind_some, show (2 : Int32) = Int32.ofNat 2 from rfl, qrem (by omega) (by omega)]
        by_cases h0 : n % 2 = 0
        · rw [if_neg (by rw [l1, qeq (by omega) (by omega)]; omega)]
          have eo : okFit s B n = okA s B 0 (n / 2) := by unfold okFit; rw [decide_eq_true (by omega)]; rfl
          rw [eo]
          exact m_readL hMM hW hBM (mm := n / 2) (by omega) rfl h0 (n / 2) N 0 (by omega) (by omega)
        · rw [if_pos (by rw [show n % 2 = 1 by omega]; rfl), if_neg (by unfold okFit; rw [decide_eq_false (by omega), Bool.false_and]; decide)]
      · rw [decide_eq_false hr, if_pos qzf, if_neg (by unfold okFit; rw [decide_eq_false (by omega), Bool.false_and]; decide)]
    · by_cases e : b = 196
      · subst e
        rw [qw_s, upd_n (by omega), upd_n (by omega), upd_n (by omega), upd_n (by omega), qT_j (by omega)]
      · rw [qw_n e, qT_n e]
  have hcut : ∀ b j, ¬ (b = 1 ∧ j = 2) → qw W1 1 (upd (W1 1) 2 0) b j = W1 b j := by
    intro b j hb
    by_cases e : b = 1
    · subst e
      rw [qw_s, upd_n (by omega)]
    · rw [qw_n e]
  cases hok : okFit s B n with
  | false =>
    rw [hok] at a1
    obtain ⟨M, b1, b2, b3, b4, b5⟩ := mstart (qw W1 1 (upd (W1 1) 2 0)) (fun b j c1 c2 c3 c4 c5 => by rw [hcut b j c1]; exact a4 b j (by omega) c4)
    rw [hok, if_neg (by decide)] at b1
    refine cstep (o1 := fX11_fits N 216 (qH g V X) 0) (m := fun ff => fX12_fits N 216 ff 196) (V1 := qw W1 1 (upd (W1 1) 2 0)) (X1 := X) (V2 := M) (X2 := X) (r := -1) hg ?_ b1 (jFit hJ (jT0 ?_ b4) (hjX.pt (fun b j h => ?_)) (fun b j c1 c2 c3 c4 c5 c6 c7 c8 => ?_))
    · unfold fX11_fits
      rw [q0_g11, Option.bind_some, q0_g0, Option.bind_some, q0_g1, Option.bind_some, q187_c, Option.bind_some, a1, zbd_some, q0_g0, Option.bind_some, q1_p2, Option.bind_some, if_pos qzf]
    · rw [b5 _ _ (by omega), qw_s, upd_s]; rfl
    · rw [b5 _ _ (by omega), hcut b j (by omega), a4 b j (by omega) (by omega)]
    · rw [b5 _ _ (by omega), hcut b j c1, a4 b j (by omega) c4]
  | true =>
    rw [hok] at a1
    have hk : n % 2 = 0 ∧ 2 ≤ n / 2 ∧ n / 2 ≤ 8 := by
      unfold okFit at hok
      rw [Bool.and_eq_true] at hok
      exact of_decide_eq_true hok.1
    have hkA : okA s B 0 (n / 2) = true := by
      unfold okFit at hok
      rw [Bool.and_eq_true] at hok
      exact hok.2
    have hE : ∀ j, j < n / 2 → kE B j < 81 := by
      intro j hj
      have := okA_at (n / 2) 0 (by omega) hkA j (by omega) hj
      unfold okc at this
      rw [Bool.and_eq_true] at this
      exact okc_e hW this.1 (hcB.2.2 _ (by omega)).1 (hcB.2.2 _ (by omega)).1
    obtain ⟨W2, d1, d2, d3, d4⟩ := c_find (g := g) (X := X) (V := qw W1 1 (upd (W1 1) 2 0)) hN hW (mm := n / 2) (by omega) hk.2.2 hE (hR.pt (fun b j x1 x2 => by rw [hcut b j (by omega)]; exact a4 b j (by omega) (by omega))) (by rw [hcut _ _ (by omega)]; exact a2) (fun j hj => by rw [hcut _ _ (by omega)]; exact a3 hok j hj)
    obtain ⟨M, b1, b2, b3, b4, b5⟩ := mstart W2 (fun b j c1 c2 c3 c4 c5 => by rw [d4 b j c5 c3 c2, hcut b j c1]; exact a4 b j (by omega) c4)
    rw [hok, if_pos rfl] at b1
    obtain ⟨W3, e1, e2, e3, e4⟩ := m_find (g := g) (X := X) hN hW (mm := n / 2) (by omega) hk.2.2 rfl hk.1 hE b3 b2
    rw [e1] at b1
    refine cstep (o1 := fX11_fits N 216 (qH g V X) 0) (m := fun ff => fX12_fits N 216 ff 196) (V1 := W2) (X1 := X) (V2 := W3) (X2 := X) (r := Int32.ofNat (nFit s B (n / 2))) hg ?_ b1 (jFit hJ (jT0 ?_ ?_) ?_ (fun b j c1 c2 c3 c4 c5 c6 c7 c8 => ?_))
    · unfold fX11_fits
      rw [q0_g11, Option.bind_some, q0_g0, Option.bind_some, q0_g1, Option.bind_some, q187_c, Option.bind_some, a1, zbd_some, q0_g0, Option.bind_some, q1_p2, Option.bind_some, if_neg qzt, q0_g11, Option.bind_some, q0_g1, Option.bind_some, q187_c, Option.bind_some, d1, zbd_some]
    · rw [e4 _ _ (by omega) (by omega) (by omega), b5 _ _ (by omega), d4 _ _ (by omega) (by omega) (by omega), qw_s, upd_s]; rfl
    · rw [e4 _ _ (by omega) (by omega) (by omega)]; exact b4
    · by_cases h0 : nFit s B (n / 2) = 0
      · exact hjX.pt (fun b j h => by rw [e2 h0 b j (by omega), b5 _ _ (by omega), d2 h0 b j (by omega), hcut b j (by omega), a4 b j (by omega) (by omega)])
      · obtain ⟨f1, f2, f3⟩ := d3 h0
        obtain ⟨g1, g2, g3⟩ := e3 h0
        have w : ∀ b j, b = 187 ∨ b = 188 → W3 b j = W2 b j := fun b j h => by rw [e4 _ _ (by omega) (by omega) (by omega), b5 _ _ (by omega)]
        exact Or.inr ⟨nFit s B (n / 2), by omega, nFit_le, by rw [w _ _ (by omega)]; exact f1, g1, by rw [w _ _ (by omega), f2, g2], fun i hi => by rw [w _ _ (by omega), f3 i hi, g3 i hi]⟩
    · rw [e4 _ _ c7 c8 (by omega), b5 _ _ (by omega), d4 _ _ c5 c3 c2, hcut b j c1, a4 b j (by omega) c4]
end QFV
