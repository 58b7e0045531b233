/-! a book's lines done -/
section QBC
variable {g : zF} {V W U K : Nat → Nat → Int32} {X Y Z : Nat → Nat → Int64} {N n m p o k pl d e c : Nat} {s t u B : Nat → Nat} {Q : sQ} {cs : List sC}
/-- a line done: why it is wrong (0: it is not), and what is so behind it -/
def bkDo (c : sC) (s : Nat → Nat) : Nat × (Nat → Nat) :=
  if c.1 = 0 then (if s (164 + c.2.1) = c.2.2 then 1 else 0, sU s (164 + c.2.1) c.2.2)
  else if c.1 = 1 then (if sWhyWalk s c.2.1 c.2.2 = 0 then 0 else 10 + sWhyWalk s c.2.1 c.2.2, sWalk s c.2.1 c.2.2)
  else if c.1 = 2 then (if sShut s c.2.1 = 1 then 21 else 0, if sShut s c.2.1 = 1 then s else sFlip s c.2.1)
  else if c.1 = 3 then (if sShut s c.2.1 = 0 then 31 else 0, if sShut s c.2.1 = 0 then s else sFlip s c.2.1)
  else if c.1 = 4 then (if sWhyFace s c.2.1 c.2.2 = 0 then 0 else 40 + sWhyFace s c.2.1 c.2.2, if sWhyFace s c.2.1 c.2.2 = 0 then sU s (147 + c.2.1) c.2.2 else s)
  else (if s 139 + c.2.1 ≤ 1000 then 0 else 51, if s 139 + c.2.1 ≤ 1000 then sGo c.2.1 s else s)
theorem bkDo_0 {a w d : Nat} (h : a = 0) : bkDo (a, w, d) s = (if s (164 + w) = d then 1 else 0, sU s (164 + w) d) := if_pos h
theorem bkDo_1 {a w d : Nat} (h : a = 1) : bkDo (a, w, d) s = (if sWhyWalk s w d = 0 then 0 else 10 + sWhyWalk s w d, sWalk s w d) := by
  unfold bkDo
  rw [if_neg (show ¬ a = 0 by omega), if_pos h]
theorem bkDo_2 {a w d : Nat} (h : a = 2) : bkDo (a, w, d) s = (if sShut s w = 1 then 21 else 0, if sShut s w = 1 then s else sFlip s w) := by
  unfold bkDo
  rw [if_neg (show ¬ a = 0 by omega), if_neg (show ¬ a = 1 by omega), if_pos h]
theorem bkDo_3 {a w d : Nat} (h : a = 3) : bkDo (a, w, d) s = (if sShut s w = 0 then 31 else 0, if sShut s w = 0 then s else sFlip s w) := by
  unfold bkDo
  rw [if_neg (show ¬ a = 0 by omega), if_neg (show ¬ a = 1 by omega), if_neg (show ¬ a = 2 by omega), if_pos h]
theorem bkDo_4 {a w d : Nat} (h : a = 4) : bkDo (a, w, d) s = (if sWhyFace s w d = 0 then 0 else 40 + sWhyFace s w d, if sWhyFace s w d = 0 then sU s (147 + w) d else s) := by
  unfold bkDo
  rw [if_neg (show ¬ a = 0 by omega), if_neg (show ¬ a = 1 by omega), if_neg (show ¬ a = 2 by omega), if_neg (show ¬ a = 3 by omega), if_pos h]
theorem bkDo_5 {a w d : Nat} (h : a = 5) : bkDo (a, w, d) s = (if s 139 + w ≤ 1000 then 0 else 51, if s 139 + w ≤ 1000 then sGo w s else s) := by
  unfold bkDo
  rw [if_neg (show ¬ a = 0 by omega), if_neg (show ¬ a = 1 by omega), if_neg (show ¬ a = 2 by omega), if_neg (show ¬ a = 3 by omega), if_neg (show ¬ a = 4 by omega)]
theorem sFlip_ok (h : sOK s) {l : Nat} (hl : l < s 4) : sOK (sFlip s l) := h.u (Or.inr (Or.inr (Or.inr ⟨rfl, Nat.xor_lt_two_pow h.2.1.2.1 (Nat.pow_lt_pow_right (by decide) hl)⟩)))
theorem bkDo_ok (h : sOK s) {c : sC} (hc : bOk Q c) (h3 : Q.2.1 = s 3) (h4 : Q.2.2.2 = s 4) : sOK (bkDo c s).2 ∧ sKp s (bkDo c s).2 ∧ (bkDo c s).1 < 200 ∧ ((bkDo c s).1 ≠ 0 → (bkDo c s).2 = s) := by
  obtain ⟨a, w, d⟩ := c
  obtain ⟨c1, c2, c3, c4, c5⟩ := hc
  rw [h4] at c2
  rw [h3] at c3
  dsimp only at c1 c2 c3 c4 c5
  have hww := sWhyWalk_lt (s := s) (l := w) (d := d)
  have hwf := sWhyFace_lt (s := s) (l := w) (d := d)
  have : a = 0 ∨ a = 1 ∨ a = 2 ∨ a = 3 ∨ a = 4 ∨ a = 5 := by omega
  rcases this with e | e | e | e | e | e
  · rw [bkDo_0 e]
    refine ⟨h.u (Or.inl ⟨w, rfl, c2 (by omega), c5⟩), sKp.u (by omega) (by have := c2 (by omega); have := h.1.2.2.2.2.1; omega), by dsimp only; split <;> omega, fun hn => ?_⟩
    dsimp only at hn ⊢
    split at hn
    · rename_i h1
      rw [← h1]
      exact sU_id
    · exact absurd rfl hn
  · rw [bkDo_1 e]
    refine ⟨sWalk_ok h (c2 (by omega)), sWalk_k h.1 (c2 (by omega)), by dsimp only; split <;> omega, fun hn => ?_⟩
    dsimp only at hn ⊢
    split at hn
    · exact absurd rfl hn
    · rename_i h1
      exact sWalk_s h1
  · rw [bkDo_2 e]
    dsimp only
    split
    · exact ⟨h, sKp.rf, by omega, fun _ => rfl⟩
    · exact ⟨sFlip_ok h (c2 (by omega)), sFlip_k, by omega, fun hn => absurd rfl hn⟩
  · rw [bkDo_3 e]
    dsimp only
    split
    · exact ⟨h, sKp.rf, by omega, fun _ => rfl⟩
    · exact ⟨sFlip_ok h (c2 (by omega)), sFlip_k, by omega, fun hn => absurd rfl hn⟩
  · rw [bkDo_4 e]
    dsimp only
    split
    · exact ⟨h.u (Or.inr (Or.inr (Or.inl ⟨w, rfl, c3 e, c5⟩))), sKp.u (by omega) (by have := c3 e; have := h.1.2.2.2.1; omega), by omega, fun hn => absurd rfl hn⟩
    · exact ⟨h, sKp.rf, by omega, fun _ => rfl⟩
  · rw [bkDo_5 e]
    dsimp only
    obtain ⟨g1, g2, -⟩ := sGo_ok w s h
    split
    · exact ⟨g1, g2, by omega, fun hn => absurd rfl hn⟩
    · exact ⟨h, sKp.rf, by omega, fun _ => rfl⟩
/-- lines from i on: why, how many, what is so -/
def bkRun (cs : List sC) : Nat → Nat → (Nat → Nat) → Nat × Nat × (Nat → Nat)
  | 0, i, s => (0, i, s)
  | m + 1, i, s => match cs[i]? with
    | none => (0, i, s)
    | some c => if (bkDo c s).1 = 0 then bkRun cs m (i + 1) (bkDo c s).2 else ((bkDo c s).1, i, (bkDo c s).2)
theorem bkRun_ok (hcs : ∀ c, c ∈ cs → bOk Q c) : ∀ m i (s : Nat → Nat), sOK s → Q.2.1 = s 3 → Q.2.2.2 = s 4 → sOK (bkRun cs m i s).2.2 ∧ sKp s (bkRun cs m i s).2.2 ∧ (bkRun cs m i s).1 < 200 ∧ i ≤ (bkRun cs m i s).2.1 ∧ (bkRun cs m i s).2.1 ≤ i + m ∧ ((bkRun cs m i s).2.1 = i → (bkRun cs m i s).2.2 = s) := by
  intro m
  induction m with
  | zero => intro i s h h3 h4; exact ⟨h, sKp.rf, (show 0 < 200 by omega), Nat.le_refl _, Nat.le_refl _, fun _ => rfl⟩
  | succ m ih =>
    intro i s h h3 h4
    unfold bkRun
    cases hc : cs[i]? with
    | none => exact ⟨h, sKp.rf, (show 0 < 200 by omega), Nat.le_refl _, Nat.le_add_right _ _, fun _ => rfl⟩
    | some c =>
      obtain ⟨d1, d2, d3, d4⟩ := bkDo_ok h (hcs c (List.mem_of_getElem? hc)) h3 h4
      dsimp only
      split
      · obtain ⟨e1, e2, e3, e4, e5, e6⟩ := ih (i + 1) (bkDo c s).2 d1 (by rw [d2 3 (by omega)]; exact h3) (by rw [d2 4 (by omega)]; exact h4)
        exact ⟨e1, d2.tr e2, e3, by omega, by omega, fun h => by omega⟩
      · rename_i hne
        exact ⟨d1, d2, d3, Nat.le_refl _, Nat.le_add_right _ _, fun _ => d4 hne⟩
/-! the class -/
theorem c_doHours (hN : 3000 ≤ N) {n : Nat} (hn : n < 100) : ∀ m i k V s, i + m = n → m < k → rF V 4 s → rS V 23 s → sOK s → s 139 + m ≤ 1000 → ∃ W, fX1_doLine_141 N 216 k (qH g V X) 23 (Int32.ofNat n) (Int32.ofNat i) = some (qH g W X, 0) ∧ rS W 23 (sGo m s) ∧ qfr V W 23 8 := by
  intro m
  induction m with
  | zero =>
    intro i k V s hi hk hR hS hs h9
    obtain ⟨k, rfl⟩ := Nat.exists_eq_succ_of_ne_zero (n := k) (by omega)
    unfold fX1_doLine_141
    rw [if_pos (by rw [qle (by omega) (by omega)]; omega)]
    exact ⟨V, rfl, hS, qfr.rf⟩
  | succ m ih =>
    intro i k V s hi hk hR hS hs h9
    obtain ⟨k, rfl⟩ := Nat.exists_eq_succ_of_ne_zero (n := k) (by omega)
    obtain ⟨W1, b1, b2, b3⟩ := e_goHour (g := g) (X := X) hN qS_23 qF_4 hR hS hs.1 hs.2.1 (by omega)
    obtain ⟨a1, a2, a3⟩ := sHour_ok hs (by omega)
    obtain ⟨W2, c1, c2, c3⟩ := ih (i + 1) k W1 (sHour s) (by omega) (by omega) (a2.eq.toF hs.1 (hR.fr b3 (Or.inl (by omega)))) b2 a1 (by omega)
    unfold fX1_doLine_141
    rw [if_neg (by rw [qle (by omega) (by omega)]; omega), c23_c, Option.bind_some, b1, Option.bind_some, l1, qadd, c1]
    have eg : sGo (m + 1) s = sGo m (sHour s) := if_pos (by omega)
    rw [eg]
    exact ⟨W2, rfl, c2, b3.tr c3⟩
theorem q10 {a : Nat} (h : a < 1000) (k : Nat) (hk : k < 1000) : (if Int32.ofNat a = 0 then some (0 : Int32) else some (Int32.ofNat k + Int32.ofNat a)) = some (Int32.ofNat (if a = 0 then 0 else k + a)) := by
  by_cases e : a = 0
  · rw [if_pos e, if_pos (by rw [e]; rfl)]; rfl
  · rw [if_neg e, if_neg (by rw [l0, qeq (by omega) (by omega)]; exact e), qadd]
theorem c_doLine (hN : 3000 ≤ N) {i : Nat} {c : sC} (hi : i < 40) (hR : rF V 4 s) (hS : rS V 23 s) (hs : sOK s) (hc : bOk Q c) (h3 : Q.2.1 = s 3) (h4 : Q.2.2.2 = s 4) (e7 : V 57 i = Int32.ofNat (10 + c.1)) (e8 : V 58 i = Int32.ofNat (if c.1 = 5 then 0 else c.2.1)) (e9 : V 59 i = Int32.ofNat (if c.1 = 5 then c.2.1 else c.2.2)) : ∃ W, fX1_doLine N 216 (qH g V X) 56 23 (Int32.ofNat i) = some (qH g W X, Int32.ofNat (bkDo c s).1) ∧ rS W 23 (bkDo c s).2 ∧ qfr V W 23 8 := by
  obtain ⟨hW, hD, hG, h9⟩ := id hs
  obtain ⟨⟨w0, w0b⟩, ⟨w1, w1b⟩, w2, w3, w4, -⟩ := id hW
  obtain ⟨a, w, d⟩ := c
  obtain ⟨c1, c2, c3, c4, c5⟩ := hc
  rw [h4] at c2
  rw [h3] at c3
  dsimp only at c1 c2 c3 c4 c5 e7 e8 e9
  have hww := sWhyWalk_lt (s := s) (l := w) (d := d)
  have hwf := sWhyFace_lt (s := s) (l := w) (d := d)
  have wr : ∀ {f : zF} {k a : Nat}, a < 1000 → k < 1000 → fX1_wrongBy N 216 f (Int32.ofNat k) (Int32.ofNat a) = some (Int32.ofNat (if a = 0 then 0 else k + a)) := fun h h2 => q10 h _ h2
  unfold fX1_doLine
  rw [q56_g4, Option.bind_some, e_at qk_58 (by omega) (by omega), Option.bind_some, q56_g5, Option.bind_some, e_at qk_59 (by omega) (by omega), Option.bind_some, q56_g3, Option.bind_some, e_at qk_57 (by omega) (by omega), Option.bind_some, e7, e8, e9]
  have : a = 0 ∨ a = 1 ∨ a = 2 ∨ a = 3 ∨ a = 4 ∨ a = 5 := by omega
  rcases this with e | e | e | e | e | e
  · rw [bkDo_0 e, if_neg (show ¬ a = 5 by omega), if_neg (show ¬ a = 5 by omega), if_pos (by rw [e]; rfl), c23_c, Option.bind_some]
    obtain ⟨W, x1, x2, x3⟩ := e_turnTo (g := g) (X := X) (N := N) qS_23 hS hW hD (c2 (by omega)) c5
    rw [x1, zbd_some, l0, wr (by split <;> omega) (by omega), Option.bind_some]
    refine ⟨W, ?_, x2, x3⟩
    congr 3
    split <;> rfl
  · rw [bkDo_1 e, if_neg (show ¬ a = 5 by omega), if_neg (show ¬ a = 5 by omega), if_neg (by rw [e]; decide), if_pos (by rw [e]; rfl), c23_c, Option.bind_some]
    obtain ⟨W, x1, x2, x3⟩ := e_walkTo (g := g) (X := X) hN qS_23 qF_4 hR hS hW hD (c2 (by omega)) c5
    rw [x1, zbd_some, show (10 : Int32) = Int32.ofNat 10 from rfl, wr (by omega) (by omega), Option.bind_some]
    exact ⟨W, rfl, x2, x3⟩
  · rw [bkDo_2 e, if_neg (show ¬ a = 5 by omega), if_neg (show ¬ a = 5 by omega), if_neg (by rw [e]; decide), if_neg (by rw [e]; decide), if_pos (by rw [e]; rfl), c23_c, Option.bind_some, l1]
    obtain ⟨W, x1, x2, x3⟩ := e_setEyes (g := g) (X := X) (N := N) (v := 1) qS_23 hS hW (c2 (by omega)) (by omega)
    rw [x1, zbd_some, show (20 : Int32) = Int32.ofNat 20 from rfl, wr (by split <;> omega) (by omega), Option.bind_some]
    refine ⟨W, ?_, x2, x3⟩
    congr 3
    split <;> rfl
  · rw [bkDo_3 e, if_neg (show ¬ a = 5 by omega), if_neg (show ¬ a = 5 by omega), if_neg (by rw [e]; decide), if_neg (by rw [e]; decide), if_neg (by rw [e]; decide), if_pos (by rw [e]; rfl), c23_c, Option.bind_some, l0]
    obtain ⟨W, x1, x2, x3⟩ := e_setEyes (g := g) (X := X) (N := N) (v := 0) qS_23 hS hW (c2 (by omega)) (by omega)
    rw [x1, zbd_some, show (30 : Int32) = Int32.ofNat 30 from rfl, wr (by split <;> omega) (by omega), Option.bind_some]
    refine ⟨W, ?_, x2, x3⟩
    congr 3
    split <;> rfl
  · rw [bkDo_4 e, if_neg (show ¬ a = 5 by omega), if_neg (show ¬ a = 5 by omega), if_neg (by rw [e]; decide), if_neg (by rw [e]; decide), if_neg (by rw [e]; decide), if_neg (by rw [e]; decide), if_pos (by rw [e]; rfl), c23_c, Option.bind_some]
    obtain ⟨W, x1, x2, x3⟩ := e_faceTo (g := g) (X := X) hN qS_23 qF_4 hR hS hW hD (c3 e) c5
    rw [x1, zbd_some, show (40 : Int32) = Int32.ofNat 40 from rfl, wr (by omega) (by omega), Option.bind_some]
    exact ⟨W, rfl, x2, x3⟩
  · have c4' := c4 e
    rw [bkDo_5 e, if_pos e, if_pos e, if_neg (by rw [e]; decide), if_neg (by rw [e]; decide), if_neg (by rw [e]; decide), if_neg (by rw [e]; decide), if_neg (by rw [e]; decide), c23_g1, Option.bind_some, hS.1, qadd, show (1000 : Int32) = Int32.ofNat 1000 from rfl]
    by_cases h10 : s 139 + w ≤ 1000
    · rw [if_pos (by rw [qle (by omega) (by omega)]; exact h10), if_pos h10, if_pos h10, l0]
      obtain ⟨W, x1, x2, x3⟩ := c_doHours (g := g) (X := X) hN (n := w) (by omega) w 0 N V s (by omega) (by omega) hR hS hs (by omega)
      exact ⟨W, x1, x2, x3⟩
    · rw [if_neg (by rw [qle (by omega) (by omega)]; exact h10), if_neg h10, if_neg h10]
      exact ⟨V, rfl, hS, qfr.rf⟩
theorem C_bookL (hN : 3000 ≤ N) {a1 : Int32} (hl : cs.length ≤ 40) (hcs : ∀ c, c ∈ cs → bOk Q c) : ∀ m i k V s, i + m = cs.length → m + 1 < k → rF V 4 s → rS V 23 s → sOK s → Q.2.1 = s 3 → Q.2.2.2 = s 4 → bCo V cs → ∃ W, fX11_book_81 N 216 k (qH g V X) 0 a1 (Int32.ofNat i) 0 (Int32.ofNat i) = fX11_book_131 N 216 (qH g W X) 0 a1 (Int32.ofNat (bkRun cs m i s).2.1) (Int32.ofNat (bkRun cs m i s).1) ∧ rS W 23 (bkRun cs m i s).2.2 ∧ qfr V W 23 8 := by
  intro m
  induction m with
  | zero =>
    intro i k V s hi hk hR hS hs h3 h4 hc
    obtain ⟨k, rfl⟩ := Nat.exists_eq_succ_of_ne_zero (n := k) (by omega)
    unfold fX11_book_81
    rw [q0_g6, Option.bind_some, q56_g2, Option.bind_some, hc.1, if_pos (by rw [qle (by omega) (by omega)]; omega)]
    exact ⟨V, rfl, hS, qfr.rf⟩
  | succ m ih =>
    intro i k V s hi hk hR hS hs h3 h4 hc
    obtain ⟨k, rfl⟩ := Nat.exists_eq_succ_of_ne_zero (n := k) (by omega)
    have hci : cs[i]? = some cs[i] := List.getElem?_eq_getElem (by omega)
    have hb := hcs cs[i] (List.getElem_mem _)
    obtain ⟨e7, e8, e9⟩ := hc.2 i _ hci
    obtain ⟨W, x1, x2, x3⟩ := c_doLine (g := g) (X := X) hN (by omega) hR hS hs hb h3 h4 e7 e8 e9
    obtain ⟨d1, d2, d3, d4⟩ := bkDo_ok hs hb h3 h4
    have hcW : bCo W cs := hc.cg (fun b b1 b2 => x3 b (by omega))
    unfold fX11_book_81
    unfold fX11_book_124
    rw [q0_g6, Option.bind_some, q56_g2, Option.bind_some, hc.1, if_neg (by rw [qle (by omega) (by omega)]; omega), if_pos rfl, Option.bind_some, q0_g3, Option.bind_some, q56_c, Option.bind_some, x1, zbd_some, show Int32.ofNat i + 1 = Int32.ofNat (i + 1) by rw [l1, qadd]]
    unfold bkRun
    rw [hci]
    dsimp only
    by_cases h0 : (bkDo cs[i] s).1 = 0
    · rw [if_pos (by rw [h0]; rfl), if_pos h0, h0]
      obtain ⟨W2, y1, y2, y3⟩ := ih (i + 1) k W (bkDo cs[i] s).2 (by omega) (by omega) (d2.eq.toF hs.1 (hR.fr x3 (Or.inl (by omega)))) x2 d1 (by rw [d2 3 (by omega)]; exact h3) (by rw [d2 4 (by omega)]; exact h4) hcW
      exact ⟨W2, y1, y2, x3.tr y3⟩
    · rw [if_neg (by rw [l0, qeq (by omega) (by omega)]; exact h0), if_neg h0]
      obtain ⟨k, rfl⟩ := Nat.exists_eq_succ_of_ne_zero (n := k) (by omega)
      refine ⟨W, ?_, x2, x3⟩
      unfold fX11_book_81
      rw [q0_g6, Option.bind_some, q56_g2, Option.bind_some]
      by_cases hle : W 56 2 ≤ Int32.ofNat (i + 1)
      · rw [if_pos hle]
      · rw [if_neg hle, if_neg (by rw [l0, qeq (by omega) (by omega)]; exact h0)]
/-! the reference -/
theorem m_224 {f : zF} {a y : Nat} (ha : a < 100) (hy : y < 200) : fX12_does_224 N 216 f (Int32.ofNat a) (Int32.ofNat y) = some (f, Int32.ofNat (if y = 0 then 0 else 10 * a + y)) := by
  unfold fX12_does_224
  by_cases e : y = 0
  · rw [if_pos e, if_pos (by rw [e]; decide)]; rfl
  · rw [if_neg e, if_neg (by rw [l0, qle (by omega) (by omega)]; omega), show (10 : Int32) = Int32.ofNat 10 from rfl, qmul, qadd]
theorem m_does (hN : 3000 ≤ N) {c : sC} {z : Int32} (hM : rM V s) (hs : sOK s) (hc : bOk Q c) (h3 : Q.2.1 = s 3) (h4 : Q.2.2.2 = s 4) (hz : sdd c.1 → z = Int32.ofNat c.2.2) : ∃ W, fX12_does N 216 (qH g V X) 196 (Int32.ofNat c.1) (Int32.ofNat c.2.1) z = some (qH g W X, Int32.ofNat (bkDo c s).1) ∧ rM W (bkDo c s).2 ∧ qfr V W 198 1 := by
  obtain ⟨hW, hD, hG, h9⟩ := id hs
  obtain ⟨⟨w0, w0b⟩, ⟨w1, w1b⟩, w2, w3, w4, -⟩ := id hW
  obtain ⟨d139, d140, d141, d147, d159, d164, d169, dinj⟩ := id hD
  obtain ⟨a, w, d⟩ := c
  obtain ⟨c1, c2, c3, c4, c5⟩ := hc
  rw [h4] at c2
  rw [h3] at c3
  dsimp only at c1 c2 c3 c4 c5 hz
  have hww := sWhyWalk_lt (s := s) (l := w) (d := d)
  have hwf := sWhyFace_lt (s := s) (l := w) (d := d)
  have qf : ∀ r : Nat → Int32, qfr V (qw V 198 r) 198 1 := fun r b hb => qw_n (by omega)
  show ∃ W, fX12_does N 216 (qH g V X) 196 (Int32.ofNat a) (Int32.ofNat w) z = some (qH g W X, Int32.ofNat (bkDo (a, w, d) s).1) ∧ rM W (bkDo (a, w, d) s).2 ∧ qfr V W 198 1
  unfold fX12_does
  have : a = 0 ∨ a = 1 ∨ a = 2 ∨ a = 3 ∨ a = 4 ∨ a = 5 := by omega
  have eyes : (a = 2 ∨ a = 3) → ∃ W, fX12_does_116 N 216 (qH g V X) 196 (Int32.ofNat a) (Int32.ofNat w) = some (qH g W X, Int32.ofNat (if sShut s w = (if a = 2 then 1 else 0) then 10 * a + 1 else 0)) ∧ rM W (if sShut s w = (if a = 2 then 1 else 0) then s else sFlip s w) ∧ qfr V W 198 1 := by
    intro e
    have hl := c2 (by omega)
    have hsl := sShut_lt (s := s) w
    unfold fX12_does_116
    rw [q196_c, Option.bind_some, m_isShut hN hM hW hD hl, Option.bind_some]
    have go : ∀ b : Bool, fX12_does_131 N 216 (qH g V X) 196 (Int32.ofNat a) (Int32.ofNat w) (qz (decide (sShut s w = 1))) (qz b) = if decide (sShut s w = 1) = b then fX12_does_139 N 216 (qH g V X) 196 (Int32.ofNat a) (Int32.ofNat w) 1 else fX12_does_139 N 216 (qH g V X) 196 (Int32.ofNat a) (Int32.ofNat w) 0 := by
      intro b
      unfold fX12_does_131
      by_cases h : decide (sShut s w = 1) = b
      · rw [if_pos h, if_pos (by rw [qzEq]; exact h)]
      · rw [if_neg h, if_neg (by rw [qzEq]; exact h)]
    have same : ∃ W, fX12_does_139 N 216 (qH g V X) 196 (Int32.ofNat a) (Int32.ofNat w) 1 = some (qH g W X, Int32.ofNat (10 * a + 1)) ∧ rM W s ∧ qfr V W 198 1 := by
      unfold fX12_does_139
      rw [if_neg (show ¬ (1 : Int32) = 0 by decide), l1, m_224 (by omega) (by omega)]
      exact ⟨V, rfl, hM, qfr.rf⟩
    have flip : ∃ W, fX12_does_139 N 216 (qH g V X) 196 (Int32.ofNat a) (Int32.ofNat w) 0 = some (qH g W X, Int32.ofNat 0) ∧ rM W (sFlip s w) ∧ qfr V W 198 1 := by
      unfold fX12_does_139
      rw [if_pos rfl, q196_g6, Option.bind_some, show (140 : Int32) = Int32.ofNat 140 from rfl, m_ld hM (by omega), Option.bind_some, qbits_sh (by omega), qxor, m_st (by omega), Option.bind_some, l0, m_224 (by omega) (by omega)]
      exact ⟨_, rfl, hM.set, qf _⟩
    rcases e with e | e
    · rw [if_pos (by rw [e]; rfl), show (1 : Int32) = qz true from rfl, go, if_pos e]
      by_cases h : sShut s w = 1
      · rw [if_pos (decide_eq_true h), if_pos h, if_pos h]; exact same
      · rw [if_neg (by rw [decide_eq_false h]; decide), if_neg h, if_neg h]; exact flip
    · rw [if_neg (by rw [e]; decide), l0, show Int32.ofNat 0 = qz false from rfl, go, if_neg (show ¬ a = 2 by omega)]
      by_cases h : sShut s w = 0
      · rw [if_pos (decide_eq_false (by omega)), if_pos h, if_pos h]; exact same
      · rw [if_neg (by rw [decide_eq_true (show sShut s w = 1 by omega)]; decide), if_neg h, if_neg h]; exact flip
  rcases this with e | e | e | e | e | e
  · have hl := c2 (by omega)
    rw [hz (Or.inl e), bkDo_0 e, if_pos (by rw [e]; rfl), q196_g6, Option.bind_some, show (164 : Int32) = Int32.ofNat 164 from rfl, qadd, m_ld hM (by omega), Option.bind_some]
    have h59 : ∀ y : Nat, y < 2 → ∃ W, fX12_does_59 N 216 (qH g V X) 196 (Int32.ofNat a) (Int32.ofNat w) (Int32.ofNat d) (Int32.ofNat y) = some (qH g W X, Int32.ofNat y) ∧ rM W (sU s (164 + w) d) ∧ qfr V W 198 1 := by
      intro y hy
      unfold fX12_does_59
      rw [q196_g6, Option.bind_some, show (164 : Int32) = Int32.ofNat 164 from rfl, qadd, m_st (by omega), Option.bind_some, m_224 (by omega) (by omega)]
      refine ⟨_, ?_, hM.set, qf _⟩
      congr 3
      split <;> omega
    have hd4 := d164 w hl
    by_cases h : s (164 + w) = d
    · rw [if_pos (by rw [h]), if_pos h]; exact h59 1 (by omega)
    · rw [if_neg (by rw [qeq (by omega) (by omega)]; exact h), if_neg h]; exact h59 0 (by omega)
  · have hl := c2 (by omega)
    have dl := d159 w hl
    rw [hz (Or.inr (Or.inl e)), bkDo_1 e, if_neg (by rw [e]; decide), if_pos (by rw [e]; rfl), q196_c, Option.bind_some, m_whyWalk hN hM hW hD hl c5, Option.bind_some]
    by_cases h : sWhyWalk s w d = 0
    · obtain ⟨t, ht, ht2⟩ := sWalk_t h
      rw [if_pos (by rw [h]; rfl), if_pos h, q196_g6, Option.bind_some, Option.bind_some, show (159 : Int32) = Int32.ofNat 159 from rfl, qadd, m_ld hM (by omega), Option.bind_some, Option.bind_some, m_beside hM hW dl c5, Option.bind_some, ht, qo_some, m_st (by omega), Option.bind_some, h, m_224 (by omega) (by omega), ht2]
      exact ⟨_, rfl, hM.set, qf _⟩
    · rw [if_neg (by rw [l0, qeq (by omega) (by omega)]; exact h), if_neg h, m_224 (by omega) (by omega), if_neg h, sWalk_s h, e]
      exact ⟨V, rfl, hM, qfr.rf⟩
  · obtain ⟨W, x1, x2, x3⟩ := eyes (Or.inl e)
    rw [bkDo_2 e, if_neg (by rw [e]; decide), if_neg (by rw [e]; decide), if_pos (by rw [e]; rfl), x1]
    rw [if_pos e] at x2 ⊢
    rw [e]
    exact ⟨W, rfl, x2, x3⟩
  · obtain ⟨W, x1, x2, x3⟩ := eyes (Or.inr e)
    rw [bkDo_3 e, if_neg (by rw [e]; decide), if_neg (by rw [e]; decide), if_neg (by rw [e]; decide), if_pos (by rw [e]; rfl), x1]
    rw [if_neg (show ¬ a = 2 by omega)] at x2 ⊢
    rw [e]
    exact ⟨W, rfl, x2, x3⟩
  · have hl := c3 e
    rw [hz (Or.inr (Or.inr e)), bkDo_4 e, if_neg (by rw [e]; decide), if_neg (by rw [e]; decide), if_neg (by rw [e]; decide), if_neg (by rw [e]; decide), if_pos (by rw [e]; rfl), q196_c, Option.bind_some, m_whyFace hN hM hW hD hl c5, Option.bind_some]
    by_cases h : sWhyFace s w d = 0
    · rw [if_pos (by rw [h]; rfl), if_pos h, if_pos h, q196_g6, Option.bind_some, show (147 : Int32) = Int32.ofNat 147 from rfl, qadd, m_st (by omega), Option.bind_some, h, m_224 (by omega) (by omega)]
      exact ⟨_, rfl, hM.set, qf _⟩
    · rw [if_neg (by rw [l0, qeq (by omega) (by omega)]; exact h), if_neg h, if_neg h, m_224 (by omega) (by omega), if_neg h, e]
      exact ⟨V, rfl, hM, qfr.rf⟩
  · have c4' := c4 e
    rw [bkDo_5 e, if_neg (by rw [e]; decide), if_neg (by rw [e]; decide), if_neg (by rw [e]; decide), if_neg (by rw [e]; decide), if_neg (by rw [e]; decide), q196_g6, Option.bind_some, show (139 : Int32) = Int32.ofNat 139 from rfl, m_ld hM (by omega), Option.bind_some, qadd, show (1000 : Int32) = Int32.ofNat 1000 from rfl]
    unfold fX12_does_211
    by_cases h10 : s 139 + w ≤ 1000
    · rw [if_pos (by rw [qle (by omega) (by omega)]; exact h10), if_pos h10, if_pos h10, if_pos rfl, q196_c, Option.bind_some]
      obtain ⟨W, x1, x2, x3⟩ := m_goesOn2 (g := g) (X := X) hN (n := w) (by omega) w 0 N V s (by omega) (by omega) hM hs
      unfold fX12_goesOn
      rw [show (0 : Int32) = Int32.ofNat 0 from rfl, x1, zbd_some, m_224 (by omega) (by omega)]
      exact ⟨W, rfl, x2, x3⟩
    · rw [if_neg (by rw [qle (by omega) (by omega)]; exact h10), if_neg h10, if_neg h10, if_neg (show ¬ (1 : Int32) = 0 by decide), l1, m_224 (by omega) (by omega), e]
      exact ⟨V, rfl, hM, qfr.rf⟩
theorem M_bookL (hN : 3000 ≤ N) {a1 : Int32} (hl : cs.length ≤ 40) (hcs : ∀ c, c ∈ cs → bOk Q c) : ∀ m i k V s, i + m = cs.length → m + 1 < k → rM V s → sOK s → Q.2.1 = s 3 → Q.2.2.2 = s 4 → bMo V cs → V 196 37 = Int32.ofNat cs.length → V 209 0 = Int32.ofNat 0 → V 209 1 = Int32.ofNat i → ∃ W, fX12_book_111 N 216 k (qH g V X) 196 a1 (-1) (Int32.ofNat i) = fX12_book_191 N 216 (qH g W X) 196 a1 (if (bkRun cs m i s).1 = 0 then -1 else Int32.ofNat (bkRun cs m i s).2.1) ∧ rM W (bkRun cs m i s).2.2 ∧ W 209 0 = Int32.ofNat (bkRun cs m i s).1 ∧ W 209 1 = Int32.ofNat (bkRun cs m i s).2.1 ∧ ∀ b, b ≠ 198 → b ≠ 209 → W b = V b := by
  intro m
  induction m with
  | zero =>
    intro i k V s hi hk hM hs h3 h4 hc h37 h0 h1
    obtain ⟨k, rfl⟩ := Nat.exists_eq_succ_of_ne_zero (n := k) (by omega)
    unfold fX12_book_111
    rw [q196_g37, Option.bind_some, h37, if_pos (by rw [qle (by omega) (by omega)]; omega)]
    exact ⟨V, rfl, hM, h0, h1, fun _ _ _ => rfl⟩
  | succ m ih =>
    intro i k V s hi hk hM hs h3 h4 hc h37 h0 h1
    obtain ⟨k, rfl⟩ := Nat.exists_eq_succ_of_ne_zero (n := k) (by omega)
    have hci : cs[i]? = some cs[i] := List.getElem?_eq_getElem (by omega)
    have hb := hcs cs[i] (List.getElem_mem _)
    obtain ⟨e7, e8, e9⟩ := hc i _ hci
    obtain ⟨W, x1, x2, x3⟩ := m_does (g := g) (X := X) (z := V 200 (3 * i + 2)) hN hM hs hb h3 h4 e9
    obtain ⟨d1, d2, d3, d4⟩ := bkDo_ok hs hb h3 h4
    unfold fX12_book_111
    unfold fX12_book_185
    rw [q196_g37, Option.bind_some, h37, if_neg (by rw [qle (by omega) (by omega)]; omega), if_neg (show ¬ (0 : Int32) ≤ -1 by decide), q196_g38, Option.bind_some, q196_g8, Option.bind_some, l3, qmul, qlI (t := 0) qk_200 (Or.inl rfl) (by omega) (by omega), Option.bind_some, Option.bind_some, show Int32.ofNat (3 * i) + (1 : Int32) = Int32.ofNat (3 * i + 1) by rw [l1, qadd], qlI (t := 0) qk_200 (Or.inl rfl) (by omega) (by omega), Option.bind_some, Option.bind_some, show Int32.ofNat (3 * i) + (2 : Int32) = Int32.ofNat (3 * i + 2) by rw [show (2 : Int32) = Int32.ofNat 2 from rfl, qadd], qlI (t := 0) qk_200 (Or.inl rfl) (by omega) (by omega), Option.bind_some, q196_c, Option.bind_some, e7, e8, x1, zbd_some, l0, qsI (t := 0) qk_209 (Or.inl rfl) (by omega) (by omega), Option.bind_some, q196_g38, Option.bind_some, qlI (t := 0) qk_209 (Or.inl rfl) (by omega) (by omega), Option.bind_some, qw_s, upd_s, show Int32.ofNat i + 1 = Int32.ofNat (i + 1) by rw [l1, qadd]]
    have er : bkRun cs (m + 1) i s = if (bkDo cs[i] s).1 = 0 then bkRun cs m (i + 1) (bkDo cs[i] s).2 else ((bkDo cs[i] s).1, i, (bkDo cs[i] s).2) := by
      conv => lhs; unfold bkRun
      rw [hci]
    have w209 : W 209 = V 209 := x3 209 (by omega)
    by_cases hz : (bkDo cs[i] s).1 = 0
    · rw [if_pos hz] at er
      rw [er, if_pos (by rw [hz, qle (by omega) (by omega)]; omega), Option.bind_some, l1, qlI (t := 0) qk_209 (Or.inl rfl) (by omega) (by omega), Option.bind_some, qw_s, upd_n (by decide), w209, h1, qadd, qsI (t := 0) qk_209 (Or.inl rfl) (by omega) (by omega), Option.bind_some, qw_qw, qw_s, hz]
      obtain ⟨W2, y1, y2, y3, y4, y5⟩ := ih (i + 1) k (qw W 209 (upd (upd (V 209) 0 (Int32.ofNat 0)) 1 (Int32.ofNat (i + 1)))) (bkDo cs[i] s).2 (by omega) (by omega) (fun j hj => by rw [qw_n (by decide)]; exact x2 j hj) d1 (by rw [d2 3 (by omega)]; exact h3) (by rw [d2 4 (by omega)]; exact h4) (hc.cg (fun j _ => by rw [qw_n (by decide), x3 200 (by omega)])) (by rw [qw_n (by decide), x3 196 (by omega)]; exact h37) (by rw [qw_s, upd_n (by decide), upd_s]) (by rw [qw_s, upd_s])
      exact ⟨W2, y1, y2, y3, y4, fun b b1 b2 => by rw [y5 b b1 b2, qw_n b2, x3 b (by omega)]⟩
    · rw [if_neg hz] at er
      rw [er, if_neg (by rw [qle (by omega) (by omega)]; omega)]
      dsimp only
      rw [if_neg hz]
      obtain ⟨k, rfl⟩ := Nat.exists_eq_succ_of_ne_zero (n := k) (by omega)
      refine ⟨qw W 209 (upd (V 209) 0 (Int32.ofNat (bkDo cs[i] s).1)), ?_, fun j hj => by rw [qw_n (by decide)]; exact x2 j hj, by rw [qw_s, upd_s], by rw [qw_s, upd_n (by decide)]; exact h1, fun b b1 b2 => by rw [qw_n b2, x3 b (by omega)]⟩
      rw [← w209]
      unfold fX12_book_111
      rw [q196_g37, Option.bind_some]
      by_cases hle : (qw W 209 (upd (W 209) 0 (Int32.ofNat (bkDo cs[i] s).1))) 196 37 ≤ Int32.ofNat (i + 1)
      · rw [if_pos hle]
      · rw [if_neg hle, if_pos (show (0 : Int32) ≤ Int32.ofNat i by rw [l0, qle (by omega) (by omega)]; omega)]
end QBC
