/-! a field: steps of the reference -/
section QFG
variable {g : zF} {V W U K C : Nat → Nat → Int32} {X Y Z D : Nat → Nat → Int64} {N n m p o k pl d e c ln : Nat} {s t u B h : Nat → Nat} {q : Nat → List Nat} {fl : Bool}
/-- the reference's row of what is read; its names -/
def gR (V : Nat → Nat → Int32) (h : Nat → Nat) : Prop := ∀ j, j < 139 → V 199 j = Int32.ofNat (h j)
def gX (X : Nat → Nat → Int64) (h : Nat → Nat) (q : Nat → List Nat) : Prop := wMsR X ∧ (∀ i, i < h 2 → X 201 (15 + i) = Int64.ofNat (r8 (q i))) ∧ (∀ i, i < h 3 → X 201 (19 + i) = Int64.ofNat (r8 (q (4 + i)))) ∧ ∀ i, i < h 4 → X 201 (25 + i) = Int64.ofNat (r8 (q (10 + i)))
def gFr (V W : Nat → Nat → Int32) (X Y : Nat → Nat → Int64) : Prop := (∀ j, j ≠ 4 → (j < 11 ∨ 18 < j) → j ≠ 20 → W 196 j = V 196 j) ∧ (∀ b, b ≠ 196 → b ≠ 199 → W b = V b) ∧ (∀ b, b ≠ 196 → b ≠ 201 → Y b = X b) ∧ ∀ j, j < 15 → Y 201 j = X 201 j
theorem gFr.rf : gFr V V X X := ⟨fun _ _ _ _ => rfl, fun _ _ _ => rfl, fun _ _ _ => rfl, fun _ _ => rfl⟩
theorem gFr.tr (h1 : gFr V W X Y) (h2 : gFr W U Y Z) : gFr V U X Z := ⟨fun j a b c => by rw [h2.1 j a b c, h1.1 j a b c], fun b x y => by rw [h2.2.1 b x y, h1.2.1 b x y], fun b x y => by rw [h2.2.2.1 b x y, h1.2.2.1 b x y], fun j hj => by rw [h2.2.2.2 j hj, h1.2.2.2 j hj]⟩
theorem mFr.gf (h1 : mFr V W X Y) : gFr V W X Y := ⟨fun j a b _ => h1.1 j a b, fun b x _ => h1.2.1 b x, fun b x _ => h1.2.2 b x, fun j _ => by rw [h1.2.2 201 (by decide)]⟩
theorem g_w {r : Nat → Int32} : gFr V (qw V 199 r) X X := ⟨fun j _ _ _ => by rw [qw_n (by decide)], fun b x y => qw_n y, fun _ _ _ => rfl, fun _ _ => rfl⟩
/-- reading stands at p with no fault; the row and the flag -/
def gN (B : Nat → Nat) (n m : Nat) (fl : Bool) (V : Nat → Nat → Int32) (X : Nat → Nat → Int64) (p : Nat) (h : Nat → Nat) : Prop := mN B n m V X p ∧ V 196 15 = Int32.ofNat 0 ∧ V 196 20 = qz fl ∧ gR V h
theorem gN.fr (h0 : gN B n m fl V X p h) {p' : Nat} (h1 : mN B n m W Y p') (h15 : W 196 15 = V 196 15) (hf : mFr V W X Y) : gN B n m fl W Y p' h := ⟨h1, by rw [h15]; exact h0.2.1, by rw [hf.1 20 (by decide) (by decide)]; exact h0.2.2.1, fun j hj => by rw [hf.2.1 199 (by decide)]; exact h0.2.2.2 j hj⟩
/-- a place of the row written -/
theorem gN.put (h0 : gN B n m fl V X p h) {i v : Nat} : gN B n m fl (qw V 199 (upd (V 199) i (Int32.ofNat v))) X p (sU h i v) := by
  obtain ⟨a1, a2, a3, a4⟩ := h0
  refine ⟨a1.cg (fun j _ => by rw [qw_n (by decide)]) (fun j => by rw [qw_n (by decide)]) (fun _ => rfl), by rw [qw_n (by decide)]; exact a2, by rw [qw_n (by decide)]; exact a3, fun j hj => ?_⟩
  rw [qw_s]
  by_cases e : j = i
  · rw [e, upd_s, sU_s]
  · rw [upd_n e, sU_n e]; exact a4 j hj
theorem g_at {j : Nat} (hj : j < 139) : zlI 216 (qH g V X) 0 199 (Int32.ofNat j) = some (V 199 j) := qlI (t := 0) qk_199 (Or.inl rfl) hj (by omega)
theorem g_put {j : Nat} {x : Int32} (hj : j < 139) : zsI 216 (qH g V X) 0 199 (Int32.ofNat j) x = some (qH g (qw V 199 (upd (V 199) j x)) X) := qsI (t := 0) qk_199 (Or.inl rfl) hj (by omega)
/-- a fault ends the line -/
theorem G_rel {o : Option (zF × Int32)} {a : aR} {K : zF → Option (zF × Int32)} {R : (Nat → Nat → Int32) → (Nat → Nat → Int64) → Int32 → Prop} (h0 : gN B n m fl V X p h) (ho : hV g o (mRel B n m V X a)) (hE : ∀ W Y k pl, aP a = .error (k, pl) → mFl W k pl → gFr V W X Y → R W Y (Int32.ofNat 0)) (hO : ∀ W Y p', aP a = .ok p' → W 196 18 = Int32.ofNat (aV 0 a) → gN B n m fl W Y p' h → gFr V W X Y → Y 201 = X 201 → Y 202 = X 202 → hV g (K (qH g W Y)) R) : hV g (zbd o fun f x => if x = 0 then ((zbl (0 : Int32)).bind fun y => some (f, y)) else K f) R := by
  refine hV_zbd ho (fun W Y r hx => ?_)
  obtain ⟨hx, hf⟩ := hx
  cases a with
  | error e =>
    obtain ⟨k, pl⟩ := e
    rw [hx.1, if_pos (show Int32.ofNat 0 = (0 : Int32) from rfl)]
    exact ⟨W, Y, _, rfl, hE W Y k pl rfl hx.2 hf.gf⟩
  | ok v =>
    obtain ⟨v, p'⟩ := v
    obtain ⟨x1, x2, x3, x4⟩ := hx
    rw [x1, if_neg (show ¬ Int32.ofNat 1 = (0 : Int32) by decide)]
    exact hO W Y p' rfl x2 (h0.fr x4 x3 hf) hf.gf (hf.2.2 201 (by decide)) (hf.2.2 202 (by decide))
theorem aV_d {a : aR} {p' v w : Nat} (h1 : aP a = .ok p') : aV v a = aV w a := by
  cases a with
  | error e => cases h1
  | ok x => rfl
theorem G_num (hN : 3000 ≤ N) {lo hi : Nat} (hlo : lo < 1000) (hhi : hi < 1000) {K : zF → Option (zF × Int32)} {R : (Nat → Nat → Int32) → (Nat → Nat → Int64) → Int32 → Prop} (h0 : gN B n m fl V X p h) (hE : ∀ W Y k pl, (rdNum B n m lo hi (.ok p)).2 = .error (k, pl) → mFl W k pl → gFr V W X Y → R W Y (Int32.ofNat 0)) (hO : ∀ W Y p', (rdNum B n m lo hi (.ok p)).2 = .ok p' → W 196 18 = Int32.ofNat (rdNum B n m lo hi (.ok p)).1 → gN B n m fl W Y p' h → gFr V W X Y → Y 201 = X 201 → Y 202 = X 202 → hV g (K (qH g W Y)) R) : hV g (zbd (fX12_takes N 216 (qH g V X) 196 (Int32.ofNat lo) (Int32.ofNat hi)) fun f x => if x = 0 then ((zbl (0 : Int32)).bind fun y => some (f, y)) else K f) R :=
  G_rel h0 (m_takes hN h0.1 hlo hhi) hE (fun W Y p' h1 h2 h3 h4 h5 h6 => hO W Y p' h1 (by rw [h2]; exact congrArg Int32.ofNat (aV_d h1)) h3 h4 h5 h6)
theorem G_side (hN : 3000 ≤ N) {K : zF → Option (zF × Int32)} {R : (Nat → Nat → Int32) → (Nat → Nat → Int64) → Int32 → Prop} (h0 : gN B n m fl V X p h) (hE : ∀ W Y k pl, (rdSide B n m (.ok p)).2 = .error (k, pl) → mFl W k pl → gFr V W X Y → R W Y (Int32.ofNat 0)) (hO : ∀ W Y p', (rdSide B n m (.ok p)).2 = .ok p' → W 196 18 = Int32.ofNat (rdSide B n m (.ok p)).1 → gN B n m fl W Y p' h → gFr V W X Y → Y 201 = X 201 → Y 202 = X 202 → hV g (K (qH g W Y)) R) : hV g (zbd (fX12_takesSide N 216 (qH g V X) 196) fun f x => if x = 0 then ((zbl (0 : Int32)).bind fun y => some (f, y)) else K f) R :=
  G_rel h0 (m_takesSide hN h0.1) hE hO
theorem G_of (hN : 3000 ≤ N) (h2 : h 2 ≤ 4) (hX : gX X h q) (hn : fdN h q) {K : zF → Option (zF × Int32)} {R : (Nat → Nat → Int32) → (Nat → Nat → Int64) → Int32 → Prop} (h0 : gN B n m fl V X p h) (hE : ∀ W Y k pl, (rdOf B n m q (h 2) (.ok p)).2 = .error (k, pl) → mFl W k pl → gFr V W X Y → R W Y (Int32.ofNat 0)) (hO : ∀ W Y p', (rdOf B n m q (h 2) (.ok p)).2 = .ok p' → W 196 18 = Int32.ofNat (rdOf B n m q (h 2) (.ok p)).1 → gN B n m fl W Y p' h → gFr V W X Y → Y 201 = X 201 → Y 202 = X 202 → hV g (K (qH g W Y)) R) : hV g (zbd (fX12_takesName N 216 (qH g V X) 196 (Int32.ofNat 15) (Int32.ofNat (h 2))) fun f x => if x = 0 then ((zbl (0 : Int32)).bind fun y => some (f, y)) else K f) R :=
  G_rel h0 (m_takesName hN h0.1 hX.1 (by omega) hn.1 hX.2.1) hE hO
/-- a number into the row -/
theorem G_puts (hN : 3000 ≤ N) {lo hi i : Nat} (hi9 : i < 139) (hlo : lo < 1000) (hhi : hi < 1000) {K : zF → Option (zF × Int32)} {R : (Nat → Nat → Int32) → (Nat → Nat → Int64) → Int32 → Prop} (h0 : gN B n m fl V X p h) (hE : ∀ W Y k pl, (rdNum B n m lo hi (.ok p)).2 = .error (k, pl) → mFl W k pl → gFr V W X Y → R W Y (Int32.ofNat 0)) (hO : ∀ W Y p', (rdNum B n m lo hi (.ok p)).2 = .ok p' → gN B n m fl W Y p' (sU h i (rdNum B n m lo hi (.ok p)).1) → gFr V W X Y → Y 201 = X 201 → Y 202 = X 202 → hV g (K (qH g W Y)) R) : hV g (zbd (fX12_puts N 216 (qH g V X) 196 (Int32.ofNat i) (Int32.ofNat lo) (Int32.ofNat hi)) fun f x => if x = 0 then ((zbl (0 : Int32)).bind fun y => some (f, y)) else K f) R := by
  have h1 : hV g (fX12_puts N 216 (qH g V X) 196 (Int32.ofNat i) (Int32.ofNat lo) (Int32.ofNat hi)) (fun W Y r => (r = Int32.ofNat 0 ∧ ∃ k pl, (rdNum B n m lo hi (.ok p)).2 = .error (k, pl) ∧ mFl W k pl ∧ gFr V W X Y) ∨ (r = Int32.ofNat 1 ∧ ∃ p', (rdNum B n m lo hi (.ok p)).2 = .ok p' ∧ gN B n m fl W Y p' (sU h i (rdNum B n m lo hi (.ok p)).1) ∧ gFr V W X Y ∧ Y 201 = X 201 ∧ Y 202 = X 202)) := by
    unfold fX12_puts
    rw [q196_c, Option.bind_some]
    refine G_num hN hlo hhi h0 (fun W Y k pl e1 e2 e3 => Or.inl ⟨rfl, k, pl, e1, e2, e3⟩) (fun W Y p' e1 e2 e3 e4 e5 e6 => ?_)
    rw [q196_g7, Option.bind_some, q196_g18, Option.bind_some, g_put hi9, Option.bind_some, e2, show zbl (1 : Int32) = some (Int32.ofNat 1) from rfl, Option.bind_some]
    exact hV_pure (Or.inr ⟨rfl, p', e1, e3.put, e4.tr g_w, e5, e6⟩)
  refine hV_zbd h1 (fun W Y r hx => ?_)
  rcases hx with ⟨r0, k, pl, e1, e2, e3⟩ | ⟨r1, p', e1, e2, e3, e4, e5⟩
  · rw [r0, if_pos (show Int32.ofNat 0 = (0 : Int32) from rfl)]
    exact ⟨W, Y, _, rfl, hE W Y k pl e1 e2 e3⟩
  · rw [r1, if_neg (show ¬ Int32.ofNat 1 = (0 : Int32) by decide)]
    exact hO W Y p' e1 e2 e3 e4 e5
/-- a new name into its place -/
theorem G_new (hN : 3000 ≤ N) {z : Nat} (hz : 15 ≤ z) (hz2 : z < 30) (hB : fdB h) (hX : gX X h q) (hn : fdN h q) {K : zF → Option (zF × Int32)} {R : (Nat → Nat → Int32) → (Nat → Nat → Int64) → Int32 → Prop} (h0 : gN B n m fl V X p h) (hE : ∀ W Y k pl, (rdNw B n m (told h q) (.ok p)).2 = .error (k, pl) → mFl W k pl → gFr V W X Y → R W Y (Int32.ofNat 0)) (hO : ∀ W Y p', (rdNw B n m (told h q) (.ok p)).2 = .ok p' → gN B n m fl W Y p' h → gFr V W X Y → Y 201 = vp_updL (X 201) z (Int64.ofNat (r8 (rdNw B n m (told h q) (.ok p)).1)) → Y 202 = X 202 → hV g (K (qH g W Y)) R) : hV g (zbd (fX12_fresh N 216 (qH g V X) 196 (Int32.ofNat z)) fun f x => if x = 0 then ((zbl (0 : Int32)).bind fun y => some (f, y)) else K f) R := by
  obtain ⟨b1, b2, b3, b4, b5, -⟩ := id hB
  have h1 : hV g (fX12_fresh N 216 (qH g V X) 196 (Int32.ofNat z)) (fun W Y r => (r = Int32.ofNat 0 ∧ ∃ k pl, (rdNw B n m (told h q) (.ok p)).2 = .error (k, pl) ∧ mFl W k pl ∧ gFr V W X Y) ∨ (r = Int32.ofNat 1 ∧ ∃ p', (rdNw B n m (told h q) (.ok p)).2 = .ok p' ∧ gN B n m fl W Y p' h ∧ gFr V W X Y ∧ Y 201 = vp_updL (X 201) z (Int64.ofNat (r8 (rdNw B n m (told h q) (.ok p)).1)) ∧ Y 202 = X 202)) := by
    have h2r := h0.2.2.2 2 (by omega)
    have h3r := h0.2.2.2 3 (by omega)
    have h4r := h0.2.2.2 4 (by omega)
    rw [rdNw_ok]
    unfold fX12_fresh
    rw [q196_c, Option.bind_some, m_isName hN h0.1 hX.1, Option.bind_some]
    by_cases hk : (tTok B n m p).1 = 5
    · rw [decide_eq_true hk, if_neg qzt, if_pos hk]
      obtain ⟨o1, o2, -⟩ := tW_ok (B := B) (m := m) (n := n) (p := p) h0.1.2.2.2.1 (Or.inr hk)
      have h17 := h0.1.2.2.2.2.2.2.2.2 ⟨by omega, by omega⟩
      have bad : told h q (tTok B n m p).2.2.2.2 = true → hV g (fX12_fresh_58 N 216 (qH g V X) 196) (fun W Y r => (r = Int32.ofNat 0 ∧ ∃ k pl, (if told h q (tTok B n m p).2.2.2.2 = true then (([] : List Nat), (.error (3, (tTok B n m p).2.1) : aA)) else ((tTok B n m p).2.2.2.2, .ok (tTok B n m p).2.2.1)).2 = .error (k, pl) ∧ mFl W k pl ∧ gFr V W X Y) ∨ (r = Int32.ofNat 1 ∧ ∃ p', (if told h q (tTok B n m p).2.2.2.2 = true then (([] : List Nat), (.error (3, (tTok B n m p).2.1) : aA)) else ((tTok B n m p).2.2.2.2, .ok (tTok B n m p).2.2.1)).2 = .ok p' ∧ gN B n m fl W Y p' h ∧ gFr V W X Y ∧ Y 201 = vp_updL (X 201) z (Int64.ofNat (r8 (if told h q (tTok B n m p).2.2.2.2 = true then (([] : List Nat), (.error (3, (tTok B n m p).2.1) : aA)) else ((tTok B n m p).2.2.2.2, .ok (tTok B n m p).2.2.1)).1)) ∧ Y 202 = X 202)) := by
        intro ht
        unfold fX12_fresh_58
        rw [q196_c, Option.bind_some]
        exact m_badS h0.1 (k := 3) (fun W Y a b => Or.inl ⟨rfl, 3, _, by rw [if_pos ht], a, b.gf⟩)
      have s1 := m_seek (g := g) (V := V) (X := X) (N := N) hN (z := 15) (c := h 2) (by omega) hn.1 hX.2.1 o1 o2 h17
      have s2 := m_seek (g := g) (V := V) (X := X) (N := N) hN (z := 19) (c := h 3) (by omega) hn.2.1 hX.2.2.1 o1 o2 h17
      have s3 := m_seek (g := g) (V := V) (X := X) (N := N) hN (z := 25) (c := h 4) (by omega) hn.2.2.1 hX.2.2.2 o1 o2 h17
      rw [q196_g7, Option.bind_some, show (2 : Int32) = Int32.ofNat 2 from rfl, g_at (by omega), Option.bind_some, h2r, Option.bind_some, show (15 : Int32) = Int32.ofNat 15 from rfl, s1, Option.bind_some]
      cases e1 : fndN q (h 2) (tTok B n m p).2.2.2.2 with
      | some i =>
        have hi := (fndN_lt e1).1
        rw [if_pos (by show (0 : Int32) ≤ Int32.ofNat i; rw [l0, qle (by omega) (by omega)]; omega)]
        exact bad (by unfold told; rw [e1]; rfl)
      | none =>
      rw [if_neg (by decide), Option.bind_some, show (3 : Int32) = Int32.ofNat 3 from rfl, g_at (by omega), Option.bind_some, h3r, Option.bind_some, show (19 : Int32) = Int32.ofNat 19 from rfl, s2, Option.bind_some]
      cases e2 : fndN (fun i => q (4 + i)) (h 3) (tTok B n m p).2.2.2.2 with
      | some i =>
        have hi := (fndN_lt e2).1
        rw [if_pos (by show (0 : Int32) ≤ Int32.ofNat i; rw [l0, qle (by omega) (by omega)]; omega)]
        exact bad (by unfold told; rw [e1, e2]; rfl)
      | none =>
      rw [if_neg (by decide), Option.bind_some, show (4 : Int32) = Int32.ofNat 4 from rfl, g_at (by omega), Option.bind_some, h4r, Option.bind_some, show (25 : Int32) = Int32.ofNat 25 from rfl, s3, Option.bind_some]
      cases e3 : fndN (fun i => q (10 + i)) (h 4) (tTok B n m p).2.2.2.2 with
      | some i =>
        have hi := (fndN_lt e3).1
        rw [if_neg (by show ¬ Int32.ofNat i < (0 : Int32); rw [l0, qlt (by omega) (by omega)]; omega)]
        exact bad (by unfold told; rw [e1, e2, e3]; rfl)
      | none =>
      have ht : told h q (tTok B n m p).2.2.2.2 = false := by unfold told; rw [e1, e2, e3]; rfl
      rw [if_pos (by decide), q196_g9, Option.bind_some, q196_g17, Option.bind_some, qsL qk_201 hz2 (by omega), Option.bind_some, h17, q196_c, Option.bind_some, ht, if_neg (show ¬ false = true by decide)]
      have hN2 : mN B n m V (qx X 201 (vp_updL (X 201) z (Int64.ofNat (r8 (tTok B n m p).2.2.2.2)))) p := h0.1.cg (fun _ _ => rfl) (fun _ => rfl) (fun j => by rw [qx_n (by decide)])
      refine hV_bind (mN.adv hN hN2 (by omega) (by omega)) (fun W Y hx => ?_)
      obtain ⟨x1, x2, x3, x4, x5⟩ := hx
      rw [show zbl (1 : Int32) = some (Int32.ofNat 1) from rfl, Option.bind_some]
      have hfx : gFr V V X (qx X 201 (vp_updL (X 201) z (Int64.ofNat (r8 (tTok B n m p).2.2.2.2)))) := ⟨fun _ _ _ _ => rfl, fun _ _ _ => rfl, fun b _ y => qx_n y, fun j hj => by rw [qx_s]; exact vpU_n (by omega)⟩
      refine hV_pure (Or.inr ⟨rfl, _, rfl, ⟨x1, by rw [x3]; exact h0.2.1, by rw [x2.1 20 (by decide) (by decide)]; exact h0.2.2.1, fun j hj => by rw [x2.2.1 199 (by decide)]; exact h0.2.2.2 j hj⟩, hfx.tr x2.gf, by rw [x2.2.2 201 (by decide), qx_s], by rw [x2.2.2 202 (by decide), qx_n (by decide)]⟩)
    · rw [decide_eq_false hk, if_pos qzf, if_neg hk, Option.bind_some]
      exact m_badS h0.1 (k := 1) (fun W Y a b => Or.inl ⟨rfl, 1, _, rfl, a, b.gf⟩)
  refine hV_zbd h1 (fun W Y r hx => ?_)
  rcases hx with ⟨r0, k, pl, e1, e2, e3⟩ | ⟨r1, p', e1, e2, e3, e4, e5⟩
  · rw [r0, if_pos (show Int32.ofNat 0 = (0 : Int32) from rfl)]
    exact ⟨W, Y, _, rfl, hE W Y k pl e1 e2 e3⟩
  · rw [r1, if_neg (show ¬ Int32.ofNat 1 = (0 : Int32) by decide)]
    exact hO W Y p' e1 e2 e3 e4 e5
end QFG
