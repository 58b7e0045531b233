/-! a field's lines: figure, looker; all of them -/
section QFC
variable {g : zF} {V W U K C : Nat → Nat → Int32} {X Y Z D : Nat → Nat → Int64} {N n m p o k pl d e c : Nat} {s t u B h : Nat → Nat} {q : Nat → List Nat} {a b : aA} {fl : Bool}
theorem fiH_n {j : Nat} (hj : j ≠ 95 + h 3) (h2 : j ≠ 101 + h 3) (h3 : j ≠ 107 + h 3) (h4 : j ≠ 113 + h 3) (h5 : j ≠ 3) : fiH B n m h q p j = h j := by
  unfold fiH
  rw [sU_n h5, sU_n h4, sU_n h3, sU_n h2, sU_n hj]
theorem loH_n {j : Nat} (hj : j ≠ 119 + h 4) (h2 : j ≠ 124 + h 4) (h3 : j ≠ 129 + h 4) (h4 : j ≠ 134 + h 4) (h5 : j ≠ 4) : loH B n m h q p j = h j := by
  unfold loH
  rw [sU_n h5, sU_n h4, sU_n h3, sU_n h2, sU_n hj]
theorem fiH_at (h3 : h 3 < 6) : fiH B n m h q p (95 + h 3) = (fiA2 B n m h q p).1 ∧ fiH B n m h q p (101 + h 3) = (fiA3 B n m h q p).1 ∧ fiH B n m h q p (107 + h 3) = (fiA4 B n m h q p).1 ∧ fiH B n m h q p (113 + h 3) = (fiA5 B n m h q p).1 ∧ fiH B n m h q p 3 = h 3 + 1 := by
  unfold fiH
  refine ⟨?_, ?_, ?_, ?_, ?_⟩
  · rw [sU_n (by omega), sU_n (by omega), sU_n (by omega), sU_n (by omega), sU_s]
  · rw [sU_n (by omega), sU_n (by omega), sU_n (by omega), sU_s]
  · rw [sU_n (by omega), sU_n (by omega), sU_s]
  · rw [sU_n (by omega), sU_s]
  · rw [sU_s]
theorem loH_at (h4 : h 4 < 5) : loH B n m h q p (119 + h 4) = (loA2 B n m h q p).1 ∧ loH B n m h q p (124 + h 4) = (loA3 B n m h q p).1 ∧ loH B n m h q p (129 + h 4) = (loA4 B n m h q p).1 ∧ loH B n m h q p (134 + h 4) = (loA5 B n m h q p).1 ∧ loH B n m h q p 4 = h 4 + 1 := by
  unfold loH
  refine ⟨?_, ?_, ?_, ?_, ?_⟩
  · rw [sU_n (by omega), sU_n (by omega), sU_n (by omega), sU_n (by omega), sU_s]
  · rw [sU_n (by omega), sU_n (by omega), sU_n (by omega), sU_s]
  · rw [sU_n (by omega), sU_n (by omega), sU_s]
  · rw [sU_n (by omega), sU_s]
  · rw [sU_s]
theorem F_figure (hN : 3000 ≤ N) (h0 : cN B n m V X p) (hk : (tTok B n m p).1 = 4) (hC : fdC V h) (hB : fdB h) (hX : fdX X h q) (hn : fdN h q) (hf : flg V fl) : hS g (fX3_readFigure N 216 (qH g V X) 35) (fun W Y => fRel B n m true V X W Y (if 6 ≤ h 3 then .error (4, (tTok B n m p).2.1) else fMk (fiA5 B n m h q (tTok B n m p).2.2.1).2 (fiH B n m h q (tTok B n m p).2.2.1) (qU q (4 + h 3) (owA1 B n m h q (tTok B n m p).2.2.1).1))) := by
  obtain ⟨⟨c1, c2, c3, c4, c5⟩, c6, c7, c8, c9⟩ := id hC
  obtain ⟨-, -, b3, b4, b5, -⟩ := id hB
  unfold fX3_readFigure
  rw [q35_g1, Option.bind_some, qF_g3 qF_36, Option.bind_some, c4]
  by_cases h6 : 6 ≤ h 3
  · rw [if_neg (by rw [show (6 : Int32) = Int32.ofNat 6 from rfl, qlt (by omega) (by omega)]; omega), if_pos h6, q35_g0, Option.bind_some, q1_c, Option.bind_some]
    exact hS_bind (F_fail h0 (k := 4) (by omega) (by omega)) (fun W Y hx => hS_pure hx)
  rw [if_pos (by rw [show (6 : Int32) = Int32.ofNat 6 from rfl, qlt (by omega) (by omega)]; omega), if_neg h6, q35_g0, Option.bind_some, q1_c, Option.bind_some]
  refine hS_bind (wk.adv hN h0 (by omega) (by omega)) (fun W Y hw => ?_)
  obtain ⟨W1, Y1, r, e1, e2, e3⟩ := W_new (g := g) hN hw hC hB hX hn
  rw [q35_g1, Option.bind_some, qF_g6 qF_36, Option.bind_some, q35_c, Option.bind_some, e1, zbd_some, e_putN (qF_k2 qF_36) (by omega) (by omega), Option.bind_some]
  have hw1 := e2.putX (r := 36 + 2) (i := h 3) (x := r) (by decide) (by decide)
  have hX1 : fdX (qx X (36 + 2) (vp_updL (X (36 + 2)) (h 3) r)) h q := ⟨fun i hi => by rw [qx_n (by decide)]; exact hX.1 i hi, fun i hi => by rw [show (38 : Nat) = 36 + 2 from rfl, qx_s, vpU_n (by omega)]; exact hX.2.1 i hi, fun i hi => by rw [qx_n (by decide)]; exact hX.2.2 i hi⟩
  rw [q35_g1, Option.bind_some, qF_g10 qF_36, Option.bind_some, q35_g0, Option.bind_some, Option.bind_some, qF_g5 qF_36, Option.bind_some, Option.bind_some, qF_g2 qF_36, Option.bind_some, q1_c, Option.bind_some, hw1.2.1 36 (by decide), c3]
  refine hS_zbd (W_of hN hw1 hX1 hn b3) (fun W2 Y2 r2 hx => ?_)
  obtain ⟨rfl, x2⟩ := hx
  rw [e_put (qF_k6 qF_36) (by omega) (by omega), Option.bind_some, q35_g2, Option.bind_some, qS_g2 qS_47, Option.bind_some, q35_c, Option.bind_some]
  have hw2 := x2.put (r := 36 + 6) (i := h 3) (x := Int32.ofNat (fiA2 B n m h q (tTok B n m p).2.2.1).1) (by decide) (by decide)
  have hC2 : fdC (qw V (36 + 6) (upd (V (36 + 6)) (h 3) (Int32.ofNat (fiA2 B n m h q (tTok B n m p).2.2.1).1))) h := hC.up (Or.inl ⟨by omega, Nat.le_refl _⟩)
  refine hS_zbd (W_cell hN hw2 hC2 hB) (fun W3 Y3 r3 hx => ?_)
  obtain ⟨rfl, x3, x3'⟩ := hx
  rw [e_put (qS_k1 qS_47) (by omega) (by omega), Option.bind_some, q35_g2, Option.bind_some, qS_g3 qS_47, Option.bind_some, q35_g0, Option.bind_some, q1_c, Option.bind_some]
  have hw3 := x3.put (r := 47 + 1) (i := h 3) (x := Int32.ofNat (fiA3 B n m h q (tTok B n m p).2.2.1).1) (by decide) (by decide)
  refine hS_zbd (W_side hN hw3) (fun W4 Y4 r4 hx => ?_)
  obtain ⟨rfl, x4⟩ := hx
  rw [e_put (qS_k2 qS_47) (by omega) (by omega), Option.bind_some, q35_g1, Option.bind_some, qF_g11 qF_36, Option.bind_some, q35_g0, Option.bind_some, q1_c, Option.bind_some, l1, l9]
  have hw4 := x4.put (r := 47 + 2) (i := h 3) (x := Int32.ofNat (fiA4 B n m h q (tTok B n m p).2.2.1).1) (by decide) (by decide)
  refine hS_zbd (W_num hN hw4 (lo := 1) (hi := 9) (by omega) (by omega)) (fun W5 Y5 r5' hx => ?_)
  obtain ⟨rfl, x5, -⟩ := hx
  have hw5 := x5.put (r := 36 + 7) (i := h 3) (x := Int32.ofNat (fiA5 B n m h q (tTok B n m p).2.2.1).1) (by decide) (by decide)
  have hw6 := hw5.put (r := 36) (i := 3) (x := Int32.ofNat (h 3 + 1)) (by decide) (by decide)
  rw [e_put (qF_k7 qF_36) (by omega) (by omega), Option.bind_some, q35_g1, Option.bind_some, qF_g3 qF_36, Option.bind_some, qw_n (by decide), x5.2.1 36 (by decide)]
  have e36 : (qw (qw (qw (qw V (36 + 6) (upd (V (36 + 6)) (h 3) (Int32.ofNat (fiA2 B n m h q (tTok B n m p).2.2.1).1))) 35 (upd ((qw V (36 + 6) (upd (V (36 + 6)) (h 3) (Int32.ofNat (fiA2 B n m h q (tTok B n m p).2.2.1).1))) 35) 5 1)) (47 + 1) (upd ((qw (qw V (36 + 6) (upd (V (36 + 6)) (h 3) (Int32.ofNat (fiA2 B n m h q (tTok B n m p).2.2.1).1))) 35 (upd ((qw V (36 + 6) (upd (V (36 + 6)) (h 3) (Int32.ofNat (fiA2 B n m h q (tTok B n m p).2.2.1).1))) 35) 5 1)) (47 + 1)) (h 3) (Int32.ofNat (fiA3 B n m h q (tTok B n m p).2.2.1).1))) (47 + 2) (upd ((qw (qw (qw V (36 + 6) (upd (V (36 + 6)) (h 3) (Int32.ofNat (fiA2 B n m h q (tTok B n m p).2.2.1).1))) 35 (upd ((qw V (36 + 6) (upd (V (36 + 6)) (h 3) (Int32.ofNat (fiA2 B n m h q (tTok B n m p).2.2.1).1))) 35) 5 1)) (47 + 1) (upd ((qw (qw V (36 + 6) (upd (V (36 + 6)) (h 3) (Int32.ofNat (fiA2 B n m h q (tTok B n m p).2.2.1).1))) 35 (upd ((qw V (36 + 6) (upd (V (36 + 6)) (h 3) (Int32.ofNat (fiA2 B n m h q (tTok B n m p).2.2.1).1))) 35) 5 1)) (47 + 1)) (h 3) (Int32.ofNat (fiA3 B n m h q (tTok B n m p).2.2.1).1))) (47 + 2)) (h 3) (Int32.ofNat (fiA4 B n m h q (tTok B n m p).2.2.1).1))) 36 3 = V 36 3 := by simp [qw]
  rw [e36, c4, show Int32.ofNat (h 3) + Int32.ofNat 1 = Int32.ofNat (h 3 + 1) from qadd, qF_p3 qF_36, Option.bind_some]
  obtain ⟨f1, f2, f3, f4, f5⟩ := fiH_at (B := B) (n := n) (m := m) (h := h) (q := q) (p := (tTok B n m p).2.2.1) (by omega)
  refine hS_pure (fRel_mk hw6 ?_ (fun p2 hp => ?_) ?_ ⟨fun b b1 b2 => ?_, fun b b1 b2 => by rw [qx_n (by omega)]⟩)
  · refine ⟨⟨?_, ?_, ?_, ?_, ?_⟩, fun c hc => ?_, fun y hy => ?_, fun f hf => ?_, fun l hl => ?_⟩
    · rw [fiH_n (by omega) (by omega) (by omega) (by omega) (by omega), ← c1]; simp [qw, upd]
    · rw [fiH_n (by omega) (by omega) (by omega) (by omega) (by omega), ← c2]; simp [qw, upd]
    · rw [fiH_n (by omega) (by omega) (by omega) (by omega) (by omega), ← c3]; simp [qw, upd]
    · rw [f5, qw_s, upd_s]
    · rw [fiH_n (by omega) (by omega) (by omega) (by omega) (by omega), ← c5]; simp [qw, upd]
    · rw [fiH_n (by omega) (by omega) (by omega) (by omega) (by omega), ← c6 c hc]; simp [qw]
    · rw [fiH_n (by omega) (by omega) (by omega) (by omega) (by omega), ← c7 y hy]; simp [qw]
    · rw [f5] at hf
      by_cases e : f = h 3
      · rw [e, f1, f2, f3, f4]
        simp [qw, upd]
      · obtain ⟨g1, g2, g3, g4⟩ := c8 f (by omega)
        rw [fiH_n (by omega) (by omega) (by omega) (by omega) (by omega), fiH_n (by omega) (by omega) (by omega) (by omega) (by omega), fiH_n (by omega) (by omega) (by omega) (by omega) (by omega), fiH_n (by omega) (by omega) (by omega) (by omega) (by omega), ← g1, ← g2, ← g3, ← g4]
        simp [qw, upd, e]
    · rw [fiH_n (by omega) (by omega) (by omega) (by omega) (by omega)] at hl
      obtain ⟨g1, g2, g3, g4⟩ := c9 l hl
      rw [fiH_n (by omega) (by omega) (by omega) (by omega) (by omega), fiH_n (by omega) (by omega) (by omega) (by omega) (by omega), fiH_n (by omega) (by omega) (by omega) (by omega) (by omega), fiH_n (by omega) (by omega) (by omega) (by omega) (by omega), ← g1, ← g2, ← g3, ← g4]
      simp [qw]
  · obtain ⟨p4, h4⟩ := rdNum_prev hp
    obtain ⟨p3, h3⟩ := rdSide_prev h4
    obtain ⟨⟨p2', h2⟩, -⟩ := rdCell_prev h3
    obtain ⟨p1, h1⟩ := rdOf_prev h2
    have er := e3 p1 h1
    obtain ⟨y1, y2, y3⟩ := hX
    refine ⟨fun i hi => ?_, fun i hi => ?_, fun i hi => ?_⟩
    · rw [fiH_n (by omega) (by omega) (by omega) (by omega) (by omega)] at hi
      rw [qU_n (by omega), qx_n (by decide)]; exact y1 i hi
    · rw [f5] at hi
      by_cases e : i = h 3
      · rw [e, qU_s, show (38 : Nat) = 36 + 2 from rfl, qx_s, vpU_s]; exact er
      · rw [qU_n (by omega), show (38 : Nat) = 36 + 2 from rfl, qx_s, vpU_n e]; exact y2 i (by omega)
    · rw [fiH_n (by omega) (by omega) (by omega) (by omega) (by omega)] at hi
      rw [qU_n (by omega), qx_n (by decide)]; exact y3 i hi
  · refine (flg5 hf).cg ?_
    funext j
    simp [qw]
  · rw [qw_n (by omega), qw_n (by omega), qw_n (by omega), qw_n (by omega), qw_n (by omega), qw_n (by omega)]
theorem F_looker (hN : 3000 ≤ N) (h0 : cN B n m V X p) (hk : (tTok B n m p).1 = 4) (hC : fdC V h) (hB : fdB h) (hX : fdX X h q) (hn : fdN h q) (hf : flg V fl) : hS g (fX3_readLooker N 216 (qH g V X) 35) (fun W Y => fRel B n m true V X W Y (if 5 ≤ h 4 then .error (4, (tTok B n m p).2.1) else fMk (loA5 B n m h q (tTok B n m p).2.2.1).2 (loH B n m h q (tTok B n m p).2.2.1) (qU q (10 + h 4) (owA1 B n m h q (tTok B n m p).2.2.1).1))) := by
  obtain ⟨⟨c1, c2, c3, c4, c5⟩, c6, c7, c8, c9⟩ := id hC
  obtain ⟨-, -, b3, b4, b5, -⟩ := id hB
  unfold fX3_readLooker
  rw [q35_g1, Option.bind_some, qF_g4 qF_36, Option.bind_some, c5]
  by_cases h6 : 5 ≤ h 4
  · rw [if_neg (by rw [l5, qlt (by omega) (by omega)]; omega), if_pos h6, q35_g0, Option.bind_some, q1_c, Option.bind_some]
    exact hS_bind (F_fail h0 (k := 4) (by omega) (by omega)) (fun W Y hx => hS_pure hx)
  rw [if_pos (by rw [l5, qlt (by omega) (by omega)]; omega), if_neg h6, q35_g0, Option.bind_some, q1_c, Option.bind_some]
  refine hS_bind (wk.adv hN h0 (by omega) (by omega)) (fun W Y hw => ?_)
  obtain ⟨W1, Y1, r, e1, e2, e3⟩ := W_new (g := g) hN hw hC hB hX hn
  rw [q35_g1, Option.bind_some, qF_g7 qF_36, Option.bind_some, q35_c, Option.bind_some, e1, zbd_some, e_putN (qF_k3 qF_36) (by omega) (by omega), Option.bind_some, q35_g2, Option.bind_some, qS_g5 qS_47, Option.bind_some, q35_c, Option.bind_some]
  have hw1 := e2.putX (r := 36 + 3) (i := h 4) (x := r) (by decide) (by decide)
  refine hS_zbd (W_cell hN hw1 hC hB) (fun W3 Y3 r3 hx => ?_)
  obtain ⟨rfl, x3, x3'⟩ := hx
  rw [e_put (qS_k4 qS_47) (by omega) (by omega), Option.bind_some, q35_g2, Option.bind_some, qS_g6 qS_47, Option.bind_some, q35_g0, Option.bind_some, q1_c, Option.bind_some]
  have hw3 := x3.put (r := 47 + 4) (i := h 4) (x := Int32.ofNat (loA2 B n m h q (tTok B n m p).2.2.1).1) (by decide) (by decide)
  refine hS_zbd (W_side hN hw3) (fun W4 Y4 r4 hx => ?_)
  obtain ⟨rfl, x4⟩ := hx
  have hw4 := x4.put (r := 47 + 5) (i := h 4) (x := Int32.ofNat (loA3 B n m h q (tTok B n m p).2.2.1).1) (by decide) (by decide)
  rw [e_put (qS_k5 qS_47) (by omega) (by omega), Option.bind_some, q35_g0, Option.bind_some, q1_g5, Option.bind_some, qw_n (by decide)]
  have a3e : (rdSide B n m (rdCell B n m h (rdNw B n m (told h q) (.ok (tTok B n m p).2.2.1)).2).2).2 = (loA3 B n m h q (tTok B n m p).2.2.1).2 := rfl
  rw [a3e] at x4 hw4
  have hkn : (W4 1 5 = (4 : Int32)) = (isNm B n m (loA3 B n m h q (tTok B n m p).2.2.1).2 = true) := by
    have hc := x4.1
    cases ha : (loA3 B n m h q (tTok B n m p).2.2.1).2 with
    | error e =>
      rw [ha] at hc
      obtain ⟨k, pl⟩ := e
      have hF : cFl B n m W4 Y4 k pl := hc
      rw [hF.2.2.2.2.2.2.2.2]
      exact propext ⟨fun h => absurd h (by decide), fun h => by cases h⟩
    | ok p3 =>
      rw [ha] at hc
      have hN3 : cN B n m W4 Y4 p3 := hc
      rw [show (4 : Int32) = Int32.ofNat (cKd 3) from rfl, hN3.kd (a := 3) (by omega) (by omega)]
      exact propext ⟨fun h => decide_eq_true h, fun h => of_decide_eq_true h⟩
  generalize hC4 : qw (qw (qw V 35 (upd (V 35) 5 1)) (47 + 4) (upd ((qw V 35 (upd (V 35) 5 1)) (47 + 4)) (h 4) (Int32.ofNat (loA2 B n m h q (tTok B n m p).2.2.1).1))) (47 + 5) (upd ((qw (qw V 35 (upd (V 35) 5 1)) (47 + 4) (upd ((qw V 35 (upd (V 35) 5 1)) (47 + 4)) (h 4) (Int32.ofNat (loA2 B n m h q (tTok B n m p).2.2.1).1))) (47 + 5)) (h 4) (Int32.ofNat (loA3 B n m h q (tTok B n m p).2.2.1).1)) = C4 at hw4
  have k36 : C4 36 = V 36 := by rw [← hC4]; funext j; simp [qw]
  obtain ⟨f1, f2, f3, f4, f5⟩ := loH_at (B := B) (n := n) (m := m) (h := h) (q := q) (p := (tTok B n m p).2.2.1) (by omega)
  -- the last two places, and the count
  have hend : ∀ {W6 Y6} {D6 : Nat → Nat → Int64}, D6 = qx X (36 + 3) (vp_updL (X (36 + 3)) (h 4) r) → wk B n m (qw C4 (36 + 9) (upd (C4 (36 + 9)) (h 4) (Int32.ofNat (loA4 B n m h q (tTok B n m p).2.2.1).1))) D6 (loA5 B n m h q (tTok B n m p).2.2.1).2 W6 Y6 → hS g (fX3_readLooker_150 N 216 (qH g W6 Y6) 35 (36 + 10) (Int32.ofNat (h 4)) (Int32.ofNat (loA5 B n m h q (tTok B n m p).2.2.1).1)) (fun W Y => fRel B n m true V X W Y (fMk (loA5 B n m h q (tTok B n m p).2.2.1).2 (loH B n m h q (tTok B n m p).2.2.1) (qU q (10 + h 4) (owA1 B n m h q (tTok B n m p).2.2.1).1))) := by
    intro W6 Y6 D6 hD6 hw6
    unfold fX3_readLooker_150
    have hw7 := (hw6.put (r := 36 + 10) (i := h 4) (x := Int32.ofNat (loA5 B n m h q (tTok B n m p).2.2.1).1) (by decide) (by decide)).put (r := 36) (i := 4) (x := Int32.ofNat (h 4 + 1)) (by decide) (by decide)
    rw [e_put (qF_k10 qF_36) (by omega) (by omega), Option.bind_some, q35_g1, Option.bind_some, qF_g4 qF_36, Option.bind_some, qw_n (by decide), hw6.2.1 36 (by decide), qw_n (by decide), k36, c5, show Int32.ofNat (h 4) + (1 : Int32) = Int32.ofNat (h 4 + 1) by rw [l1, qadd], qF_p4 qF_36, Option.bind_some]
    refine hS_pure (fRel_mk hw7 ?_ (fun p2 hp => ?_) ?_ ⟨fun b b1 b2 => ?_, fun b b1 b2 => by rw [hD6, qx_n (by omega)]⟩)
    · rw [← hC4]
      refine ⟨⟨?_, ?_, ?_, ?_, ?_⟩, fun c hc => ?_, fun y hy => ?_, fun f hf => ?_, fun l hl => ?_⟩
      · rw [loH_n (by omega) (by omega) (by omega) (by omega) (by omega), ← c1]; simp [qw, upd]
      · rw [loH_n (by omega) (by omega) (by omega) (by omega) (by omega), ← c2]; simp [qw, upd]
      · rw [loH_n (by omega) (by omega) (by omega) (by omega) (by omega), ← c3]; simp [qw, upd]
      · rw [loH_n (by omega) (by omega) (by omega) (by omega) (by omega), ← c4]; simp [qw, upd]
      · rw [f5, qw_s, upd_s]
      · rw [loH_n (by omega) (by omega) (by omega) (by omega) (by omega), ← c6 c hc]; simp [qw]
      · rw [loH_n (by omega) (by omega) (by omega) (by omega) (by omega), ← c7 y hy]; simp [qw]
      · rw [loH_n (by omega) (by omega) (by omega) (by omega) (by omega)] at hf
        obtain ⟨g1, g2, g3, g4⟩ := c8 f hf
        rw [loH_n (by omega) (by omega) (by omega) (by omega) (by omega), loH_n (by omega) (by omega) (by omega) (by omega) (by omega), loH_n (by omega) (by omega) (by omega) (by omega) (by omega), loH_n (by omega) (by omega) (by omega) (by omega) (by omega), ← g1, ← g2, ← g3, ← g4]
        simp [qw]
      · rw [f5] at hl
        by_cases e : l = h 4
        · rw [e, f1, f2, f3, f4]
          simp [qw, upd]
        · obtain ⟨g1, g2, g3, g4⟩ := c9 l (by omega)
          rw [loH_n (by omega) (by omega) (by omega) (by omega) (by omega), loH_n (by omega) (by omega) (by omega) (by omega) (by omega), loH_n (by omega) (by omega) (by omega) (by omega) (by omega), loH_n (by omega) (by omega) (by omega) (by omega) (by omega), ← g1, ← g2, ← g3, ← g4]
          simp [qw, upd, e]
    · have hA4 : ∃ p4, (loA4 B n m h q (tTok B n m p).2.2.1).2 = .ok p4 := by
        unfold loA5 at hp
        split at hp
        · exact rdNum_prev hp
        · exact ⟨p2, hp⟩
      obtain ⟨p4, hp4⟩ := hA4
      have hA3 : ∃ p3, (loA3 B n m h q (tTok B n m p).2.2.1).2 = .ok p3 := by
        unfold loA4 at hp4
        split at hp4
        · exact rdNum_prev hp4
        · exact ⟨p4, hp4⟩
      obtain ⟨p3, hp3⟩ := hA3
      obtain ⟨p2', h2⟩ := rdSide_prev hp3
      obtain ⟨⟨p1, h1⟩, -⟩ := rdCell_prev h2
      have er := e3 p1 h1
      obtain ⟨y1, y2, y3⟩ := hX
      rw [hD6]
      refine ⟨fun i hi => ?_, fun i hi => ?_, fun i hi => ?_⟩
      · rw [loH_n (by omega) (by omega) (by omega) (by omega) (by omega)] at hi
        rw [qU_n (by omega), qx_n (by decide)]; exact y1 i hi
      · rw [loH_n (by omega) (by omega) (by omega) (by omega) (by omega)] at hi
        rw [qU_n (by omega), qx_n (by decide)]; exact y2 i hi
      · rw [f5] at hi
        by_cases e : i = h 4
        · rw [e, qU_s, show (39 : Nat) = 36 + 3 from rfl, qx_s, vpU_s]; exact er
        · rw [qU_n (by omega), show (39 : Nat) = 36 + 3 from rfl, qx_s, vpU_n e]; exact y3 i (by omega)
    · refine (flg5 hf).cg ?_
      rw [← hC4]
      funext j
      simp [qw]
    · rw [← hC4, qw_n (by omega), qw_n (by omega), qw_n (by omega), qw_n (by omega), qw_n (by omega), qw_n (by omega)]
  cases hh : isNm B n m (loA3 B n m h q (tTok B n m p).2.2.1).2 with
  | true =>
    rw [hh] at hkn
    rw [if_pos (by rw [hkn])]
    have e4 : loA4 B n m h q (tTok B n m p).2.2.1 = rdNum B n m 0 23 (loA3 B n m h q (tTok B n m p).2.2.1).2 := by unfold loA4; rw [if_pos hh]
    have e5 : loA5 B n m h q (tTok B n m p).2.2.1 = rdNum B n m 1 24 (loA4 B n m h q (tTok B n m p).2.2.1).2 := by unfold loA5; rw [if_pos hh]
    unfold fX3_readLooker_93 fX3_readLooker_120
    rw [q35_g1, Option.bind_some, qF_g13 qF_36, Option.bind_some, if_neg (show ¬ (1 : Int32) = 0 by decide), q35_g0, Option.bind_some, q1_c, Option.bind_some]
    refine hS_zbd (W_num hN hw4 (lo := 0) (hi := 23) (by omega) (by omega)) (fun W5 Y5 r5' hx => ?_)
    obtain ⟨rfl, x5, -⟩ := hx
    rw [← e4] at x5 ⊢
    rw [e_put (qF_k9 qF_36) (by omega) (by omega), Option.bind_some, q35_g1, Option.bind_some, qF_g14 qF_36, Option.bind_some, if_neg (show ¬ (1 : Int32) = 0 by decide), q35_g0, Option.bind_some, q1_c, Option.bind_some]
    have hw5 := x5.put (r := 36 + 9) (i := h 4) (x := Int32.ofNat (loA4 B n m h q (tTok B n m p).2.2.1).1) (by decide) (by decide)
    refine hS_zbd (W_num hN hw5 (lo := 1) (hi := 24) (by omega) (by omega)) (fun W6 Y6 r6 hx => ?_)
    obtain ⟨rfl, x6, -⟩ := hx
    rw [← e5] at x6 ⊢
    exact hend rfl x6
  | false =>
    rw [hh] at hkn
    rw [if_neg (by rw [hkn]; decide)]
    have e4 : loA4 B n m h q (tTok B n m p).2.2.1 = (0, (loA3 B n m h q (tTok B n m p).2.2.1).2) := by unfold loA4; rw [if_neg (by rw [hh]; decide)]
    have e5 : loA5 B n m h q (tTok B n m p).2.2.1 = (24, (loA4 B n m h q (tTok B n m p).2.2.1).2) := by unfold loA5; rw [if_neg (by rw [hh]; decide)]
    unfold fX3_readLooker_93 fX3_readLooker_120
    rw [q35_g1, Option.bind_some, qF_g13 qF_36, Option.bind_some, if_pos rfl, e_put (qF_k9 qF_36) (by omega) (by omega), Option.bind_some, q35_g1, Option.bind_some, qF_g14 qF_36, Option.bind_some, if_pos rfl]
    have hw5 := hw4.put (r := 36 + 9) (i := h 4) (x := (0 : Int32)) (by decide) (by decide)
    have := @hend _ _ _ rfl (by
      rw [show (loA5 B n m h q (tTok B n m p).2.2.1).2 = (loA3 B n m h q (tTok B n m p).2.2.1).2 by rw [e5, e4], show Int32.ofNat (loA4 B n m h q (tTok B n m p).2.2.1).1 = (0 : Int32) by rw [e4]; rfl]
      exact hw5)
    rw [show Int32.ofNat (loA5 B n m h q (tTok B n m p).2.2.1).1 = (24 : Int32) by rw [e5]; rfl] at this
    exact this
end QFC
