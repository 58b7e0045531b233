/-! a field: the reference's land and figure -/
section QFJ
variable {g : zF} {V W U K C : Nat → Nat → Int32} {X Y Z D : Nat → Nat → Int64} {N n m p o k pl d e c ln w : Nat} {s t u B h r : Nat → Nat} {q : Nat → List Nat} {fl : Bool}
theorem laA3_e {x : Nat × Nat} (he : (rdOf B n m q (h 2) (.ok p)).2 = .error x) : laA3 B n m h q p = .error x := by
  have e1 : (laA1 B n m h q p).2 = .error x := he
  have e2 : (laA2 B n m h q p).2 = .error x := by
    unfold laA2
    rw [e1]; rfl
  unfold laA3
  rw [e1, e2]
  split <;> rfl
theorem laA3_y {x : Nat × Nat} (he : (laA2 B n m h q p).2 = .error x) : laA3 B n m h q p = .error x := by
  unfold laA3
  rw [he]
  split <;> rfl
theorem M_land (hN : 3000 ≤ N) (h0 : gN B n m fl V X p h) (hk : (tTok B n m p).1 = 4) (hB : fdB h) (hX : gX X h q) (hn : fdN h q) : hV g (fX12_readLand N 216 (qH g V X) 196) (fun W Y z => gRel B n m fl V X W Y z (fMk (laA3 B n m h q (tTok B n m p).2.2.1) (sU h (86 + (laA2 B n m h q (tTok B n m p).2.2.1).1) ((laA1 B n m h q (tTok B n m p).2.2.1).1 + 1)) q)) := by
  obtain ⟨b1, b2, b3, b4, b5, b6, b7, -⟩ := id hB
  unfold fX12_readLand
  rw [q196_c, Option.bind_some]
  refine G_adv hN h0 hk (fun W Y a1 a2 a3 a4 => ?_)
  rw [q196_g7, Option.bind_some, g_a2, Option.bind_some, a1.2.2.2 2 (by omega), q196_c, Option.bind_some]
  have hX1 : gX Y h q := hX.cg a3 a4
  generalize (tTok B n m p).2.2.1 = p1 at a1 ⊢
  refine G_of hN b3 hX1 hn a1 (fun W2 Y2 k pl e1 e2 e3 => gRel_e (laA3_e e1) e2 (a2.tr e3)) (fun W2 Y2 p2 e1 e2 e3 e4 e5 e6 => ?_)
  have eo : (rdOf B n m q (h 2) (.ok p1)).1 = (laA1 B n m h q p1).1 := rfl
  rw [eo] at e2
  have ev : laA2 B n m h q p1 = rdNum B n m 0 (h 1 - 1) (.ok p2) := by
    unfold laA2 laA1
    rw [e1]
  have ew : laA3 B n m h q p1 = if h (86 + (laA2 B n m h q p1).1) = 0 then (laA2 B n m h q p1).2 else rdBack B n m 3 (.ok p2) (laA2 B n m h q p1).2 := by
    unfold laA3
    rw [show (laA1 B n m h q p1).2 = .ok p2 from e1]
  have hX2 : gX Y2 h q := hX1.cg e5 e6
  have hkd := e3.1.kd (c := 2) (by omega)
  rw [(mKd_2 _ tTok_k).1] at hkd
  have hT := e3.1.2.2.2.2
  have en : rdNum B n m 0 (h 1 - 1) (.ok p2) = (aV 0 (aNum B n m 0 (h 1 - 1) p2), aP (aNum B n m 0 (h 1 - 1) p2)) := rfl
  rw [q196_g18, Option.bind_some, q196_g11, Option.bind_some]
  by_cases hk3 : (tTok B n m p2).1 = 3
  · rw [if_pos (by rw [show (2 : Int32) = Int32.ofNat 2 from rfl, hkd]; exact hk3)]
    have hv := hT.2.2.2.1 ⟨by omega, by omega⟩
    have hv2 := tNum_lt (V := W2) e3.1.1 e3.1.2.2.2.1 hk3
    rw [q196_g14, Option.bind_some, hv, q196_g7, Option.bind_some, g_a1, Option.bind_some, e3.2.2.2 1 (by omega)]
    by_cases hlt : (tTok B n m p2).2.2.2.1 < h 1
    · have ea : aNum B n m 0 (h 1 - 1) p2 = .ok ((tTok B n m p2).2.2.2.1, (tTok B n m p2).2.2.1) := by
        unfold aNum
        rw [if_pos hk3, if_pos (by omega)]
      rw [ea] at en
      have en : rdNum B n m 0 (h 1 - 1) (.ok p2) = ((tTok B n m p2).2.2.2.1, .ok (tTok B n m p2).2.2.1) := en
      rw [en] at ev
      rw [ev] at ew
      dsimp only at ew
      have hb := b7 (tTok B n m p2).2.2.2.1 (by omega)
      rw [if_pos (by rw [qlt (by omega) (by omega)]; exact hlt), Option.bind_some, Option.bind_some, show (86 : Int32) = Int32.ofNat 86 from rfl, qadd, g_at (by omega), Option.bind_some, e3.2.2.2 _ (by omega)]
      by_cases hz : h (86 + (tTok B n m p2).2.2.2.1) = 0
      · rw [if_pos hz] at ew
        rw [if_pos (by rw [l0, qle (by omega) (by omega)]; omega), Option.bind_some, Option.bind_some, e2, l1, qadd, qadd, g_put (by omega), Option.bind_some, q196_c, Option.bind_some, ev]
        have e3p := e3.put (i := 86 + (tTok B n m p2).2.2.2.1) (v := (laA1 B n m h q p1).1 + 1)
        refine hV_bind (mN.adv hN e3p.1 (by omega) (by omega)) (fun W3 Y3 hy => ?_)
        obtain ⟨y1, y2, y3, y4, y5⟩ := hy
        rw [show zbl (Int32.ofNat 1) = some (Int32.ofNat 1) from rfl, Option.bind_some]
        have hX3 : gX Y3 h q := hX2.cg (y2.2.2 201 (by decide)) (y2.2.2 202 (by decide))
        refine hV_pure (gRel_o ew (e3p.fr y1 y3 y2) (hX3.row ?_ ?_ ?_) (((a2.tr e4).tr g_w).tr y2.gf))
        · exact sU_n (by omega)
        · exact sU_n (by omega)
        · exact sU_n (by omega)
      · rw [if_neg hz] at ew
        rw [if_neg (by rw [l0, qle (by omega) (by omega)]; omega), q196_c, Option.bind_some]
        exact m_badS e3.1 (k := 3) (fun W3 Y3 a b => gRel_e ew a ((a2.tr e4).tr b.gf))
    · have ea : aNum B n m 0 (h 1 - 1) p2 = .error (2, (tTok B n m p2).2.1) := by
        unfold aNum
        rw [if_pos hk3, if_neg (by omega)]
      rw [if_neg (by rw [qlt (by omega) (by omega)]; exact hlt), q196_c, Option.bind_some]
      exact m_badS e3.1 (k := 2) (fun W3 Y3 a b => gRel_e (laA3_y (by rw [ev, en, ea]; rfl)) a ((a2.tr e4).tr b.gf))
  · have ea : aNum B n m 0 (h 1 - 1) p2 = .error (1, (tTok B n m p2).2.1) := by
      unfold aNum
      rw [if_neg hk3]
    rw [if_neg (by rw [show (2 : Int32) = Int32.ofNat 2 from rfl, hkd]; exact hk3), q196_c, Option.bind_some]
    exact m_badS e3.1 (k := 1) (fun W3 Y3 a b => gRel_e (laA3_y (by rw [ev, en, ea]; rfl)) a ((a2.tr e4).tr b.gf))
theorem rdCell_E {x : Nat × Nat} : (rdCell B n m h (.error x)).2 = .error x := rdCell_e rfl
theorem fi_e4 {x : Nat × Nat} (he : (fiA4 B n m h q p).2 = .error x) : (fiA5 B n m h q p).2 = .error x := by
  unfold fiA5
  rw [he]; rfl
theorem fi_e3 {x : Nat × Nat} (he : (fiA3 B n m h q p).2 = .error x) : (fiA5 B n m h q p).2 = .error x := by
  refine fi_e4 ?_
  unfold fiA4
  rw [he]; rfl
theorem fi_e2 {x : Nat × Nat} (he : (fiA2 B n m h q p).2 = .error x) : (fiA5 B n m h q p).2 = .error x := by
  refine fi_e3 ?_
  unfold fiA3
  rw [he]
  exact rdCell_E
theorem fi_e1 {x : Nat × Nat} (he : (owA1 B n m h q p).2 = .error x) : (fiA5 B n m h q p).2 = .error x := by
  refine fi_e2 ?_
  unfold fiA2
  rw [he]; rfl
/-- a name written beyond those told -/
theorem gX.nm (hX : gX X h q) {z : Nat} {x : Int64} (e1 : Y 201 = vp_updL (X 201) z x) (e2 : Y 202 = X 202) (z1 : 15 + h 2 ≤ z ∨ z < 15) (z2 : 19 + h 3 ≤ z ∨ z < 19) (z3 : 25 + h 4 ≤ z ∨ z < 25) : gX Y h q := by
  refine ⟨?_, fun i hi => ?_, fun i hi => ?_, fun i hi => ?_⟩
  · have := hX.1
    unfold wMsR at this ⊢
    rw [e2]; exact this
  · rw [e1, vpU_n (by omega)]; exact hX.2.1 i hi
  · rw [e1, vpU_n (by omega)]; exact hX.2.2.1 i hi
  · rw [e1, vpU_n (by omega)]; exact hX.2.2.2 i hi
theorem M_figure (hN : 3000 ≤ N) (h0 : gN B n m fl V X p h) (hk : (tTok B n m p).1 = 4) (hB : fdB h) (hX : gX X h q) (hn : fdN h q) : hV g (fX12_readFigure N 216 (qH g V X) 196) (fun W Y z => gRel B n m fl V X W Y z (if 6 ≤ h 3 then .error (4, (tTok B n m p).2.1) else fMk (fiA5 B n m h q (tTok B n m p).2.2.1).2 (fiH B n m h q (tTok B n m p).2.2.1) (qU q (4 + h 3) (owA1 B n m h q (tTok B n m p).2.2.1).1))) := by
  obtain ⟨b1, b2, b3, b4, b5, b6, b7, -⟩ := id hB
  unfold fX12_readFigure
  rw [q196_g7, Option.bind_some, g_a3, Option.bind_some, h0.2.2.2 3 (by omega)]
  by_cases h6 : 6 ≤ h 3
  · rw [if_pos (by rw [show (6 : Int32) = Int32.ofNat 6 from rfl, qeq (by omega) (by omega)]; omega), if_pos h6, q196_c, Option.bind_some]
    exact m_badS h0.1 (k := 4) (fun W Y a b => ⟨rfl, a, b.gf⟩)
  rw [if_neg (by rw [show (6 : Int32) = Int32.ofNat 6 from rfl, qeq (by omega) (by omega)]; omega), if_neg h6, q196_c, Option.bind_some]
  refine G_adv hN h0 hk (fun W Y a1 a2 a3 a4 => ?_)
  have hX1 : gX Y h q := hX.cg a3 a4
  generalize (tTok B n m p).2.2.1 = p0 at a1 ⊢
  rw [q196_c, Option.bind_some, show (19 : Int32) = Int32.ofNat 19 from rfl, qadd]
  refine G_new hN (z := 19 + h 3) (by omega) (by omega) hB hX1 hn a1 (fun W2 Y2 k pl e1 e2 e3 => gRel_e (fi_e1 e1) e2 (a2.tr e3)) (fun W2 Y2 p1 e1 e2 e3 e4 e5 => ?_)
  have ew : (rdNw B n m (told h q) (.ok p0)).1 = (owA1 B n m h q p0).1 := rfl
  rw [ew] at e4
  have E2 : fiA2 B n m h q p0 = rdOf B n m q (h 2) (.ok p1) := by
    unfold fiA2 owA1
    rw [e1]
  have hX2 : gX Y2 h q := hX1.nm e4 e5 (by omega) (by omega) (by omega)
  rw [q196_g7, Option.bind_some, g_a2, Option.bind_some, e2.2.2.2 2 (by omega), q196_c, Option.bind_some]
  refine G_of hN b3 hX2 hn e2 (fun W3 Y3 k pl f1 f2 f3 => gRel_e (fi_e2 (by rw [E2]; exact f1)) f2 ((a2.tr e3).tr f3)) (fun W3 Y3 p2 f1 f2 f3 f4 f5 f6 => ?_)
  rw [← E2] at f1 f2
  have E3 : fiA3 B n m h q p0 = rdCell B n m h (.ok p2) := by
    unfold fiA3
    rw [f1]
  rw [q196_g7, Option.bind_some, q196_g18, Option.bind_some, f2, show (95 : Int32) = Int32.ofNat 95 from rfl, qadd, g_put (by omega), Option.bind_some, q196_c, Option.bind_some]
  refine G_cell hN hB (fun j hj => sU_n (by omega)) (f3.put (i := 95 + h 3) (v := (fiA2 B n m h q p0).1)) (fun W4 Y4 k pl i1 i2 i3 => gRel_e (fi_e3 (by rw [E3]; exact i1)) i2 ((((a2.tr e3).tr f4).tr g_w).tr i3)) (fun W4 Y4 p3 i1 i2 i3 i4 i5 i6 => ?_)
  rw [← E3] at i1 i2
  have E4 : fiA4 B n m h q p0 = rdSide B n m (.ok p3) := by
    unfold fiA4
    rw [i1]
  rw [q196_g7, Option.bind_some, q196_g18, Option.bind_some, i2, show (101 : Int32) = Int32.ofNat 101 from rfl, qadd, g_put (by omega), Option.bind_some, q196_c, Option.bind_some]
  refine G_side hN (i3.put (i := 101 + h 3) (v := (fiA3 B n m h q p0).1)) (fun W5 Y5 k pl j1 j2 j3 => gRel_e (fi_e4 (by rw [E4]; exact j1)) j2 ((((((a2.tr e3).tr f4).tr g_w).tr i4).tr g_w).tr j3)) (fun W5 Y5 p4 j1 j2 j3 j4 j5 j6 => ?_)
  rw [← E4] at j1 j2
  have E5 : fiA5 B n m h q p0 = rdNum B n m 1 9 (.ok p4) := by
    unfold fiA5
    rw [j1]
  rw [q196_g7, Option.bind_some, q196_g18, Option.bind_some, j2, show (107 : Int32) = Int32.ofNat 107 from rfl, qadd, g_put (by omega), Option.bind_some, q196_c, Option.bind_some, show (113 : Int32) = Int32.ofNat 113 from rfl, qadd]
  refine G_puts hN (i := 113 + h 3) (lo := 1) (hi := 9) (by omega) (by omega) (by omega) (j3.put (i := 107 + h 3) (v := (fiA4 B n m h q p0).1)) (fun W6 Y6 k pl k1 k2 k3 => gRel_e (by rw [E5]; exact k1) k2 ((((((((a2.tr e3).tr f4).tr g_w).tr i4).tr g_w).tr j4).tr g_w).tr k3)) (fun W6 Y6 p5 k1 k2 k3 k4 k5 => ?_)
  rw [← E5] at k1 k2
  have r3 : W6 199 3 = Int32.ofNat (h 3) := by
    rw [k2.2.2.2 3 (by omega), sU_n (by omega), sU_n (by omega), sU_n (by omega), sU_n (by omega)]
  rw [q196_g7, Option.bind_some, g_a3, Option.bind_some, r3, l1, qadd, show (3 : Int32) = Int32.ofNat 3 from rfl, g_put (by omega), Option.bind_some, show zbl (Int32.ofNat 1) = some (Int32.ofNat 1) from rfl, Option.bind_some]
  have hY6 : Y6 201 = vp_updL (Y 201) (19 + h 3) (Int64.ofNat (r8 (owA1 B n m h q p0).1)) := by rw [k4, j5, i5, f5, e4]
  obtain ⟨x1, x2, x3, x4, x5⟩ := fiH_at (B := B) (n := n) (m := m) (h := h) (q := q) (p := p0) (by omega)
  have xn : ∀ j, j < 3 ∨ j = 4 → fiH B n m h q p0 j = h j := fun j hj => fiH_n (by omega) (by omega) (by omega) (by omega) (by omega)
  refine hV_pure (gRel_o k1 (k2.put (i := 3) (v := h 3 + 1)) ⟨?_, fun i hi => ?_, fun i hi => ?_, fun i hi => ?_⟩ (((((((((a2.tr e3).tr f4).tr g_w).tr i4).tr g_w).tr j4).tr g_w).tr k3).tr g_w))
  · have := hX1.1
    unfold wMsR at this ⊢
    rw [k5, j6, i6, f6, e5]; exact this
  · rw [xn 2 (by omega)] at hi
    rw [hY6, vpU_n (by omega), qU_n (by omega)]; exact hX1.2.1 i hi
  · rw [x5] at hi
    rw [hY6]
    by_cases ei : i = h 3
    · rw [ei, vpU_s, qU_s]
    · rw [vpU_n (by omega), qU_n (by omega)]; exact hX1.2.2.1 i (by omega)
  · rw [xn 4 (by omega)] at hi
    rw [hY6, vpU_n (by omega), qU_n (by omega)]; exact hX1.2.2.2 i hi
end QFJ
