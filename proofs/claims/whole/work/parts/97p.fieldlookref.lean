/-! a field: the reference's looker; a line by its first word -/
section QFK
variable {g : zF} {V W U K C : Nat → Nat → Int32} {X Y Z D : Nat → Nat → Int64} {N n m p o k pl d e c ln w : Nat} {s t u B h r : Nat → Nat} {q : Nat → List Nat} {fl : Bool}
theorem gN.eq (h0 : gN B n m fl V X p r) (e : ∀ j, r j = h j) : gN B n m fl V X p h := ⟨h0.1, h0.2.1, h0.2.2.1, fun j hj => by rw [← e j]; exact h0.2.2.2 j hj⟩
theorem lo_e3 {x : Nat × Nat} (he : (loA3 B n m h q p).2 = .error x) : (loA5 B n m h q p).2 = .error x := by
  unfold loA5 loA4
  rw [he]; rfl
theorem lo_e2 {x : Nat × Nat} (he : (loA2 B n m h q p).2 = .error x) : (loA5 B n m h q p).2 = .error x := by
  refine lo_e3 ?_
  unfold loA3
  rw [he]; rfl
theorem lo_e1 {x : Nat × Nat} (he : (owA1 B n m h q p).2 = .error x) : (loA5 B n m h q p).2 = .error x := by
  refine lo_e2 ?_
  unfold loA2
  rw [he]
  exact rdCell_E
theorem G_140 (h0 : gN B n m fl V X p r) (h4 : r 4 = w) : fX12_readLooker_140 N 216 (qH g V X) 196 = some (qH g (qw V 199 (upd (V 199) 4 (Int32.ofNat (w + 1)))) X, Int32.ofNat 1) := by
  unfold fX12_readLooker_140
  rw [q196_g7, Option.bind_some, g_a4, Option.bind_some, h0.2.2.2 4 (by omega), h4, l1, qadd, show (4 : Int32) = Int32.ofNat 4 from rfl, g_put (by omega), Option.bind_some]
  rfl
theorem M_looker (hN : 3000 ≤ N) (h0 : gN B n m fl V X p h) (hk : (tTok B n m p).1 = 4) (hB : fdB h) (hX : gX X h q) (hn : fdN h q) : hV g (fX12_readLooker N 216 (qH g V X) 196) (fun W Y z => gRel B n m fl V X W Y z (if 5 ≤ h 4 then .error (4, (tTok B n m p).2.1) else fMk (loA5 B n m h q (tTok B n m p).2.2.1).2 (loH B n m h q (tTok B n m p).2.2.1) (qU q (10 + h 4) (owA1 B n m h q (tTok B n m p).2.2.1).1))) := by
  obtain ⟨b1, b2, b3, b4, b5, b6, b7, -⟩ := id hB
  unfold fX12_readLooker
  rw [q196_g7, Option.bind_some, g_a4, Option.bind_some, h0.2.2.2 4 (by omega)]
  by_cases h6 : 5 ≤ h 4
  · rw [if_pos (by rw [show (5 : Int32) = Int32.ofNat 5 from rfl, qeq (by omega) (by omega)]; omega), if_pos h6, q196_c, Option.bind_some]
    exact m_badS h0.1 (k := 4) (fun W Y a b => ⟨rfl, a, b.gf⟩)
  rw [if_neg (by rw [show (5 : Int32) = Int32.ofNat 5 from rfl, qeq (by omega) (by omega)]; omega), if_neg h6, q196_c, Option.bind_some]
  refine G_adv hN h0 hk (fun W Y a1 a2 a3 a4 => ?_)
  have hX1 : gX Y h q := hX.cg a3 a4
  generalize (tTok B n m p).2.2.1 = p0 at a1 ⊢
  rw [q196_c, Option.bind_some, show (25 : Int32) = Int32.ofNat 25 from rfl, qadd]
  refine G_new hN (z := 25 + h 4) (by omega) (by omega) hB hX1 hn a1 (fun W2 Y2 k pl e1 e2 e3 => gRel_e (lo_e1 e1) e2 (a2.tr e3)) (fun W2 Y2 p1 e1 e2 e3 e4 e5 => ?_)
  have ew : (rdNw B n m (told h q) (.ok p0)).1 = (owA1 B n m h q p0).1 := rfl
  rw [ew] at e4
  have E2 : loA2 B n m h q p0 = rdCell B n m h (.ok p1) := by
    unfold loA2 owA1
    rw [e1]
  rw [q196_c, Option.bind_some]
  refine G_cell hN hB (fun _ _ => rfl) e2 (fun W4 Y4 k pl i1 i2 i3 => gRel_e (lo_e2 (by rw [E2]; exact i1)) i2 ((a2.tr e3).tr i3)) (fun W4 Y4 p3 i1 i2 i3 i4 i5 i6 => ?_)
  rw [← E2] at i1 i2
  have E3 : loA3 B n m h q p0 = rdSide B n m (.ok p3) := by
    unfold loA3
    rw [i1]
  rw [q196_g7, Option.bind_some, q196_g18, Option.bind_some, i2, show (119 : Int32) = Int32.ofNat 119 from rfl, qadd, g_put (by omega), Option.bind_some, q196_c, Option.bind_some]
  refine G_side hN (i3.put (i := 119 + h 4) (v := (loA2 B n m h q p0).1)) (fun W5 Y5 k pl j1 j2 j3 => gRel_e (lo_e3 (by rw [E3]; exact j1)) j2 ((((a2.tr e3).tr i4).tr g_w).tr j3)) (fun W5 Y5 p4 j1 j2 j3 j4 j5 j6 => ?_)
  rw [← E3] at j1 j2
  rw [q196_g7, Option.bind_some, q196_g18, Option.bind_some, j2, show (124 : Int32) = Int32.ofNat 124 from rfl, qadd, g_put (by omega), Option.bind_some, q196_g7, Option.bind_some, show (129 : Int32) = Int32.ofNat 129 from rfl, qadd, g_put (by omega), Option.bind_some, q196_g7, Option.bind_some, show (134 : Int32) = Int32.ofNat 134 from rfl, qadd, g_put (by omega), Option.bind_some, q196_g11, Option.bind_some]
  have hr := ((j3.put (i := 124 + h 4) (v := (loA3 B n m h q p0).1)).put (i := 129 + h 4) (v := 0)).put (i := 134 + h 4) (v := 24)
  have hf := ((((((a2.tr e3).tr i4).tr g_w).tr j4).tr g_w).tr (g_w (V := qw W5 199 (upd (W5 199) (124 + h 4) (Int32.ofNat (loA3 B n m h q p0).1))) (X := Y5) (r := upd ((qw W5 199 (upd (W5 199) (124 + h 4) (Int32.ofNat (loA3 B n m h q p0).1))) 199) (129 + h 4) (Int32.ofNat 0)))).tr (g_w (V := qw (qw W5 199 (upd (W5 199) (124 + h 4) (Int32.ofNat (loA3 B n m h q p0).1))) 199 (upd ((qw W5 199 (upd (W5 199) (124 + h 4) (Int32.ofNat (loA3 B n m h q p0).1))) 199) (129 + h 4) (Int32.ofNat 0))) (X := Y5) (r := upd ((qw (qw W5 199 (upd (W5 199) (124 + h 4) (Int32.ofNat (loA3 B n m h q p0).1))) 199 (upd ((qw W5 199 (upd (W5 199) (124 + h 4) (Int32.ofNat (loA3 B n m h q p0).1))) 199) (129 + h 4) (Int32.ofNat 0))) 199) (134 + h 4) (Int32.ofNat 24)))
  have hkd := hr.1.kd (c := 2) (by omega)
  rw [(mKd_2 _ tTok_k).1] at hkd
  obtain ⟨x1, x2, x3, x4, x5⟩ := loH_at (B := B) (n := n) (m := m) (h := h) (q := q) (p := p0) (by omega)
  have xn : ∀ j, j < 4 → loH B n m h q p0 j = h j := fun j hj => loH_n (by omega) (by omega) (by omega) (by omega) (by omega)
  have fin : ∀ W6 Y6 p6 r6, (loA5 B n m h q p0).2 = .ok p6 → gN B n m fl W6 Y6 p6 r6 → gFr V W6 X Y6 → Y6 201 = Y5 201 → Y6 202 = Y5 202 → r6 4 = h 4 → (∀ j, sU r6 4 (h 4 + 1) j = loH B n m h q p0 j) → hV g (fX12_readLooker_140 N 216 (qH g W6 Y6) 196) (fun W Y z => gRel B n m fl V X W Y z (fMk (loA5 B n m h q p0).2 (loH B n m h q p0) (qU q (10 + h 4) (owA1 B n m h q p0).1))) := by
    intro W6 Y6 p6 r6 y0 y1 y2 y3 y4 y5 y6
    rw [G_140 y1 y5]
    have hY6 : Y6 201 = vp_updL (Y 201) (25 + h 4) (Int64.ofNat (r8 (owA1 B n m h q p0).1)) := by rw [y3, j5, i5, e4]
    refine hV_pure (gRel_o y0 ((y1.put (i := 4) (v := h 4 + 1)).eq y6) ⟨?_, fun i hi => ?_, fun i hi => ?_, fun i hi => ?_⟩ (y2.tr g_w))
    · have := hX1.1
      unfold wMsR at this ⊢
      rw [y4, j6, i6, e5]; exact this
    · rw [xn 2 (by omega)] at hi
      rw [hY6, vpU_n (by omega), qU_n (by omega)]; exact hX1.2.1 i hi
    · rw [xn 3 (by omega)] at hi
      rw [hY6, vpU_n (by omega), qU_n (by omega)]; exact hX1.2.2.1 i hi
    · rw [x5] at hi
      rw [hY6]
      by_cases ei : i = h 4
      · rw [ei, vpU_s, qU_s]
      · rw [vpU_n (by omega), qU_n (by omega)]; exact hX1.2.2.2 i (by omega)
  by_cases hk3 : (tTok B n m p4).1 = 3
  · rw [if_pos (by exact hkd.mpr hk3)]
    have hnm : isNm B n m (loA3 B n m h q p0).2 = true := by
      rw [j1]
      exact decide_eq_true hk3
    have E4 : loA4 B n m h q p0 = rdNum B n m 0 23 (.ok p4) := by
      unfold loA4
      rw [hnm, if_pos rfl, j1]
    have E5 : loA5 B n m h q p0 = rdNum B n m 1 24 (loA4 B n m h q p0).2 := by
      unfold loA5
      rw [hnm, if_pos rfl]
    rw [q196_c, Option.bind_some]
    refine G_puts hN (i := 129 + h 4) (lo := 0) (hi := 23) (by omega) (by omega) (by omega) hr (fun W6 Y6 k pl k1 k2 k3 => gRel_e (by rw [E5, E4, k1]; rfl) k2 (hf.tr k3)) (fun W6 Y6 p5 k1 k2 k3 k4 k5 => ?_)
    rw [← E4] at k1 k2
    rw [k1] at E5
    rw [q196_c, Option.bind_some]
    refine G_puts hN (i := 134 + h 4) (lo := 1) (hi := 24) (by omega) (by omega) (by omega) k2 (fun W7 Y7 k pl n1 n2 n3 => gRel_e (by rw [E5]; exact n1) n2 ((hf.tr k3).tr n3)) (fun W7 Y7 p6 n1 n2 n3 n4 n5 => ?_)
    rw [← E5] at n1 n2
    refine fin W7 Y7 p6 _ n1 n2 ((hf.tr k3).tr n3) (by rw [n4, k4]) (by rw [n5, k5]) ?_ (fun j => ?_)
    · rw [sU_n (by omega), sU_n (by omega), sU_n (by omega), sU_n (by omega), sU_n (by omega), sU_n (by omega)]
    · unfold loH
      by_cases j4 : j = 4
      · rw [j4, sU_s, sU_s]
      rw [sU_n j4, sU_n j4]
      by_cases ja : j = 134 + h 4
      · rw [ja, sU_s, sU_s]
      rw [sU_n ja, sU_n ja]
      by_cases jb : j = 129 + h 4
      · rw [jb, sU_s, sU_s]
      rw [sU_n jb, sU_n jb, sU_n ja, sU_n jb]
  · rw [if_neg (by exact fun e => hk3 (hkd.mp e))]
    have hnm : isNm B n m (loA3 B n m h q p0).2 = false := by
      rw [j1]
      exact decide_eq_false hk3
    have E4 : loA4 B n m h q p0 = (0, .ok p4) := by
      unfold loA4
      rw [hnm, if_neg (show ¬ false = true by decide), j1]
    have E5 : loA5 B n m h q p0 = (24, .ok p4) := by
      unfold loA5
      rw [hnm, if_neg (show ¬ false = true by decide), E4]
    refine fin _ _ p4 _ (by rw [E5]) hr hf rfl rfl ?_ (fun j => ?_)
    · rw [sU_n (by omega), sU_n (by omega), sU_n (by omega), sU_n (by omega)]
    · unfold loH
      rw [E5, E4]
end QFK
