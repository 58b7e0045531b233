/-! queries, and their steps -/
section QQ
variable {g : zF} {V : Nat → Nat → Int32} {X : Nat → Nat → Int64} {N : Nat} {s : Nat → Nat}
theorem jA.thr (h : jA V X s) : jA (qT V) X s := by
  refine h.pt (fun b j hb => ?_) (fun _ _ _ => rfl)
  unfold scr at hb
  by_cases e : b = 196
  · subst e; exact qT_j (by omega)
  · rw [qT_n e]
theorem qstep {r : Int32} {o1 : Option Int32} {o2 : Option (zF × Int32)} (hg : gQ g) (hJ : jA V X s) (h1 : o1 = some r) (h2 : o2 = some (qH g (qT V) X, r)) : ∃ f2, ((zck 216 (qH g V X) 11 0).bind fun _ => (o1.bind fun x1 => ((zck 216 (qH g V X) 12 196).bind fun _ => (zbd o2 fun f3 x2 => (if x1 = x2 then some f3 else none))))) = some f2 ∧ Inv f2 := by
  rw [q0_c, Option.bind_some, h1, Option.bind_some, q196_c, Option.bind_some, h2]
  refine ⟨_, if_pos rfl, g, _, _, s, rfl, hg, hJ.thr⟩
theorem cstep {V1 V2 : Nat → Nat → Int32} {X1 X2 : Nat → Nat → Int64} {r : Int32} {o1 : Option (zF × Int32)} {m : zF → Option (zF × Int32)} (hg : gQ g) (h1 : o1 = some (qH g V1 X1, r)) (h2 : m (qH g V1 X1) = some (qH g V2 X2, r)) (hJ : jA V2 X2 s) : ∃ f2, ((zck 216 (qH g V X) 11 0).bind fun _ => (zbd o1 fun f2 x1 => ((zck 216 f2 12 196).bind fun _ => (zbd (m f2) fun f4 x3 => (if x1 = x3 then some f4 else none))))) = some f2 ∧ Inv f2 := by
  rw [q0_c, Option.bind_some, h1, zbd_some, q196_c, Option.bind_some, h2, zbd_some]
  exact ⟨_, if_pos rfl, g, _, _, s, rfl, hg, hJ⟩

theorem s_5 (hN : 3000 ≤ N) {f : zF} (hI : Inv f) (p1 p2 : Int32) : ∃ f2, zlc5 N 216 f p1 p2 = some f2 ∧ Inv f2 := by
  obtain ⟨g, V, X, s, rfl, hg, hJ⟩ := hI
  obtain ⟨⟨⟨hW, hD, hG, h9⟩, hWL, hR, hL, hS, hM, hNs, hNm⟩, hU, hR2⟩ := id hJ
  obtain ⟨r, h1, h2⟩ := tq_looker (g := g) (X := X) hN hW hD hR hS hM p1 p2
  unfold zlc5
  exact qstep hg hJ h1 h2

theorem s_6 (hN : 3000 ≤ N) {f : zF} (hI : Inv f) (p1 p2 p3 : Int32) : ∃ f2, zlc6 N 216 f p1 p2 p3 = some f2 ∧ Inv f2 := by
  obtain ⟨g, V, X, s, rfl, hg, hJ⟩ := hI
  obtain ⟨⟨⟨hW, hD, hG, h9⟩, hWL, hR, hL, hS, hM, hNs, hNm⟩, hU, hR2⟩ := id hJ
  obtain ⟨r, h1, h2⟩ := tq_cell (g := g) (X := X) hN hW hD hR hS hM p1 p2 p3
  unfold zlc6
  exact qstep hg hJ h1 h2

theorem s_8 (hN : 3000 ≤ N) {f : zF} (hI : Inv f) (p1 : Int32) : ∃ f2, zlc8 N 216 f p1 = some f2 ∧ Inv f2 := by
  obtain ⟨g, V, X, s, rfl, hg, hJ⟩ := hI
  obtain ⟨⟨⟨hW, hD, hG, h9⟩, hWL, hR, hL, hS, hM, hNs, hNm⟩, hU, hR2⟩ := id hJ
  obtain ⟨r, h1, h2⟩ := tq_land (g := g) (X := X) hN hW hD hR hS hM p1
  unfold zlc8
  exact qstep hg hJ h1 h2

theorem e_seenFigures4 (hN : 3000 ≤ N) (hW : sWF s) (hD : sWD s) (hR : rF V 4 s) (hS : rS V 15 s) (hM : rM V s) : ∀ m i k, i + m = s 3 → m < k → fX11_seenFigures_4 N 216 (qH g V X) k 0 (Int32.ofNat (qbits (fun f => !decide (sSeers s f = 0)) i)) (Int32.ofNat i) = some (Int32.ofNat (qbits (fun f => !decide (sSeers s f = 0)) (s 3))) := by
  obtain ⟨⟨w0, w0b⟩, ⟨w1, w1b⟩, w2, w3, w4, w5, w95, w113, w101, w129, w134⟩ := id hW
  obtain ⟨d139, d140, d141, d147, d159, d164, d169, dinj⟩ := id hD
  obtain ⟨f0, f1, f2, f3, f4, f8, f10, f11, f12, f13, f14⟩ := rF4 hR
  obtain ⟨r1, r16, r17, r18, r19, r20, r21, r22⟩ := rS15 hS
  intro m
  induction m with
  | zero =>
    intro i k hi hk
    obtain ⟨k, rfl⟩ : ∃ j, k = j + 1 := ⟨k - 1, by omega⟩
    have e : i = s 3 := by omega
    unfold fX11_seenFigures_4
    simp (disch := omega) only [qlit, qadd, qmul, qleT, qleF, qltT, qltF, qeqT, qeqF, qdiv, qrem, qmr, zbl0, zbl1, qzb, qzF0, qzT0, Option.bind_some, zbd_some, if_true, if_false, qneo, qneo', qlto, qltoF, qleo, qleo', qdT, qdF, decide_true, decide_false, Bool.true_and, Bool.and_true, Bool.false_and, Bool.and_false, Bool.not_true, Bool.not_false, Bool.true_or, Bool.or_true, Bool.false_or, Bool.or_false, q0_c, q0_g0, q0_g1, q0_g2, q0_g3, q0_g4, q0_g5, q0_g6, q0_g7, q0_g8, q0_g9, q0_g10, q0_g11, q0_g12, q0_g13, c4_g0, c4_g1, c4_g2, c4_g3, c4_g4, c4_g5, c4_g6, c4_g7, c4_g8, c4_g9, c4_g10, c4_g11, c4_g12, c4_g13, c4_g14, c4_c, c15_g1, c15_g0, c15_g2, c15_g3, c15_g4, c15_g5, c15_g6, c15_g7, c15_g8, c15_c, c16_at, c17_at, c18_at, c19_at, c20_at, c21_at, c22_at, c23_g1, c23_g0, c23_g2, c23_g3, c23_g4, c23_g5, c23_g6, c23_g7, c23_g8, c23_c, c24_at, c25_at, c26_at, c27_at, c28_at, c29_at, c30_at, c8_at, c9_at, c10_at, c11_at, c12_at, c13_at, c14_at, c192_at, c193_at, c194_at, c188_at, q1_g2, q191_g0, q191_g1, q191_g2, q191_g3, q191_g4, q191_g5, q191_g6, q191_g7, q191_g8, q187_g0, q187_g1, q187_g2, e_looks hN qS_15 qF_4 hR hS hW hD, e_seers hN qS_15 qF_4 hR hS hW hD, e_canGo hN qS_15 qF_4 hR hS hW hD, e_sight hN qS_15 qF_4 hR hS hW hD, e_figureIn hN qS_15 qF_4 hR hS hW hD, e_lookerIn hN qS_15 qF_4 hR hS hW hD, e_landOf hN qS_15 hS hD, e_goneByAll hN qS_15 qF_4 hR hS hW, c_hasFigure hR hW, c_hasLooker hR hW, c_hasCell hR hW, c_isSide, f0, f1, f2, f3, f4, f8, f10, f11, f12, f13, f14, r1, r16, r17, r18, r19, r20, r21, r22, e]
  | succ m ih =>
    intro i k hi hk
    obtain ⟨k, rfl⟩ : ∃ j, k = j + 1 := ⟨k - 1, by omega⟩
    have hih := ih (i + 1) k (by omega) (by omega)
    have hsl := sSeers_lt hW (f := i)
    have hq : qbits (fun f => !decide (sSeers s f = 0)) (i + 1) = qbits (fun f => !decide (sSeers s f = 0)) i + (if (fun f => !decide (sSeers s f = 0)) i = true then 2 ^ i else 0) := rfl
    unfold fX11_seenFigures_4 fX11_seenFigures_32
    cases hc : (fun f => !decide (sSeers s f = 0)) i with
    | false =>
      rw [hq, hc] at hih
      dsimp only at hc
      have hc : sSeers s i = 0 := by simpa using hc
      simp (disch := omega) only [qlit, qadd, qmul, qleT, qleF, qltT, qltF, qeqT, qeqF, qdiv, qrem, qmr, zbl0, zbl1, qzb, qzF0, qzT0, Option.bind_some, zbd_some, if_true, if_false, qneo, qneo', qlto, qltoF, qleo, qleo', qdT, qdF, decide_true, decide_false, Bool.true_and, Bool.and_true, Bool.false_and, Bool.and_false, Bool.not_true, Bool.not_false, Bool.true_or, Bool.or_true, Bool.false_or, Bool.or_false, q0_c, q0_g0, q0_g1, q0_g2, q0_g3, q0_g4, q0_g5, q0_g6, q0_g7, q0_g8, q0_g9, q0_g10, q0_g11, q0_g12, q0_g13, c4_g0, c4_g1, c4_g2, c4_g3, c4_g4, c4_g5, c4_g6, c4_g7, c4_g8, c4_g9, c4_g10, c4_g11, c4_g12, c4_g13, c4_g14, c4_c, c15_g1, c15_g0, c15_g2, c15_g3, c15_g4, c15_g5, c15_g6, c15_g7, c15_g8, c15_c, c16_at, c17_at, c18_at, c19_at, c20_at, c21_at, c22_at, c23_g1, c23_g0, c23_g2, c23_g3, c23_g4, c23_g5, c23_g6, c23_g7, c23_g8, c23_c, c24_at, c25_at, c26_at, c27_at, c28_at, c29_at, c30_at, c8_at, c9_at, c10_at, c11_at, c12_at, c13_at, c14_at, c192_at, c193_at, c194_at, c188_at, q1_g2, q191_g0, q191_g1, q191_g2, q191_g3, q191_g4, q191_g5, q191_g6, q191_g7, q191_g8, q187_g0, q187_g1, q187_g2, e_looks hN qS_15 qF_4 hR hS hW hD, e_seers hN qS_15 qF_4 hR hS hW hD, e_canGo hN qS_15 qF_4 hR hS hW hD, e_sight hN qS_15 qF_4 hR hS hW hD, e_figureIn hN qS_15 qF_4 hR hS hW hD, e_lookerIn hN qS_15 qF_4 hR hS hW hD, e_landOf hN qS_15 hS hD, e_goneByAll hN qS_15 qF_4 hR hS hW, c_hasFigure hR hW, c_hasLooker hR hW, c_hasCell hR hW, c_isSide, f0, f1, f2, f3, f4, f8, f10, f11, f12, f13, f14, r1, r16, r17, r18, r19, r20, r21, r22, hc]
      exact hih
    | true =>
      rw [hq, hc] at hih
      dsimp only at hc
      have hc : ¬ sSeers s i = 0 := by simpa using hc
      simp (disch := omega) only [qlit, qadd, qmul, qleT, qleF, qltT, qltF, qeqT, qeqF, qdiv, qrem, qmr, zbl0, zbl1, qzb, qzF0, qzT0, Option.bind_some, zbd_some, if_true, if_false, qneo, qneo', qlto, qltoF, qleo, qleo', qdT, qdF, decide_true, decide_false, Bool.true_and, Bool.and_true, Bool.false_and, Bool.and_false, Bool.not_true, Bool.not_false, Bool.true_or, Bool.or_true, Bool.false_or, Bool.or_false, q0_c, q0_g0, q0_g1, q0_g2, q0_g3, q0_g4, q0_g5, q0_g6, q0_g7, q0_g8, q0_g9, q0_g10, q0_g11, q0_g12, q0_g13, c4_g0, c4_g1, c4_g2, c4_g3, c4_g4, c4_g5, c4_g6, c4_g7, c4_g8, c4_g9, c4_g10, c4_g11, c4_g12, c4_g13, c4_g14, c4_c, c15_g1, c15_g0, c15_g2, c15_g3, c15_g4, c15_g5, c15_g6, c15_g7, c15_g8, c15_c, c16_at, c17_at, c18_at, c19_at, c20_at, c21_at, c22_at, c23_g1, c23_g0, c23_g2, c23_g3, c23_g4, c23_g5, c23_g6, c23_g7, c23_g8, c23_c, c24_at, c25_at, c26_at, c27_at, c28_at, c29_at, c30_at, c8_at, c9_at, c10_at, c11_at, c12_at, c13_at, c14_at, c192_at, c193_at, c194_at, c188_at, q1_g2, q191_g0, q191_g1, q191_g2, q191_g3, q191_g4, q191_g5, q191_g6, q191_g7, q191_g8, q187_g0, q187_g1, q187_g2, e_looks hN qS_15 qF_4 hR hS hW hD, e_seers hN qS_15 qF_4 hR hS hW hD, e_canGo hN qS_15 qF_4 hR hS hW hD, e_sight hN qS_15 qF_4 hR hS hW hD, e_figureIn hN qS_15 qF_4 hR hS hW hD, e_lookerIn hN qS_15 qF_4 hR hS hW hD, e_landOf hN qS_15 hS hD, e_goneByAll hN qS_15 qF_4 hR hS hW, c_hasFigure hR hW, c_hasLooker hR hW, c_hasCell hR hW, c_isSide, f0, f1, f2, f3, f4, f8, f10, f11, f12, f13, f14, r1, r16, r17, r18, r19, r20, r21, r22, hc, qshl1, qor, qbits_or]
      exact hih
theorem e_seenFigures (hN : 3000 ≤ N) (hW : sWF s) (hD : sWD s) (hR : rF V 4 s) (hS : rS V 15 s) (hM : rM V s) : fX11_seenFigures N 216 (qH g V X) 0 = some (Int32.ofNat (qbits (fun f => !decide (sSeers s f = 0)) (s 3))) := by
  unfold fX11_seenFigures
  obtain ⟨⟨w0, w0b⟩, ⟨w1, w1b⟩, w2, w3, w4, w5, w95, w113, w101, w129, w134⟩ := id hW
  exact e_seenFigures4 hN hW hD hR hS hM (s 3) 0 N (by omega) (by omega)

theorem e_freeFigures4 (hN : 3000 ≤ N) (hW : sWF s) (hD : sWD s) (hR : rF V 4 s) (hS : rS V 15 s) (hM : rM V s) : ∀ m i k, i + m = s 3 → m < k → fX11_freeFigures_4 N 216 (qH g V X) k 0 (Int32.ofNat (qbits (fun f => sCan s f) i)) (Int32.ofNat i) = some (Int32.ofNat (qbits (fun f => sCan s f) (s 3))) := by
  obtain ⟨⟨w0, w0b⟩, ⟨w1, w1b⟩, w2, w3, w4, w5, w95, w113, w101, w129, w134⟩ := id hW
  obtain ⟨d139, d140, d141, d147, d159, d164, d169, dinj⟩ := id hD
  obtain ⟨f0, f1, f2, f3, f4, f8, f10, f11, f12, f13, f14⟩ := rF4 hR
  obtain ⟨r1, r16, r17, r18, r19, r20, r21, r22⟩ := rS15 hS
  intro m
  induction m with
  | zero =>
    intro i k hi hk
    obtain ⟨k, rfl⟩ : ∃ j, k = j + 1 := ⟨k - 1, by omega⟩
    have e : i = s 3 := by omega
    unfold fX11_freeFigures_4
    simp (disch := omega) only [qlit, qadd, qmul, qleT, qleF, qltT, qltF, qeqT, qeqF, qdiv, qrem, qmr, zbl0, zbl1, qzb, qzF0, qzT0, Option.bind_some, zbd_some, if_true, if_false, qneo, qneo', qlto, qltoF, qleo, qleo', qdT, qdF, decide_true, decide_false, Bool.true_and, Bool.and_true, Bool.false_and, Bool.and_false, Bool.not_true, Bool.not_false, Bool.true_or, Bool.or_true, Bool.false_or, Bool.or_false, q0_c, q0_g0, q0_g1, q0_g2, q0_g3, q0_g4, q0_g5, q0_g6, q0_g7, q0_g8, q0_g9, q0_g10, q0_g11, q0_g12, q0_g13, c4_g0, c4_g1, c4_g2, c4_g3, c4_g4, c4_g5, c4_g6, c4_g7, c4_g8, c4_g9, c4_g10, c4_g11, c4_g12, c4_g13, c4_g14, c4_c, c15_g1, c15_g0, c15_g2, c15_g3, c15_g4, c15_g5, c15_g6, c15_g7, c15_g8, c15_c, c16_at, c17_at, c18_at, c19_at, c20_at, c21_at, c22_at, c23_g1, c23_g0, c23_g2, c23_g3, c23_g4, c23_g5, c23_g6, c23_g7, c23_g8, c23_c, c24_at, c25_at, c26_at, c27_at, c28_at, c29_at, c30_at, c8_at, c9_at, c10_at, c11_at, c12_at, c13_at, c14_at, c192_at, c193_at, c194_at, c188_at, q1_g2, q191_g0, q191_g1, q191_g2, q191_g3, q191_g4, q191_g5, q191_g6, q191_g7, q191_g8, q187_g0, q187_g1, q187_g2, e_looks hN qS_15 qF_4 hR hS hW hD, e_seers hN qS_15 qF_4 hR hS hW hD, e_canGo hN qS_15 qF_4 hR hS hW hD, e_sight hN qS_15 qF_4 hR hS hW hD, e_figureIn hN qS_15 qF_4 hR hS hW hD, e_lookerIn hN qS_15 qF_4 hR hS hW hD, e_landOf hN qS_15 hS hD, e_goneByAll hN qS_15 qF_4 hR hS hW, c_hasFigure hR hW, c_hasLooker hR hW, c_hasCell hR hW, c_isSide, f0, f1, f2, f3, f4, f8, f10, f11, f12, f13, f14, r1, r16, r17, r18, r19, r20, r21, r22, e]
  | succ m ih =>
    intro i k hi hk
    obtain ⟨k, rfl⟩ : ∃ j, k = j + 1 := ⟨k - 1, by omega⟩
    have hih := ih (i + 1) k (by omega) (by omega)
    have hsl := sSeers_lt hW (f := i)
    have hq : qbits (fun f => sCan s f) (i + 1) = qbits (fun f => sCan s f) i + (if (fun f => sCan s f) i = true then 2 ^ i else 0) := rfl
    unfold fX11_freeFigures_4 fX11_freeFigures_32
    cases hc : (fun f => sCan s f) i with
    | false =>
      rw [hq, hc] at hih
      dsimp only at hc
      skip
      simp (disch := omega) only [qlit, qadd, qmul, qleT, qleF, qltT, qltF, qeqT, qeqF, qdiv, qrem, qmr, zbl0, zbl1, qzb, qzF0, qzT0, Option.bind_some, zbd_some, if_true, if_false, qneo, qneo', qlto, qltoF, qleo, qleo', qdT, qdF, decide_true, decide_false, Bool.true_and, Bool.and_true, Bool.false_and, Bool.and_false, Bool.not_true, Bool.not_false, Bool.true_or, Bool.or_true, Bool.false_or, Bool.or_false, q0_c, q0_g0, q0_g1, q0_g2, q0_g3, q0_g4, q0_g5, q0_g6, q0_g7, q0_g8, q0_g9, q0_g10, q0_g11, q0_g12, q0_g13, c4_g0, c4_g1, c4_g2, c4_g3, c4_g4, c4_g5, c4_g6, c4_g7, c4_g8, c4_g9, c4_g10, c4_g11, c4_g12, c4_g13, c4_g14, c4_c, c15_g1, c15_g0, c15_g2, c15_g3, c15_g4, c15_g5, c15_g6, c15_g7, c15_g8, c15_c, c16_at, c17_at, c18_at, c19_at, c20_at, c21_at, c22_at, c23_g1, c23_g0, c23_g2, c23_g3, c23_g4, c23_g5, c23_g6, c23_g7, c23_g8, c23_c, c24_at, c25_at, c26_at, c27_at, c28_at, c29_at, c30_at, c8_at, c9_at, c10_at, c11_at, c12_at, c13_at, c14_at, c192_at, c193_at, c194_at, c188_at, q1_g2, q191_g0, q191_g1, q191_g2, q191_g3, q191_g4, q191_g5, q191_g6, q191_g7, q191_g8, q187_g0, q187_g1, q187_g2, e_looks hN qS_15 qF_4 hR hS hW hD, e_seers hN qS_15 qF_4 hR hS hW hD, e_canGo hN qS_15 qF_4 hR hS hW hD, e_sight hN qS_15 qF_4 hR hS hW hD, e_figureIn hN qS_15 qF_4 hR hS hW hD, e_lookerIn hN qS_15 qF_4 hR hS hW hD, e_landOf hN qS_15 hS hD, e_goneByAll hN qS_15 qF_4 hR hS hW, c_hasFigure hR hW, c_hasLooker hR hW, c_hasCell hR hW, c_isSide, f0, f1, f2, f3, f4, f8, f10, f11, f12, f13, f14, r1, r16, r17, r18, r19, r20, r21, r22, hc]
      exact hih
    | true =>
      rw [hq, hc] at hih
      dsimp only at hc
      skip
      simp (disch := omega) only [qlit, qadd, qmul, qleT, qleF, qltT, qltF, qeqT, qeqF, qdiv, qrem, qmr, zbl0, zbl1, qzb, qzF0, qzT0, Option.bind_some, zbd_some, if_true, if_false, qneo, qneo', qlto, qltoF, qleo, qleo', qdT, qdF, decide_true, decide_false, Bool.true_and, Bool.and_true, Bool.false_and, Bool.and_false, Bool.not_true, Bool.not_false, Bool.true_or, Bool.or_true, Bool.false_or, Bool.or_false, q0_c, q0_g0, q0_g1, q0_g2, q0_g3, q0_g4, q0_g5, q0_g6, q0_g7, q0_g8, q0_g9, q0_g10, q0_g11, q0_g12, q0_g13, c4_g0, c4_g1, c4_g2, c4_g3, c4_g4, c4_g5, c4_g6, c4_g7, c4_g8, c4_g9, c4_g10, c4_g11, c4_g12, c4_g13, c4_g14, c4_c, c15_g1, c15_g0, c15_g2, c15_g3, c15_g4, c15_g5, c15_g6, c15_g7, c15_g8, c15_c, c16_at, c17_at, c18_at, c19_at, c20_at, c21_at, c22_at, c23_g1, c23_g0, c23_g2, c23_g3, c23_g4, c23_g5, c23_g6, c23_g7, c23_g8, c23_c, c24_at, c25_at, c26_at, c27_at, c28_at, c29_at, c30_at, c8_at, c9_at, c10_at, c11_at, c12_at, c13_at, c14_at, c192_at, c193_at, c194_at, c188_at, q1_g2, q191_g0, q191_g1, q191_g2, q191_g3, q191_g4, q191_g5, q191_g6, q191_g7, q191_g8, q187_g0, q187_g1, q187_g2, e_looks hN qS_15 qF_4 hR hS hW hD, e_seers hN qS_15 qF_4 hR hS hW hD, e_canGo hN qS_15 qF_4 hR hS hW hD, e_sight hN qS_15 qF_4 hR hS hW hD, e_figureIn hN qS_15 qF_4 hR hS hW hD, e_lookerIn hN qS_15 qF_4 hR hS hW hD, e_landOf hN qS_15 hS hD, e_goneByAll hN qS_15 qF_4 hR hS hW, c_hasFigure hR hW, c_hasLooker hR hW, c_hasCell hR hW, c_isSide, f0, f1, f2, f3, f4, f8, f10, f11, f12, f13, f14, r1, r16, r17, r18, r19, r20, r21, r22, hc, qshl1, qor, qbits_or]
      exact hih
theorem e_freeFigures (hN : 3000 ≤ N) (hW : sWF s) (hD : sWD s) (hR : rF V 4 s) (hS : rS V 15 s) (hM : rM V s) : fX11_freeFigures N 216 (qH g V X) 0 = some (Int32.ofNat (qbits (fun f => sCan s f) (s 3))) := by
  unfold fX11_freeFigures
  obtain ⟨⟨w0, w0b⟩, ⟨w1, w1b⟩, w2, w3, w4, w5, w95, w113, w101, w129, w134⟩ := id hW
  exact e_freeFigures4 hN hW hD hR hS hM (s 3) 0 N (by omega) (by omega)

theorem e_lookingLookers4 (hN : 3000 ≤ N) (hW : sWF s) (hD : sWD s) (hR : rF V 4 s) (hS : rS V 15 s) (hM : rM V s) : ∀ m i k, i + m = s 4 → m < k → fX11_lookingLookers_4 N 216 (qH g V X) k 0 (Int32.ofNat (qbits (fun l => sLooks s l) i)) (Int32.ofNat i) = some (Int32.ofNat (qbits (fun l => sLooks s l) (s 4))) := by
  obtain ⟨⟨w0, w0b⟩, ⟨w1, w1b⟩, w2, w3, w4, w5, w95, w113, w101, w129, w134⟩ := id hW
  obtain ⟨d139, d140, d141, d147, d159, d164, d169, dinj⟩ := id hD
  obtain ⟨f0, f1, f2, f3, f4, f8, f10, f11, f12, f13, f14⟩ := rF4 hR
  obtain ⟨r1, r16, r17, r18, r19, r20, r21, r22⟩ := rS15 hS
  intro m
  induction m with
  | zero =>
    intro i k hi hk
    obtain ⟨k, rfl⟩ : ∃ j, k = j + 1 := ⟨k - 1, by omega⟩
    have e : i = s 4 := by omega
    unfold fX11_lookingLookers_4
    simp (disch := omega) only [qlit, qadd, qmul, qleT, qleF, qltT, qltF, qeqT, qeqF, qdiv, qrem, qmr, zbl0, zbl1, qzb, qzF0, qzT0, Option.bind_some, zbd_some, if_true, if_false, qneo, qneo', qlto, qltoF, qleo, qleo', qdT, qdF, decide_true, decide_false, Bool.true_and, Bool.and_true, Bool.false_and, Bool.and_false, Bool.not_true, Bool.not_false, Bool.true_or, Bool.or_true, Bool.false_or, Bool.or_false, q0_c, q0_g0, q0_g1, q0_g2, q0_g3, q0_g4, q0_g5, q0_g6, q0_g7, q0_g8, q0_g9, q0_g10, q0_g11, q0_g12, q0_g13, c4_g0, c4_g1, c4_g2, c4_g3, c4_g4, c4_g5, c4_g6, c4_g7, c4_g8, c4_g9, c4_g10, c4_g11, c4_g12, c4_g13, c4_g14, c4_c, c15_g1, c15_g0, c15_g2, c15_g3, c15_g4, c15_g5, c15_g6, c15_g7, c15_g8, c15_c, c16_at, c17_at, c18_at, c19_at, c20_at, c21_at, c22_at, c23_g1, c23_g0, c23_g2, c23_g3, c23_g4, c23_g5, c23_g6, c23_g7, c23_g8, c23_c, c24_at, c25_at, c26_at, c27_at, c28_at, c29_at, c30_at, c8_at, c9_at, c10_at, c11_at, c12_at, c13_at, c14_at, c192_at, c193_at, c194_at, c188_at, q1_g2, q191_g0, q191_g1, q191_g2, q191_g3, q191_g4, q191_g5, q191_g6, q191_g7, q191_g8, q187_g0, q187_g1, q187_g2, e_looks hN qS_15 qF_4 hR hS hW hD, e_seers hN qS_15 qF_4 hR hS hW hD, e_canGo hN qS_15 qF_4 hR hS hW hD, e_sight hN qS_15 qF_4 hR hS hW hD, e_figureIn hN qS_15 qF_4 hR hS hW hD, e_lookerIn hN qS_15 qF_4 hR hS hW hD, e_landOf hN qS_15 hS hD, e_goneByAll hN qS_15 qF_4 hR hS hW, c_hasFigure hR hW, c_hasLooker hR hW, c_hasCell hR hW, c_isSide, f0, f1, f2, f3, f4, f8, f10, f11, f12, f13, f14, r1, r16, r17, r18, r19, r20, r21, r22, e]
  | succ m ih =>
    intro i k hi hk
    obtain ⟨k, rfl⟩ : ∃ j, k = j + 1 := ⟨k - 1, by omega⟩
    have hih := ih (i + 1) k (by omega) (by omega)
    have hsl := sSeers_lt hW (f := i)
    have hq : qbits (fun l => sLooks s l) (i + 1) = qbits (fun l => sLooks s l) i + (if (fun l => sLooks s l) i = true then 2 ^ i else 0) := rfl
    unfold fX11_lookingLookers_4 fX11_lookingLookers_32
    cases hc : (fun l => sLooks s l) i with
    | false =>
      rw [hq, hc] at hih
      dsimp only at hc
      skip
      simp (disch := omega) only [qlit, qadd, qmul, qleT, qleF, qltT, qltF, qeqT, qeqF, qdiv, qrem, qmr, zbl0, zbl1, qzb, qzF0, qzT0, Option.bind_some, zbd_some, if_true, if_false, qneo, qneo', qlto, qltoF, qleo, qleo', qdT, qdF, decide_true, decide_false, Bool.true_and, Bool.and_true, Bool.false_and, Bool.and_false, Bool.not_true, Bool.not_false, Bool.true_or, Bool.or_true, Bool.false_or, Bool.or_false, q0_c, q0_g0, q0_g1, q0_g2, q0_g3, q0_g4, q0_g5, q0_g6, q0_g7, q0_g8, q0_g9, q0_g10, q0_g11, q0_g12, q0_g13, c4_g0, c4_g1, c4_g2, c4_g3, c4_g4, c4_g5, c4_g6, c4_g7, c4_g8, c4_g9, c4_g10, c4_g11, c4_g12, c4_g13, c4_g14, c4_c, c15_g1, c15_g0, c15_g2, c15_g3, c15_g4, c15_g5, c15_g6, c15_g7, c15_g8, c15_c, c16_at, c17_at, c18_at, c19_at, c20_at, c21_at, c22_at, c23_g1, c23_g0, c23_g2, c23_g3, c23_g4, c23_g5, c23_g6, c23_g7, c23_g8, c23_c, c24_at, c25_at, c26_at, c27_at, c28_at, c29_at, c30_at, c8_at, c9_at, c10_at, c11_at, c12_at, c13_at, c14_at, c192_at, c193_at, c194_at, c188_at, q1_g2, q191_g0, q191_g1, q191_g2, q191_g3, q191_g4, q191_g5, q191_g6, q191_g7, q191_g8, q187_g0, q187_g1, q187_g2, e_looks hN qS_15 qF_4 hR hS hW hD, e_seers hN qS_15 qF_4 hR hS hW hD, e_canGo hN qS_15 qF_4 hR hS hW hD, e_sight hN qS_15 qF_4 hR hS hW hD, e_figureIn hN qS_15 qF_4 hR hS hW hD, e_lookerIn hN qS_15 qF_4 hR hS hW hD, e_landOf hN qS_15 hS hD, e_goneByAll hN qS_15 qF_4 hR hS hW, c_hasFigure hR hW, c_hasLooker hR hW, c_hasCell hR hW, c_isSide, f0, f1, f2, f3, f4, f8, f10, f11, f12, f13, f14, r1, r16, r17, r18, r19, r20, r21, r22, hc]
      exact hih
    | true =>
      rw [hq, hc] at hih
      dsimp only at hc
      skip
      simp (disch := omega) only [qlit, qadd, qmul, qleT, qleF, qltT, qltF, qeqT, qeqF, qdiv, qrem, qmr, zbl0, zbl1, qzb, qzF0, qzT0, Option.bind_some, zbd_some, if_true, if_false, qneo, qneo', qlto, qltoF, qleo, qleo', qdT, qdF, decide_true, decide_false, Bool.true_and, Bool.and_true, Bool.false_and, Bool.and_false, Bool.not_true, Bool.not_false, Bool.true_or, Bool.or_true, Bool.false_or, Bool.or_false, q0_c, q0_g0, q0_g1, q0_g2, q0_g3, q0_g4, q0_g5, q0_g6, q0_g7, q0_g8, q0_g9, q0_g10, q0_g11, q0_g12, q0_g13, c4_g0, c4_g1, c4_g2, c4_g3, c4_g4, c4_g5, c4_g6, c4_g7, c4_g8, c4_g9, c4_g10, c4_g11, c4_g12, c4_g13, c4_g14, c4_c, c15_g1, c15_g0, c15_g2, c15_g3, c15_g4, c15_g5, c15_g6, c15_g7, c15_g8, c15_c, c16_at, c17_at, c18_at, c19_at, c20_at, c21_at, c22_at, c23_g1, c23_g0, c23_g2, c23_g3, c23_g4, c23_g5, c23_g6, c23_g7, c23_g8, c23_c, c24_at, c25_at, c26_at, c27_at, c28_at, c29_at, c30_at, c8_at, c9_at, c10_at, c11_at, c12_at, c13_at, c14_at, c192_at, c193_at, c194_at, c188_at, q1_g2, q191_g0, q191_g1, q191_g2, q191_g3, q191_g4, q191_g5, q191_g6, q191_g7, q191_g8, q187_g0, q187_g1, q187_g2, e_looks hN qS_15 qF_4 hR hS hW hD, e_seers hN qS_15 qF_4 hR hS hW hD, e_canGo hN qS_15 qF_4 hR hS hW hD, e_sight hN qS_15 qF_4 hR hS hW hD, e_figureIn hN qS_15 qF_4 hR hS hW hD, e_lookerIn hN qS_15 qF_4 hR hS hW hD, e_landOf hN qS_15 hS hD, e_goneByAll hN qS_15 qF_4 hR hS hW, c_hasFigure hR hW, c_hasLooker hR hW, c_hasCell hR hW, c_isSide, f0, f1, f2, f3, f4, f8, f10, f11, f12, f13, f14, r1, r16, r17, r18, r19, r20, r21, r22, hc, qshl1, qor, qbits_or]
      exact hih
theorem e_lookingLookers (hN : 3000 ≤ N) (hW : sWF s) (hD : sWD s) (hR : rF V 4 s) (hS : rS V 15 s) (hM : rM V s) : fX11_lookingLookers N 216 (qH g V X) 0 = some (Int32.ofNat (qbits (fun l => sLooks s l) (s 4))) := by
  unfold fX11_lookingLookers
  obtain ⟨⟨w0, w0b⟩, ⟨w1, w1b⟩, w2, w3, w4, w5, w95, w113, w101, w129, w134⟩ := id hW
  exact e_lookingLookers4 hN hW hD hR hS hM (s 4) 0 N (by omega) (by omega)


def nowV (s : Nat → Nat) (p : Int32) : Int32 := if p = Int32.ofNat 0 then Int32.ofNat (s 139) else if p = Int32.ofNat 1 then Int32.ofNat (qbits (fun f => !decide (sSeers s f = 0)) (s 3)) else if p = Int32.ofNat 2 then Int32.ofNat (qbits (fun f => sCan s f) (s 3)) else if p = Int32.ofNat 3 then Int32.ofNat (qbits (fun l => sLooks s l) (s 4)) else if p = Int32.ofNat 4 then Int32.ofNat (sGone s) else qo none
theorem m_now75 (hN : 3000 ≤ N) (hW : sWF s) (hD : sWD s) (hM : rM V s) (p : Int32) : ∀ m i k, i + m = s 4 → m < k → fX12_now_75 N 216 k (qH g V X) 196 p (Int32.ofNat (qbits (fun f => !decide (sSeers s f = 0)) (s 3))) (Int32.ofNat (qbits (fun f => sCan s f) (s 3))) (Int32.ofNat (qbits (fun l => sLooks s l) i)) (Int32.ofNat i) = some (qH g V X, nowV s p) := by
  obtain ⟨⟨w0, w0b⟩, ⟨w1, w1b⟩, w2, w3, w4, w5, w95, w113, w101, w129, w134⟩ := id hW
  obtain ⟨d139, d140, d141, d147, d159, d164, d169, dinj⟩ := id hD
  intro m
  induction m with
  | zero =>
    intro i k hi hk
    obtain ⟨k, rfl⟩ : ∃ j, k = j + 1 := ⟨k - 1, by omega⟩
    have e : i = s 4 := by omega
    unfold fX12_now_75 nowV
    simp (disch := omega) only [qlit, qadd, qmul, qleT, qleF, qltT, qltF, qeqT, qeqF, qdiv, qrem, qmr, zbl0, zbl1, qzb, qzF0, qzT0, Option.bind_some, zbd_some, if_true, if_false, qneo, qneo', qlto, qltoF, qleo, qleo', qdT, qdF, decide_true, decide_false, Bool.true_and, Bool.and_true, Bool.false_and, Bool.and_false, Bool.not_true, Bool.not_false, Bool.true_or, Bool.or_true, Bool.false_or, Bool.or_false, q196_c, q196_g6, m_ld hM, m_seenBy hN hM hW hD, m_canGo hN hM hW hD, m_isLooking hN hM hW hD, m_wentInAll hN hM hW, e]
    by_cases k0 : p = Int32.ofNat 0
    · rw [if_pos k0, if_pos k0]
    · rw [if_neg k0, if_neg k0]
      by_cases k0 : p = Int32.ofNat 1
      · rw [if_pos k0, if_pos k0]
      · rw [if_neg k0, if_neg k0]
        by_cases k0 : p = Int32.ofNat 2
        · rw [if_pos k0, if_pos k0]
        · rw [if_neg k0, if_neg k0]
          by_cases k0 : p = Int32.ofNat 3
          · rw [if_pos k0, if_pos k0]
          · rw [if_neg k0, if_neg k0]
            by_cases k0 : p = Int32.ofNat 4
            · rw [if_pos k0, if_pos k0]
            · rw [if_neg k0, if_neg k0]
  | succ m ih =>
    intro i k hi hk
    obtain ⟨k, rfl⟩ : ∃ j, k = j + 1 := ⟨k - 1, by omega⟩
    have hih := ih (i + 1) k (by omega) (by omega)
    have hq : qbits (fun l => sLooks s l) (i + 1) = qbits (fun l => sLooks s l) i + (if sLooks s i = true then 2 ^ i else 0) := rfl
    unfold fX12_now_75 fX12_now_105
    cases hc : sLooks s i with
    | false =>
      rw [hq, hc] at hih
      simp (disch := omega) only [qlit, qadd, qmul, qleT, qleF, qltT, qltF, qeqT, qeqF, qdiv, qrem, qmr, zbl0, zbl1, qzb, qzF0, qzT0, Option.bind_some, zbd_some, if_true, if_false, qneo, qneo', qlto, qltoF, qleo, qleo', qdT, qdF, decide_true, decide_false, Bool.true_and, Bool.and_true, Bool.false_and, Bool.and_false, Bool.not_true, Bool.not_false, Bool.true_or, Bool.or_true, Bool.false_or, Bool.or_false, q196_c, q196_g6, m_ld hM, m_seenBy hN hM hW hD, m_canGo hN hM hW hD, m_isLooking hN hM hW hD, m_wentInAll hN hM hW, hc, qor, Nat.or_zero]
      exact hih
    | true =>
      rw [hq, hc] at hih
      simp (disch := omega) only [qlit, qadd, qmul, qleT, qleF, qltT, qltF, qeqT, qeqF, qdiv, qrem, qmr, zbl0, zbl1, qzb, qzF0, qzT0, Option.bind_some, zbd_some, if_true, if_false, qneo, qneo', qlto, qltoF, qleo, qleo', qdT, qdF, decide_true, decide_false, Bool.true_and, Bool.and_true, Bool.false_and, Bool.and_false, Bool.not_true, Bool.not_false, Bool.true_or, Bool.or_true, Bool.false_or, Bool.or_false, q196_c, q196_g6, m_ld hM, m_seenBy hN hM hW hD, m_canGo hN hM hW hD, m_isLooking hN hM hW hD, m_wentInAll hN hM hW, hc, qshl1, qor, qbits_or]
      exact hih
theorem m_now15 (hN : 3000 ≤ N) (hW : sWF s) (hD : sWD s) (hM : rM V s) (p : Int32) : ∀ m i k, i + m = s 3 → m < k → fX12_now_15 N 216 k (qH g V X) 196 p (Int32.ofNat (qbits (fun f => !decide (sSeers s f = 0)) i)) (Int32.ofNat (qbits (fun f => sCan s f) i)) (Int32.ofNat 0) (Int32.ofNat i) = some (qH g V X, nowV s p) := by
  obtain ⟨⟨w0, w0b⟩, ⟨w1, w1b⟩, w2, w3, w4, w5, w95, w113, w101, w129, w134⟩ := id hW
  obtain ⟨d139, d140, d141, d147, d159, d164, d169, dinj⟩ := id hD
  intro m
  induction m with
  | zero =>
    intro i k hi hk
    obtain ⟨k, rfl⟩ : ∃ j, k = j + 1 := ⟨k - 1, by omega⟩
    have e : i = s 3 := by omega
    have h75 := m_now75 (g := g) (X := X) hN hW hD hM p (s 4) 0 N (by omega) (by omega)
    unfold fX12_now_15
    simp (disch := omega) only [qlit, qadd, qmul, qleT, qleF, qltT, qltF, qeqT, qeqF, qdiv, qrem, qmr, zbl0, zbl1, qzb, qzF0, qzT0, Option.bind_some, zbd_some, if_true, if_false, qneo, qneo', qlto, qltoF, qleo, qleo', qdT, qdF, decide_true, decide_false, Bool.true_and, Bool.and_true, Bool.false_and, Bool.and_false, Bool.not_true, Bool.not_false, Bool.true_or, Bool.or_true, Bool.false_or, Bool.or_false, q196_c, q196_g6, m_ld hM, m_seenBy hN hM hW hD, m_canGo hN hM hW hD, m_isLooking hN hM hW hD, m_wentInAll hN hM hW, e]
    exact h75
  | succ m ih =>
    intro i k hi hk
    obtain ⟨k, rfl⟩ : ∃ j, k = j + 1 := ⟨k - 1, by omega⟩
    have hih := ih (i + 1) k (by omega) (by omega)
    have hsl := sSeers_lt hW (f := i)
    have hq : qbits (fun f => !decide (sSeers s f = 0)) (i + 1) = qbits (fun f => !decide (sSeers s f = 0)) i + (if (!decide (sSeers s i = 0)) = true then 2 ^ i else 0) := rfl
    have hq2 : qbits (fun f => sCan s f) (i + 1) = qbits (fun f => sCan s f) i + (if sCan s i = true then 2 ^ i else 0) := rfl
    rw [hq, hq2] at hih
    unfold fX12_now_15 fX12_now_44 fX12_now_64
    cases hc : sCan s i with
    | false =>
      rw [hc] at hih
      by_cases h0 : sSeers s i = 0
      · rw [h0] at hih
        simp (disch := omega) only [qlit, qadd, qmul, qleT, qleF, qltT, qltF, qeqT, qeqF, qdiv, qrem, qmr, zbl0, zbl1, qzb, qzF0, qzT0, Option.bind_some, zbd_some, if_true, if_false, qneo, qneo', qlto, qltoF, qleo, qleo', qdT, qdF, decide_true, decide_false, Bool.true_and, Bool.and_true, Bool.false_and, Bool.and_false, Bool.not_true, Bool.not_false, Bool.true_or, Bool.or_true, Bool.false_or, Bool.or_false, q196_c, q196_g6, m_ld hM, m_seenBy hN hM hW hD, m_canGo hN hM hW hD, m_isLooking hN hM hW hD, m_wentInAll hN hM hW, hc, h0, qor, Nat.or_zero]
        exact hih
      · rw [decide_eq_false h0] at hih
        simp (disch := omega) only [qlit, qadd, qmul, qleT, qleF, qltT, qltF, qeqT, qeqF, qdiv, qrem, qmr, zbl0, zbl1, qzb, qzF0, qzT0, Option.bind_some, zbd_some, if_true, if_false, qneo, qneo', qlto, qltoF, qleo, qleo', qdT, qdF, decide_true, decide_false, Bool.true_and, Bool.and_true, Bool.false_and, Bool.and_false, Bool.not_true, Bool.not_false, Bool.true_or, Bool.or_true, Bool.false_or, Bool.or_false, q196_c, q196_g6, m_ld hM, m_seenBy hN hM hW hD, m_canGo hN hM hW hD, m_isLooking hN hM hW hD, m_wentInAll hN hM hW, hc, h0, qshl1, qor, qbits_or, Nat.or_zero]
        exact hih
    | true =>
      rw [hc] at hih
      by_cases h0 : sSeers s i = 0
      · rw [h0] at hih
        simp (disch := omega) only [qlit, qadd, qmul, qleT, qleF, qltT, qltF, qeqT, qeqF, qdiv, qrem, qmr, zbl0, zbl1, qzb, qzF0, qzT0, Option.bind_some, zbd_some, if_true, if_false, qneo, qneo', qlto, qltoF, qleo, qleo', qdT, qdF, decide_true, decide_false, Bool.true_and, Bool.and_true, Bool.false_and, Bool.and_false, Bool.not_true, Bool.not_false, Bool.true_or, Bool.or_true, Bool.false_or, Bool.or_false, q196_c, q196_g6, m_ld hM, m_seenBy hN hM hW hD, m_canGo hN hM hW hD, m_isLooking hN hM hW hD, m_wentInAll hN hM hW, hc, h0, qshl1, qor, qbits_or, Nat.or_zero]
        exact hih
      · rw [decide_eq_false h0] at hih
        simp (disch := omega) only [qlit, qadd, qmul, qleT, qleF, qltT, qltF, qeqT, qeqF, qdiv, qrem, qmr, zbl0, zbl1, qzb, qzF0, qzT0, Option.bind_some, zbd_some, if_true, if_false, qneo, qneo', qlto, qltoF, qleo, qleo', qdT, qdF, decide_true, decide_false, Bool.true_and, Bool.and_true, Bool.false_and, Bool.and_false, Bool.not_true, Bool.not_false, Bool.true_or, Bool.or_true, Bool.false_or, Bool.or_false, q196_c, q196_g6, m_ld hM, m_seenBy hN hM hW hD, m_canGo hN hM hW hD, m_isLooking hN hM hW hD, m_wentInAll hN hM hW, hc, h0, qshl1, qor, qbits_or, Nat.or_zero]
        exact hih
theorem tq_now (hN : 3000 ≤ N) (hW : sWF s) (hD : sWD s) (hR : rF V 4 s) (hS : rS V 15 s) (hM : rM V s) (p : Int32) : ∃ r, fX11_now N 216 (qH g V X) 0 p = some r ∧ fX12_now N 216 (qH g V X) 196 p = some (qH g (qT V) X, r) := by
  refine ⟨nowV s p, ?_, ?_⟩
  · have a1 := e_seenFigures (g := g) (X := X) hN hW hD hR hS hM
    have a2 := e_freeFigures (g := g) (X := X) hN hW hD hR hS hM
    have a3 := e_lookingLookers (g := g) (X := X) hN hW hD hR hS hM
    obtain ⟨⟨w0, w0b⟩, ⟨w1, w1b⟩, w2, w3, w4, w5, w95, w113, w101, w129, w134⟩ := id hW
    obtain ⟨d139, d140, d141, d147, d159, d164, d169, dinj⟩ := id hD
    obtain ⟨f0, f1, f2, f3, f4, f8, f10, f11, f12, f13, f14⟩ := rF4 hR
    obtain ⟨r1, r16, r17, r18, r19, r20, r21, r22⟩ := rS15 hS
    unfold fX11_now nowV
    rw [a1, a2, a3]
    by_cases k0 : p = Int32.ofNat 0
    · simp (disch := omega) only [qlit, qadd, qmul, qleT, qleF, qltT, qltF, qeqT, qeqF, qdiv, qrem, qmr, zbl0, zbl1, qzb, qzF0, qzT0, Option.bind_some, zbd_some, if_true, if_false, qneo, qneo', qlto, qltoF, qleo, qleo', qdT, qdF, decide_true, decide_false, Bool.true_and, Bool.and_true, Bool.false_and, Bool.and_false, Bool.not_true, Bool.not_false, Bool.true_or, Bool.or_true, Bool.false_or, Bool.or_false, q0_c, q0_g0, q0_g1, q0_g2, q0_g3, q0_g4, q0_g5, q0_g6, q0_g7, q0_g8, q0_g9, q0_g10, q0_g11, q0_g12, q0_g13, c4_g0, c4_g1, c4_g2, c4_g3, c4_g4, c4_g5, c4_g6, c4_g7, c4_g8, c4_g9, c4_g10, c4_g11, c4_g12, c4_g13, c4_g14, c4_c, c15_g1, c15_g0, c15_g2, c15_g3, c15_g4, c15_g5, c15_g6, c15_g7, c15_g8, c15_c, c16_at, c17_at, c18_at, c19_at, c20_at, c21_at, c22_at, c23_g1, c23_g0, c23_g2, c23_g3, c23_g4, c23_g5, c23_g6, c23_g7, c23_g8, c23_c, c24_at, c25_at, c26_at, c27_at, c28_at, c29_at, c30_at, c8_at, c9_at, c10_at, c11_at, c12_at, c13_at, c14_at, c192_at, c193_at, c194_at, c188_at, q1_g2, q191_g0, q191_g1, q191_g2, q191_g3, q191_g4, q191_g5, q191_g6, q191_g7, q191_g8, q187_g0, q187_g1, q187_g2, e_looks hN qS_15 qF_4 hR hS hW hD, e_seers hN qS_15 qF_4 hR hS hW hD, e_canGo hN qS_15 qF_4 hR hS hW hD, e_sight hN qS_15 qF_4 hR hS hW hD, e_figureIn hN qS_15 qF_4 hR hS hW hD, e_lookerIn hN qS_15 qF_4 hR hS hW hD, e_landOf hN qS_15 hS hD, e_goneByAll hN qS_15 qF_4 hR hS hW, c_hasFigure hR hW, c_hasLooker hR hW, c_hasCell hR hW, c_isSide, f0, f1, f2, f3, f4, f8, f10, f11, f12, f13, f14, r1, r16, r17, r18, r19, r20, r21, r22, k0]
    · by_cases k1 : p = Int32.ofNat 1
      · simp (disch := omega) only [qlit, qadd, qmul, qleT, qleF, qltT, qltF, qeqT, qeqF, qdiv, qrem, qmr, zbl0, zbl1, qzb, qzF0, qzT0, Option.bind_some, zbd_some, if_true, if_false, qneo, qneo', qlto, qltoF, qleo, qleo', qdT, qdF, decide_true, decide_false, Bool.true_and, Bool.and_true, Bool.false_and, Bool.and_false, Bool.not_true, Bool.not_false, Bool.true_or, Bool.or_true, Bool.false_or, Bool.or_false, q0_c, q0_g0, q0_g1, q0_g2, q0_g3, q0_g4, q0_g5, q0_g6, q0_g7, q0_g8, q0_g9, q0_g10, q0_g11, q0_g12, q0_g13, c4_g0, c4_g1, c4_g2, c4_g3, c4_g4, c4_g5, c4_g6, c4_g7, c4_g8, c4_g9, c4_g10, c4_g11, c4_g12, c4_g13, c4_g14, c4_c, c15_g1, c15_g0, c15_g2, c15_g3, c15_g4, c15_g5, c15_g6, c15_g7, c15_g8, c15_c, c16_at, c17_at, c18_at, c19_at, c20_at, c21_at, c22_at, c23_g1, c23_g0, c23_g2, c23_g3, c23_g4, c23_g5, c23_g6, c23_g7, c23_g8, c23_c, c24_at, c25_at, c26_at, c27_at, c28_at, c29_at, c30_at, c8_at, c9_at, c10_at, c11_at, c12_at, c13_at, c14_at, c192_at, c193_at, c194_at, c188_at, q1_g2, q191_g0, q191_g1, q191_g2, q191_g3, q191_g4, q191_g5, q191_g6, q191_g7, q191_g8, q187_g0, q187_g1, q187_g2, e_looks hN qS_15 qF_4 hR hS hW hD, e_seers hN qS_15 qF_4 hR hS hW hD, e_canGo hN qS_15 qF_4 hR hS hW hD, e_sight hN qS_15 qF_4 hR hS hW hD, e_figureIn hN qS_15 qF_4 hR hS hW hD, e_lookerIn hN qS_15 qF_4 hR hS hW hD, e_landOf hN qS_15 hS hD, e_goneByAll hN qS_15 qF_4 hR hS hW, c_hasFigure hR hW, c_hasLooker hR hW, c_hasCell hR hW, c_isSide, f0, f1, f2, f3, f4, f8, f10, f11, f12, f13, f14, r1, r16, r17, r18, r19, r20, r21, r22, k1]
      · by_cases k2 : p = Int32.ofNat 2
        · simp (disch := omega) only [qlit, qadd, qmul, qleT, qleF, qltT, qltF, qeqT, qeqF, qdiv, qrem, qmr, zbl0, zbl1, qzb, qzF0, qzT0, Option.bind_some, zbd_some, if_true, if_false, qneo, qneo', qlto, qltoF, qleo, qleo', qdT, qdF, decide_true, decide_false, Bool.true_and, Bool.and_true, Bool.false_and, Bool.and_false, Bool.not_true, Bool.not_false, Bool.true_or, Bool.or_true, Bool.false_or, Bool.or_false, q0_c, q0_g0, q0_g1, q0_g2, q0_g3, q0_g4, q0_g5, q0_g6, q0_g7, q0_g8, q0_g9, q0_g10, q0_g11, q0_g12, q0_g13, c4_g0, c4_g1, c4_g2, c4_g3, c4_g4, c4_g5, c4_g6, c4_g7, c4_g8, c4_g9, c4_g10, c4_g11, c4_g12, c4_g13, c4_g14, c4_c, c15_g1, c15_g0, c15_g2, c15_g3, c15_g4, c15_g5, c15_g6, c15_g7, c15_g8, c15_c, c16_at, c17_at, c18_at, c19_at, c20_at, c21_at, c22_at, c23_g1, c23_g0, c23_g2, c23_g3, c23_g4, c23_g5, c23_g6, c23_g7, c23_g8, c23_c, c24_at, c25_at, c26_at, c27_at, c28_at, c29_at, c30_at, c8_at, c9_at, c10_at, c11_at, c12_at, c13_at, c14_at, c192_at, c193_at, c194_at, c188_at, q1_g2, q191_g0, q191_g1, q191_g2, q191_g3, q191_g4, q191_g5, q191_g6, q191_g7, q191_g8, q187_g0, q187_g1, q187_g2, e_looks hN qS_15 qF_4 hR hS hW hD, e_seers hN qS_15 qF_4 hR hS hW hD, e_canGo hN qS_15 qF_4 hR hS hW hD, e_sight hN qS_15 qF_4 hR hS hW hD, e_figureIn hN qS_15 qF_4 hR hS hW hD, e_lookerIn hN qS_15 qF_4 hR hS hW hD, e_landOf hN qS_15 hS hD, e_goneByAll hN qS_15 qF_4 hR hS hW, c_hasFigure hR hW, c_hasLooker hR hW, c_hasCell hR hW, c_isSide, f0, f1, f2, f3, f4, f8, f10, f11, f12, f13, f14, r1, r16, r17, r18, r19, r20, r21, r22, k2]
        · by_cases k3 : p = Int32.ofNat 3
          · simp (disch := omega) only [qlit, qadd, qmul, qleT, qleF, qltT, qltF, qeqT, qeqF, qdiv, qrem, qmr, zbl0, zbl1, qzb, qzF0, qzT0, Option.bind_some, zbd_some, if_true, if_false, qneo, qneo', qlto, qltoF, qleo, qleo', qdT, qdF, decide_true, decide_false, Bool.true_and, Bool.and_true, Bool.false_and, Bool.and_false, Bool.not_true, Bool.not_false, Bool.true_or, Bool.or_true, Bool.false_or, Bool.or_false, q0_c, q0_g0, q0_g1, q0_g2, q0_g3, q0_g4, q0_g5, q0_g6, q0_g7, q0_g8, q0_g9, q0_g10, q0_g11, q0_g12, q0_g13, c4_g0, c4_g1, c4_g2, c4_g3, c4_g4, c4_g5, c4_g6, c4_g7, c4_g8, c4_g9, c4_g10, c4_g11, c4_g12, c4_g13, c4_g14, c4_c, c15_g1, c15_g0, c15_g2, c15_g3, c15_g4, c15_g5, c15_g6, c15_g7, c15_g8, c15_c, c16_at, c17_at, c18_at, c19_at, c20_at, c21_at, c22_at, c23_g1, c23_g0, c23_g2, c23_g3, c23_g4, c23_g5, c23_g6, c23_g7, c23_g8, c23_c, c24_at, c25_at, c26_at, c27_at, c28_at, c29_at, c30_at, c8_at, c9_at, c10_at, c11_at, c12_at, c13_at, c14_at, c192_at, c193_at, c194_at, c188_at, q1_g2, q191_g0, q191_g1, q191_g2, q191_g3, q191_g4, q191_g5, q191_g6, q191_g7, q191_g8, q187_g0, q187_g1, q187_g2, e_looks hN qS_15 qF_4 hR hS hW hD, e_seers hN qS_15 qF_4 hR hS hW hD, e_canGo hN qS_15 qF_4 hR hS hW hD, e_sight hN qS_15 qF_4 hR hS hW hD, e_figureIn hN qS_15 qF_4 hR hS hW hD, e_lookerIn hN qS_15 qF_4 hR hS hW hD, e_landOf hN qS_15 hS hD, e_goneByAll hN qS_15 qF_4 hR hS hW, c_hasFigure hR hW, c_hasLooker hR hW, c_hasCell hR hW, c_isSide, f0, f1, f2, f3, f4, f8, f10, f11, f12, f13, f14, r1, r16, r17, r18, r19, r20, r21, r22, k3]
          · by_cases k4 : p = Int32.ofNat 4
            · simp (disch := omega) only [qlit, qadd, qmul, qleT, qleF, qltT, qltF, qeqT, qeqF, qdiv, qrem, qmr, zbl0, zbl1, qzb, qzF0, qzT0, Option.bind_some, zbd_some, if_true, if_false, qneo, qneo', qlto, qltoF, qleo, qleo', qdT, qdF, decide_true, decide_false, Bool.true_and, Bool.and_true, Bool.false_and, Bool.and_false, Bool.not_true, Bool.not_false, Bool.true_or, Bool.or_true, Bool.false_or, Bool.or_false, q0_c, q0_g0, q0_g1, q0_g2, q0_g3, q0_g4, q0_g5, q0_g6, q0_g7, q0_g8, q0_g9, q0_g10, q0_g11, q0_g12, q0_g13, c4_g0, c4_g1, c4_g2, c4_g3, c4_g4, c4_g5, c4_g6, c4_g7, c4_g8, c4_g9, c4_g10, c4_g11, c4_g12, c4_g13, c4_g14, c4_c, c15_g1, c15_g0, c15_g2, c15_g3, c15_g4, c15_g5, c15_g6, c15_g7, c15_g8, c15_c, c16_at, c17_at, c18_at, c19_at, c20_at, c21_at, c22_at, c23_g1, c23_g0, c23_g2, c23_g3, c23_g4, c23_g5, c23_g6, c23_g7, c23_g8, c23_c, c24_at, c25_at, c26_at, c27_at, c28_at, c29_at, c30_at, c8_at, c9_at, c10_at, c11_at, c12_at, c13_at, c14_at, c192_at, c193_at, c194_at, c188_at, q1_g2, q191_g0, q191_g1, q191_g2, q191_g3, q191_g4, q191_g5, q191_g6, q191_g7, q191_g8, q187_g0, q187_g1, q187_g2, e_looks hN qS_15 qF_4 hR hS hW hD, e_seers hN qS_15 qF_4 hR hS hW hD, e_canGo hN qS_15 qF_4 hR hS hW hD, e_sight hN qS_15 qF_4 hR hS hW hD, e_figureIn hN qS_15 qF_4 hR hS hW hD, e_lookerIn hN qS_15 qF_4 hR hS hW hD, e_landOf hN qS_15 hS hD, e_goneByAll hN qS_15 qF_4 hR hS hW, c_hasFigure hR hW, c_hasLooker hR hW, c_hasCell hR hW, c_isSide, f0, f1, f2, f3, f4, f8, f10, f11, f12, f13, f14, r1, r16, r17, r18, r19, r20, r21, r22, k4]
            · simp (disch := omega) only [qlit, qadd, qmul, qleT, qleF, qltT, qltF, qeqT, qeqF, qdiv, qrem, qmr, zbl0, zbl1, qzb, qzF0, qzT0, Option.bind_some, zbd_some, if_true, if_false, qneo, qneo', qlto, qltoF, qleo, qleo', qdT, qdF, decide_true, decide_false, Bool.true_and, Bool.and_true, Bool.false_and, Bool.and_false, Bool.not_true, Bool.not_false, Bool.true_or, Bool.or_true, Bool.false_or, Bool.or_false, q0_c, q0_g0, q0_g1, q0_g2, q0_g3, q0_g4, q0_g5, q0_g6, q0_g7, q0_g8, q0_g9, q0_g10, q0_g11, q0_g12, q0_g13, c4_g0, c4_g1, c4_g2, c4_g3, c4_g4, c4_g5, c4_g6, c4_g7, c4_g8, c4_g9, c4_g10, c4_g11, c4_g12, c4_g13, c4_g14, c4_c, c15_g1, c15_g0, c15_g2, c15_g3, c15_g4, c15_g5, c15_g6, c15_g7, c15_g8, c15_c, c16_at, c17_at, c18_at, c19_at, c20_at, c21_at, c22_at, c23_g1, c23_g0, c23_g2, c23_g3, c23_g4, c23_g5, c23_g6, c23_g7, c23_g8, c23_c, c24_at, c25_at, c26_at, c27_at, c28_at, c29_at, c30_at, c8_at, c9_at, c10_at, c11_at, c12_at, c13_at, c14_at, c192_at, c193_at, c194_at, c188_at, q1_g2, q191_g0, q191_g1, q191_g2, q191_g3, q191_g4, q191_g5, q191_g6, q191_g7, q191_g8, q187_g0, q187_g1, q187_g2, e_looks hN qS_15 qF_4 hR hS hW hD, e_seers hN qS_15 qF_4 hR hS hW hD, e_canGo hN qS_15 qF_4 hR hS hW hD, e_sight hN qS_15 qF_4 hR hS hW hD, e_figureIn hN qS_15 qF_4 hR hS hW hD, e_lookerIn hN qS_15 qF_4 hR hS hW hD, e_landOf hN qS_15 hS hD, e_goneByAll hN qS_15 qF_4 hR hS hW, c_hasFigure hR hW, c_hasLooker hR hW, c_hasCell hR hW, c_isSide, f0, f1, f2, f3, f4, f8, f10, f11, f12, f13, f14, r1, r16, r17, r18, r19, r20, r21, r22, k0, k1, k2, k3, k4]
  · obtain ⟨⟨w0, w0b⟩, ⟨w1, w1b⟩, w2, w3, w4, w5, w95, w113, w101, w129, w134⟩ := id hW
    have h := m_now15 (g := g) (X := X) hN hW hD hM.thr p (s 3) 0 N (by omega) (by omega)
    unfold fX12_now
    rw [m_thr0, Option.bind_some]
    exact h

theorem s_7 (hN : 3000 ≤ N) {f : zF} (hI : Inv f) (p1 : Int32) : ∃ f2, zlc7 N 216 f p1 = some f2 ∧ Inv f2 := by
  obtain ⟨g, V, X, s, rfl, hg, hJ⟩ := hI
  obtain ⟨⟨⟨hW, hD, hG, h9⟩, hWL, hR, hL, hS, hM, hNs, hNm⟩, hU, hR2⟩ := id hJ
  obtain ⟨r, h1, h2⟩ := tq_now (g := g) (X := X) hN hW hD hR hS hM p1
  unfold zlc7
  exact qstep hg hJ h1 h2

end QQ
