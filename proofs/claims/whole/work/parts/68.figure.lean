/-! figure and mean; the tape fed -/
section QJ
variable {g : zF} {V V2 : Nat → Nat → Int32} {X X2 : Nat → Nat → Int64} {N : Nat} {s : Nat → Nat}
theorem jA.thx (h : jA V X s) {x : Int32} {r : Nat → Int64} : jA (qw V 196 (upd (V 196) 0 x)) (qx X 215 r) s := by
  refine h.pt (fun b j hb => ?_) (fun b j hb => ?_)
  · unfold scr at hb
    by_cases e : b = 196
    · subst e; rw [qw_s, upd_n (by omega)]
    · rw [qw_n e]
  · unfold scx at hb
    rw [qx_n (by omega)]
def tO (g : zF) (V : Nat → Nat → Int32) (X : Nat → Nat → Int64) (o2 : zF → Option (zF × Int32)) (r : Int32) : Option Int32 → Prop
  | none => o2 (qH g V X) = some (qH g (qw V 196 (upd (V 196) 0 (Int32.ofNat 1))) X, r)
  | some v => ∀ Y, o2 (qH g V Y) = some (qH g (qT V) Y, v)
/-- what both sides make of a call that may throw -/
theorem tstep {o1 : Option (Option Int32)} {v : Option Int32} {r : Int32} {o2 : zF → Option (zF × Int32)} (hg : gQ g) (hJ : jA V X s) (h1 : o1 = some v)
    (h2 : tO g V X o2 r v) :
    ∃ f2, (zbd ((zck 216 (qH g V X) 11 0).bind fun _ => (o1.bind fun r => (match r with | none => some (qH g V X, (1 : Int32)) | some v => ((zsL 216 (qH g V X) 1 215 0 (v.toInt64)).bind fun f1 => some (f1, (0 : Int32)))))) fun f2 x1 => ((zck 216 f2 12 196).bind fun _ => (zbd (o2 f2) fun f4 x3 => ((zck 216 f4 12 196).bind fun _ => ((fX12_thrown N 216 f4 196).bind fun x5 => (if x5 = x1 then (if x1 = 0 then ((zlL 216 f4 1 215 (0 : Int32)).bind fun x6 => (if (lg_cmp x6 (x3.toInt64)) = 0 then some f4 else none)) else some f4) else none)))))) = some f2 ∧ Inv f2 := by
  cases v with
  | none =>
    unfold tO at h2
    rw [q0_c, Option.bind_some, h1, Option.bind_some]
    dsimp only
    rw [zbd_some, q196_c, Option.bind_some, h2, zbd_some, q196_c, Option.bind_some]
    unfold fX12_thrown
    rw [q196_g0, Option.bind_some, Option.bind_some, qw_s, upd_s, if_pos (show Int32.ofNat 1 = (1 : Int32) from rfl), if_neg (by decide)]
    exact ⟨_, rfl, g, _, _, s, rfl, hg, by have := hJ.thx (x := Int32.ofNat 1) (r := X 215); rwa [show qx X 215 (X 215) = X from by funext b; unfold qx; split <;> simp_all] at this⟩
  | some v =>
    unfold tO at h2
    have e0 : zsL 216 (qH g V X) 1 215 0 v.toInt64 = some (qH g V (qx X 215 (vp_updL (X 215) 0 v.toInt64))) := qsL qk_215 (k := 0) (by omega) (by omega)
    rw [q0_c, Option.bind_some, h1, Option.bind_some]
    dsimp only
    rw [e0, Option.bind_some, zbd_some, q196_c, Option.bind_some, h2, zbd_some, q196_c, Option.bind_some]
    have e1 : zlL 216 (qH g (qT V) (qx X 215 (vp_updL (X 215) 0 v.toInt64))) 1 215 0 = some ((qx X 215 (vp_updL (X 215) 0 v.toInt64)) 215 0) := qlL qk_215 (k := 0) (by omega) (by omega)
    unfold fX12_thrown
    rw [q196_g0, Option.bind_some, Option.bind_some]
    have e2 : qT V 196 0 = Int32.ofNat 0 := by unfold qT; rw [qw_s, upd_s]
    rw [e2, if_pos (show Int32.ofNat 0 = (0 : Int32) from rfl), if_pos (show (0 : Int32) = 0 from rfl), e1, Option.bind_some, qx_s, vpU_s, if_pos (by rw [q64_cmp])]
    exact ⟨_, rfl, g, _, _, s, rfl, hg, hJ.thx⟩

theorem mt0 {f : zF} : fX12_throwsIf N 216 f 196 (Int32.ofNat 0) = (zpI 216 f 12 196 0 (Int32.ofNat 0)).bind fun f1 => some (f1, Int32.ofNat 0) := by
  unfold fX12_throwsIf fX12_throwsIf_10
  rw [if_pos (show Int32.ofNat 0 = (0 : Int32) from rfl)]
  rfl
theorem mt1 {f : zF} : fX12_throwsIf N 216 f 196 (Int32.ofNat 1) = (zpI 216 f 12 196 0 (Int32.ofNat 1)).bind fun f1 => some (f1, Int32.ofNat 1) := by
  unfold fX12_throwsIf fX12_throwsIf_10
  rw [if_neg (by decide)]
  rfl
theorem m_isFigureX (hM : rM V s) (hW : sWF s) {p : Int32} : fX12_isFigure N 216 (qH g V X) 196 p = some (qz (qrg p 0 (s 3))) := m_isFigure hM hW
theorem tq_figure (hN : 3000 ≤ N) (hW : sWF s) (hD : sWD s) (hR : rF V 4 s) (hS : rS V 15 s) (hM : rM V s) (p q : Int32) : ∃ v r, fX11_figure N 216 (qH g V X) 0 p q = some v ∧ tO g V X (fun f => fX12_figure N 216 f 196 p q) r v := by
  obtain ⟨⟨w0, w0b⟩, ⟨w1, w1b⟩, w2, w3, w4, w5, w95, w113, w101, w129, w134⟩ := id hW
  obtain ⟨d139, d140, d141, d147, d159, d164, d169, dinj⟩ := id hD
  obtain ⟨f0, f1, f2, f3, f4, f8, f10, f11, f12, f13, f14⟩ := rF4 hR
  obtain ⟨r1, r16, r17, r18, r19, r20, r21, r22⟩ := rS15 hS
  have m1 := m_isFigureX (N := N) (g := g) (X := X) hM hW (p := p)
  cases hp : qrg p 0 (s 3) with
  | false =>
    refine ⟨none, Int32.ofNat 0, ?_, ?_⟩
    · unfold fX11_figure fX11_figure_21
      rw [c0_1, Option.bind_some, c4_c, Option.bind_some, c_hasFigure hR hW, hp, Option.bind_some, if_pos qzf]
    · unfold tO
      dsimp only
      unfold fX12_figure fX12_figure_19 fX12_figure_24
      rw [q196_c, Option.bind_some, m1, hp, Option.bind_some, if_pos qzf, l1', mt1, q196_p0, Option.bind_some, Option.bind_some, zbd_some, if_neg (by decide)]
      rfl
  | true =>
    obtain ⟨f, rfl, hf, -, hf2⟩ := qrg_e hp
    have h141 := d141 f hf2
    have h147 := d147 f hf2
    cases hq : qrg q 0 8 with
    | false =>
      refine ⟨none, Int32.ofNat 0, ?_, ?_⟩
      · unfold fX11_figure fX11_figure_21
        rw [c0_1, Option.bind_some, c4_c, Option.bind_some, c_hasFigure hR hW, hp, Option.bind_some, if_neg qzt]
        rcases qarg q with h | ⟨k, hk, rfl⟩
        · rw [if_pos h]
        · rw [qrg_k hk] at hq
          have hq2 := of_decide_eq_false hq
          rw [if_neg (Int32.ofNat_not_neg hk), if_neg (by rw [show (7 : Int32) = Int32.ofNat 7 from rfl, qle (by omega) (by omega)]; omega)]
      · unfold tO
        dsimp only
        unfold fX12_figure fX12_figure_19 fX12_figure_24
        rw [q196_c, Option.bind_some, m1, hp, Option.bind_some, if_neg qzt, show (7 : Int32) = Int32.ofNat 7 from rfl, l0, m_in (by omega) (by omega), hq, Option.bind_some, if_pos (show qz false = Int32.ofNat 0 from rfl), l1', mt1, q196_p0, Option.bind_some, Option.bind_some, zbd_some, if_neg (by decide)]
    | true =>
      obtain ⟨k, rfl, hk, -, hk2⟩ := qrg_e hq
      have key : ∀ Y, fX12_figure N 216 (qH g V Y) 196 (Int32.ofNat f) (Int32.ofNat k) = fX12_figure_24 N 216 (qH g V Y) 196 (Int32.ofNat f) (Int32.ofNat k) 196 (Int32.ofNat 0) := by
        intro Y
        unfold fX12_figure
        rw [q196_c, Option.bind_some, m_isFigureX hM hW, hp, Option.bind_some, if_neg qzt, show (7 : Int32) = Int32.ofNat 7 from rfl, l0, m_in (by omega) (by omega), hq, Option.bind_some, if_neg (show ¬ qz true = Int32.ofNat 0 by decide)]
      have key2 : ∀ Y, fX12_figure_24 N 216 (qH g V Y) 196 (Int32.ofNat f) (Int32.ofNat k) 196 (Int32.ofNat 0) = if Int32.ofNat k = (0 : Int32) then ((zgR 216 (qH g (qT V) Y) 12 196 6).bind fun x4 => ((zlI 216 (qH g (qT V) Y) 0 x4 ((141 : Int32) + Int32.ofNat f)).bind fun x5 => some (qH g (qT V) Y, (zrem x5 (9 : Int32))))) else (if Int32.ofNat k = (1 : Int32) then ((zgR 216 (qH g (qT V) Y) 12 196 6).bind fun x6 => ((zlI 216 (qH g (qT V) Y) 0 x6 ((141 : Int32) + Int32.ofNat f)).bind fun x7 => some (qH g (qT V) Y, (x7 / (9 : Int32))))) else (if Int32.ofNat k = (2 : Int32) then ((zgR 216 (qH g (qT V) Y) 12 196 6).bind fun x8 => ((zlI 216 (qH g (qT V) Y) 0 x8 ((147 : Int32) + Int32.ofNat f)).bind fun x9 => some (qH g (qT V) Y, x9))) else (if Int32.ofNat k = (3 : Int32) then ((zgR 216 (qH g (qT V) Y) 12 196 6).bind fun x10 => ((zlI 216 (qH g (qT V) Y) 0 x10 ((95 : Int32) + Int32.ofNat f)).bind fun x11 => some (qH g (qT V) Y, x11))) else (if Int32.ofNat k = (4 : Int32) then ((zgR 216 (qH g (qT V) Y) 12 196 6).bind fun x12 => ((zlI 216 (qH g (qT V) Y) 0 x12 ((113 : Int32) + Int32.ofNat f)).bind fun x13 => some (qH g (qT V) Y, x13))) else (if Int32.ofNat k = (5 : Int32) then ((zgR 216 (qH g (qT V) Y) 12 196 6).bind fun x14 => ((zlI 216 (qH g (qT V) Y) 0 x14 ((153 : Int32) + Int32.ofNat f)).bind fun x15 => some (qH g (qT V) Y, x15))) else (if Int32.ofNat k = (6 : Int32) then ((zck 216 (qH g (qT V) Y) 12 196).bind fun _ => ((fX12_seenBy N 216 (qH g (qT V) Y) 196 (Int32.ofNat f)).bind fun x16 => some (qH g (qT V) Y, x16))) else ((zck 216 (qH g (qT V) Y) 12 196).bind fun _ => ((fX12_canGo N 216 (qH g (qT V) Y) 196 (Int32.ofNat f)).bind fun x17 => (if x17 = 0 then some (qH g (qT V) Y, (0 : Int32)) else some (qH g (qT V) Y, (1 : Int32)))))))))))  := by
        intro Y
        unfold fX12_figure_24
        rw [q196_c, Option.bind_some, mt0, m_thr, Option.bind_some, zbd_some, if_pos (show Int32.ofNat 0 = (0 : Int32) from rfl)]
      have ck : fX11_figure N 216 (qH g V X) 0 (Int32.ofNat f) (Int32.ofNat k) = fX11_figure N 216 (qH g V X) 0 (Int32.ofNat f) (Int32.ofNat k) := rfl
      conv at ck => rhs; unfold fX11_figure fX11_figure_21
      rw [c0_1, Option.bind_some, c4_c, Option.bind_some, c_hasFigure hR hW, hp, Option.bind_some, if_neg qzt, if_neg (Int32.ofNat_not_neg hk), if_pos (show Int32.ofNat k ≤ (7 : Int32) by rw [show (7 : Int32) = Int32.ofNat 7 from rfl, qle (by omega) (by omega)]; omega)] at ck
      rw [ck]
      rcases (show k = 0 ∨ k = 1 ∨ k = 2 ∨ k = 3 ∨ k = 4 ∨ k = 5 ∨ k = 6 ∨ k = 7 by omega) with rfl | rfl | rfl | rfl | rfl | rfl | rfl | rfl

      · refine ⟨some (Int32.ofNat (s (141 + f) % 9)), Int32.ofNat 0, ?_, ?_⟩
        · simp (disch := omega) only [qlit, qadd, qmul, qleT, qleF, qltT, qltF, qeqT, qeqF, qdiv, qrem, qmr, zbl0, zbl1, qzb, qzF0, qzT0, Option.bind_some, zbd_some, if_true, if_false, qneo, qneo', qlto, qltoF, qleo, qleo', qdT, qdF, decide_true, decide_false, Bool.true_and, Bool.and_true, Bool.false_and, Bool.and_false, Bool.not_true, Bool.not_false, Bool.true_or, Bool.or_true, Bool.false_or, Bool.or_false, q0_c, q0_g0, q0_g1, q0_g2, q0_g3, q0_g4, q0_g5, q0_g6, q0_g7, q0_g8, q0_g9, q0_g10, q0_g11, q0_g12, q0_g13, c4_g0, c4_g1, c4_g2, c4_g3, c4_g4, c4_g5, c4_g6, c4_g7, c4_g8, c4_g9, c4_g10, c4_g11, c4_g12, c4_g13, c4_g14, c4_c, c15_g1, c15_g0, c15_g2, c15_g3, c15_g4, c15_g5, c15_g6, c15_g7, c15_g8, c15_c, c16_at, c17_at, c18_at, c19_at, c20_at, c21_at, c22_at, c23_g1, c23_g0, c23_g2, c23_g3, c23_g4, c23_g5, c23_g6, c23_g7, c23_g8, c23_c, c24_at, c25_at, c26_at, c27_at, c28_at, c29_at, c30_at, c8_at, c9_at, c10_at, c11_at, c12_at, c13_at, c14_at, c192_at, c193_at, c194_at, c188_at, q1_g2, q191_g0, q191_g1, q191_g2, q191_g3, q191_g4, q191_g5, q191_g6, q191_g7, q191_g8, q187_g0, q187_g1, q187_g2, e_looks hN qS_15 qF_4 hR hS hW hD, e_seers hN qS_15 qF_4 hR hS hW hD, e_canGo hN qS_15 qF_4 hR hS hW hD, e_sight hN qS_15 qF_4 hR hS hW hD, e_figureIn hN qS_15 qF_4 hR hS hW hD, e_lookerIn hN qS_15 qF_4 hR hS hW hD, e_landOf hN qS_15 hS hD, e_goneByAll hN qS_15 qF_4 hR hS hW, c_hasFigure hR hW, c_hasLooker hR hW, c_hasCell hR hW, c_isSide, f0, f1, f2, f3, f4, f8, f10, f11, f12, f13, f14, r1, r16, r17, r18, r19, r20, r21, r22, hp, hq]
        · intro Y
          dsimp only
          rw [key, key2]
          simp (disch := omega) only [qlit, qadd, qmul, qleT, qleF, qltT, qltF, qeqT, qeqF, qdiv, qrem, qmr, zbl0, zbl1, qzb, qzF0, qzT0, Option.bind_some, zbd_some, if_true, if_false, qneo, qneo', qlto, qltoF, qleo, qleo', qdT, qdF, decide_true, decide_false, Bool.true_and, Bool.and_true, Bool.false_and, Bool.and_false, Bool.not_true, Bool.not_false, Bool.true_or, Bool.or_true, Bool.false_or, Bool.or_false, m_thr, q196_c, q196_g6, m_ld hM.thr, m_isFigure hM.thr hW, m_in, m_seenBy hN hM.thr hW hD, m_canGo hN hM.thr hW hD, mt0, hp, hq]
      · refine ⟨some (Int32.ofNat (s (141 + f) / 9)), Int32.ofNat 0, ?_, ?_⟩
        · simp (disch := omega) only [qlit, qadd, qmul, qleT, qleF, qltT, qltF, qeqT, qeqF, qdiv, qrem, qmr, zbl0, zbl1, qzb, qzF0, qzT0, Option.bind_some, zbd_some, if_true, if_false, qneo, qneo', qlto, qltoF, qleo, qleo', qdT, qdF, decide_true, decide_false, Bool.true_and, Bool.and_true, Bool.false_and, Bool.and_false, Bool.not_true, Bool.not_false, Bool.true_or, Bool.or_true, Bool.false_or, Bool.or_false, q0_c, q0_g0, q0_g1, q0_g2, q0_g3, q0_g4, q0_g5, q0_g6, q0_g7, q0_g8, q0_g9, q0_g10, q0_g11, q0_g12, q0_g13, c4_g0, c4_g1, c4_g2, c4_g3, c4_g4, c4_g5, c4_g6, c4_g7, c4_g8, c4_g9, c4_g10, c4_g11, c4_g12, c4_g13, c4_g14, c4_c, c15_g1, c15_g0, c15_g2, c15_g3, c15_g4, c15_g5, c15_g6, c15_g7, c15_g8, c15_c, c16_at, c17_at, c18_at, c19_at, c20_at, c21_at, c22_at, c23_g1, c23_g0, c23_g2, c23_g3, c23_g4, c23_g5, c23_g6, c23_g7, c23_g8, c23_c, c24_at, c25_at, c26_at, c27_at, c28_at, c29_at, c30_at, c8_at, c9_at, c10_at, c11_at, c12_at, c13_at, c14_at, c192_at, c193_at, c194_at, c188_at, q1_g2, q191_g0, q191_g1, q191_g2, q191_g3, q191_g4, q191_g5, q191_g6, q191_g7, q191_g8, q187_g0, q187_g1, q187_g2, e_looks hN qS_15 qF_4 hR hS hW hD, e_seers hN qS_15 qF_4 hR hS hW hD, e_canGo hN qS_15 qF_4 hR hS hW hD, e_sight hN qS_15 qF_4 hR hS hW hD, e_figureIn hN qS_15 qF_4 hR hS hW hD, e_lookerIn hN qS_15 qF_4 hR hS hW hD, e_landOf hN qS_15 hS hD, e_goneByAll hN qS_15 qF_4 hR hS hW, c_hasFigure hR hW, c_hasLooker hR hW, c_hasCell hR hW, c_isSide, f0, f1, f2, f3, f4, f8, f10, f11, f12, f13, f14, r1, r16, r17, r18, r19, r20, r21, r22, hp, hq]
        · intro Y
          dsimp only
          rw [key, key2]
          simp (disch := omega) only [qlit, qadd, qmul, qleT, qleF, qltT, qltF, qeqT, qeqF, qdiv, qrem, qmr, zbl0, zbl1, qzb, qzF0, qzT0, Option.bind_some, zbd_some, if_true, if_false, qneo, qneo', qlto, qltoF, qleo, qleo', qdT, qdF, decide_true, decide_false, Bool.true_and, Bool.and_true, Bool.false_and, Bool.and_false, Bool.not_true, Bool.not_false, Bool.true_or, Bool.or_true, Bool.false_or, Bool.or_false, m_thr, q196_c, q196_g6, m_ld hM.thr, m_isFigure hM.thr hW, m_in, m_seenBy hN hM.thr hW hD, m_canGo hN hM.thr hW hD, mt0, hp, hq]
      · refine ⟨some (Int32.ofNat (s (147 + f))), Int32.ofNat 0, ?_, ?_⟩
        · simp (disch := omega) only [qlit, qadd, qmul, qleT, qleF, qltT, qltF, qeqT, qeqF, qdiv, qrem, qmr, zbl0, zbl1, qzb, qzF0, qzT0, Option.bind_some, zbd_some, if_true, if_false, qneo, qneo', qlto, qltoF, qleo, qleo', qdT, qdF, decide_true, decide_false, Bool.true_and, Bool.and_true, Bool.false_and, Bool.and_false, Bool.not_true, Bool.not_false, Bool.true_or, Bool.or_true, Bool.false_or, Bool.or_false, q0_c, q0_g0, q0_g1, q0_g2, q0_g3, q0_g4, q0_g5, q0_g6, q0_g7, q0_g8, q0_g9, q0_g10, q0_g11, q0_g12, q0_g13, c4_g0, c4_g1, c4_g2, c4_g3, c4_g4, c4_g5, c4_g6, c4_g7, c4_g8, c4_g9, c4_g10, c4_g11, c4_g12, c4_g13, c4_g14, c4_c, c15_g1, c15_g0, c15_g2, c15_g3, c15_g4, c15_g5, c15_g6, c15_g7, c15_g8, c15_c, c16_at, c17_at, c18_at, c19_at, c20_at, c21_at, c22_at, c23_g1, c23_g0, c23_g2, c23_g3, c23_g4, c23_g5, c23_g6, c23_g7, c23_g8, c23_c, c24_at, c25_at, c26_at, c27_at, c28_at, c29_at, c30_at, c8_at, c9_at, c10_at, c11_at, c12_at, c13_at, c14_at, c192_at, c193_at, c194_at, c188_at, q1_g2, q191_g0, q191_g1, q191_g2, q191_g3, q191_g4, q191_g5, q191_g6, q191_g7, q191_g8, q187_g0, q187_g1, q187_g2, e_looks hN qS_15 qF_4 hR hS hW hD, e_seers hN qS_15 qF_4 hR hS hW hD, e_canGo hN qS_15 qF_4 hR hS hW hD, e_sight hN qS_15 qF_4 hR hS hW hD, e_figureIn hN qS_15 qF_4 hR hS hW hD, e_lookerIn hN qS_15 qF_4 hR hS hW hD, e_landOf hN qS_15 hS hD, e_goneByAll hN qS_15 qF_4 hR hS hW, c_hasFigure hR hW, c_hasLooker hR hW, c_hasCell hR hW, c_isSide, f0, f1, f2, f3, f4, f8, f10, f11, f12, f13, f14, r1, r16, r17, r18, r19, r20, r21, r22, hp, hq]
        · intro Y
          dsimp only
          rw [key, key2]
          simp (disch := omega) only [qlit, qadd, qmul, qleT, qleF, qltT, qltF, qeqT, qeqF, qdiv, qrem, qmr, zbl0, zbl1, qzb, qzF0, qzT0, Option.bind_some, zbd_some, if_true, if_false, qneo, qneo', qlto, qltoF, qleo, qleo', qdT, qdF, decide_true, decide_false, Bool.true_and, Bool.and_true, Bool.false_and, Bool.and_false, Bool.not_true, Bool.not_false, Bool.true_or, Bool.or_true, Bool.false_or, Bool.or_false, m_thr, q196_c, q196_g6, m_ld hM.thr, m_isFigure hM.thr hW, m_in, m_seenBy hN hM.thr hW hD, m_canGo hN hM.thr hW hD, mt0, hp, hq]
      · refine ⟨some (Int32.ofNat (s (95 + f))), Int32.ofNat 0, ?_, ?_⟩
        · simp (disch := omega) only [qlit, qadd, qmul, qleT, qleF, qltT, qltF, qeqT, qeqF, qdiv, qrem, qmr, zbl0, zbl1, qzb, qzF0, qzT0, Option.bind_some, zbd_some, if_true, if_false, qneo, qneo', qlto, qltoF, qleo, qleo', qdT, qdF, decide_true, decide_false, Bool.true_and, Bool.and_true, Bool.false_and, Bool.and_false, Bool.not_true, Bool.not_false, Bool.true_or, Bool.or_true, Bool.false_or, Bool.or_false, q0_c, q0_g0, q0_g1, q0_g2, q0_g3, q0_g4, q0_g5, q0_g6, q0_g7, q0_g8, q0_g9, q0_g10, q0_g11, q0_g12, q0_g13, c4_g0, c4_g1, c4_g2, c4_g3, c4_g4, c4_g5, c4_g6, c4_g7, c4_g8, c4_g9, c4_g10, c4_g11, c4_g12, c4_g13, c4_g14, c4_c, c15_g1, c15_g0, c15_g2, c15_g3, c15_g4, c15_g5, c15_g6, c15_g7, c15_g8, c15_c, c16_at, c17_at, c18_at, c19_at, c20_at, c21_at, c22_at, c23_g1, c23_g0, c23_g2, c23_g3, c23_g4, c23_g5, c23_g6, c23_g7, c23_g8, c23_c, c24_at, c25_at, c26_at, c27_at, c28_at, c29_at, c30_at, c8_at, c9_at, c10_at, c11_at, c12_at, c13_at, c14_at, c192_at, c193_at, c194_at, c188_at, q1_g2, q191_g0, q191_g1, q191_g2, q191_g3, q191_g4, q191_g5, q191_g6, q191_g7, q191_g8, q187_g0, q187_g1, q187_g2, e_looks hN qS_15 qF_4 hR hS hW hD, e_seers hN qS_15 qF_4 hR hS hW hD, e_canGo hN qS_15 qF_4 hR hS hW hD, e_sight hN qS_15 qF_4 hR hS hW hD, e_figureIn hN qS_15 qF_4 hR hS hW hD, e_lookerIn hN qS_15 qF_4 hR hS hW hD, e_landOf hN qS_15 hS hD, e_goneByAll hN qS_15 qF_4 hR hS hW, c_hasFigure hR hW, c_hasLooker hR hW, c_hasCell hR hW, c_isSide, f0, f1, f2, f3, f4, f8, f10, f11, f12, f13, f14, r1, r16, r17, r18, r19, r20, r21, r22, hp, hq]
        · intro Y
          dsimp only
          rw [key, key2]
          simp (disch := omega) only [qlit, qadd, qmul, qleT, qleF, qltT, qltF, qeqT, qeqF, qdiv, qrem, qmr, zbl0, zbl1, qzb, qzF0, qzT0, Option.bind_some, zbd_some, if_true, if_false, qneo, qneo', qlto, qltoF, qleo, qleo', qdT, qdF, decide_true, decide_false, Bool.true_and, Bool.and_true, Bool.false_and, Bool.and_false, Bool.not_true, Bool.not_false, Bool.true_or, Bool.or_true, Bool.false_or, Bool.or_false, m_thr, q196_c, q196_g6, m_ld hM.thr, m_isFigure hM.thr hW, m_in, m_seenBy hN hM.thr hW hD, m_canGo hN hM.thr hW hD, mt0, hp, hq]
      · refine ⟨some (Int32.ofNat (s (113 + f))), Int32.ofNat 0, ?_, ?_⟩
        · simp (disch := omega) only [qlit, qadd, qmul, qleT, qleF, qltT, qltF, qeqT, qeqF, qdiv, qrem, qmr, zbl0, zbl1, qzb, qzF0, qzT0, Option.bind_some, zbd_some, if_true, if_false, qneo, qneo', qlto, qltoF, qleo, qleo', qdT, qdF, decide_true, decide_false, Bool.true_and, Bool.and_true, Bool.false_and, Bool.and_false, Bool.not_true, Bool.not_false, Bool.true_or, Bool.or_true, Bool.false_or, Bool.or_false, q0_c, q0_g0, q0_g1, q0_g2, q0_g3, q0_g4, q0_g5, q0_g6, q0_g7, q0_g8, q0_g9, q0_g10, q0_g11, q0_g12, q0_g13, c4_g0, c4_g1, c4_g2, c4_g3, c4_g4, c4_g5, c4_g6, c4_g7, c4_g8, c4_g9, c4_g10, c4_g11, c4_g12, c4_g13, c4_g14, c4_c, c15_g1, c15_g0, c15_g2, c15_g3, c15_g4, c15_g5, c15_g6, c15_g7, c15_g8, c15_c, c16_at, c17_at, c18_at, c19_at, c20_at, c21_at, c22_at, c23_g1, c23_g0, c23_g2, c23_g3, c23_g4, c23_g5, c23_g6, c23_g7, c23_g8, c23_c, c24_at, c25_at, c26_at, c27_at, c28_at, c29_at, c30_at, c8_at, c9_at, c10_at, c11_at, c12_at, c13_at, c14_at, c192_at, c193_at, c194_at, c188_at, q1_g2, q191_g0, q191_g1, q191_g2, q191_g3, q191_g4, q191_g5, q191_g6, q191_g7, q191_g8, q187_g0, q187_g1, q187_g2, e_looks hN qS_15 qF_4 hR hS hW hD, e_seers hN qS_15 qF_4 hR hS hW hD, e_canGo hN qS_15 qF_4 hR hS hW hD, e_sight hN qS_15 qF_4 hR hS hW hD, e_figureIn hN qS_15 qF_4 hR hS hW hD, e_lookerIn hN qS_15 qF_4 hR hS hW hD, e_landOf hN qS_15 hS hD, e_goneByAll hN qS_15 qF_4 hR hS hW, c_hasFigure hR hW, c_hasLooker hR hW, c_hasCell hR hW, c_isSide, f0, f1, f2, f3, f4, f8, f10, f11, f12, f13, f14, r1, r16, r17, r18, r19, r20, r21, r22, hp, hq]
        · intro Y
          dsimp only
          rw [key, key2]
          simp (disch := omega) only [qlit, qadd, qmul, qleT, qleF, qltT, qltF, qeqT, qeqF, qdiv, qrem, qmr, zbl0, zbl1, qzb, qzF0, qzT0, Option.bind_some, zbd_some, if_true, if_false, qneo, qneo', qlto, qltoF, qleo, qleo', qdT, qdF, decide_true, decide_false, Bool.true_and, Bool.and_true, Bool.false_and, Bool.and_false, Bool.not_true, Bool.not_false, Bool.true_or, Bool.or_true, Bool.false_or, Bool.or_false, m_thr, q196_c, q196_g6, m_ld hM.thr, m_isFigure hM.thr hW, m_in, m_seenBy hN hM.thr hW hD, m_canGo hN hM.thr hW hD, mt0, hp, hq]
      · refine ⟨some (Int32.ofNat (s (153 + f))), Int32.ofNat 0, ?_, ?_⟩
        · simp (disch := omega) only [qlit, qadd, qmul, qleT, qleF, qltT, qltF, qeqT, qeqF, qdiv, qrem, qmr, zbl0, zbl1, qzb, qzF0, qzT0, Option.bind_some, zbd_some, if_true, if_false, qneo, qneo', qlto, qltoF, qleo, qleo', qdT, qdF, decide_true, decide_false, Bool.true_and, Bool.and_true, Bool.false_and, Bool.and_false, Bool.not_true, Bool.not_false, Bool.true_or, Bool.or_true, Bool.false_or, Bool.or_false, q0_c, q0_g0, q0_g1, q0_g2, q0_g3, q0_g4, q0_g5, q0_g6, q0_g7, q0_g8, q0_g9, q0_g10, q0_g11, q0_g12, q0_g13, c4_g0, c4_g1, c4_g2, c4_g3, c4_g4, c4_g5, c4_g6, c4_g7, c4_g8, c4_g9, c4_g10, c4_g11, c4_g12, c4_g13, c4_g14, c4_c, c15_g1, c15_g0, c15_g2, c15_g3, c15_g4, c15_g5, c15_g6, c15_g7, c15_g8, c15_c, c16_at, c17_at, c18_at, c19_at, c20_at, c21_at, c22_at, c23_g1, c23_g0, c23_g2, c23_g3, c23_g4, c23_g5, c23_g6, c23_g7, c23_g8, c23_c, c24_at, c25_at, c26_at, c27_at, c28_at, c29_at, c30_at, c8_at, c9_at, c10_at, c11_at, c12_at, c13_at, c14_at, c192_at, c193_at, c194_at, c188_at, q1_g2, q191_g0, q191_g1, q191_g2, q191_g3, q191_g4, q191_g5, q191_g6, q191_g7, q191_g8, q187_g0, q187_g1, q187_g2, e_looks hN qS_15 qF_4 hR hS hW hD, e_seers hN qS_15 qF_4 hR hS hW hD, e_canGo hN qS_15 qF_4 hR hS hW hD, e_sight hN qS_15 qF_4 hR hS hW hD, e_figureIn hN qS_15 qF_4 hR hS hW hD, e_lookerIn hN qS_15 qF_4 hR hS hW hD, e_landOf hN qS_15 hS hD, e_goneByAll hN qS_15 qF_4 hR hS hW, c_hasFigure hR hW, c_hasLooker hR hW, c_hasCell hR hW, c_isSide, f0, f1, f2, f3, f4, f8, f10, f11, f12, f13, f14, r1, r16, r17, r18, r19, r20, r21, r22, hp, hq]
        · intro Y
          dsimp only
          rw [key, key2]
          simp (disch := omega) only [qlit, qadd, qmul, qleT, qleF, qltT, qltF, qeqT, qeqF, qdiv, qrem, qmr, zbl0, zbl1, qzb, qzF0, qzT0, Option.bind_some, zbd_some, if_true, if_false, qneo, qneo', qlto, qltoF, qleo, qleo', qdT, qdF, decide_true, decide_false, Bool.true_and, Bool.and_true, Bool.false_and, Bool.and_false, Bool.not_true, Bool.not_false, Bool.true_or, Bool.or_true, Bool.false_or, Bool.or_false, m_thr, q196_c, q196_g6, m_ld hM.thr, m_isFigure hM.thr hW, m_in, m_seenBy hN hM.thr hW hD, m_canGo hN hM.thr hW hD, mt0, hp, hq]
      · refine ⟨some (Int32.ofNat (sSeers s f)), Int32.ofNat 0, ?_, ?_⟩
        · simp (disch := omega) only [qlit, qadd, qmul, qleT, qleF, qltT, qltF, qeqT, qeqF, qdiv, qrem, qmr, zbl0, zbl1, qzb, qzF0, qzT0, Option.bind_some, zbd_some, if_true, if_false, qneo, qneo', qlto, qltoF, qleo, qleo', qdT, qdF, decide_true, decide_false, Bool.true_and, Bool.and_true, Bool.false_and, Bool.and_false, Bool.not_true, Bool.not_false, Bool.true_or, Bool.or_true, Bool.false_or, Bool.or_false, q0_c, q0_g0, q0_g1, q0_g2, q0_g3, q0_g4, q0_g5, q0_g6, q0_g7, q0_g8, q0_g9, q0_g10, q0_g11, q0_g12, q0_g13, c4_g0, c4_g1, c4_g2, c4_g3, c4_g4, c4_g5, c4_g6, c4_g7, c4_g8, c4_g9, c4_g10, c4_g11, c4_g12, c4_g13, c4_g14, c4_c, c15_g1, c15_g0, c15_g2, c15_g3, c15_g4, c15_g5, c15_g6, c15_g7, c15_g8, c15_c, c16_at, c17_at, c18_at, c19_at, c20_at, c21_at, c22_at, c23_g1, c23_g0, c23_g2, c23_g3, c23_g4, c23_g5, c23_g6, c23_g7, c23_g8, c23_c, c24_at, c25_at, c26_at, c27_at, c28_at, c29_at, c30_at, c8_at, c9_at, c10_at, c11_at, c12_at, c13_at, c14_at, c192_at, c193_at, c194_at, c188_at, q1_g2, q191_g0, q191_g1, q191_g2, q191_g3, q191_g4, q191_g5, q191_g6, q191_g7, q191_g8, q187_g0, q187_g1, q187_g2, e_looks hN qS_15 qF_4 hR hS hW hD, e_seers hN qS_15 qF_4 hR hS hW hD, e_canGo hN qS_15 qF_4 hR hS hW hD, e_sight hN qS_15 qF_4 hR hS hW hD, e_figureIn hN qS_15 qF_4 hR hS hW hD, e_lookerIn hN qS_15 qF_4 hR hS hW hD, e_landOf hN qS_15 hS hD, e_goneByAll hN qS_15 qF_4 hR hS hW, c_hasFigure hR hW, c_hasLooker hR hW, c_hasCell hR hW, c_isSide, f0, f1, f2, f3, f4, f8, f10, f11, f12, f13, f14, r1, r16, r17, r18, r19, r20, r21, r22, hp, hq]
        · intro Y
          dsimp only
          rw [key, key2]
          simp (disch := omega) only [qlit, qadd, qmul, qleT, qleF, qltT, qltF, qeqT, qeqF, qdiv, qrem, qmr, zbl0, zbl1, qzb, qzF0, qzT0, Option.bind_some, zbd_some, if_true, if_false, qneo, qneo', qlto, qltoF, qleo, qleo', qdT, qdF, decide_true, decide_false, Bool.true_and, Bool.and_true, Bool.false_and, Bool.and_false, Bool.not_true, Bool.not_false, Bool.true_or, Bool.or_true, Bool.false_or, Bool.or_false, m_thr, q196_c, q196_g6, m_ld hM.thr, m_isFigure hM.thr hW, m_in, m_seenBy hN hM.thr hW hD, m_canGo hN hM.thr hW hD, mt0, hp, hq]
      · cases hc : sCan s f
        · refine ⟨some (Int32.ofNat 0), Int32.ofNat 0, ?_, ?_⟩
          · simp (disch := omega) only [qlit, qadd, qmul, qleT, qleF, qltT, qltF, qeqT, qeqF, qdiv, qrem, qmr, zbl0, zbl1, qzb, qzF0, qzT0, Option.bind_some, zbd_some, if_true, if_false, qneo, qneo', qlto, qltoF, qleo, qleo', qdT, qdF, decide_true, decide_false, Bool.true_and, Bool.and_true, Bool.false_and, Bool.and_false, Bool.not_true, Bool.not_false, Bool.true_or, Bool.or_true, Bool.false_or, Bool.or_false, q0_c, q0_g0, q0_g1, q0_g2, q0_g3, q0_g4, q0_g5, q0_g6, q0_g7, q0_g8, q0_g9, q0_g10, q0_g11, q0_g12, q0_g13, c4_g0, c4_g1, c4_g2, c4_g3, c4_g4, c4_g5, c4_g6, c4_g7, c4_g8, c4_g9, c4_g10, c4_g11, c4_g12, c4_g13, c4_g14, c4_c, c15_g1, c15_g0, c15_g2, c15_g3, c15_g4, c15_g5, c15_g6, c15_g7, c15_g8, c15_c, c16_at, c17_at, c18_at, c19_at, c20_at, c21_at, c22_at, c23_g1, c23_g0, c23_g2, c23_g3, c23_g4, c23_g5, c23_g6, c23_g7, c23_g8, c23_c, c24_at, c25_at, c26_at, c27_at, c28_at, c29_at, c30_at, c8_at, c9_at, c10_at, c11_at, c12_at, c13_at, c14_at, c192_at, c193_at, c194_at, c188_at, q1_g2, q191_g0, q191_g1, q191_g2, q191_g3, q191_g4, q191_g5, q191_g6, q191_g7, q191_g8, q187_g0, q187_g1, q187_g2, e_looks hN qS_15 qF_4 hR hS hW hD, e_seers hN qS_15 qF_4 hR hS hW hD, e_canGo hN qS_15 qF_4 hR hS hW hD, e_sight hN qS_15 qF_4 hR hS hW hD, e_figureIn hN qS_15 qF_4 hR hS hW hD, e_lookerIn hN qS_15 qF_4 hR hS hW hD, e_landOf hN qS_15 hS hD, e_goneByAll hN qS_15 qF_4 hR hS hW, c_hasFigure hR hW, c_hasLooker hR hW, c_hasCell hR hW, c_isSide, f0, f1, f2, f3, f4, f8, f10, f11, f12, f13, f14, r1, r16, r17, r18, r19, r20, r21, r22, hp, hq, hc]
          · intro Y
            dsimp only
            rw [key, key2]
            simp (disch := omega) only [qlit, qadd, qmul, qleT, qleF, qltT, qltF, qeqT, qeqF, qdiv, qrem, qmr, zbl0, zbl1, qzb, qzF0, qzT0, Option.bind_some, zbd_some, if_true, if_false, qneo, qneo', qlto, qltoF, qleo, qleo', qdT, qdF, decide_true, decide_false, Bool.true_and, Bool.and_true, Bool.false_and, Bool.and_false, Bool.not_true, Bool.not_false, Bool.true_or, Bool.or_true, Bool.false_or, Bool.or_false, m_thr, q196_c, q196_g6, m_ld hM.thr, m_isFigure hM.thr hW, m_in, m_seenBy hN hM.thr hW hD, m_canGo hN hM.thr hW hD, mt0, hp, hq, hc]
        · refine ⟨some (Int32.ofNat 1), Int32.ofNat 0, ?_, ?_⟩
          · simp (disch := omega) only [qlit, qadd, qmul, qleT, qleF, qltT, qltF, qeqT, qeqF, qdiv, qrem, qmr, zbl0, zbl1, qzb, qzF0, qzT0, Option.bind_some, zbd_some, if_true, if_false, qneo, qneo', qlto, qltoF, qleo, qleo', qdT, qdF, decide_true, decide_false, Bool.true_and, Bool.and_true, Bool.false_and, Bool.and_false, Bool.not_true, Bool.not_false, Bool.true_or, Bool.or_true, Bool.false_or, Bool.or_false, q0_c, q0_g0, q0_g1, q0_g2, q0_g3, q0_g4, q0_g5, q0_g6, q0_g7, q0_g8, q0_g9, q0_g10, q0_g11, q0_g12, q0_g13, c4_g0, c4_g1, c4_g2, c4_g3, c4_g4, c4_g5, c4_g6, c4_g7, c4_g8, c4_g9, c4_g10, c4_g11, c4_g12, c4_g13, c4_g14, c4_c, c15_g1, c15_g0, c15_g2, c15_g3, c15_g4, c15_g5, c15_g6, c15_g7, c15_g8, c15_c, c16_at, c17_at, c18_at, c19_at, c20_at, c21_at, c22_at, c23_g1, c23_g0, c23_g2, c23_g3, c23_g4, c23_g5, c23_g6, c23_g7, c23_g8, c23_c, c24_at, c25_at, c26_at, c27_at, c28_at, c29_at, c30_at, c8_at, c9_at, c10_at, c11_at, c12_at, c13_at, c14_at, c192_at, c193_at, c194_at, c188_at, q1_g2, q191_g0, q191_g1, q191_g2, q191_g3, q191_g4, q191_g5, q191_g6, q191_g7, q191_g8, q187_g0, q187_g1, q187_g2, e_looks hN qS_15 qF_4 hR hS hW hD, e_seers hN qS_15 qF_4 hR hS hW hD, e_canGo hN qS_15 qF_4 hR hS hW hD, e_sight hN qS_15 qF_4 hR hS hW hD, e_figureIn hN qS_15 qF_4 hR hS hW hD, e_lookerIn hN qS_15 qF_4 hR hS hW hD, e_landOf hN qS_15 hS hD, e_goneByAll hN qS_15 qF_4 hR hS hW, c_hasFigure hR hW, c_hasLooker hR hW, c_hasCell hR hW, c_isSide, f0, f1, f2, f3, f4, f8, f10, f11, f12, f13, f14, r1, r16, r17, r18, r19, r20, r21, r22, hp, hq, hc]
          · intro Y
            dsimp only
            rw [key, key2]
            simp (disch := omega) only [qlit, qadd, qmul, qleT, qleF, qltT, qltF, qeqT, qeqF, qdiv, qrem, qmr, zbl0, zbl1, qzb, qzF0, qzT0, Option.bind_some, zbd_some, if_true, if_false, qneo, qneo', qlto, qltoF, qleo, qleo', qdT, qdF, decide_true, decide_false, Bool.true_and, Bool.and_true, Bool.false_and, Bool.and_false, Bool.not_true, Bool.not_false, Bool.true_or, Bool.or_true, Bool.false_or, Bool.or_false, m_thr, q196_c, q196_g6, m_ld hM.thr, m_isFigure hM.thr hW, m_in, m_seenBy hN hM.thr hW hD, m_canGo hN hM.thr hW hD, mt0, hp, hq, hc]
theorem s_4 (hN : 3000 ≤ N) {f : zF} (hI : Inv f) (p1 p2 : Int32) : ∃ f2, zlc4 N 216 f p1 p2 = some f2 ∧ Inv f2 := by
  obtain ⟨g, V, X, s, rfl, hg, hJ⟩ := hI
  obtain ⟨⟨⟨hW, hD, hG, h9⟩, hWL, hR, hL, hS, hM, hNs, hNm⟩, hU, hR2⟩ := id hJ
  obtain ⟨v, r, h1, h2⟩ := tq_figure (g := g) (X := X) hN hW hD hR hS hM p1 p2
  unfold zlc4 fL_figure
  exact tstep (o2 := fun f => fX12_figure N 216 f 196 p1 p2) hg hJ h1 h2

end QJ
