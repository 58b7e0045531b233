/-! the class's next token -/
section QY
variable {g : zF} {V : Nat → Nat → Int32} {X : Nat → Nat → Int64} {N n m : Nat} {B : Nat → Nat}
theorem c_placeOf3 {r L : Nat} (hr : r < 216 ∧ qK r = 21 ∧ qL r = L) (hL : L < 1000) {x : Int64} (P : Nat → Bool) (hP : ∀ v, v < L → P v = decide (X r v = x)) : ∀ j i k many, i + j = many → many ≤ L → j < k → fX11_placeOf_3 N 216 (qH g V X) k r (Int32.ofNat many) x (Int32.ofNat i) = some (qo (qfnd P i j)) := by
  intro j
  induction j with
  | zero =>
    intro i k many hi hm hk
    obtain ⟨k, rfl⟩ : ∃ j, k = j + 1 := ⟨k - 1, by omega⟩
    unfold fX11_placeOf_3
    simp (disch := omega) only [qlit, qadd, qmul, qleT, qleF, qltT, qltF, qeqT, qeqF, qdiv, qrem, qmr, zbl0, zbl1, qzb, qzF0, qzT0, Option.bind_some, zbd_some, if_true, if_false, qneo, qneo', qlto, qltoF, qleo, qleo', qdT, qdF, decide_true, decide_false, Bool.true_and, Bool.and_true, Bool.false_and, Bool.and_false, Bool.not_true, Bool.not_false, Bool.true_or, Bool.or_true, Bool.false_or, Bool.or_false]
    rfl
  | succ j ih =>
    intro i k many hi hm hk
    obtain ⟨k, rfl⟩ : ∃ j, k = j + 1 := ⟨k - 1, by omega⟩
    have h1 := hP i (by omega)
    unfold fX11_placeOf_3 qfnd
    by_cases h : X r i = x
    · rw [h1, decide_eq_true h, if_pos rfl]
      simp (disch := omega) only [qlit, qadd, qmul, qleT, qleF, qltT, qltF, qeqT, qeqF, qdiv, qrem, qmr, zbl0, zbl1, qzb, qzF0, qzT0, Option.bind_some, zbd_some, if_true, if_false, qneo, qneo', qlto, qltoF, qleo, qleo', qdT, qdF, decide_true, decide_false, Bool.true_and, Bool.and_true, Bool.false_and, Bool.and_false, Bool.not_true, Bool.not_false, Bool.true_or, Bool.or_true, Bool.false_or, Bool.or_false, qlenL hr, qlL hr, q64_cmp0, h, eq_self]
      rfl
    · rw [h1, decide_eq_false h]
      simp (disch := omega) only [qlit, qadd, qmul, qleT, qleF, qltT, qltF, qeqT, qeqF, qdiv, qrem, qmr, zbl0, zbl1, qzb, qzF0, qzT0, Option.bind_some, zbd_some, if_true, if_false, qneo, qneo', qlto, qltoF, qleo, qleo', qdT, qdF, decide_true, decide_false, Bool.true_and, Bool.and_true, Bool.false_and, Bool.and_false, Bool.not_true, Bool.not_false, Bool.true_or, Bool.or_true, Bool.false_or, Bool.or_false, qlenL hr, qlL hr, q64_cmp0, h, ih (i + 1) k many, Bool.false_eq_true]
theorem c_placeOf (hN : 3000 ≤ N) {r L : Nat} (hr : r < 216 ∧ qK r = 21 ∧ qL r = L) (hL : L < 1000) {x : Int64} {many : Nat} (hm : many ≤ L) (P : Nat → Bool) (hP : ∀ v, v < L → P v = decide (X r v = x)) : fX11_placeOf N 216 (qH g V X) r (Int32.ofNat many) x = some (qo (qfnd P 0 many)) := by
  unfold fX11_placeOf
  exact c_placeOf3 hr hL P hP many 0 N many (by omega) hm (by omega)
/-- which word it is -/
theorem c_placeW (hN : 3000 ≤ N) (hW : cW X) {w : List Nat} (hw : wOK w) (hl : w.length ≤ 7) : fX11_placeOf N 216 (qH g V X) 3 (Int32.ofNat 27) (Int64.ofNat (r5 w)) = some (qo (tIdx w)) := by
  unfold tIdx
  refine c_placeOf hN qk_3 (by omega) (by omega) _ (fun v hv => ?_)
  obtain ⟨k1, k2⟩ := wK_ok v hv
  have b1 := r5_b hw hl
  have b2 := r5_b k1 k2
  rw [hW v hv]
  congr 1
  rw [q64_inj (by omega) (by omega)]
  exact propext ⟨fun h => by rw [h], fun h => r5_inj _ _ k1 hw h⟩
theorem tIdx_lt {w : List Nat} {v : Nat} (h : tIdx w = some v) : v < 27 := (tIdx_s h).1
theorem cL.r {V : Nat → Nat → Int32} {X : Nat → Nat → Int64} {r : Nat → Int32} (h2 : r 2 = V 1 2) (h3 : r 3 = V 1 3) (h10 : r 10 = V 1 10) (h11 : r 11 = V 1 11) : cL V (qw V 1 r) X X :=
  ⟨by rw [qw_s]; exact h2, by rw [qw_s]; exact h3, by rw [qw_s]; exact h10, by rw [qw_s]; exact h11, fun b hb => qw_n hb, fun _ _ => rfl⟩
/-- behind a token's kind and value: is it a word? -/
theorem c_adv143 (hN : 3000 ≤ N) (hW : cW X) {kd : Nat} (hk : V 1 5 = Int32.ofNat kd) (hk2 : kd < 10) (w : List Nat) (hw : kd = 3 → wOK w ∧ w.length ≤ 7 ∧ X 1 9 = Int64.ofNat (r5 w)) :
    hS g (fX9_advance_143 N 216 (qH g V X) 1) (fun W Y => Y = X ∧ W 1 5 = Int32.ofNat (if kd = 3 then (if (tIdx w).isSome then 2 else 3) else kd) ∧ (W 1 8 = if kd = 3 then qo (tIdx w) else V 1 8) ∧ W 1 4 = V 1 4 ∧ W 1 6 = V 1 6 ∧ W 1 7 = V 1 7 ∧ cL V W X X) := by
  unfold fX9_advance_143
  by_cases h : kd = 3
  · subst h
    obtain ⟨w1, w2, w3⟩ := hw rfl
    unfold fX9_advance_182
    cases hi : tIdx w with
    | none =>
      simp (disch := omega) only [qlit, qadd, qmul, qleT, qleF, qltT, qltF, qeqT, qeqF, qdiv, qrem, qmr, zbl0, zbl1, qzb, qzF0, qzT0, Option.bind_some, zbd_some, if_true, if_false, qneo, qneo', qlto, qltoF, qleo, qleo', qdT, qdF, decide_true, decide_false, Bool.true_and, Bool.and_true, Bool.false_and, Bool.and_false, Bool.not_true, Bool.not_false, Bool.true_or, Bool.or_true, Bool.false_or, Bool.or_false, qw_s, qw_n, qw_qw, qx_s, qx_n, qx_qx, upd_s, upd_n, vpU_s, vpU_n, q1_g5, q1_g1, q1_g9, q1_p8, q1_g8, q1_p5, hk, w3, c_placeW hN hW w1 w2, hi, eq_self]
      refine hS_pure ⟨rfl, ?_, ?_, ?_, ?_, ?_, cL.r ?_ ?_ ?_ ?_⟩
      all_goals (first | rfl | (simp (disch := omega) only [qlit, qadd, qmul, qleT, qleF, qltT, qltF, qeqT, qeqF, qdiv, qrem, qmr, zbl0, zbl1, qzb, qzF0, qzT0, Option.bind_some, zbd_some, if_true, if_false, qneo, qneo', qlto, qltoF, qleo, qleo', qdT, qdF, decide_true, decide_false, Bool.true_and, Bool.and_true, Bool.false_and, Bool.and_false, Bool.not_true, Bool.not_false, Bool.true_or, Bool.or_true, Bool.false_or, Bool.or_false, qw_s, qw_n, qw_qw, qx_s, qx_n, qx_qx, upd_s, upd_n, vpU_s, vpU_n]; done) | (simp (disch := omega) only [qlit, qadd, qmul, qleT, qleF, qltT, qltF, qeqT, qeqF, qdiv, qrem, qmr, zbl0, zbl1, qzb, qzF0, qzT0, Option.bind_some, zbd_some, if_true, if_false, qneo, qneo', qlto, qltoF, qleo, qleo', qdT, qdF, decide_true, decide_false, Bool.true_and, Bool.and_true, Bool.false_and, Bool.and_false, Bool.not_true, Bool.not_false, Bool.true_or, Bool.or_true, Bool.false_or, Bool.or_false, qw_s, qw_n, qw_qw, qx_s, qx_n, qx_qx, upd_s, upd_n, vpU_s, vpU_n]; rfl))
    | some v =>
      have hv := tIdx_lt hi
      simp (disch := omega) only [qlit, qadd, qmul, qleT, qleF, qltT, qltF, qeqT, qeqF, qdiv, qrem, qmr, zbl0, zbl1, qzb, qzF0, qzT0, Option.bind_some, zbd_some, if_true, if_false, qneo, qneo', qlto, qltoF, qleo, qleo', qdT, qdF, decide_true, decide_false, Bool.true_and, Bool.and_true, Bool.false_and, Bool.and_false, Bool.not_true, Bool.not_false, Bool.true_or, Bool.or_true, Bool.false_or, Bool.or_false, qw_s, qw_n, qw_qw, qx_s, qx_n, qx_qx, upd_s, upd_n, vpU_s, vpU_n, q1_g5, q1_g1, q1_g9, q1_p8, q1_g8, q1_p5, hk, w3, c_placeW hN hW w1 w2, hi, qo_some, eq_self]
      refine hS_pure ⟨rfl, ?_, ?_, ?_, ?_, ?_, cL.r ?_ ?_ ?_ ?_⟩
      all_goals (first | rfl | (simp (disch := omega) only [qlit, qadd, qmul, qleT, qleF, qltT, qltF, qeqT, qeqF, qdiv, qrem, qmr, zbl0, zbl1, qzb, qzF0, qzT0, Option.bind_some, zbd_some, if_true, if_false, qneo, qneo', qlto, qltoF, qleo, qleo', qdT, qdF, decide_true, decide_false, Bool.true_and, Bool.and_true, Bool.false_and, Bool.and_false, Bool.not_true, Bool.not_false, Bool.true_or, Bool.or_true, Bool.false_or, Bool.or_false, qw_s, qw_n, qw_qw, qx_s, qx_n, qx_qx, upd_s, upd_n, vpU_s, vpU_n]; done) | (simp (disch := omega) only [qlit, qadd, qmul, qleT, qleF, qltT, qltF, qeqT, qeqF, qdiv, qrem, qmr, zbl0, zbl1, qzb, qzF0, qzT0, Option.bind_some, zbd_some, if_true, if_false, qneo, qneo', qlto, qltoF, qleo, qleo', qdT, qdF, decide_true, decide_false, Bool.true_and, Bool.and_true, Bool.false_and, Bool.and_false, Bool.not_true, Bool.not_false, Bool.true_or, Bool.or_true, Bool.false_or, Bool.or_false, qw_s, qw_n, qw_qw, qx_s, qx_n, qx_qx, upd_s, upd_n, vpU_s, vpU_n]; rfl))
  · simp (disch := omega) only [qlit, qadd, qmul, qleT, qleF, qltT, qltF, qeqT, qeqF, qdiv, qrem, qmr, zbl0, zbl1, qzb, qzF0, qzT0, Option.bind_some, zbd_some, if_true, if_false, qneo, qneo', qlto, qltoF, qleo, qleo', qdT, qdF, decide_true, decide_false, Bool.true_and, Bool.and_true, Bool.false_and, Bool.and_false, Bool.not_true, Bool.not_false, Bool.true_or, Bool.or_true, Bool.false_or, Bool.or_false, qw_s, qw_n, qw_qw, qx_s, qx_n, qx_qx, upd_s, upd_n, vpU_s, vpU_n, q1_g5, hk, h, eq_self]
    exact hS_pure ⟨rfl, hk, rfl, rfl, rfl, rfl, cL.rf⟩
theorem c_143 {L D : Nat} (hL : L < 1000) (hD : D < 1000) {q : Nat} (hq : V 1 4 = Int32.ofNat q) : fX9_readRun_143 N 216 (qH g V X) 1 (Int32.ofNat L) (Int32.ofNat D) = some (qH g (qw V 1 (upd (V 1) 4 (Int32.ofNat (q + (L + D))))) X, Int32.ofNat (if D = 0 ∧ 1 ≤ L ∧ L ≤ 7 then 3 else if L = 0 ∧ 1 ≤ D ∧ D ≤ 3 then 4 else 0)) := by
  unfold fX9_readRun_143 fX9_readRun_172
  by_cases h1 : D = 0
  · by_cases h2 : L = 0
    · rw [if_neg (by omega), if_neg (by omega)]
      simp (disch := omega) only [qlit, qadd, qmul, qleT, qleF, qltT, qltF, qeqT, qeqF, qdiv, qrem, qmr, zbl0, zbl1, qzb, qzF0, qzT0, Option.bind_some, zbd_some, if_true, if_false, qneo, qneo', qlto, qltoF, qleo, qleo', qdT, qdF, decide_true, decide_false, Bool.true_and, Bool.and_true, Bool.false_and, Bool.and_false, Bool.not_true, Bool.not_false, Bool.true_or, Bool.or_true, Bool.false_or, Bool.or_false, qw_s, qw_n, qw_qw, qx_s, qx_n, qx_qx, upd_s, upd_n, vpU_s, vpU_n, q1_g4, q1_p4, hq, h1, h2]
    · by_cases h3 : L ≤ 7
      · rw [if_pos (by omega)]
        simp (disch := omega) only [qlit, qadd, qmul, qleT, qleF, qltT, qltF, qeqT, qeqF, qdiv, qrem, qmr, zbl0, zbl1, qzb, qzF0, qzT0, Option.bind_some, zbd_some, if_true, if_false, qneo, qneo', qlto, qltoF, qleo, qleo', qdT, qdF, decide_true, decide_false, Bool.true_and, Bool.and_true, Bool.false_and, Bool.and_false, Bool.not_true, Bool.not_false, Bool.true_or, Bool.or_true, Bool.false_or, Bool.or_false, qw_s, qw_n, qw_qw, qx_s, qx_n, qx_qx, upd_s, upd_n, vpU_s, vpU_n, q1_g4, q1_p4, hq, h1, h2]
      · rw [if_neg (by omega), if_neg (by omega)]
        simp (disch := omega) only [qlit, qadd, qmul, qleT, qleF, qltT, qltF, qeqT, qeqF, qdiv, qrem, qmr, zbl0, zbl1, qzb, qzF0, qzT0, Option.bind_some, zbd_some, if_true, if_false, qneo, qneo', qlto, qltoF, qleo, qleo', qdT, qdF, decide_true, decide_false, Bool.true_and, Bool.and_true, Bool.false_and, Bool.and_false, Bool.not_true, Bool.not_false, Bool.true_or, Bool.or_true, Bool.false_or, Bool.or_false, qw_s, qw_n, qw_qw, qx_s, qx_n, qx_qx, upd_s, upd_n, vpU_s, vpU_n, q1_g4, q1_p4, hq, h1, h2]
  · by_cases h2 : L = 0
    · by_cases h3 : D ≤ 3
      · rw [if_neg (by omega), if_pos (by omega)]
        simp (disch := omega) only [qlit, qadd, qmul, qleT, qleF, qltT, qltF, qeqT, qeqF, qdiv, qrem, qmr, zbl0, zbl1, qzb, qzF0, qzT0, Option.bind_some, zbd_some, if_true, if_false, qneo, qneo', qlto, qltoF, qleo, qleo', qdT, qdF, decide_true, decide_false, Bool.true_and, Bool.and_true, Bool.false_and, Bool.and_false, Bool.not_true, Bool.not_false, Bool.true_or, Bool.or_true, Bool.false_or, Bool.or_false, qw_s, qw_n, qw_qw, qx_s, qx_n, qx_qx, upd_s, upd_n, vpU_s, vpU_n, q1_g4, q1_p4, hq, h1, h2]
      · rw [if_neg (by omega), if_neg (by omega)]
        simp (disch := omega) only [qlit, qadd, qmul, qleT, qleF, qltT, qltF, qeqT, qeqF, qdiv, qrem, qmr, zbl0, zbl1, qzb, qzF0, qzT0, Option.bind_some, zbd_some, if_true, if_false, qneo, qneo', qlto, qltoF, qleo, qleo', qdT, qdF, decide_true, decide_false, Bool.true_and, Bool.and_true, Bool.false_and, Bool.and_false, Bool.not_true, Bool.not_false, Bool.true_or, Bool.or_true, Bool.false_or, Bool.or_false, qw_s, qw_n, qw_qw, qx_s, qx_n, qx_qx, upd_s, upd_n, vpU_s, vpU_n, q1_g4, q1_p4, hq, h1, h2]
    · rw [if_neg (by omega), if_neg (by omega)]
      simp (disch := omega) only [qlit, qadd, qmul, qleT, qleF, qltT, qltF, qeqT, qeqF, qdiv, qrem, qmr, zbl0, zbl1, qzb, qzF0, qzT0, Option.bind_some, zbd_some, if_true, if_false, qneo, qneo', qlto, qltoF, qleo, qleo', qdT, qdF, decide_true, decide_false, Bool.true_and, Bool.and_true, Bool.false_and, Bool.and_false, Bool.not_true, Bool.not_false, Bool.true_or, Bool.or_true, Bool.false_or, Bool.or_false, qw_s, qw_n, qw_qw, qx_s, qx_n, qx_qx, upd_s, upd_n, vpU_s, vpU_n, q1_g4, q1_p4, hq, h1, h2]
theorem kSg_n {c : Nat} (h : kSg c = true) : kSm c = false ∧ kDg c = false := by
  have h2 := of_decide_eq_true h
  exact ⟨kSm_f (by omega), kDg_f (by omega)⟩
theorem tRn_0 {j p : Nat} (h1 : kSm (B p) = false) (h2 : kDg (B p) = false) : tRn B j p = 0 := by
  cases j with
  | zero => rfl
  | succ j => unfold tRn; rw [h1, h2]; rfl
theorem c_advance (hN : 3000 ≤ N) (hB : cB V B n) (hW : cW X) (h3 : V 1 3 = Int32.ofNat m) (hm : m ≤ 940) {p pl : Nat} (hp : V 1 4 = Int32.ofNat p) (hpn : p ≤ n) (hpl : V 1 6 = Int32.ofNat pl) :
    hS g (fX9_advance N 216 (qH g V X) 1) (fun W Y => cT W Y (tTok B n m p) ∧ W 1 7 = Int32.ofNat pl ∧ cL V W X Y) := by
  obtain ⟨hB1, hn, hB3⟩ := id hB
  have hlm : min n m ≤ n := Nat.min_le_left _ _
  obtain ⟨U, u1, u2, u3, u4, u5⟩ := c_skip (g := g) (X := X) (N := N) (B := B) (n := n) hlm (min n m - p) N p 0 (qw V 1 (upd (V 1) 7 (Int32.ofNat pl))) (hB.l (X := X) (cL.w (by omega))) (by rw [qw_s, upd_n (by omega)]; exact hp) (by omega) rfl (by omega) (by omega)
  have hsl := tSk_le B (n - p) p
  have hq : tSk B (min n m - p) p = min (tSk B (n - p) p) (max p (min n m)) := by
    rw [tSk_lim B (n - p) (min n m - p) p (by omega)]
    omega
  have hL1 : cL V U X X := (cL.w (by omega)).tr u5
  have hBU := hB.l hL1
  rw [qw_s, upd_s] at u4
  have hU3 : U 1 3 = Int32.ofNat m := hL1.2.1.trans h3
  unfold tTok
  unfold fX9_advance
  simp (disch := omega) only [qlit, qadd, qmul, qleT, qleF, qltT, qltF, qeqT, qeqF, qdiv, qrem, qmr, zbl0, zbl1, qzb, qzF0, qzT0, Option.bind_some, zbd_some, if_true, if_false, qneo, qneo', qlto, qltoF, qleo, qleo', qdT, qdF, decide_true, decide_false, Bool.true_and, Bool.and_true, Bool.false_and, Bool.and_false, Bool.not_true, Bool.not_false, Bool.true_or, Bool.or_true, Bool.false_or, Bool.or_false, q1_g2, q1_g3, q1_g6, q1_p7, hB1, h3, hpl, c_min, u1]
  rw [hq] at u2
  generalize hqv : tSk B (n - p) p = q at *
  have hend : ∀ qq pos kd : Nat, U 1 4 = Int32.ofNat qq → qq < 100000 → min n m ≤ qq → min qq (min n m) = pos → kd < 2 → hS g (fX9_advance_67 N 216 (qH g U X) 1 (Int32.ofNat (min n m))) (fun W Y => cT W Y (kd, pos, q, 0, []) ∧ W 1 7 = Int32.ofNat pl ∧ cL V W X Y) := by
    intro qq pos kd h4 hqq hle hpos hkd
    have hB2 : cB (qw U 1 (upd (U 1) 6 (Int32.ofNat pos))) B n := hBU.l (X := X) (cL.w (by omega))
    have hsg : ∃ z, fX9_signAt N 216 (qH g (qw U 1 (upd (U 1) 6 (Int32.ofNat pos))) X) 1 (Int32.ofNat qq) = some (Int32.ofNat z) := by
      by_cases hh : qq < n
      · exact ⟨_, c_signAt hB2 hh⟩
      · exact ⟨_, c_signAtN hB2 (by omega) hqq⟩
    obtain ⟨z, hz⟩ := hsg
    unfold fX9_advance_67
    simp (disch := omega) only [qlit, qadd, qmul, qleT, qleF, qltT, qltF, qeqT, qeqF, qdiv, qrem, qmr, zbl0, zbl1, qzb, qzF0, qzT0, Option.bind_some, zbd_some, if_true, if_false, qneo, qneo', qlto, qltoF, qleo, qleo', qdT, qdF, decide_true, decide_false, Bool.true_and, Bool.and_true, Bool.false_and, Bool.and_false, Bool.not_true, Bool.not_false, Bool.true_or, Bool.or_true, Bool.false_or, Bool.or_false, qw_s, qw_n, qw_qw, qx_s, qx_n, qx_qx, upd_s, upd_n, vpU_s, vpU_n, q1_g4, q1_p6, q1_c, q1_p8, q1_p5, h4, c_min, hpos, hz]
    refine hS_mono (c_adv143 hN hW (kd := 1) (by simp (disch := omega) only [qlit, qadd, qmul, qleT, qleF, qltT, qltF, qeqT, qeqF, qdiv, qrem, qmr, zbl0, zbl1, qzb, qzF0, qzT0, Option.bind_some, zbd_some, if_true, if_false, qneo, qneo', qlto, qltoF, qleo, qleo', qdT, qdF, decide_true, decide_false, Bool.true_and, Bool.and_true, Bool.false_and, Bool.and_false, Bool.not_true, Bool.not_false, Bool.true_or, Bool.or_true, Bool.false_or, Bool.or_false, qw_s, qw_n, qw_qw, qx_s, qx_n, qx_qx, upd_s, upd_n, vpU_s, vpU_n]) (by omega) [] (fun h => by omega)) (fun W Y h => ?_)
    obtain ⟨rfl, a5, a8, a4, a6, a7, aL⟩ := h
    rw [if_neg (by omega)] at a5
    refine ⟨⟨?_, ?_, fun h => ?_, fun h => ?_, fun h => ?_⟩, ?_, hL1.tr (cL.tr (cL.r ?_ ?_ ?_ ?_) aL)⟩
    · rw [a5]
      rcases (show kd = 0 ∨ kd = 1 by omega) with rfl | rfl <;> rfl
    · rw [a6]; simp (disch := omega) only [qlit, qadd, qmul, qleT, qleF, qltT, qltF, qeqT, qeqF, qdiv, qrem, qmr, zbl0, zbl1, qzb, qzF0, qzT0, Option.bind_some, zbd_some, if_true, if_false, qneo, qneo', qlto, qltoF, qleo, qleo', qdT, qdF, decide_true, decide_false, Bool.true_and, Bool.and_true, Bool.false_and, Bool.and_false, Bool.not_true, Bool.not_false, Bool.true_or, Bool.or_true, Bool.false_or, Bool.or_false, qw_s, qw_n, qw_qw, qx_s, qx_n, qx_qx, upd_s, upd_n, vpU_s, vpU_n]
    · dsimp only at h; omega
    · dsimp only at h; omega
    · dsimp only at h; omega
    · rw [a7]; simp (disch := omega) only [qlit, qadd, qmul, qleT, qleF, qltT, qltF, qeqT, qeqF, qdiv, qrem, qmr, zbl0, zbl1, qzb, qzF0, qzT0, Option.bind_some, zbd_some, if_true, if_false, qneo, qneo', qlto, qltoF, qleo, qleo', qdT, qdF, decide_true, decide_false, Bool.true_and, Bool.and_true, Bool.false_and, Bool.and_false, Bool.not_true, Bool.not_false, Bool.true_or, Bool.or_true, Bool.false_or, Bool.or_false, qw_s, qw_n, qw_qw, qx_s, qx_n, qx_qx, upd_s, upd_n, vpU_s, vpU_n, u4]
    · simp (disch := omega) only [qlit, qadd, qmul, qleT, qleF, qltT, qltF, qeqT, qeqF, qdiv, qrem, qmr, zbl0, zbl1, qzb, qzF0, qzT0, Option.bind_some, zbd_some, if_true, if_false, qneo, qneo', qlto, qltoF, qleo, qleo', qdT, qdF, decide_true, decide_false, Bool.true_and, Bool.and_true, Bool.false_and, Bool.and_false, Bool.not_true, Bool.not_false, Bool.true_or, Bool.or_true, Bool.false_or, Bool.or_false, qw_s, qw_n, qw_qw, qx_s, qx_n, qx_qx, upd_s, upd_n, vpU_s, vpU_n]
    · simp (disch := omega) only [qlit, qadd, qmul, qleT, qleF, qltT, qltF, qeqT, qeqF, qdiv, qrem, qmr, zbl0, zbl1, qzb, qzF0, qzT0, Option.bind_some, zbd_some, if_true, if_false, qneo, qneo', qlto, qltoF, qleo, qleo', qdT, qdF, decide_true, decide_false, Bool.true_and, Bool.and_true, Bool.false_and, Bool.and_false, Bool.not_true, Bool.not_false, Bool.true_or, Bool.or_true, Bool.false_or, Bool.or_false, qw_s, qw_n, qw_qw, qx_s, qx_n, qx_qx, upd_s, upd_n, vpU_s, vpU_n]
    · simp (disch := omega) only [qlit, qadd, qmul, qleT, qleF, qltT, qltF, qeqT, qeqF, qdiv, qrem, qmr, zbl0, zbl1, qzb, qzF0, qzT0, Option.bind_some, zbd_some, if_true, if_false, qneo, qneo', qlto, qltoF, qleo, qleo', qdT, qdF, decide_true, decide_false, Bool.true_and, Bool.and_true, Bool.false_and, Bool.and_false, Bool.not_true, Bool.not_false, Bool.true_or, Bool.or_true, Bool.false_or, Bool.or_false, qw_s, qw_n, qw_qw, qx_s, qx_n, qx_qx, upd_s, upd_n, vpU_s, vpU_n]
    · simp (disch := omega) only [qlit, qadd, qmul, qleT, qleF, qltT, qltF, qeqT, qeqF, qdiv, qrem, qmr, zbl0, zbl1, qzb, qzF0, qzT0, Option.bind_some, zbd_some, if_true, if_false, qneo, qneo', qlto, qltoF, qleo, qleo', qdT, qdF, decide_true, decide_false, Bool.true_and, Bool.and_true, Bool.false_and, Bool.and_false, Bool.not_true, Bool.not_false, Bool.true_or, Bool.or_true, Bool.false_or, Bool.or_false, qw_s, qw_n, qw_qw, qx_s, qx_n, qx_qx, upd_s, upd_n, vpU_s, vpU_n]
  unfold tTk
  by_cases c1 : m < n ∧ m ≤ q
  · rw [if_pos c1]
    exact hend _ m 1 u2 (by omega) (by omega) (by omega) (by omega)
  · rw [if_neg c1]
    by_cases c2 : n ≤ q
    · rw [if_pos c2]
      have hqn : q = n := by omega
      exact hend _ q 0 u2 (by omega) (by omega) (by omega) (by omega)
    · rw [if_neg c2]
      have hqq : min q (max p (min n m)) = q := by omega
      rw [hqq] at u2
      have hqlim : q < min n m := by omega
      have hpos : min q (min n m) = q := by omega
      have hB2 : cB (qw U 1 (upd (U 1) 6 (Int32.ofNat q))) B n := hBU.l (X := X) (cL.w (by omega))
      have hc := (hB3 q (by omega)).1
      have hz := c_signAt (g := g) (X := X) (N := N) hB2 (show q < n by omega)
      unfold fX9_advance_67
      cases hsg : kSg (B q) with
      | true =>
        obtain ⟨s1, s2⟩ := kSg_n hsg
        rw [if_pos (tRn_0 s1 s2)]
        simp (disch := omega) only [qlit, qadd, qmul, qleT, qleF, qltT, qltF, qeqT, qeqF, qdiv, qrem, qmr, zbl0, zbl1, qzb, qzF0, qzT0, Option.bind_some, zbd_some, if_true, if_false, qneo, qneo', qlto, qltoF, qleo, qleo', qdT, qdF, decide_true, decide_false, Bool.true_and, Bool.and_true, Bool.false_and, Bool.and_false, Bool.not_true, Bool.not_false, Bool.true_or, Bool.or_true, Bool.false_or, Bool.or_false, qw_s, qw_n, qw_qw, qx_s, qx_n, qx_qx, upd_s, upd_n, vpU_s, vpU_n, q1_g4, q1_p6, q1_p4, q1_c, q1_p8, q1_g8, q1_p5, u2, c_min, hpos, hz, c_isTokenSign, hsg]
        refine hS_mono (c_adv143 hN hW (kd := 5) (by simp (disch := omega) only [qlit, qadd, qmul, qleT, qleF, qltT, qltF, qeqT, qeqF, qdiv, qrem, qmr, zbl0, zbl1, qzb, qzF0, qzT0, Option.bind_some, zbd_some, if_true, if_false, qneo, qneo', qlto, qltoF, qleo, qleo', qdT, qdF, decide_true, decide_false, Bool.true_and, Bool.and_true, Bool.false_and, Bool.and_false, Bool.not_true, Bool.not_false, Bool.true_or, Bool.or_true, Bool.false_or, Bool.or_false, qw_s, qw_n, qw_qw, qx_s, qx_n, qx_qx, upd_s, upd_n, vpU_s, vpU_n]) (by omega) [] (fun h => by omega)) (fun W Y h => ?_)
        obtain ⟨rfl, a5, a8, a4, a6, a7, aL⟩ := h
        rw [if_neg (by omega)] at a5 a8
        refine ⟨⟨?_, ?_, fun h => ?_, fun h => ?_, fun h => ?_⟩, ?_, hL1.tr (cL.tr (cL.r ?_ ?_ ?_ ?_) aL)⟩
        · rw [a5]; rfl
        · rw [a6]; simp (disch := omega) only [qlit, qadd, qmul, qleT, qleF, qltT, qltF, qeqT, qeqF, qdiv, qrem, qmr, zbl0, zbl1, qzb, qzF0, qzT0, Option.bind_some, zbd_some, if_true, if_false, qneo, qneo', qlto, qltoF, qleo, qleo', qdT, qdF, decide_true, decide_false, Bool.true_and, Bool.and_true, Bool.false_and, Bool.and_false, Bool.not_true, Bool.not_false, Bool.true_or, Bool.or_true, Bool.false_or, Bool.or_false, qw_s, qw_n, qw_qw, qx_s, qx_n, qx_qx, upd_s, upd_n, vpU_s, vpU_n]
        · rw [a4]; simp (disch := omega) only [qlit, qadd, qmul, qleT, qleF, qltT, qltF, qeqT, qeqF, qdiv, qrem, qmr, zbl0, zbl1, qzb, qzF0, qzT0, Option.bind_some, zbd_some, if_true, if_false, qneo, qneo', qlto, qltoF, qleo, qleo', qdT, qdF, decide_true, decide_false, Bool.true_and, Bool.and_true, Bool.false_and, Bool.and_false, Bool.not_true, Bool.not_false, Bool.true_or, Bool.or_true, Bool.false_or, Bool.or_false, qw_s, qw_n, qw_qw, qx_s, qx_n, qx_qx, upd_s, upd_n, vpU_s, vpU_n]
        · rw [a8]; simp (disch := omega) only [qlit, qadd, qmul, qleT, qleF, qltT, qltF, qeqT, qeqF, qdiv, qrem, qmr, zbl0, zbl1, qzb, qzF0, qzT0, Option.bind_some, zbd_some, if_true, if_false, qneo, qneo', qlto, qltoF, qleo, qleo', qdT, qdF, decide_true, decide_false, Bool.true_and, Bool.and_true, Bool.false_and, Bool.and_false, Bool.not_true, Bool.not_false, Bool.true_or, Bool.or_true, Bool.false_or, Bool.or_false, qw_s, qw_n, qw_qw, qx_s, qx_n, qx_qx, upd_s, upd_n, vpU_s, vpU_n]
        · cases h
        · rw [a7]; simp (disch := omega) only [qlit, qadd, qmul, qleT, qleF, qltT, qltF, qeqT, qeqF, qdiv, qrem, qmr, zbl0, zbl1, qzb, qzF0, qzT0, Option.bind_some, zbd_some, if_true, if_false, qneo, qneo', qlto, qltoF, qleo, qleo', qdT, qdF, decide_true, decide_false, Bool.true_and, Bool.and_true, Bool.false_and, Bool.and_false, Bool.not_true, Bool.not_false, Bool.true_or, Bool.or_true, Bool.false_or, Bool.or_false, qw_s, qw_n, qw_qw, qx_s, qx_n, qx_qx, upd_s, upd_n, vpU_s, vpU_n, u4]
        · simp (disch := omega) only [qlit, qadd, qmul, qleT, qleF, qltT, qltF, qeqT, qeqF, qdiv, qrem, qmr, zbl0, zbl1, qzb, qzF0, qzT0, Option.bind_some, zbd_some, if_true, if_false, qneo, qneo', qlto, qltoF, qleo, qleo', qdT, qdF, decide_true, decide_false, Bool.true_and, Bool.and_true, Bool.false_and, Bool.and_false, Bool.not_true, Bool.not_false, Bool.true_or, Bool.or_true, Bool.false_or, Bool.or_false, qw_s, qw_n, qw_qw, qx_s, qx_n, qx_qx, upd_s, upd_n, vpU_s, vpU_n]
        · simp (disch := omega) only [qlit, qadd, qmul, qleT, qleF, qltT, qltF, qeqT, qeqF, qdiv, qrem, qmr, zbl0, zbl1, qzb, qzF0, qzT0, Option.bind_some, zbd_some, if_true, if_false, qneo, qneo', qlto, qltoF, qleo, qleo', qdT, qdF, decide_true, decide_false, Bool.true_and, Bool.and_true, Bool.false_and, Bool.and_false, Bool.not_true, Bool.not_false, Bool.true_or, Bool.or_true, Bool.false_or, Bool.or_false, qw_s, qw_n, qw_qw, qx_s, qx_n, qx_qx, upd_s, upd_n, vpU_s, vpU_n]
        · simp (disch := omega) only [qlit, qadd, qmul, qleT, qleF, qltT, qltF, qeqT, qeqF, qdiv, qrem, qmr, zbl0, zbl1, qzb, qzF0, qzT0, Option.bind_some, zbd_some, if_true, if_false, qneo, qneo', qlto, qltoF, qleo, qleo', qdT, qdF, decide_true, decide_false, Bool.true_and, Bool.and_true, Bool.false_and, Bool.and_false, Bool.not_true, Bool.not_false, Bool.true_or, Bool.or_true, Bool.false_or, Bool.or_false, qw_s, qw_n, qw_qw, qx_s, qx_n, qx_qx, upd_s, upd_n, vpU_s, vpU_n]
        · simp (disch := omega) only [qlit, qadd, qmul, qleT, qleF, qltT, qltF, qeqT, qeqF, qdiv, qrem, qmr, zbl0, zbl1, qzb, qzF0, qzT0, Option.bind_some, zbd_some, if_true, if_false, qneo, qneo', qlto, qltoF, qleo, qleo', qdT, qdF, decide_true, decide_false, Bool.true_and, Bool.and_true, Bool.false_and, Bool.and_false, Bool.not_true, Bool.not_false, Bool.true_or, Bool.or_true, Bool.false_or, Bool.or_false, qw_s, qw_n, qw_qw, qx_s, qx_n, qx_qx, upd_s, upd_n, vpU_s, vpU_n]
      | false =>
        have hI0 : cI B q 0 0 0 (qw U 1 (upd (upd (upd (U 1) 6 (Int32.ofNat q)) 8 (Int32.ofNat (B q))) 8 (Int32.ofNat 0))) (qx X 1 (vp_updL (X 1) 9 0)) := by
          refine ⟨rfl, by unfold tAll; simp, by unfold tAll; simp, fun _ => ?_, fun _ _ => ?_⟩
          · simp (disch := omega) only [qlit, qadd, qmul, qleT, qleF, qltT, qltF, qeqT, qeqF, qdiv, qrem, qmr, zbl0, zbl1, qzb, qzF0, qzT0, Option.bind_some, zbd_some, if_true, if_false, qneo, qneo', qlto, qltoF, qleo, qleo', qdT, qdF, decide_true, decide_false, Bool.true_and, Bool.and_true, Bool.false_and, Bool.and_false, Bool.not_true, Bool.not_false, Bool.true_or, Bool.or_true, Bool.false_or, Bool.or_false, qw_s, qw_n, qw_qw, qx_s, qx_n, qx_qx, upd_s, upd_n, vpU_s, vpU_n]; rfl
          · simp (disch := omega) only [qlit, qadd, qmul, qleT, qleF, qltT, qltF, qeqT, qeqF, qdiv, qrem, qmr, zbl0, zbl1, qzb, qzF0, qzT0, Option.bind_some, zbd_some, if_true, if_false, qneo, qneo', qlto, qltoF, qleo, qleo', qdT, qdF, decide_true, decide_false, Bool.true_and, Bool.and_true, Bool.false_and, Bool.and_false, Bool.not_true, Bool.not_false, Bool.true_or, Bool.or_true, Bool.false_or, Bool.or_false, qw_s, qw_n, qw_qw, qx_s, qx_n, qx_qx, upd_s, upd_n, vpU_s, vpU_n]; rfl
        obtain ⟨W1, Y1, L2, D2, x1, x2, x3, x4, x5, x6, x7⟩ := c_run (g := g) (q := q) hN (n - q) N 0 0 0 (qw U 1 (upd (upd (upd (U 1) 6 (Int32.ofNat q)) 8 (Int32.ofNat (B q))) 8 (Int32.ofNat 0))) (qx X 1 (vp_updL (X 1) 9 0)) (hBU.l (X := X) (Y := X) (cL.r (by simp (disch := omega) only [qlit, qadd, qmul, qleT, qleF, qltT, qltF, qeqT, qeqF, qdiv, qrem, qmr, zbl0, zbl1, qzb, qzF0, qzT0, Option.bind_some, zbd_some, if_true, if_false, qneo, qneo', qlto, qltoF, qleo, qleo', qdT, qdF, decide_true, decide_false, Bool.true_and, Bool.and_true, Bool.false_and, Bool.and_false, Bool.not_true, Bool.not_false, Bool.true_or, Bool.or_true, Bool.false_or, Bool.or_false, qw_s, qw_n, qw_qw, qx_s, qx_n, qx_qx, upd_s, upd_n, vpU_s, vpU_n]) (by simp (disch := omega) only [qlit, qadd, qmul, qleT, qleF, qltT, qltF, qeqT, qeqF, qdiv, qrem, qmr, zbl0, zbl1, qzb, qzF0, qzT0, Option.bind_some, zbd_some, if_true, if_false, qneo, qneo', qlto, qltoF, qleo, qleo', qdT, qdF, decide_true, decide_false, Bool.true_and, Bool.and_true, Bool.false_and, Bool.and_false, Bool.not_true, Bool.not_false, Bool.true_or, Bool.or_true, Bool.false_or, Bool.or_false, qw_s, qw_n, qw_qw, qx_s, qx_n, qx_qx, upd_s, upd_n, vpU_s, vpU_n]) (by simp (disch := omega) only [qlit, qadd, qmul, qleT, qleF, qltT, qltF, qeqT, qeqF, qdiv, qrem, qmr, zbl0, zbl1, qzb, qzF0, qzT0, Option.bind_some, zbd_some, if_true, if_false, qneo, qneo', qlto, qltoF, qleo, qleo', qdT, qdF, decide_true, decide_false, Bool.true_and, Bool.and_true, Bool.false_and, Bool.and_false, Bool.not_true, Bool.not_false, Bool.true_or, Bool.or_true, Bool.false_or, Bool.or_false, qw_s, qw_n, qw_qw, qx_s, qx_n, qx_qx, upd_s, upd_n, vpU_s, vpU_n]) (by simp (disch := omega) only [qlit, qadd, qmul, qleT, qleF, qltT, qltF, qeqT, qeqF, qdiv, qrem, qmr, zbl0, zbl1, qzb, qzF0, qzT0, Option.bind_some, zbd_some, if_true, if_false, qneo, qneo', qlto, qltoF, qleo, qleo', qdT, qdF, decide_true, decide_false, Bool.true_and, Bool.and_true, Bool.false_and, Bool.and_false, Bool.not_true, Bool.not_false, Bool.true_or, Bool.or_true, Bool.false_or, Bool.or_false, qw_s, qw_n, qw_qw, qx_s, qx_n, qx_qx, upd_s, upd_n, vpU_s, vpU_n]))) (by omega) (by omega) hI0
        rw [Nat.add_zero] at x1
        rw [Nat.zero_add, Nat.add_zero] at x2
        rw [qw_s, upd_n (by omega), upd_n (by omega), upd_n (by omega), u2] at x3
        rw [qw_s, upd_n (by omega), upd_n (by omega), upd_s] at x5
        rw [qw_s, upd_n (by omega), upd_n (by omega), upd_n (by omega), u4] at x6
        obtain ⟨y1, y2, y3, y4, y5⟩ := x2
        have hrn := tRn_le B (n - q) q
        have hL2 : cL V W1 X Y1 := hL1.tr ((cL.r (X := X) (by simp (disch := omega) only [qlit, qadd, qmul, qleT, qleF, qltT, qltF, qeqT, qeqF, qdiv, qrem, qmr, zbl0, zbl1, qzb, qzF0, qzT0, Option.bind_some, zbd_some, if_true, if_false, qneo, qneo', qlto, qltoF, qleo, qleo', qdT, qdF, decide_true, decide_false, Bool.true_and, Bool.and_true, Bool.false_and, Bool.and_false, Bool.not_true, Bool.not_false, Bool.true_or, Bool.or_true, Bool.false_or, Bool.or_false, qw_s, qw_n, qw_qw, qx_s, qx_n, qx_qx, upd_s, upd_n, vpU_s, vpU_n]) (by simp (disch := omega) only [qlit, qadd, qmul, qleT, qleF, qltT, qltF, qeqT, qeqF, qdiv, qrem, qmr, zbl0, zbl1, qzb, qzF0, qzT0, Option.bind_some, zbd_some, if_true, if_false, qneo, qneo', qlto, qltoF, qleo, qleo', qdT, qdF, decide_true, decide_false, Bool.true_and, Bool.and_true, Bool.false_and, Bool.and_false, Bool.not_true, Bool.not_false, Bool.true_or, Bool.or_true, Bool.false_or, Bool.or_false, qw_s, qw_n, qw_qw, qx_s, qx_n, qx_qx, upd_s, upd_n, vpU_s, vpU_n]) (by simp (disch := omega) only [qlit, qadd, qmul, qleT, qleF, qltT, qltF, qeqT, qeqF, qdiv, qrem, qmr, zbl0, zbl1, qzb, qzF0, qzT0, Option.bind_some, zbd_some, if_true, if_false, qneo, qneo', qlto, qltoF, qleo, qleo', qdT, qdF, decide_true, decide_false, Bool.true_and, Bool.and_true, Bool.false_and, Bool.and_false, Bool.not_true, Bool.not_false, Bool.true_or, Bool.or_true, Bool.false_or, Bool.or_false, qw_s, qw_n, qw_qw, qx_s, qx_n, qx_qx, upd_s, upd_n, vpU_s, vpU_n]) (by simp (disch := omega) only [qlit, qadd, qmul, qleT, qleF, qltT, qltF, qeqT, qeqF, qdiv, qrem, qmr, zbl0, zbl1, qzb, qzF0, qzT0, Option.bind_some, zbd_some, if_true, if_false, qneo, qneo', qlto, qltoF, qleo, qleo', qdT, qdF, decide_true, decide_false, Bool.true_and, Bool.and_true, Bool.false_and, Bool.and_false, Bool.not_true, Bool.not_false, Bool.true_or, Bool.or_true, Bool.false_or, Bool.or_false, qw_s, qw_n, qw_qw, qx_s, qx_n, qx_qx, upd_s, upd_n, vpU_s, vpU_n])).tr (cL.x.tr x7))
        have h143 := c_143 (g := g) (X := Y1) (N := N) (L := L2) (D := D2) (by omega) (by omega) x3
        have hWY : cW Y1 := hW.l hL2
        unfold fX9_readRun
        simp (disch := omega) only [qlit, qadd, qmul, qleT, qleF, qltT, qltF, qeqT, qeqF, qdiv, qrem, qmr, zbl0, zbl1, qzb, qzF0, qzT0, Option.bind_some, zbd_some, if_true, if_false, qneo, qneo', qlto, qltoF, qleo, qleo', qdT, qdF, decide_true, decide_false, Bool.true_and, Bool.and_true, Bool.false_and, Bool.and_false, Bool.not_true, Bool.not_false, Bool.true_or, Bool.or_true, Bool.false_or, Bool.or_false, qw_s, qw_n, qw_qw, qx_s, qx_n, qx_qx, upd_s, upd_n, vpU_s, vpU_n, q1_g4, q1_p6, q1_p4, q1_c, q1_p8, q1_g8, q1_p5, q1_p9, u2, c_min, hpos, hz, c_isTokenSign, hsg, x1, h143]
        generalize hr : tRn B (n - q) q = r at *
        have hk3 : (if D2 = 0 ∧ 1 ≤ L2 ∧ L2 ≤ 7 then 3 else if L2 = 0 ∧ 1 ≤ D2 ∧ D2 ≤ 3 then 4 else 0 : Nat) = 3 → D2 = 0 ∧ 1 ≤ L2 ∧ L2 ≤ 7 := by
          intro h
          split at h
          · assumption
          · split at h <;> omega
        have hk9 : (if D2 = 0 ∧ 1 ≤ L2 ∧ L2 ≤ 7 then 3 else if L2 = 0 ∧ 1 ≤ D2 ∧ D2 ≤ 3 then 4 else 0 : Nat) < 10 := by
          split
          · omega
          · split <;> omega
        refine hS_mono (c_adv143 hN hWY (by simp (disch := omega) only [qlit, qadd, qmul, qleT, qleF, qltT, qltF, qeqT, qeqF, qdiv, qrem, qmr, zbl0, zbl1, qzb, qzF0, qzT0, Option.bind_some, zbd_some, if_true, if_false, qneo, qneo', qlto, qltoF, qleo, qleo', qdT, qdF, decide_true, decide_false, Bool.true_and, Bool.and_true, Bool.false_and, Bool.and_false, Bool.not_true, Bool.not_false, Bool.true_or, Bool.or_true, Bool.false_or, Bool.or_false, qw_s, qw_n, qw_qw, qx_s, qx_n, qx_qx, upd_s, upd_n, vpU_s, vpU_n]) hk9 (tWd B q r) (fun h => ?_)) (fun W Y h => ?_)
        · obtain ⟨h1, h2, h4⟩ := hk3 h
          exact ⟨tAll_wd r (y2 ▸ h1), by rw [tWd_len]; omega, y4 h1⟩
        · obtain ⟨rfl, a5, a8, a4, a6, a7, aL⟩ := h
          have e6 : W 1 6 = Int32.ofNat q := by rw [a6]; simp (disch := omega) only [qlit, qadd, qmul, qleT, qleF, qltT, qltF, qeqT, qeqF, qdiv, qrem, qmr, zbl0, zbl1, qzb, qzF0, qzT0, Option.bind_some, zbd_some, if_true, if_false, qneo, qneo', qlto, qltoF, qleo, qleo', qdT, qdF, decide_true, decide_false, Bool.true_and, Bool.and_true, Bool.false_and, Bool.and_false, Bool.not_true, Bool.not_false, Bool.true_or, Bool.or_true, Bool.false_or, Bool.or_false, qw_s, qw_n, qw_qw, qx_s, qx_n, qx_qx, upd_s, upd_n, vpU_s, vpU_n, x5]
          have e4 : W 1 4 = Int32.ofNat (q + r) := by rw [a4]; simp (disch := omega) only [qlit, qadd, qmul, qleT, qleF, qltT, qltF, qeqT, qeqF, qdiv, qrem, qmr, zbl0, zbl1, qzb, qzF0, qzT0, Option.bind_some, zbd_some, if_true, if_false, qneo, qneo', qlto, qltoF, qleo, qleo', qdT, qdF, decide_true, decide_false, Bool.true_and, Bool.and_true, Bool.false_and, Bool.and_false, Bool.not_true, Bool.not_false, Bool.true_or, Bool.or_true, Bool.false_or, Bool.or_false, qw_s, qw_n, qw_qw, qx_s, qx_n, qx_qx, upd_s, upd_n, vpU_s, vpU_n, y1]
          have e7 : W 1 7 = Int32.ofNat pl := by rw [a7]; simp (disch := omega) only [qlit, qadd, qmul, qleT, qleF, qltT, qltF, qeqT, qeqF, qdiv, qrem, qmr, zbl0, zbl1, qzb, qzF0, qzT0, Option.bind_some, zbd_some, if_true, if_false, qneo, qneo', qlto, qltoF, qleo, qleo', qdT, qdF, decide_true, decide_false, Bool.true_and, Bool.and_true, Bool.false_and, Bool.and_false, Bool.not_true, Bool.not_false, Bool.true_or, Bool.or_true, Bool.false_or, Bool.or_false, qw_s, qw_n, qw_qw, qx_s, qx_n, qx_qx, upd_s, upd_n, vpU_s, vpU_n, x6]
          have eL : cL V W X Y := hL2.tr (cL.tr (cL.r (by simp (disch := omega) only [qlit, qadd, qmul, qleT, qleF, qltT, qltF, qeqT, qeqF, qdiv, qrem, qmr, zbl0, zbl1, qzb, qzF0, qzT0, Option.bind_some, zbd_some, if_true, if_false, qneo, qneo', qlto, qltoF, qleo, qleo', qdT, qdF, decide_true, decide_false, Bool.true_and, Bool.and_true, Bool.false_and, Bool.and_false, Bool.not_true, Bool.not_false, Bool.true_or, Bool.or_true, Bool.false_or, Bool.or_false, qw_s, qw_n, qw_qw, qx_s, qx_n, qx_qx, upd_s, upd_n, vpU_s, vpU_n]) (by simp (disch := omega) only [qlit, qadd, qmul, qleT, qleF, qltT, qltF, qeqT, qeqF, qdiv, qrem, qmr, zbl0, zbl1, qzb, qzF0, qzT0, Option.bind_some, zbd_some, if_true, if_false, qneo, qneo', qlto, qltoF, qleo, qleo', qdT, qdF, decide_true, decide_false, Bool.true_and, Bool.and_true, Bool.false_and, Bool.and_false, Bool.not_true, Bool.not_false, Bool.true_or, Bool.or_true, Bool.false_or, Bool.or_false, qw_s, qw_n, qw_qw, qx_s, qx_n, qx_qx, upd_s, upd_n, vpU_s, vpU_n]) (by simp (disch := omega) only [qlit, qadd, qmul, qleT, qleF, qltT, qltF, qeqT, qeqF, qdiv, qrem, qmr, zbl0, zbl1, qzb, qzF0, qzT0, Option.bind_some, zbd_some, if_true, if_false, qneo, qneo', qlto, qltoF, qleo, qleo', qdT, qdF, decide_true, decide_false, Bool.true_and, Bool.and_true, Bool.false_and, Bool.and_false, Bool.not_true, Bool.not_false, Bool.true_or, Bool.or_true, Bool.false_or, Bool.or_false, qw_s, qw_n, qw_qw, qx_s, qx_n, qx_qx, upd_s, upd_n, vpU_s, vpU_n]) (by simp (disch := omega) only [qlit, qadd, qmul, qleT, qleF, qltT, qltF, qeqT, qeqF, qdiv, qrem, qmr, zbl0, zbl1, qzb, qzF0, qzT0, Option.bind_some, zbd_some, if_true, if_false, qneo, qneo', qlto, qltoF, qleo, qleo', qdT, qdF, decide_true, decide_false, Bool.true_and, Bool.and_true, Bool.false_and, Bool.and_false, Bool.not_true, Bool.not_false, Bool.true_or, Bool.or_true, Bool.false_or, Bool.or_false, qw_s, qw_n, qw_qw, qx_s, qx_n, qx_qx, upd_s, upd_n, vpU_s, vpU_n])) aL)
          refine ⟨?_, e7, eL⟩
          by_cases r0 : r = 0
          · rw [if_neg (show ¬ (D2 = 0 ∧ 1 ≤ L2 ∧ L2 ≤ 7) by omega), if_neg (show ¬ (L2 = 0 ∧ 1 ≤ D2 ∧ D2 ≤ 3) by omega), if_neg (by omega)] at a5
            rw [if_pos r0]
            simp only [Bool.false_eq_true, if_false]
            refine ⟨a5, e6, fun h => ?_, fun h => ?_, fun h => ?_⟩
            · dsimp only at h; omega
            · dsimp only at h; omega
            · dsimp only at h; omega
          · rw [if_neg r0]
            by_cases c3 : tAll kSm B q r = true ∧ r ≤ 7
            · have hD0 : D2 = 0 := by rw [y2]; exact c3.1
              rw [if_pos (show D2 = 0 ∧ 1 ≤ L2 ∧ L2 ≤ 7 by omega)] at a5 a8
              rw [if_pos rfl] at a5 a8
              rw [if_pos c3]
              cases hi : tIdx (tWd B q r) with
              | none =>
                rw [hi] at a5
                refine ⟨a5, e6, fun h => e4, fun h => ?_, fun h => y4 hD0⟩
                simp at h
              | some v =>
                rw [hi] at a5 a8
                refine ⟨a5, e6, fun h => e4, fun h => a8, fun h => ?_⟩
                simp at h
            · rw [if_neg c3]
              have hn3 : ¬ (D2 = 0 ∧ 1 ≤ L2 ∧ L2 ≤ 7) := by
                intro h
                apply c3
                rw [← y2]
                omega
              rw [if_neg hn3] at a5 a8
              by_cases c4 : tAll kDg B q r = true ∧ r ≤ 3
              · have hL0 : L2 = 0 := by rw [y3]; exact c4.1
                rw [if_pos (show L2 = 0 ∧ 1 ≤ D2 ∧ D2 ≤ 3 by omega)] at a5 a8
                rw [if_neg (by omega)] at a5 a8
                rw [if_pos c4]
                refine ⟨a5, e6, fun h => e4, fun h => ?_, fun h => ?_⟩
                · rw [a8]; simp (disch := omega) only [qlit, qadd, qmul, qleT, qleF, qltT, qltF, qeqT, qeqF, qdiv, qrem, qmr, zbl0, zbl1, qzb, qzF0, qzT0, Option.bind_some, zbd_some, if_true, if_false, qneo, qneo', qlto, qltoF, qleo, qleo', qdT, qdF, decide_true, decide_false, Bool.true_and, Bool.and_true, Bool.false_and, Bool.and_false, Bool.not_true, Bool.not_false, Bool.true_or, Bool.or_true, Bool.false_or, Bool.or_false, qw_s, qw_n, qw_qw, qx_s, qx_n, qx_qx, upd_s, upd_n, vpU_s, vpU_n, y5 hL0 c4.2]
                · cases h
              · have hn4 : ¬ (L2 = 0 ∧ 1 ≤ D2 ∧ D2 ≤ 3) := by
                  intro h
                  apply c4
                  rw [← y3]
                  omega
                rw [if_neg hn4, if_neg (by omega)] at a5
                rw [if_neg c4]
                refine ⟨a5, e6, fun h => ?_, fun h => ?_, fun h => ?_⟩
                · dsimp only at h; omega
                · dsimp only at h; omega
                · dsimp only at h; omega
end QY
