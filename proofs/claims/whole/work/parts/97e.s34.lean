/-! a book: the step -/
section QBE
variable {g : zF} {V W U K E : Nat → Nat → Int32} {X Y Z : Nat → Nat → Int64} {N n m p o k pl d e c : Nat} {s t u B : Nat → Nat} {Q : sQ} {cs : List sC}
theorem c_tell (hN : 3000 ≤ N) {why line : Int32} (hR : rF V 4 t) (hS : rS V 23 t) (hW : sWF t) : ∃ W, fX0_tell N 216 (qH g V X) 191 why line 23 = some (qH g W X) ∧ W 191 8 = Int32.ofNat 1 ∧ W 194 0 = why ∧ W 194 1 = line ∧ W 194 2 = Int32.ofNat (t 139) ∧ W 194 3 = Int32.ofNat (sGone t) ∧ (∀ j, j ≠ 8 → W 191 j = V 191 j) ∧ ∀ b, b ≠ 191 → b ≠ 194 → W b = V b := by
  unfold fX0_tell
  rw [q191_p8 _ (Or.inr rfl), Option.bind_some, q191_g7, Option.bind_some, show (0 : Int32) = Int32.ofNat 0 from rfl, e_put qk_194 (by omega) (by omega), Option.bind_some, qw_n (by decide), q191_g7, Option.bind_some, show fX11_put N 216 (qH g (qw (qw V 191 (upd (V 191) 8 1)) 194 (upd (V 194) 0 why)) X) 194 (1 : Int32) line = some (qH g (qw (qw (qw V 191 (upd (V 191) 8 1)) 194 (upd (V 194) 0 why)) 194 (upd (qw (qw V 191 (upd (V 191) 8 1)) 194 (upd (V 194) 0 why) 194) 1 line)) X) from e_put (k := 1) qk_194 (by omega) (by omega), Option.bind_some, qw_qw, qw_s, q191_g7, Option.bind_some, c23_g1, Option.bind_some, qw_n (by decide), qw_n (by decide), hS.1, show (2 : Int32) = Int32.ofNat 2 from rfl, e_put qk_194 (by omega) (by omega), Option.bind_some, qw_qw, qw_s, q191_g7, Option.bind_some, c23_c, Option.bind_some]
  generalize hV2 : qw (qw V 191 (upd (V 191) 8 1)) 194 (upd (upd (upd (V 194) 0 why) 1 line) 2 (Int32.ofNat (t 139))) = V2
  have en : ∀ b, b ≠ 191 → b ≠ 194 → V2 b = V b := fun b b1 b2 => by rw [← hV2, qw_n b2, qw_n b1]
  have e191 : ∀ j, V2 191 j = upd (V 191) 8 1 j := fun j => by rw [← hV2, qw_n (by decide), qw_s]
  have e194 : ∀ j, V2 194 j = upd (upd (upd (V 194) 0 why) 1 line) 2 (Int32.ofNat (t 139)) j := fun j => by rw [← hV2, qw_s]
  rw [e_goneByAll (s := t) hN qS_23 qF_4 (hR.pt (fun b j b1 b2 => by rw [en b (by omega) (by omega)])) (hS.pt (fun b j b1 b2 => by rw [en b (by omega) (by omega)])) hW, Option.bind_some, show (3 : Int32) = Int32.ofNat 3 from rfl, e_put qk_194 (by omega) (by omega), Option.bind_some]
  refine ⟨_, rfl, ?_, ?_, ?_, ?_, ?_, fun j hj => ?_, fun b b1 b2 => ?_⟩
  · rw [qw_n (by decide), e191, upd_s]; rfl
  · rw [qw_s, upd_n (by decide), e194, upd_n (by decide), upd_n (by decide), upd_s]
  · rw [qw_s, upd_n (by decide), e194, upd_n (by decide), upd_s]
  · rw [qw_s, upd_n (by decide), e194, upd_s]
  · rw [qw_s, upd_s]
  · rw [qw_n (by decide), e191, upd_n hj]
  · rw [qw_n b2, en b b1 b2]
/-- the class's book -/
def bcLast (nU nx v : Nat) (s : Nat → Nat) (V W : Nat → Nat → Int32) (r : Int32) : Except (Nat × Nat) (List sC) → Prop
  | .error (kk, pl) => r = -2 - Int32.ofNat pl ∧ W 191 0 = Int32.ofNat kk ∧ (∀ b, b ≠ 1 → ¬ (56 ≤ b ∧ b ≤ 59) → b ≠ 191 → W b = V b) ∧ ∀ j, j ≠ 0 → W 191 j = V 191 j
  | .ok cs => W 191 0 = Int32.ofNat 0 ∧ r = (if (bkRun cs cs.length 0 s).1 = 0 then -1 else Int32.ofNat (bkRun cs cs.length 0 s).2.1) ∧ W 191 8 = Int32.ofNat 1 ∧ W 194 0 = Int32.ofNat (bkRun cs cs.length 0 s).1 ∧ W 194 1 = Int32.ofNat (bkRun cs cs.length 0 s).2.1 ∧ W 194 2 = Int32.ofNat ((bkRun cs cs.length 0 s).2.2 139) ∧ W 194 3 = Int32.ofNat (sGone (bkRun cs cs.length 0 s).2.2) ∧
    (∀ j, j ≠ 0 → j ≠ 8 → W 191 j = V 191 j) ∧ (∀ b, b ≠ 1 → ¬ (56 ≤ b ∧ b ≤ 59) → b ≠ 191 → b ≠ 194 → ¬ (15 ≤ b ∧ b < 31) → b ≠ 65 → ¬ (67 + 8 * nx ≤ b ∧ b < 67 + 8 * nx + 8) → W b = V b) ∧
    (¬ (v = 1 ∧ 0 < (bkRun cs cs.length 0 s).2.1) → ∀ b, (15 ≤ b ∧ b < 23) ∨ b = 65 ∨ (67 ≤ b ∧ b < 139) → W b = V b) ∧
    (v = 1 ∧ 0 < (bkRun cs cs.length 0 s).2.1 → rS W 15 (bkRun cs cs.length 0 s).2.2 ∧ rS W (67 + 8 * nx) s ∧ W 65 1 = Int32.ofNat (min (nU + 1) 8) ∧ W 65 2 = Int32.ofNat ((nx + 1) % 9))
theorem K_book (hN : 3000 ≤ N) {v nU nx : Nat} (hv : v < 2) (hB : cB V B n) (hW : cW X) (hq : bQ V X Q) (hg : gQ g) (hnU : nU ≤ 8) (hx : nx < 9) (h1 : V 65 1 = Int32.ofNat nU) (h2 : V 65 2 = Int32.ofNat nx) (hR : rF V 4 s) (hS : rS V 15 s) (hs : sOK s) (h3 : Q.2.1 = s 3) (h4 : Q.2.2.2 = s 4) : hV g (fX11_book N 216 (qH g V X) 0 (Int32.ofNat v)) (fun W Y r => bcLast nU nx v s V W r (bRd B n 400 Q (n + 1) 0 []) ∧ W 1 2 = Int32.ofNat 0 ∧ ∀ b, b ≠ 1 → Y b = X b) := by
  unfold fX11_book
  rw [l1, c_rng0 (by omega), qrg_k (by omega), decide_eq_true (by omega), if_pos rfl, q0_g6, Option.bind_some, q56_c, Option.bind_some]
  refine hV_bind (B_read hN hB hW hq) (fun W Y hx0 => ?_)
  obtain ⟨he, hf⟩ := hx0
  rw [q0_g0, Option.bind_some, q1_p2, Option.bind_some, q0_g12, Option.bind_some, q0_g0, Option.bind_some, q1_g10, Option.bind_some, qw_s, upd_n (by decide), q191_p0, Option.bind_some, q0_g0, Option.bind_some, q1_g10, Option.bind_some, qw_n (by decide), qw_s, upd_n (by decide), qw_n (by decide)]
  generalize hV1 : qw (qw W 1 (upd (W 1) 2 0)) 191 (upd (W 191) 0 (W 1 10)) = V1
  have en : ∀ b, b ≠ 1 → b ≠ 191 → V1 b = W b := fun b b1 b2 => by rw [← hV1, qw_n b2, qw_n b1]
  have e10 : V1 191 0 = W 1 10 := by rw [← hV1, qw_s, upd_s]
  have e1j : ∀ j, j ≠ 0 → V1 191 j = V 191 j := fun j hj => by rw [← hV1, qw_s, upd_n hj, hf.1 191 (by decide) (by decide)]
  have e12 : V1 1 2 = Int32.ofNat 0 := by rw [← hV1, qw_n (by decide), qw_s, upd_s]; rfl
  have e11 : V1 1 11 = W 1 11 := by rw [← hV1, qw_n (by decide), qw_s, upd_n (by decide)]
  have ev : ∀ b, b ≠ 1 → ¬ (56 ≤ b ∧ b ≤ 59) → b ≠ 191 → V1 b = V b := fun b b1 b2 b3 => by rw [en b b1 b3, hf.1 b b1 b2]
  cases hr : bRd B n 400 Q (n + 1) 0 [] with
  | error x =>
    obtain ⟨kk, pl⟩ := x
    rw [hr] at he
    obtain ⟨f1, f2, f3, f4, f5, f6, f7, f8, f9⟩ := (show cFl B n 400 W Y kk pl from he)
    rw [f7, if_neg (by rw [l0, qeq (by omega) (by omega)]; omega), Option.bind_some, q1_g11, Option.bind_some, e11, f8]
    exact hV_pure ⟨⟨rfl, by rw [e10]; exact f7, ev, e1j⟩, e12, hf.2⟩
  | ok cs =>
    rw [hr] at he
    obtain ⟨⟨p, hC⟩, hco⟩ := he
    obtain ⟨hl40, hcs⟩ := bRd_ok (n + 1) 0 [] cs (Nat.zero_le _) (fun c hc => by cases hc) (Nat.zero_le _) hr
    obtain ⟨b1, b2, b3, b4, b5, b6⟩ := bkRun_ok hcs cs.length 0 s hs h3 h4
    have hR1 : rF V1 4 s := hR.pt (fun b j c1 c2 => by rw [ev b (by omega) (by omega) (by omega)])
    have hS1 : rS V1 15 s := hS.pt (fun b j c1 c2 => by rw [ev b (by omega) (by omega) (by omega)])
    rw [hC.2.2.2.2.2.1, if_pos (show Int32.ofNat 0 = (0 : Int32) from rfl), q0_g3, Option.bind_some, c0_2, Option.bind_some, c23_c, Option.bind_some]
    obtain ⟨C, a1, a2, a3⟩ := c_scr (g := g) (X := Y) (N := N) hS1 hs.1
    rw [a1, Option.bind_some]
    obtain ⟨L, y1, y2, y3⟩ := C_bookL (g := g) (X := Y) (a1 := Int32.ofNat v) hN hl40 hcs cs.length 0 N C s (by omega) (by omega) (hR1.fr a3 (Or.inl (by omega))) a2 hs h3 h4 (hco.cg (fun b c1 c2 => by rw [a3 b (by omega), en b (by omega) (by omega)]))
    rw [show fX11_book_81 N 216 N (qH g C Y) 0 (Int32.ofNat v) (0 : Int32) 0 0 = _ from y1]
    have lc : ∀ b, ¬ (23 ≤ b ∧ b < 31) → L b = V1 b := fun b hb => by rw [y3 b (by omega), a3 b (by omega)]
    generalize hrun : bkRun cs cs.length 0 s = run at *
    obtain ⟨why, line, t⟩ := run
    dsimp only at b1 b2 b3 b4 b5 b6 y2 ⊢
    have hRL : rF L 4 t := b2.eq.toF hs.1 (hR1.pt (fun b j c1 c2 => by rw [lc b (by omega)]))
    obtain ⟨T, t1, t2, t3, t4, t5, t6, t7, t8⟩ := c_tell (g := g) (X := Y) (why := Int32.ofNat why) (line := Int32.ofNat line) hN hRL y2 b1.1
    unfold fX11_book_131
    rw [q0_g12, Option.bind_some, q0_g3, Option.bind_some, q191_c, Option.bind_some, t1, Option.bind_some]
    have tv : ∀ b, ¬ (23 ≤ b ∧ b < 31) → b ≠ 191 → b ≠ 194 → T b = V1 b := fun b c1 c2 c3 => by rw [t8 b c2 c3, lc b c1]
    have t191 : ∀ j, j ≠ 8 → T 191 j = V1 191 j := fun j hj => by rw [t7 j hj, lc 191 (by omega)]
    have h182 : ∀ {f : zF}, fX11_book_182 N 216 f (Int32.ofNat line) (Int32.ofNat why) = some (f, if why = 0 then -1 else Int32.ofNat line) := by
      intro f
      unfold fX11_book_182
      by_cases e : why = 0
      · rw [if_pos (by rw [e]; rfl), if_pos e]
      · rw [if_neg (by rw [l0, qeq (by omega) (by omega)]; exact e), if_neg e]
    have hnot : ¬ (v = 1 ∧ 0 < line) → bcLast nU nx v s V T (if why = 0 then -1 else Int32.ofNat line) (.ok cs) ∧ T 1 2 = Int32.ofNat 0 ∧ ∀ b, b ≠ 1 → Y b = X b := by
      intro hno
      unfold bcLast
      dsimp only
      rw [hrun]
      dsimp only
      refine ⟨⟨by rw [t191 0 (by decide), e10]; exact hC.2.2.2.2.2.1, rfl, t2, t3, t4, t5, t6, fun j j1 j2 => by rw [t191 j j2, e1j j j1], fun b c1 c2 c3 c4 c5 c6 c7 => by rw [tv b (by omega) c3 c4, ev b c1 c2 c3], fun _ b hb => by rw [tv b (by omega) (by omega) (by omega), ev b (by omega) (by omega) (by omega)], fun h => absurd h hno⟩, by rw [tv 1 (by omega) (by decide) (by decide)]; exact e12, hf.2⟩
    by_cases hv1 : v = 1
    · rw [if_pos (by rw [hv1]; rfl)]
      by_cases hl0 : 0 < line
      · rw [if_neg (by rw [l0, qle (by omega) (by omega)]; omega), q0_g8, Option.bind_some, c0_2, Option.bind_some, q65_c, Option.bind_some]
        have hS2 : rS T 15 s := hS1.pt (fun b j c1 c2 => by rw [tv b (by omega) (by omega) (by omega)])
        have h65 : T 65 = V 65 := by rw [tv 65 (by omega) (by decide) (by decide), ev 65 (by decide) (by decide) (by decide)]
        obtain ⟨H, p1, p2, p3⟩ := c_hold (g := g) (X := Y) (N := N) hg hx (by rw [h65]; exact h2) hS2 hs.1
        rw [p1, Option.bind_some, q0_g8, Option.bind_some, q65_c, Option.bind_some]
        obtain ⟨Kp, k1, k2, k3, k4⟩ := c_keep (g := g) (X := Y) (N := N) (V := H) hnU hx (by rw [p3 65 (by omega), h65]; exact h1) (by rw [p3 65 (by omega), h65]; exact h2)
        rw [k1, Option.bind_some, c0_2, Option.bind_some, q0_g3, Option.bind_some, c15_c, Option.bind_some, e_copyS qS_15 qS_23 (Or.inr (by omega)), Option.bind_some, h182]
        have hSt : rS Kp 23 t := (y2.pt (fun b j c1 c2 => by rw [t8 b (by omega) (by omega)]) : rS T 23 t) |>.fr p3 (Or.inl (by omega)) |>.fr k4 (Or.inl (by omega))
        have cn : ∀ b, b < 15 ∨ 15 + 7 < b → (qcb Kp 15 23 (upd (Kp 15) 1 (Kp 23 1)) qLS 7) b = Kp b := fun b hb => qcb_n hb
        have kv : ∀ b, b ≠ 65 → ¬ (67 + 8 * nx ≤ b ∧ b < 67 + 8 * nx + 8) → Kp b = T b := fun b c1 c2 => by rw [k4 b (by omega), p3 b (by omega)]
        refine ⟨_, Y, _, rfl, ?_, ?_, hf.2⟩
        · unfold bcLast
          dsimp only
          rw [hrun]
          dsimp only
          refine ⟨?_, rfl, ?_, ?_, ?_, ?_, ?_, fun j j1 j2 => ?_, fun b c1 c2 c3 c4 c5 c6 c7 => ?_, fun h => absurd ⟨hv1, hl0⟩ h, fun _ => ⟨hSt.copy b1.1, ?_, ?_, ?_⟩⟩
          · rw [cn 191 (by omega), kv 191 (by decide) (by omega), t191 0 (by decide), e10]; exact hC.2.2.2.2.2.1
          · rw [cn 191 (by omega), kv 191 (by decide) (by omega)]; exact t2
          · rw [cn 194 (by omega), kv 194 (by decide) (by omega)]; exact t3
          · rw [cn 194 (by omega), kv 194 (by decide) (by omega)]; exact t4
          · rw [cn 194 (by omega), kv 194 (by decide) (by omega)]; exact t5
          · rw [cn 194 (by omega), kv 194 (by decide) (by omega)]; exact t6
          · rw [cn 191 (by omega), kv 191 (by decide) (by omega), t191 j j2, e1j j j1]
          · rw [cn b (by omega), kv b c6 c7, tv b (by omega) c3 c4, ev b c1 c2 c3]
          · exact (p2.fr k4 (Or.inr (by omega))).pt (fun b j c1 c2 => by rw [cn b (by omega)])
          · rw [cn 65 (by omega)]; exact k2
          · rw [cn 65 (by omega)]; exact k3
        · rw [cn 1 (by omega), kv 1 (by decide) (by omega), tv 1 (by omega) (by decide) (by decide)]; exact e12
      · rw [if_pos (by rw [l0, qle (by omega) (by omega)]; omega), h182]
        exact hV_pure (hnot (fun h => hl0 h.2))
    · rw [if_neg (by rw [show (1 : Int32) = Int32.ofNat 1 from rfl, qeq (by omega) (by omega)]; exact hv1), h182]
      exact hV_pure (hnot (fun h => hv1 h.1))
/-- what was, but for what a reading tells -/
def hyb (V E : Nat → Nat → Int32) : Nat → Nat → Int32 := fun b => if b = 1 then upd (V 1) 2 (Int32.ofNat 0) else if b = 191 then upd (upd (V 191) 0 (E 191 0)) 8 (E 191 8) else if b = 196 then upd (upd (upd (V 196) 2 (Int32.ofNat 0)) 15 (E 196 15)) 39 (E 196 39) else if b = 194 then E 194 else if b = 209 then E 209 else V b
theorem hyb_n {b : Nat} (h1 : b ≠ 1) (h2 : b ≠ 191) (h3 : b ≠ 196) (h4 : b ≠ 194) (h5 : b ≠ 209) : hyb V E b = V b := by
  unfold hyb
  rw [if_neg h1, if_neg h2, if_neg h3, if_neg h4, if_neg h5]
theorem hyb_1 : hyb V E 1 = upd (V 1) 2 (Int32.ofNat 0) := if_pos rfl
theorem hyb_191 : hyb V E 191 = upd (upd (V 191) 0 (E 191 0)) 8 (E 191 8) := by unfold hyb; rw [if_neg (by decide), if_pos rfl]
theorem hyb_196 : hyb V E 196 = upd (upd (upd (V 196) 2 (Int32.ofNat 0)) 15 (E 196 15)) 39 (E 196 39) := by unfold hyb; rw [if_neg (by decide), if_neg (by decide), if_pos rfl]
theorem hyb_194 : hyb V E 194 = E 194 := by unfold hyb; rw [if_neg (by decide), if_neg (by decide), if_neg (by decide), if_pos rfl]
theorem hyb_209 : hyb V E 209 = E 209 := by unfold hyb; rw [if_neg (by decide), if_neg (by decide), if_neg (by decide), if_neg (by decide), if_pos rfl]
theorem jHyb (hJ : jA V X s) (h15 : E 191 0 = E 196 15) (hD : jD (hyb V E)) (eY : ∀ b, b ≠ 1 → b ≠ 196 → Y b = X b) : jA (hyb V E) Y s := by
  obtain ⟨j1, j2, j3⟩ := hJ
  refine ⟨j1.pt (fun b j h => by rw [hyb_n (by omega) (by omega) (by omega) (by omega) (by omega)]) (fun b j h => by rw [eY b (by omega) (by omega)]), j2.pt sEq.rf (fun b j h => ?_), jRead j3 (jT0 ?_ ?_) ?_ hD (fun b j c1 c2 c3 c4 c5 c6 c7 c8 c9 c10 c11 => ?_) (fun b j c1 c2 c3 => ?_)⟩
  · by_cases e : b = 196
    · subst e
      rw [hyb_196, upd_n (by omega), upd_n (by omega), upd_n (by omega)]
    · rw [hyb_n (by omega) (by omega) e (by omega) (by omega)]
  · rw [hyb_1, upd_s]
  · rw [hyb_196, upd_n (by decide), upd_n (by decide), upd_s]
  · unfold jG
    rw [hyb_191, hyb_196, upd_n (by decide), upd_s, upd_n (by decide), upd_s]; exact h15
  · by_cases e1 : b = 1
    · subst e1
      rw [hyb_1, upd_n (by omega)]
    · by_cases e2 : b = 191
      · subst e2
        rw [hyb_191, upd_n (by omega), upd_n (by omega)]
      · by_cases e3 : b = 196
        · subst e3
          rw [hyb_196, upd_n (by omega), upd_n (by omega), upd_n (by omega)]
        · rw [hyb_n e1 e2 e3 c8 c11]
  · unfold scx at c1
    rw [eY b (by omega) (by omega)]
theorem s_34 (hN : 3000 ≤ N) {f : zF} (hI : Inv f) (p1 : Int32) : ∃ f2, zlc34 N 216 f p1 = some f2 ∧ Inv f2 := by
  obtain ⟨g, V, X, s, rfl, hg, hJ⟩ := hI
  obtain ⟨⟨⟨hW, hD, hG, h9⟩, hWL, hR, hL, hS, hM, hNs, hNm⟩, hU, hR2⟩ := id hJ
  have hs : sOK s := ⟨hW, hD, hG, h9⟩
  obtain ⟨⟨w0, w0b⟩, ⟨w1, w1b⟩, w2, w3, w4, w5, w95, w113, w101, w129, w134⟩ := id hW
  obtain ⟨nU, nx, UU, hnU, hx, u1, u2, u3, hU4⟩ := id hU
  unfold zlc34
  cases hp : qrg p1 0 2 with
  | false =>
    refine cstep (o1 := fX11_book N 216 (qH g V X) 0 p1) (m := fun ff => fX12_book N 216 ff 196 p1) (V1 := V) (X1 := X) (V2 := qT V) (X2 := X) (r := -1000) hg ?_ ?_ hJ.thr
    · unfold fX11_book fX11_book_9
      rw [l1, c_rng0 (by omega), hp, if_neg (by decide)]
    · unfold fX12_book
      rw [m_thr0, Option.bind_some, m_in2, Option.bind_some, hp, if_pos qzf]
  | true =>
    obtain ⟨v, rfl, -, -, hv⟩ := qrg_e hp
    obtain ⟨n, B, hcB, hn2, hB197⟩ := hR2.1
    obtain ⟨hcW, hWm⟩ := hR2.2.1
    obtain ⟨q1, a1, a2, a3⟩ := nm_ch hNm.2.1
    obtain ⟨q2, b1, b2, b3⟩ := nm_ch hNm.2.2.1
    obtain ⟨Q, hQd⟩ : ∃ Q : sQ, Q = (q1, s 3, q2, s 4) := ⟨_, rfl⟩
    have h3 : Q.2.1 = s 3 := by rw [hQd]
    have h4 : Q.2.2.2 = s 4 := by rw [hQd]
    have hq : bQ V X Q := by
      rw [hQd]
      exact ⟨⟨a1, a2, w3, hR.2.2.2.1⟩, b1, b2, w4, hR.2.2.2.2.1⟩
    have hdis : ∀ i l, i < s 3 → l < s 4 → q1 i ≠ q2 l := by
      intro i l hi hl e
      refine hNm.2.2.2 i l hi hl ?_
      have e1 := a2 i hi
      have e2 := b2 l hl
      rw [e1, e2, e]
    obtain ⟨W, Y, r, e1, k1, k2, k3⟩ := K_book (g := g) hN (v := v) (nU := nU) (nx := nx) hv hcB hcW hq hg hnU hx u1 u2 hR hS hs h3 h4
    have kb : ∀ b, b = 196 ∨ b = 197 ∨ b = 198 ∨ b = 203 → W b = V b := by
      intro b hb
      cases hr : bRd B n 400 Q (n + 1) 0 [] with
      | error x => rw [hr] at k1; exact k1.2.2.1 b (by omega) (by omega) (by omega)
      | ok cs => rw [hr] at k1; exact k1.2.2.2.2.2.2.2.2.1 b (by omega) (by omega) (by omega) (by omega) (by omega) (by omega) (by omega)
    obtain ⟨E, Ye, r2, e2, l1', l2, l3'⟩ := M_book (g := g) (V := W) (X := Y) (B := B) (n := n) (Q := Q) (s := s) hN hv (nU := nU) hcB.2.1 (by rw [kb 196 (by omega)]; exact hn2) (fun i hi => ⟨(hcB.2.2 i hi).1, by rw [kb 197 (by omega)]; exact hB197 i hi⟩) (by
      rw [hQd]
      refine ⟨fun v hv => by rw [k3 202 (by decide)]; exact hWm v hv, ⟨a1, fun i hi => ?_, w3, ?_⟩, ⟨b1, fun i hi => ?_, w4, ?_⟩, hdis⟩
      · rw [k3 201 (by decide), show 4 + i = 0 + (4 + i) by omega]; exact a3 i hi
      · rw [kb 198 (by omega)]; exact hM 3 (by omega)
      · rw [k3 201 (by decide), show 10 + i = 0 + (10 + i) by omega]; exact b3 i hi
      · rw [kb 198 (by omega)]; exact hM 4 (by omega)) hnU (by rw [kb 196 (by omega)]; exact u3) (fun i hi => by rw [kb 198 (by omega)]; exact hM i hi) hs h3 h4
    have eY : ∀ b, b ≠ 1 → b ≠ 196 → Ye b = X b := fun b c1 c2 => by rw [l3' b c2, k3 b c1]
    cases hr : bRd B n 400 Q (n + 1) 0 [] with
    | error x =>
      obtain ⟨kk, pl⟩ := x
      rw [hr] at k1 l1'
      obtain ⟨k4, k5, k6, k7⟩ := k1
      obtain ⟨m4, m5, m6, m7⟩ := l1'
      obtain rfl : r = r2 := k4.trans m4.symm
      have e191 : E 191 = W 191 := m6 191 (by decide) (by decide) (by decide)
      have e194 : E 194 = V 194 := by rw [m6 194 (by decide) (by decide) (by decide), k6 194 (by decide) (by decide) (by decide)]
      have e209 : E 209 = V 209 := by rw [m6 209 (by decide) (by decide) (by decide), k6 209 (by decide) (by decide) (by decide)]
      have e39 : E 196 39 = V 196 39 := by rw [m7 39 (by omega) (by omega) (by omega), kb 196 (by omega)]
      have hJ' : jA (hyb V E) Ye s := jHyb hJ (by rw [e191, k5, m5]) (hR2.2.2.2.2.2.2.2.2.2.2.pt (fun b j h => by
        rcases h with ⟨rfl, rfl⟩ | rfl | ⟨rfl, rfl⟩ | rfl
        · rw [hyb_191, upd_s, e191, k7 8 (by decide)]
        · rw [hyb_194, e194]
        · rw [hyb_196, upd_s, e39]
        · rw [hyb_209, e209])) eY
      refine cstep (o1 := fX11_book N 216 (qH g V X) 0 (Int32.ofNat v)) (m := fun ff => fX12_book N 216 ff 196 (Int32.ofNat v)) hg e1 e2 (hJ'.pt (fun b j hb => ?_) (fun _ _ _ => rfl))
      unfold scr at hb
      by_cases c1 : b = 1
      · subst c1
        obtain rfl : j = 2 := by omega
        rw [hyb_1, upd_s, m6 1 (by decide) (by decide) (by decide)]; exact k2
      · by_cases c2 : b = 191
        · subst c2
          rw [hyb_191]
          by_cases j8 : j = 8
          · subst j8; rw [upd_s]
          · rw [upd_n j8]
            by_cases j0 : j = 0
            · subst j0; rw [upd_s]
            · rw [upd_n j0, e191, k7 j j0]
        · by_cases c3 : b = 196
          · subst c3
            rw [hyb_196]
            by_cases j39 : j = 39
            · subst j39; rw [upd_s]
            · rw [upd_n j39]
              by_cases j15 : j = 15
              · subst j15; rw [upd_s]
              · rw [upd_n j15]
                by_cases j2 : j = 2
                · subst j2; rw [upd_s]; exact l2
                · rw [upd_n j2, m7 j (by omega) (by omega) (by omega), kb 196 (by omega)]
          · by_cases c4 : b = 194
            · subst c4; rw [hyb_194]
            · by_cases c5 : b = 209
              · subst c5; rw [hyb_209]
              · rw [hyb_n c1 c2 c3 c4 c5, m6 b c3 (by omega) (by omega), k6 b c1 (by omega) c2]
    | ok cs =>
      obtain ⟨hl40, hcs⟩ := bRd_ok (n + 1) 0 [] cs (Nat.zero_le _) (fun c hc => by cases hc) (Nat.zero_le _) hr
      obtain ⟨z1, z2, z3, z4, z5, z6⟩ := bkRun_ok hcs cs.length 0 s hs h3 h4
      rw [hr] at k1 l1'
      unfold bcLast at k1
      unfold bmLast at l1'
      dsimp only at k1 l1'
      generalize hrun : bkRun cs cs.length 0 s = run at *
      obtain ⟨why, line, t⟩ := run
      dsimp only at k1 l1' z1 z2 z3 z4 z5 z6
      obtain ⟨k4, k5, k6, k7, k8, k9, k10, k11, k12, k13, k14⟩ := k1
      obtain ⟨m15, K, ⟨m4, m5, m6, m7, m8, m9, m10, m11, m12, m13, m14⟩, n1, n2⟩ := l1'
      obtain rfl : r = r2 := k5.trans m4.symm
      have ew : ∀ b, b ≠ 196 → b ≠ 198 → b ≠ 200 → b ≠ 203 → b ≠ 204 → b ≠ 209 → b ≠ 210 → E b = W b := fun b c1 c2 c3 c4 c5 c6 c7 => by rw [m11 b c1 c2 c4 c6, n1 b c1 c2 c3 c5 c6 c7]
      have e191 : E 191 = W 191 := ew 191 (by decide) (by decide) (by decide) (by decide) (by decide) (by decide) (by decide)
      have e194 : E 194 = W 194 := ew 194 (by decide) (by decide) (by decide) (by decide) (by decide) (by decide) (by decide)
      have hJ' : jA (hyb V E) Ye s := jHyb hJ (by rw [e191, k4, m15]) (Or.inr ⟨by rw [hyb_191, upd_s, e191]; exact k6, by rw [hyb_196, upd_s]; exact m6, fun i hi => by
        rw [hyb_194, hyb_209, e194]
        have : i = 0 ∨ i = 1 ∨ i = 2 ∨ i = 3 := by omega
        rcases this with rfl | rfl | rfl | rfl
        · rw [k7, m7]
        · rw [k8, m8]
        · rw [k9, m9]
        · rw [k10, m10]⟩) eY
      -- all that neither an act nor a reading changes
      have hrest : ∀ b j, ¬ scr b j → ¬ ((67 + 8 * nx ≤ b ∧ b < 67 + 8 * nx + 8) ∨ (15 ≤ b ∧ b < 23) ∨ b = 65 ∨ b = 198 ∨ b = 203 ∨ (b = 196 ∧ j = 23)) → E b j = hyb V E b j := by
        intro b j hb hb2
        unfold scr at hb
        by_cases c1 : b = 1
        · subst c1
          obtain rfl : j = 2 := by omega
          rw [hyb_1, upd_s, ew 1 (by decide) (by decide) (by decide) (by decide) (by decide) (by decide) (by decide)]; exact k2
        · by_cases c2 : b = 191
          · subst c2
            rw [hyb_191]
            by_cases j8 : j = 8
            · subst j8; rw [upd_s]
            · rw [upd_n j8]
              by_cases j0 : j = 0
              · subst j0; rw [upd_s]
              · rw [upd_n j0, e191, k11 j j0 j8]
          · by_cases c3 : b = 196
            · subst c3
              rw [hyb_196]
              by_cases j39 : j = 39
              · subst j39; rw [upd_s]
              · rw [upd_n j39]
                by_cases j15 : j = 15
                · subst j15; rw [upd_s]
                · rw [upd_n j15]
                  by_cases j2 : j = 2
                  · subst j2; rw [upd_s]; exact l2
                  · rw [upd_n j2, m12 j (by omega) j39, n2 j (by omega) (by omega) (by omega), kb 196 (by omega)]
            · by_cases c4 : b = 194
              · subst c4; rw [hyb_194]
              · by_cases c5 : b = 209
                · subst c5; rw [hyb_209]
                · rw [hyb_n c1 c2 c3 c4 c5, ew b c3 (by omega) (by omega) (by omega) (by omega) c5 (by omega), k12 b c1 (by omega) c2 c4 (by omega) (by omega) (by omega)]
      refine cstep (o1 := fX11_book N 216 (qH g V X) 0 (Int32.ofNat v)) (m := fun ff => fX12_book N 216 ff 196 (Int32.ofNat v)) (s := if v = 1 ∧ 0 < line then t else s) hg e1 e2 ?_
      by_cases hc : v = 1 ∧ 0 < line
      · rw [if_pos hc]
        obtain ⟨p1, p2, p3, p4⟩ := k14 hc
        obtain ⟨o1, o2, o3⟩ := m14 hc
        rw [if_pos hc.1] at m5
        have epast : ∀ b, 15 ≤ b → b < 139 → E b = W b := fun b c1 c2 => ew b (by omega) (by omega) (by omega) (by omega) (by omega) (by omega) (by omega)
        have hV203 : K 203 = V 203 := by rw [n1 203 (by decide) (by decide) (by decide) (by decide) (by decide) (by decide), kb 203 (by omega)]
        refine act_do (U := UU) hJ' z1 z2 hnU hx (fun j hj => ?_) (p1.pt (fun b j c1 c2 => by rw [epast b (by omega) (by omega)])) m5 (p2.pt (fun b j c1 c2 => by rw [epast b (by omega) (by omega)])) (by rw [epast 65 (by omega) (by omega)]; exact p3) (by rw [epast 65 (by omega) (by omega)]; exact p4) o1 (fun j i hj hi => ?_) (fun i hi => ?_) hrest
        · obtain ⟨x1, x2, x3, x4⟩ := hU4 j hj
          exact ⟨x1, x2, x3.pt (fun b i c1 c2 => by rw [hyb_n (by omega) (by omega) (by omega) (by omega) (by omega)]), fun i hi => by rw [hyb_n (by omega) (by omega) (by omega) (by omega) (by omega)]; exact x4 i hi⟩
        · rw [o2 j i hj hi, hV203, hyb_n (by omega) (by omega) (by omega) (by omega) (by omega)]
        · rw [o3 i hi, hyb_n (by omega) (by omega) (by omega) (by omega) (by omega)]; exact (hM (139 + i) (by omega)).symm
      · rw [if_neg hc]
        obtain ⟨o1, o2⟩ := m13 hc
        have hts : (if v = 1 then t else s) = s := by
          by_cases hv1 : v = 1
          · rw [if_pos hv1]
            exact z6 (by have : ¬ 0 < line := fun h => hc ⟨hv1, h⟩; omega)
          · rw [if_neg hv1]
        rw [hts] at m5
        have hpast := k13 hc
        have e203 : E 203 = V 203 := by rw [o1, n1 203 (by decide) (by decide) (by decide) (by decide) (by decide) (by decide), kb 203 (by omega)]
        have e23 : E 196 23 = V 196 23 := by rw [o2, n2 23 (by omega) (by omega) (by omega), kb 196 (by omega)]
        have epast : ∀ b, (15 ≤ b ∧ b < 23) ∨ b = 65 ∨ (67 ≤ b ∧ b < 139) → E b = V b := fun b hb => by rw [ew b (by omega) (by omega) (by omega) (by omega) (by omega) (by omega) (by omega), hpast b hb]
        obtain ⟨j1, j2, j3⟩ := hJ'
        refine ⟨j1.go hs sKp.rf (hS.pt (fun b j c1 c2 => by rw [epast b (by omega)])) m5 (fun b j hb => hrest b j (by unfold scr; omega) (by omega)), hU.pt sEq.rf (fun b j hb => ?_), j3.pt (fun b j c1 c2 c3 c4 c5 => hrest b j c1 (by omega)) (fun _ _ _ _ _ => rfl)⟩
        rcases hb with rfl | hb | ⟨rfl, rfl⟩ | rfl
        · rw [epast 65 (by omega)]
        · rw [epast b (by omega)]
        · exact e23
        · rw [e203]
end QBE
