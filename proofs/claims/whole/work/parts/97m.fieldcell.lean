/-! a field: the reference takes a cell; its lines -/
section QFH
variable {g : zF} {V W U K C : Nat → Nat → Int32} {X Y Z D : Nat → Nat → Int64} {N n m p o k pl d e c ln w : Nat} {s t u B h : Nat → Nat} {q : Nat → List Nat} {fl : Bool}
theorem g_a0 : zlI 216 (qH g V X) 0 199 (0 : Int32) = some (V 199 0) := g_at (j := 0) (by omega)
theorem g_a1 : zlI 216 (qH g V X) 0 199 (1 : Int32) = some (V 199 1) := g_at (j := 1) (by omega)
theorem g_a2 : zlI 216 (qH g V X) 0 199 (2 : Int32) = some (V 199 2) := g_at (j := 2) (by omega)
theorem g_a3 : zlI 216 (qH g V X) 0 199 (3 : Int32) = some (V 199 3) := g_at (j := 3) (by omega)
theorem g_a4 : zlI 216 (qH g V X) 0 199 (4 : Int32) = some (V 199 4) := g_at (j := 4) (by omega)
theorem G_86 (h3 : V 199 3 = Int32.ofNat w) (hw : w ≤ 6) (hu : ∀ f, f < w → V 199 (101 + f) = Int32.ofNat (u f) ∧ u f < 1000) (hc : c < 1000) : ∀ m i k b, i + m = w → m < k → fX12_takesCell_86 N 216 k (qH g V X) 196 (Int32.ofNat c) (qz b) (Int32.ofNat i) = fX12_takesCell_130 N 216 N (qH g V X) 196 (Int32.ofNat c) (qz (b || (qfnd (fun f => decide (u f = c)) i m).isSome)) (0 : Int32) := by
  intro m
  induction m with
  | zero =>
    intro i k b hi hk
    obtain ⟨k, rfl⟩ : ∃ j, k = j + 1 := ⟨k - 1, by omega⟩
    unfold fX12_takesCell_86
    rw [q196_g7, Option.bind_some, g_a3, Option.bind_some, h3, if_pos (by rw [qle (by omega) (by omega)]; omega), show (qfnd (fun f => decide (u f = c)) i 0).isSome = false from rfl, Bool.or_false]
  | succ m ih =>
    intro i k b hi hk
    obtain ⟨k, rfl⟩ : ∃ j, k = j + 1 := ⟨k - 1, by omega⟩
    obtain ⟨u1, u2⟩ := hu i (by omega)
    unfold fX12_takesCell_86
    rw [q196_g7, Option.bind_some, g_a3, Option.bind_some, h3, if_neg (by rw [qle (by omega) (by omega)]; omega)]
    cases b with
    | true =>
      rw [if_neg qzt]
      show fX12_takesCell_86 N 216 k (qH g V X) 196 (Int32.ofNat c) (qz true) (Int32.ofNat i + Int32.ofNat 1) = _
      rw [qadd]
      exact ih (i + 1) k true (by omega) (by omega)
    | false =>
      rw [if_pos qzf, Option.bind_some, show (101 : Int32) = Int32.ofNat 101 from rfl, qadd, g_at (by omega), Option.bind_some, u1]
      by_cases hx : u i = c
      · rw [if_pos (by rw [hx]), show qfnd (fun f => decide (u f = c)) i (m + 1) = some i from if_pos (decide_eq_true hx)]
        show fX12_takesCell_86 N 216 k (qH g V X) 196 (Int32.ofNat c) (qz true) (Int32.ofNat i + Int32.ofNat 1) = _
        rw [qadd]
        exact ih (i + 1) k true (by omega) (by omega)
      · rw [if_neg (by rw [qeq (by omega) (by omega)]; exact hx), show qfnd (fun f => decide (u f = c)) i (m + 1) = qfnd (fun f => decide (u f = c)) (i + 1) m from if_neg (fun e => hx (of_decide_eq_true e))]
        show fX12_takesCell_86 N 216 k (qH g V X) 196 (Int32.ofNat c) (qz false) (Int32.ofNat i + Int32.ofNat 1) = _
        rw [qadd]
        exact ih (i + 1) k false (by omega) (by omega)
/-- the end of taking a cell -/
def gEnd (N : Nat) (f : zF) (a2 a3 : Int32) : Option (zF × Int32) := if a3 = 0 then ((zpI 216 f 12 196 18 a2).bind fun f17 => ((zck 216 f17 12 196).bind fun _ => ((fX12_next N 216 f17 196).bind fun f18 => ((zbl (1 : Int32)).bind fun y => some (f18, y))))) else ((zck 216 f 12 196).bind fun _ => (zbd (fX12_bad N 216 f 196 (3 : Int32)) fun f20 x19 => ((zbl x19).bind fun y => some (f20, y))))
theorem G_130 (h4 : V 199 4 = Int32.ofNat w) (hw : w ≤ 5) (hu : ∀ f, f < w → V 199 (119 + f) = Int32.ofNat (u f) ∧ u f < 1000) (hc : c < 1000) : ∀ m i k b, i + m = w → m < k → fX12_takesCell_130 N 216 k (qH g V X) 196 (Int32.ofNat c) (qz b) (Int32.ofNat i) = gEnd N (qH g V X) (Int32.ofNat c) (qz (b || (qfnd (fun f => decide (u f = c)) i m).isSome)) := by
  intro m
  induction m with
  | zero =>
    intro i k b hi hk
    obtain ⟨k, rfl⟩ : ∃ j, k = j + 1 := ⟨k - 1, by omega⟩
    unfold fX12_takesCell_130
    rw [q196_g7, Option.bind_some, g_a4, Option.bind_some, h4, if_pos (by rw [qle (by omega) (by omega)]; omega), show (qfnd (fun f => decide (u f = c)) i 0).isSome = false from rfl, Bool.or_false]
    rfl
  | succ m ih =>
    intro i k b hi hk
    obtain ⟨k, rfl⟩ : ∃ j, k = j + 1 := ⟨k - 1, by omega⟩
    obtain ⟨u1, u2⟩ := hu i (by omega)
    unfold fX12_takesCell_130
    rw [q196_g7, Option.bind_some, g_a4, Option.bind_some, h4, if_neg (by rw [qle (by omega) (by omega)]; omega)]
    cases b with
    | true =>
      rw [if_neg qzt]
      show fX12_takesCell_130 N 216 k (qH g V X) 196 (Int32.ofNat c) (qz true) (Int32.ofNat i + Int32.ofNat 1) = _
      rw [qadd]
      exact ih (i + 1) k true (by omega) (by omega)
    | false =>
      rw [if_pos qzf, Option.bind_some, show (119 : Int32) = Int32.ofNat 119 from rfl, qadd, g_at (by omega), Option.bind_some, u1]
      by_cases hx : u i = c
      · rw [if_pos (by rw [hx]), show qfnd (fun f => decide (u f = c)) i (m + 1) = some i from if_pos (decide_eq_true hx)]
        show fX12_takesCell_130 N 216 k (qH g V X) 196 (Int32.ofNat c) (qz true) (Int32.ofNat i + Int32.ofNat 1) = _
        rw [qadd]
        exact ih (i + 1) k true (by omega) (by omega)
      · rw [if_neg (by rw [qeq (by omega) (by omega)]; exact hx), show qfnd (fun f => decide (u f = c)) i (m + 1) = qfnd (fun f => decide (u f = c)) (i + 1) m from if_neg (fun e => hx (of_decide_eq_true e))]
        show fX12_takesCell_130 N 216 k (qH g V X) 196 (Int32.ofNat c) (qz false) (Int32.ofNat i + Int32.ofNat 1) = _
        rw [qadd]
        exact ih (i + 1) k false (by omega) (by omega)
theorem rdCell_e {a : aA} {x : Nat × Nat} (he : (rdNum B n m 0 (h 0 - 1) a).2 = .error x) : (rdCell B n m h a).2 = .error x := by
  unfold rdCell
  rw [he]
  dsimp only
  split <;> rfl
theorem rdCell_y {a : aA} {x : Nat × Nat} (hp : (rdNum B n m 0 (h 0 - 1) a).2 = .ok p) (he : (rdNum B n m 0 (h 1 - 1) (.ok p)).2 = .error x) : (rdCell B n m h a).2 = .error x := by
  unfold rdCell
  rw [hp]
  dsimp only
  rw [he]
  split <;> rfl
theorem G_cell (hN : 3000 ≤ N) (hB : fdB h) {r : Nat → Nat} (er : ∀ j, j < 95 ∨ 101 ≤ j → r j = h j) {K : zF → Option (zF × Int32)} {R : (Nat → Nat → Int32) → (Nat → Nat → Int64) → Int32 → Prop} (h0 : gN B n m fl V X p r) (hE : ∀ W Y k pl, (rdCell B n m h (.ok p)).2 = .error (k, pl) → mFl W k pl → gFr V W X Y → R W Y (Int32.ofNat 0)) (hO : ∀ W Y p', (rdCell B n m h (.ok p)).2 = .ok p' → W 196 18 = Int32.ofNat (rdCell B n m h (.ok p)).1 → gN B n m fl W Y p' r → gFr V W X Y → Y 201 = X 201 → Y 202 = X 202 → hV g (K (qH g W Y)) R) : hV g (zbd (fX12_takesCell N 216 (qH g V X) 196) fun f x => if x = 0 then ((zbl (0 : Int32)).bind fun y => some (f, y)) else K f) R := by
  obtain ⟨b1, b2, b3, b4, b5, b6, b7, b8, b9, b10⟩ := id hB
  have h1 : hV g (fX12_takesCell N 216 (qH g V X) 196) (fun W Y z => (z = Int32.ofNat 0 ∧ ∃ k pl, (rdCell B n m h (.ok p)).2 = .error (k, pl) ∧ mFl W k pl ∧ gFr V W X Y) ∨ (z = Int32.ofNat 1 ∧ ∃ p', (rdCell B n m h (.ok p)).2 = .ok p' ∧ W 196 18 = Int32.ofNat (rdCell B n m h (.ok p)).1 ∧ gN B n m fl W Y p' r ∧ gFr V W X Y ∧ Y 201 = X 201 ∧ Y 202 = X 202)) := by
    unfold fX12_takesCell
    rw [q196_g7, Option.bind_some, g_a0, Option.bind_some, h0.2.2.2 0 (by omega), er 0 (by omega), q196_c, Option.bind_some, show Int32.ofNat (h 0) - (1 : Int32) = Int32.ofNat (h 0 - 1) by rw [l1, qsub (by omega)]]
    refine G_num hN (lo := 0) (hi := h 0 - 1) (by omega) (by omega) h0 (fun W Y k pl e1 e2 e3 => Or.inl ⟨rfl, k, pl, rdCell_e e1, e2, e3⟩) (fun W Y p1 e1 e2 e3 e4 e5 e6 => ?_)
    have hx := rdNum_lt (B := B) (n := n) (m := m) (lo := 0) (hi := h 0 - 1) (a := .ok p) (Nat.zero_le _)
    have ev : rdCell B n m h (.ok p) = (9 * (rdNum B n m 0 (h 1 - 1) (.ok p1)).1 + (rdNum B n m 0 (h 0 - 1) (.ok p)).1, if hadC h (9 * (rdNum B n m 0 (h 1 - 1) (.ok p1)).1 + (rdNum B n m 0 (h 0 - 1) (.ok p)).1) = true then rdBack B n m 3 (.ok p1) (rdNum B n m 0 (h 1 - 1) (.ok p1)).2 else (rdNum B n m 0 (h 1 - 1) (.ok p1)).2) := by
      unfold rdCell
      rw [e1]
    have ey := fun x hx => rdCell_y (h := h) (x := x) e1 hx
    generalize (rdNum B n m 0 (h 0 - 1) (.ok p)).1 = xv at e2 hx ev
    have hkd := e3.1.kd (c := 2) (by omega)
    rw [(mKd_2 _ tTok_k).1] at hkd
    have hT := e3.1.2.2.2.2
    have en : rdNum B n m 0 (h 1 - 1) (.ok p1) = (aV 0 (aNum B n m 0 (h 1 - 1) p1), aP (aNum B n m 0 (h 1 - 1) p1)) := rfl
    rw [q196_g18, Option.bind_some, q196_g11, Option.bind_some]
    by_cases hk : (tTok B n m p1).1 = 3
    · rw [if_pos (by rw [show (2 : Int32) = Int32.ofNat 2 from rfl, hkd]; exact hk)]
      have hv := hT.2.2.2.1 ⟨by omega, by omega⟩
      have hv2 := tNum_lt (V := W) e3.1.1 e3.1.2.2.2.1 hk
      rw [q196_g14, Option.bind_some, hv, q196_g7, Option.bind_some, g_a1, Option.bind_some, e3.2.2.2 1 (by omega), er 1 (by omega)]
      by_cases hlt : (tTok B n m p1).2.2.2.1 < h 1
      · have ea : aNum B n m 0 (h 1 - 1) p1 = .ok ((tTok B n m p1).2.2.2.1, (tTok B n m p1).2.2.1) := by
          unfold aNum
          rw [if_pos hk, if_pos (by omega)]
        rw [ea] at en
        have en : rdNum B n m 0 (h 1 - 1) (.ok p1) = ((tTok B n m p1).2.2.2.1, .ok (tTok B n m p1).2.2.1) := en
        rw [en] at ev
        dsimp only at ev
        rw [if_pos (by rw [qlt (by omega) (by omega)]; exact hlt), Option.bind_some, Option.bind_some, e2, l9, qmul, qadd, show (5 : Int32) = Int32.ofNat 5 from rfl, qadd, g_at (by omega), Option.bind_some, e3.2.2.2 _ (by omega), er _ (by omega)]
        have hc81 : 9 * (tTok B n m p1).2.2.2.1 + xv < 81 := by omega
        generalize 9 * (tTok B n m p1).2.2.2.1 + xv = cc at ev hc81
        have hle := b6 cc hc81
        have hF : ∀ b, fX12_takesCell_82 N 216 (qH g W Y) 196 (Int32.ofNat cc) (qz b) = gEnd N (qH g W Y) (Int32.ofNat cc) (qz (b || ((qfnd (fun f => decide (h (101 + f) = cc)) 0 (h 3)).isSome || (qfnd (fun l => decide (h (119 + l) = cc)) 0 (h 4)).isSome))) := by
          intro b
          unfold fX12_takesCell_82
          have f1 := G_86 (g := g) (V := W) (X := Y) (N := N) (w := h 3) (u := fun f => h (101 + f)) (c := cc) (by rw [e3.2.2.2 3 (by omega), er 3 (by omega)]) b4 (fun f hf => ⟨by rw [e3.2.2.2 _ (by omega), er _ (by omega)], by have := (b8 f hf).2.1; omega⟩) (by omega) (h 3) 0 N b (by omega) (by omega)
          have f2 := G_130 (g := g) (V := W) (X := Y) (N := N) (w := h 4) (u := fun l => h (119 + l)) (c := cc) (by rw [e3.2.2.2 4 (by omega), er 4 (by omega)]) b5 (fun l hl => ⟨by rw [e3.2.2.2 _ (by omega), er _ (by omega)], by have := (b9 l hl).1; omega⟩) (by omega) (h 4) 0 N (b || (qfnd (fun f => decide (h (101 + f) = cc)) 0 (h 3)).isSome) (by omega) (by omega)
          rw [Bool.or_assoc] at f2
          exact f1.trans f2
        have hG : (if Int32.ofNat (h (5 + cc)) ≤ (0 : Int32) then fX12_takesCell_82 N 216 (qH g W Y) 196 (Int32.ofNat cc) (0 : Int32) else fX12_takesCell_82 N 216 (qH g W Y) 196 (Int32.ofNat cc) (1 : Int32)) = gEnd N (qH g W Y) (Int32.ofNat cc) (qz (hadC h cc)) := by
          unfold hadC
          by_cases hh : h (5 + cc) = 1
          · rw [if_neg (by rw [l0, qle (by omega) (by omega)]; omega), decide_eq_true hh]
            exact hF true
          · rw [if_pos (by rw [l0, qle (by omega) (by omega)]; omega), decide_eq_false hh]
            exact hF false
        rw [hG]
        unfold gEnd
        cases hh : hadC h cc with
        | true =>
          rw [if_neg qzt, q196_c, Option.bind_some]
          rw [hh, if_pos rfl] at ev
          exact m_badS e3.1 (k := 3) (fun W2 Y2 a b => Or.inl ⟨rfl, 3, _, by rw [ev]; rfl, a, e4.tr b.gf⟩)
        | false =>
          rw [if_pos qzf, q196_p18, Option.bind_some, q196_c, Option.bind_some]
          rw [hh, if_neg (show ¬ false = true by decide)] at ev
          refine hV_bind (mN.adv hN (e3.1.put (j := 18) (x := Int32.ofNat cc) (Or.inl rfl)) (by omega) (by omega)) (fun W2 Y2 hy => ?_)
          obtain ⟨y1, y2, y3, y4, y5⟩ := hy
          rw [show zbl (1 : Int32) = some (Int32.ofNat 1) from rfl, Option.bind_some]
          have hfw : mFr W (qw W 196 (upd (W 196) 18 (Int32.ofNat cc))) Y Y := mFr.w (fun j a b => upd_n (by omega))
          have hf2 := hfw.tr y2
          refine hV_pure (Or.inr ⟨rfl, (tTok B n m p1).2.2.1, by rw [ev], by rw [ev, y5, qw_s, upd_s], e3.fr y1 (by rw [y3, qw_s, upd_n (by decide)]) hf2, e4.tr hf2.gf, by rw [hf2.2.2 201 (by decide)]; exact e5, by rw [hf2.2.2 202 (by decide)]; exact e6⟩)
      · have ea : aNum B n m 0 (h 1 - 1) p1 = .error (2, (tTok B n m p1).2.1) := by
          unfold aNum
          rw [if_pos hk, if_neg (by omega)]
        rw [if_neg (by rw [qlt (by omega) (by omega)]; exact hlt), q196_c, Option.bind_some]
        exact m_badS e3.1 (k := 2) (fun W2 Y2 a b => Or.inl ⟨rfl, 2, _, ey _ (by rw [en, ea]; rfl), a, e4.tr b.gf⟩)
    · have ea : aNum B n m 0 (h 1 - 1) p1 = .error (1, (tTok B n m p1).2.1) := by
        unfold aNum
        rw [if_neg hk]
      rw [if_neg (by rw [show (2 : Int32) = Int32.ofNat 2 from rfl, hkd]; exact hk), q196_c, Option.bind_some]
      exact m_badS e3.1 (k := 1) (fun W2 Y2 a b => Or.inl ⟨rfl, 1, _, ey _ (by rw [en, ea]; rfl), a, e4.tr b.gf⟩)
  refine hV_zbd h1 (fun W Y z hx => ?_)
  rcases hx with ⟨r0, k, pl, e1, e2, e3⟩ | ⟨r1, p', e1, e2, e3, e4, e5, e6⟩
  · rw [r0, if_pos (show Int32.ofNat 0 = (0 : Int32) from rfl)]
    exact ⟨W, Y, _, rfl, hE W Y k pl e1 e2 e3⟩
  · rw [r1, if_neg (show ¬ Int32.ofNat 1 = (0 : Int32) by decide)]
    exact hO W Y p' e1 e2 e3 e4 e5 e6
end QFH
