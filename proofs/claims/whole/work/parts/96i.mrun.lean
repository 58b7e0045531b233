/-! a sentence: the reference's run -/
section QSI
variable {g : zF} {V W U K : Nat → Nat → Int32} {X Y Z : Nat → Nat → Int64} {N n m p o k pl d e : Nat} {s t u B : Nat → Nat} {Q : sQ} {cs : List sC} {st : List Nat} {w : Bool}
theorem S_push (h : mZ B n m V X p o cs st false) {x : Nat} (hx : x = 20 ∨ x = 23) (hl : cs.length + st.length + 1 ≤ 2 * o) : hV g (fX12_operand_103 N 216 (qH g V X) 196 210 (Int32.ofNat st.length) (Int32.ofNat x)) (fun W Y r => r = Int32.ofNat 1 ∧ mZ B n m W Y p o cs (x :: st) false ∧ sFr V W X Y) := by
  obtain ⟨hN1, hF, h1, h2, h3, h4, h5, h6, h7, h8, h9⟩ := id h
  have hd : dpt (x :: st) = dpt st + 1 := if_pos hx
  unfold fX12_operand_103
  rw [qsI (t := 0) qk_210 (Or.inl rfl) (by omega) (by omega), Option.bind_some, q196_g43, Option.bind_some, qw_n (by decide), h3, show Int32.ofNat st.length + (1 : Int32) = Int32.ofNat (st.length + 1) by rw [l1, qadd], q196_p43, Option.bind_some, q196_g44, Option.bind_some, qw_s, upd_n (by decide), qw_n (by decide), h4, show Int32.ofNat (dpt st) + (1 : Int32) = Int32.ofNat (dpt st + 1) by rw [l1, qadd], q196_p44, Option.bind_some, qw_qw, qw_s, show zbl (1 : Int32) = some (Int32.ofNat 1) from rfl, Option.bind_some]
  refine hV_pure ⟨rfl, ⟨hN1.cg (fun j hj => ?_) (fun j => ?_) (fun _ => rfl), ?_, ?_, ?_, ?_, ?_, ?_, ?_, ⟨?_, ?_, ?_⟩, ?_, h9⟩, ⟨fun j _ _ hj => ?_, fun b b1 b2 b3 => ?_, fun _ _ => rfl⟩⟩
  · rw [qw_s, upd_n (by omega), upd_n (by omega)]
  · rw [qw_n (by decide), qw_n (by decide)]
  · rw [qw_s, upd_n (by omega), upd_n (by omega)]; exact hF
  · rw [qw_s, upd_n (by omega), upd_n (by omega)]; exact h1
  · rw [qw_s, upd_n (by omega), upd_n (by omega)]; exact h2
  · rw [qw_s, upd_n (by omega), upd_s, List.length_cons]
  · rw [qw_s, upd_s, hd]
  · rw [qw_s, upd_n (by omega), upd_n (by omega)]; exact h5
  · exact h6.cg (fun j _ => by rw [qw_n (by decide), qw_n (by decide)])
  · rw [qw_n (by decide), qw_s, upd_s]
  · rcases hx with e | e
    · exact Or.inl e
    · exact Or.inr (Or.inr (Or.inr e))
  · exact h7.cg (fun j hj => by rw [qw_n (by decide), qw_s, upd_n (by omega)])
  · rw [List.length_cons, if_neg (by decide)]; omega
  · rw [qw_s, upd_n (by omega), upd_n (by omega)]
  · rw [qw_n b1, qw_n b3]
theorem S_oper (hN : 3000 ≤ N) (h : mZ B n m V X p o cs st false) (hQ : mQ V X Q) : hV g (fX12_operand N 216 (qH g V X) 196) (stepR B n m Q V X false p o cs st) := by
  have w18 : fX12_isWord N 216 (qH g V X) 196 (7237492 : Int64) = some (qz (aIs B n m 18 p)) := m_isW (g := g) (N := N) h.1 (v := 18) (by omega)
  have h40 : fX12_isSign N 216 (qH g V X) 196 (40 : Int32) = some (qz (isOpn B n m p)) := m_isSg h.1 (c := 40) (by omega)
  have hl := m_leafW (g := g) (N := N) h.1
  obtain ⟨hN1, hF, h1, h2, h3, h4, h5, h6, h7, h8, h9⟩ := id h
  have hdl := dpt_le st
  rw [if_neg (by decide)] at h8
  have h38 : ¬ (isOpn B n m p = false ∧ isOne B n m p = false) → hV g (fX12_operand_38 N 216 (qH g V X) 196 (qz (aIs B n m 18 p)) (qz (isOpn B n m p)) (qo (if (tTok B n m p).1 = 4 ∧ 19 ≤ (tTok B n m p).2.2.2.1 then some ((tTok B n m p).2.2.2.1 - 19) else none))) (stepR B n m Q V X false p o cs st) := by
    intro hx0
    have h2k := is_2 hx0
    have hnx := tok_nx (B := B) (m := m) hN1.2.2.2.1 h2k
    have hk5 : (tTok B n m p).1 ≤ 5 := by
      cases a1 : isOpn B n m p with
      | true => have := isOpn_k a1; omega
      | false =>
        cases a2 : isOne B n m p with
        | true => have := isOne_k a2; omega
        | false => exact absurd ⟨a1, a2⟩ hx0
    have h56 : 20 ≤ o ∨ 8 < dpt st → hV g (fX12_operand_56 N 216 (qH g V X) 196) (stepR B n m Q V X false p o cs st) := by
      intro hx
      unfold fX12_operand_56
      rw [q196_c, Option.bind_some]
      exact m_badS hN1 (k := 4) (fun W Y a b => ⟨b.sf, Or.inl ⟨rfl, 4, _, a, by omega, fun k => r_err4 hx0 hx⟩⟩)
    unfold fX12_operand_38
    rw [q196_g42, Option.bind_some, h2]
    by_cases h20 : o = 20
    · rw [if_pos (by rw [h20]; rfl)]
      exact h56 (Or.inl (by omega))
    rw [if_neg (by rw [show (20 : Int32) = Int32.ofNat 20 from rfl, qeq (by omega) (by omega)]; exact h20), q196_g44, Option.bind_some, h4]
    by_cases hd8 : 8 < dpt st
    · rw [if_neg (by rw [show (8 : Int32) = Int32.ofNat 8 from rfl, qle (by omega) (by omega)]; omega)]
      exact h56 (Or.inr hd8)
    rw [if_pos (by rw [show (8 : Int32) = Int32.ofNat 8 from rfl, qle (by omega) (by omega)]; omega), Option.bind_some, show Int32.ofNat o + (1 : Int32) = Int32.ofNat (o + 1) by rw [l1, qadd], q196_p42, Option.bind_some, q196_c, Option.bind_some]
    have hup : ∀ j, j < 41 ∨ 45 < j → upd (V 196) 42 (Int32.ofNat (o + 1)) j = V 196 j := fun j hj => upd_n (by omega)
    have hy' : mY (qw V 196 (upd (V 196) 42 (Int32.ofNat (o + 1)))) (o + 1) cs st false := by
      refine ⟨?_, ?_, ?_, ?_, ?_, h6.cg (fun j _ => by rw [qw_n (by decide)]), h7.cg (fun j _ => by rw [qw_n (by decide)]), ?_, by omega⟩
      · rw [qw_s, upd_n (by omega)]; exact h1
      · rw [qw_s, upd_s]
      · rw [qw_s, upd_n (by omega)]; exact h3
      · rw [qw_s, upd_n (by omega)]; exact h4
      · rw [qw_s, upd_n (by omega)]; exact h5
      · rw [if_neg (by decide)]; omega
    have hf0 : sFr V (qw V 196 (upd (V 196) 42 (Int32.ofNat (o + 1)))) X X := q45_fr hup
    refine hV_bind (mZ.adv hN (q45_N hN1 hup) (by rw [qw_s, upd_n (by decide)]; exact hF) hy' h2k hk5) (fun W Y hx => ?_)
    obtain ⟨x1, x2⟩ := hx
    have hfW := hf0.tr x2.sf
    cases a1 : isOpn B n m p with
    | true =>
      have a2 : aIs B n m 18 p = false := by
        have := isOpn_k a1
        exact decide_eq_false (fun e => by omega)
      rw [a2, if_pos qzf, if_neg qzt]
      unfold fX12_operand_84
      rw [q196_g40, Option.bind_some, q196_g43, Option.bind_some, x1.2.2.2.2.1, if_pos qzf]
      refine hV_mono (S_push x1 (x := 23) (Or.inr rfl) (by omega)) (fun W2 Y2 r hx => ?_)
      exact ⟨hfW.tr hx.2.2, Or.inr ⟨hx.1, false, _, _, _, _, hx.2.1, hnx.1, fun k => r_opn a1 (by omega) hd8⟩⟩
    | false =>
      have a3 : isOne B n m p = true := by
        cases a3 : isOne B n m p with
        | true => rfl
        | false => exact absurd ⟨a1, a3⟩ hx0
      have hk := isOne_k a3
      have hv := tWord_lt hk.1
      by_cases h18 : (tTok B n m p).2.2.2.1 = 18
      · have a2 : aIs B n m 18 p = true := decide_eq_true ⟨hk.1, h18⟩
        rw [a2, if_neg qzt]
        unfold fX12_operand_84
        rw [q196_g40, Option.bind_some, q196_g43, Option.bind_some, x1.2.2.2.2.1, if_neg qzt]
        refine hV_mono (S_push x1 (x := 20) (Or.inl rfl) (by omega)) (fun W2 Y2 r hx => ?_)
        exact ⟨hfW.tr hx.2.2, Or.inr ⟨hx.1, false, _, _, _, _, hx.2.1, hnx.1, fun k => r_not a1 a3 (by omega) hd8 h18⟩⟩
      · have a2 : aIs B n m 18 p = false := decide_eq_false (fun e => h18 e.2)
        obtain ⟨y1, y2, z1, z2, z3, z4, z5, z6, z7, z8, z9⟩ := id x1
        have hup2 : ∀ j, j < 41 ∨ 45 < j → upd (W 196) 45 (1 : Int32) j = W 196 j := fun j hj => upd_n (by omega)
        have hyp : mYp (qw W 196 (upd (W 196) 45 (1 : Int32))) (o + 1) cs st := by
          refine ⟨⟨?_, ?_, ?_, ?_, ?_, z6.cg (fun j _ => by rw [qw_n (by decide)]), z7.cg (fun j _ => by rw [qw_n (by decide)]), ?_, z9⟩, by omega⟩
          · rw [qw_s, upd_n (by omega)]; exact z1
          · rw [qw_s, upd_n (by omega)]; exact z2
          · rw [qw_s, upd_n (by omega)]; exact z3
          · rw [qw_s, upd_n (by omega)]; exact z4
          · rw [qw_s, upd_s]; rfl
          · rw [if_pos rfl]; omega
        rw [a2, if_pos qzf, if_pos qzf, q196_p45 _ (Or.inr rfl), Option.bind_some, if_pos (show (tTok B n m p).1 = 4 ∧ 19 ≤ (tTok B n m p).2.2.2.1 from ⟨hk.1, by omega⟩), show qo (some ((tTok B n m p).2.2.2.1 - 19)) = Int32.ofNat ((tTok B n m p).2.2.2.1 - 19) from rfl]
        have hf2 : sFr W (qw W 196 (upd (W 196) 45 (1 : Int32))) Y Y := q45_fr hup2
        refine hV_mono (S_leaf (Q := Q) hN (v := (tTok B n m p).2.2.2.1) (by omega) hv (q45_N y1 hup2) (by rw [qw_s, upd_n (by decide)]; exact y2) hyp ((hQ.sf hfW).sf hf2)) (fun W2 Y2 r hx => ?_)
        obtain ⟨hx1, hx2⟩ := hx
        refine ⟨(hfW.tr hf2).tr hx1, ?_⟩
        cases hs : sLf B n m Q (tTok B n m p).2.2.2.1 (tTok B n m p).2.2.1 with
        | error ee =>
          obtain ⟨kk, pl⟩ := ee
          rw [hs] at hx2
          exact Or.inl ⟨hx2.1, kk, pl, hx2.2.1, hx2.2.2, fun k => by rw [r_leaf a1 a3 (by omega) hd8 h18, hs]⟩
        | ok vv =>
          obtain ⟨p2, c⟩ := vv
          rw [hs] at hx2
          have := sLf_nx hnx.2 hs
          exact Or.inr ⟨hx2.1, true, p2, o + 1, cs ++ [c], st, hx2.2, by omega, fun k => by rw [r_leaf a1 a3 (by omega) hd8 h18, hs]⟩
  unfold fX12_operand
  simp only [q196_c, w18, h40, hl, Option.bind_some]
  cases a1 : aIs B n m 18 p with
  | true =>
    rw [a1] at h38
    rw [if_neg qzt]
    exact h38 (fun e => by
      have := aIs_k a1
      have h2 : isOne B n m p = true := decide_eq_true ⟨this.1, by omega⟩
      rw [h2] at e
      cases e.2)
  | false =>
    rw [a1] at h38
    rw [if_pos qzf]
    cases a2 : isOpn B n m p with
    | true =>
      rw [a2] at h38
      rw [if_neg qzt]
      exact h38 (fun e => by cases e.1)
    | false =>
      rw [a2] at h38
      rw [if_pos qzf]
      by_cases hk : (tTok B n m p).1 = 4 ∧ 19 ≤ (tTok B n m p).2.2.2.1
      · have hv := tWord_lt hk.1
        rw [if_pos hk] at h38 ⊢
        rw [if_pos (by rw [show qo (some ((tTok B n m p).2.2.2.1 - 19)) = Int32.ofNat ((tTok B n m p).2.2.2.1 - 19) from rfl, l0, qle (by omega) (by omega)]; omega)]
        exact h38 (fun e => by
          have h2 : isOne B n m p = true := decide_eq_true ⟨hk.1, by omega⟩
          rw [h2] at e
          cases e.2)
      · rw [if_neg hk, if_neg (show ¬ (0 : Int32) ≤ qo none by decide)]
        have a3 : isOne B n m p = false := by
          refine decide_eq_false (fun e => ?_)
          have : ¬ (tTok B n m p).2.2.2.1 = 18 := fun e2 => by
            have : aIs B n m 18 p = true := decide_eq_true ⟨e.1, e2⟩
            rw [this] at a1
            cases a1
          exact hk ⟨e.1, by omega⟩
        exact m_badS hN1 (k := 1) (fun W Y a b => ⟨b.sf, Or.inl ⟨rfl, 1, _, a, by omega, fun k => r_err1 ⟨a2, a3⟩⟩⟩)
theorem r_and (h0 : ¬ (tTok B n m p).1 = 0) (h : aIs B n m 17 p = true) {k : Nat} : rRun B n m Q (k + 1) true p o cs st = rRun B n m Q k false (tTok B n m p).2.2.1 o (rJn false (rNot cs st).1 (rNot cs st).2).1 (21 :: (rJn false (rNot cs st).1 (rNot cs st).2).2) := by
  conv => lhs; unfold rRun
  rw [if_neg h0, if_pos h]
theorem r_or (h0 : ¬ (tTok B n m p).1 = 0) (h17 : aIs B n m 17 p = false) (h : aIs B n m 16 p = true) {k : Nat} : rRun B n m Q (k + 1) true p o cs st = rRun B n m Q k false (tTok B n m p).2.2.1 o (rJn true (rNot cs st).1 (rNot cs st).2).1 (22 :: (rJn true (rNot cs st).1 (rNot cs st).2).2) := by
  conv => lhs; unfold rRun
  rw [if_neg h0, if_neg (by rw [h17]; decide), if_pos h]
theorem r_cl0 (h0 : ¬ (tTok B n m p).1 = 0) (h17 : aIs B n m 17 p = false) (h16 : aIs B n m 16 p = false) {k : Nat} (hs : (rJn true (rNot cs st).1 (rNot cs st).2).2 = []) : rRun B n m Q (k + 1) true p o cs st = .error (1, (tTok B n m p).2.1) := by
  conv => lhs; unfold rRun
  rw [if_neg h0, if_neg (by rw [h17]; decide), if_neg (by rw [h16]; decide), hs]
theorem r_cl1 (h0 : ¬ (tTok B n m p).1 = 0) (h17 : aIs B n m 17 p = false) (h16 : aIs B n m 16 p = false) {k : Nat} {x : Nat × Nat} (ha : aSgn B n m 41 p = .error x) : rRun B n m Q (k + 1) true p o cs st = .error (1, (tTok B n m p).2.1) := by
  conv => lhs; unfold rRun
  rw [if_neg h0, if_neg (by rw [h17]; decide), if_neg (by rw [h16]; decide), ha]
  cases (rJn true (rNot cs st).1 (rNot cs st).2).2 <;> rfl
theorem r_cl2 (h0 : ¬ (tTok B n m p).1 = 0) (h17 : aIs B n m 17 p = false) (h16 : aIs B n m 16 p = false) {k x p2 v : Nat} {t : List Nat} (hs : (rJn true (rNot cs st).1 (rNot cs st).2).2 = x :: t) (ha : aSgn B n m 41 p = .ok (v, p2)) : rRun B n m Q (k + 1) true p o cs st = rRun B n m Q k true p2 o (rJn true (rNot cs st).1 (rNot cs st).2).1 t := by
  conv => lhs; unfold rRun
  rw [if_neg h0, if_neg (by rw [h17]; decide), if_neg (by rw [h16]; decide), hs, ha]
theorem rJn_h : ∀ (st : List Nat) (cs : List sC) x t, (rJn true cs st).2 = x :: t → x ≠ 21 ∧ x ≠ 22 := by
  intro st
  induction st with
  | nil => intro cs x t h; cases h
  | cons y u ih =>
    intro cs x t h
    have e : rJn true cs (y :: u) = (if y = 21 then rJn true (cs ++ [(9, 0, 0)]) u else if y = 22 ∧ true = true then rJn true (cs ++ [(10, 0, 0)]) u else (cs, y :: u)) := rfl
    rw [e] at h
    split at h
    · exact ih _ _ _ h
    split at h
    · exact ih _ _ _ h
    · rename_i h1 h2
      injection h with h3 h4
      subst h3
      exact ⟨h1, fun e => h2 ⟨e, rfl⟩⟩
/-- and, or: what waits is joined, the word taken -/
theorem S_24 (hN : 3000 ≤ N) {b : Bool} (h : mZ B n m V X p o cs st true) (hb : aIs B n m 17 p = !b) (hk : (tTok B n m p).1 = 4) : hV g (fX12_behind_24 N 216 (qH g V X) 196) (fun W Y r => r = Int32.ofNat 1 ∧ mZ B n m W Y (tTok B n m p).2.2.1 o (rJn b cs st).1 ((if b = true then 22 else 21) :: (rJn b cs st).2) false ∧ sFr V W X Y) := by
  have hst : st.length < N := by have := h.2.2.2.2.2.2.2.2.2.1; have := h.2.2.2.2.2.2.2.2.2.2; omega
  have w17 : fX12_isWord N 216 (qH g V X) 196 (6385252 : Int64) = some (qz (!b)) := by rw [← hb]; exact m_isW (g := g) (N := N) h.1 (v := 17) (by omega)
  unfold fX12_behind_24
  rw [q196_c, Option.bind_some, w17, Option.bind_some]
  have h42 : ∀ a : Int32, a = (if b = true then 22 else 21) → hV g (fX12_behind_42 N 216 (qH g V X) 196 196 a) (fun W Y r => r = Int32.ofNat 1 ∧ mZ B n m W Y (tTok B n m p).2.2.1 o (rJn b cs st).1 ((if b = true then 22 else 21) :: (rJn b cs st).2) false ∧ sFr V W X Y) := by
    intro a ea
    unfold fX12_behind_42 fX12_joins
    rw [q196_c, Option.bind_some, ea]
    refine hV_bind (S_joins (b := b) st N V cs hst h) (fun W Y hx => ?_)
    obtain ⟨hx, hfW, rfl⟩ := hx
    obtain ⟨hN1, hF, h1, h2, h3, h4, h5, h6, h7, h8, h9⟩ := id hx
    rw [if_pos rfl] at h8
    have w17' : fX12_isWord N 216 (qH g W Y) 196 (6385252 : Int64) = some (qz (!b)) := by rw [← hb]; exact m_isW (g := g) (N := N) hN1 (v := 17) (by omega)
    rw [q196_g40, Option.bind_some, q196_g43, Option.bind_some, q196_c, Option.bind_some, w17', Option.bind_some, h3]
    have h70 : ∀ x : Nat, x = (if b = true then 22 else 21) → hV g (fX12_behind_70 N 216 (qH g W Y) 196 210 (Int32.ofNat (rJn b cs st).2.length) (Int32.ofNat x)) (fun W2 Y2 r => r = Int32.ofNat 1 ∧ mZ B n m W2 Y2 (tTok B n m p).2.2.1 o (rJn b cs st).1 (x :: (rJn b cs st).2) false ∧ sFr V W2 Y Y2) := by
      intro x ex
      have hx2 : x = 21 ∨ x = 22 := by rw [ex]; cases b <;> simp
      have hd : dpt (x :: (rJn b cs st).2) = dpt (rJn b cs st).2 := if_neg (by omega)
      unfold fX12_behind_70
      rw [qsI (t := 0) qk_210 (Or.inl rfl) (by omega) (by omega), Option.bind_some, q196_g43, Option.bind_some, qw_n (by decide), h3, show Int32.ofNat (rJn b cs st).2.length + (1 : Int32) = Int32.ofNat ((rJn b cs st).2.length + 1) by rw [l1, qadd], q196_p43, Option.bind_some, q196_p45 _ (Or.inl rfl), Option.bind_some, qw_qw, qw_s, q196_c, Option.bind_some, qw_n (by decide)]
      have hz : mZ B n m (qw (qw W 210 (upd (W 210) (rJn b cs st).2.length (Int32.ofNat x))) 196 (upd (upd (W 196) 43 (Int32.ofNat ((rJn b cs st).2.length + 1))) 45 0)) Y p o (rJn b cs st).1 (x :: (rJn b cs st).2) false := by
        refine ⟨hN1.cg (fun j hj => ?_) (fun j => ?_) (fun _ => rfl), ?_, ?_, ?_, ?_, ?_, ?_, ?_, ⟨?_, ?_, ?_⟩, ?_, h9⟩
        · rw [qw_s, upd_n (by omega), upd_n (by omega)]
        · rw [qw_n (by decide), qw_n (by decide)]
        · rw [qw_s, upd_n (by omega), upd_n (by omega)]; exact hF
        · rw [qw_s, upd_n (by omega), upd_n (by omega)]; exact h1
        · rw [qw_s, upd_n (by omega), upd_n (by omega)]; exact h2
        · rw [qw_s, upd_n (by omega), upd_s, List.length_cons]
        · rw [qw_s, upd_n (by omega), upd_n (by omega), hd]; exact h4
        · rw [qw_s, upd_s]; rfl
        · exact h6.cg (fun j _ => by rw [qw_n (by decide), qw_n (by decide)])
        · rw [qw_n (by decide), qw_s, upd_s]
        · rcases hx2 with e | e
          · exact Or.inr (Or.inl e)
          · exact Or.inr (Or.inr (Or.inl e))
        · exact h7.cg (fun j hj => by rw [qw_n (by decide), qw_s, upd_n (by omega)])
        · rw [List.length_cons, if_neg (by decide)]; omega
      have hf2 : sFr W (qw (qw W 210 (upd (W 210) (rJn b cs st).2.length (Int32.ofNat x))) 196 (upd (upd (W 196) 43 (Int32.ofNat ((rJn b cs st).2.length + 1))) 45 0)) Y Y := ⟨fun j _ _ hj => by rw [qw_s, upd_n (by omega), upd_n (by omega)], fun b b1 b2 b3 => by rw [qw_n b1, qw_n b3], fun _ _ => rfl⟩
      refine hV_bind (mZ.adv hN hz.1 hz.2.1 hz.2.2 (by omega) (by omega)) (fun W2 Y2 h2 => ?_)
      exact ⟨W2, Y2, _, rfl, rfl, h2.1, (hfW.tr hf2).tr h2.2.sf⟩
    cases b with
    | true =>
      rw [show qz (!true) = 0 from rfl, if_pos rfl]
      exact h70 22 rfl
    | false =>
      rw [show qz (!false) = 1 from rfl, if_neg (by decide)]
      exact h70 21 rfl
  cases b with
  | true =>
    rw [show qz (!true) = 0 from rfl, if_pos rfl]
    exact h42 _ rfl
  | false =>
    rw [show qz (!false) = 1 from rfl, if_neg (by decide)]
    exact h42 _ rfl
theorem S_beh (hN : 3000 ≤ N) (h : mZ B n m V X p o cs st true) (h0 : ¬ (tTok B n m p).1 = 0) : hV g (fX12_behind N 216 (qH g V X) 196) (stepR B n m Q V X true p o cs st) := by
  have hst : st.length < N := by have := h.2.2.2.2.2.2.2.2.2.1; have := h.2.2.2.2.2.2.2.2.2.2; omega
  unfold fX12_behind fX12_nots
  rw [q196_c, Option.bind_some]
  refine hV_bind (S_nots st N V cs hst h) (fun W Y hx => ?_)
  obtain ⟨hx, hfW, rfl⟩ := hx
  obtain ⟨hN1, hF, h1, h2, h3, h4, h5, h6, h7, h8, h9⟩ := id hx
  rw [if_pos rfl] at h8
  have w17 : fX12_isWord N 216 (qH g W Y) 196 (6385252 : Int64) = some (qz (aIs B n m 17 p)) := m_isW (g := g) (N := N) hN1 (v := 17) (by omega)
  have w16 : fX12_isWord N 216 (qH g W Y) 196 (28530 : Int64) = some (qz (aIs B n m 16 p)) := m_isW (g := g) (N := N) hN1 (v := 16) (by omega)
  rw [q196_c, Option.bind_some, w17, Option.bind_some]
  cases a17 : aIs B n m 17 p with
  | true =>
    have hk := aIs_k a17
    have hnx := tok_nx (B := B) (m := m) hN1.2.2.2.1 (by omega)
    rw [if_neg qzt]
    refine hV_mono (S_24 (b := false) hN hx (by rw [a17]; rfl) hk.1) (fun W2 Y2 r h2 => ?_)
    exact ⟨hfW.tr h2.2.2, Or.inr ⟨h2.1, false, _, _, _, _, h2.2.1, hnx.1, fun k => r_and h0 a17⟩⟩
  | false =>
    rw [if_pos qzf, Option.bind_some, w16, Option.bind_some]
    cases a16 : aIs B n m 16 p with
    | true =>
      have hk := aIs_k a16
      have hnx := tok_nx (B := B) (m := m) hN1.2.2.2.1 (by omega)
      rw [if_neg qzt]
      refine hV_mono (S_24 (b := true) hN hx (by rw [a17]; rfl) hk.1) (fun W2 Y2 r h2 => ?_)
      exact ⟨hfW.tr h2.2.2, Or.inr ⟨h2.1, false, _, _, _, _, h2.2.1, hnx.1, fun k => r_or h0 a17 a16⟩⟩
    | false =>
      unfold fX12_joins
      rw [if_pos qzf, Option.bind_some]
      have hj := S_joins (g := g) (N := N) (b := true) (rNot cs st).2 N W (rNot cs st).1 (by omega) hx
      rw [if_pos rfl] at hj
      refine hV_bind hj (fun W2 Y2 hy => ?_)
      obtain ⟨hy, hfW2, rfl⟩ := hy
      obtain ⟨iN1, iF, i1, i2, i3, i4, i5, i6, i7, i8, i9⟩ := id hy
      rw [if_pos rfl] at i8
      have hf := hfW.tr hfW2
      have h41 : fX12_isSign N 216 (qH g W2 Y2) 196 (41 : Int32) = some (qz (decide ((tTok B n m p).1 = 2 ∧ (tTok B n m p).2.2.2.1 = 41))) := m_isSg iN1 (c := 41) (by omega)
      rw [q196_c, Option.bind_some, h41, Option.bind_some]
      have h114 : (∀ k, rRun B n m Q (k + 1) true p o cs st = .error (1, (tTok B n m p).2.1)) → hV g (fX12_behind_114 N 216 (qH g W2 Y2) 196) (stepR B n m Q V Y2 true p o cs st) := by
        intro hk
        unfold fX12_behind_114
        rw [q196_c, Option.bind_some]
        exact m_badS iN1 (k := 1) (fun W3 Y3 a b => ⟨hf.tr b.sf, Or.inl ⟨rfl, 1, _, a, by omega, hk⟩⟩)
      cases hs : (rJn true (rNot cs st).1 (rNot cs st).2).2 with
      | nil =>
        have hr : ∀ k, rRun B n m Q (k + 1) true p o cs st = .error (1, (tTok B n m p).2.1) := fun k => r_cl0 h0 a17 a16 hs
        by_cases h2k : (tTok B n m p).1 = 2 ∧ (tTok B n m p).2.2.2.1 = 41
        · rw [decide_eq_true h2k, if_neg qzt, q196_g43, Option.bind_some, i3, hs, if_pos (by decide)]
          exact h114 hr
        · rw [decide_eq_false h2k, if_pos qzf]
          exact h114 hr
      | cons x t =>
        by_cases h2k : (tTok B n m p).1 = 2 ∧ (tTok B n m p).2.2.2.1 = 41
        · have hnx := tok_nx (B := B) (m := m) iN1.2.2.2.1 (by omega)
          have ha : aSgn B n m 41 p = .ok (0, (tTok B n m p).2.2.1) := if_pos h2k
          have hxx := rJn_h _ _ _ _ hs
          rw [hs] at i3 i4 i7 i8
          have hx2 : x = 20 ∨ x = 23 := by rcases i7.2.1 with e | e | e | e <;> omega
          have hd : dpt (x :: t) = dpt t + 1 := if_pos hx2
          have hdl := dpt_le t
          rw [List.length_cons] at i3 i8
          rw [hd] at i4
          rw [decide_eq_true h2k, if_neg qzt, q196_g43, Option.bind_some, i3, if_neg (by rw [l0, qeq (by omega) (by omega)]; omega), Option.bind_some, show Int32.ofNat (t.length + 1) - (1 : Int32) = Int32.ofNat t.length by rw [l1, qsub (by omega)]; rfl, q196_p43, Option.bind_some, q196_g44, Option.bind_some, qw_s, upd_n (by decide), i4, show Int32.ofNat (dpt t + 1) - (1 : Int32) = Int32.ofNat (dpt t) by rw [l1, qsub (by omega)]; rfl, q196_p44, Option.bind_some, qw_qw, qw_s, q196_c, Option.bind_some]
          have hup : ∀ j, j < 41 ∨ 45 < j → upd (upd (W2 196) 43 (Int32.ofNat t.length)) 44 (Int32.ofNat (dpt t)) j = W2 196 j := fun j hj => by rw [upd_n (by omega), upd_n (by omega)]
          have hyy : mY (qw W2 196 (upd (upd (W2 196) 43 (Int32.ofNat t.length)) 44 (Int32.ofNat (dpt t)))) o (rJn true (rNot cs st).1 (rNot cs st).2).1 t true := by
            refine ⟨?_, ?_, ?_, ?_, ?_, i6.cg (fun j _ => by rw [qw_n (by decide)]), i7.2.2.cg (fun j _ => by rw [qw_n (by decide)]), ?_, i9⟩
            · rw [qw_s, upd_n (by omega), upd_n (by omega)]; exact i1
            · rw [qw_s, upd_n (by omega), upd_n (by omega)]; exact i2
            · rw [qw_s, upd_n (by omega), upd_s]
            · rw [qw_s, upd_s]
            · rw [qw_s, upd_n (by omega), upd_n (by omega)]; exact i5
            · rw [if_pos rfl]; omega
          refine hV_bind (mZ.adv hN (q45_N iN1 hup) (by rw [qw_s, hup _ (by omega)]; exact iF) hyy (by omega) (by omega)) (fun W3 Y3 h3 => ?_)
          exact ⟨W3, Y3, _, rfl, (hf.tr (q45_fr hup)).tr h3.2.sf, Or.inr ⟨rfl, true, _, _, _, _, h3.1, hnx.1, fun k => r_cl2 h0 a17 a16 hs ha⟩⟩
        · have ha : aSgn B n m 41 p = .error (1, (tTok B n m p).2.1) := if_neg h2k
          rw [decide_eq_false h2k, if_pos qzf]
          exact h114 (fun k => r_cl1 h0 a17 a16 ha)
end QSI
