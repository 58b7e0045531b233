/-! a sentence: the reference -/
section QSG
variable {g : zF} {V W U K : Nat → Nat → Int32} {X Y Z : Nat → Nat → Int64} {N n m p o k pl d e : Nat} {s t u B : Nat → Nat} {Q : sQ} {cs : List sC} {st : List Nat} {w : Bool}
def mWd (k : Nat) : Nat := [0, 1, 2, 3, 4, 5, 6, 7, 20, 21, 22].getD k 0
def mCo (V : Nat → Nat → Int32) (cs : List sC) : Prop := ∀ i c, cs[i]? = some c → V 200 (3 * i) = Int32.ofNat (mWd c.1) ∧ V 200 (3 * i + 1) = Int32.ofNat c.2.1 ∧ V 200 (3 * i + 2) = Int32.ofNat c.2.2
def stOk (x : Nat) : Prop := x = 20 ∨ x = 21 ∨ x = 22 ∨ x = 23
def mSk (V : Nat → Nat → Int32) : List Nat → Prop
  | [] => True
  | x :: t => V 210 t.length = Int32.ofNat x ∧ stOk x ∧ mSk V t
def mY (V : Nat → Nat → Int32) (o : Nat) (cs : List sC) (st : List Nat) (w : Bool) : Prop := V 196 41 = Int32.ofNat cs.length ∧ V 196 42 = Int32.ofNat o ∧ V 196 43 = Int32.ofNat st.length ∧ V 196 44 = Int32.ofNat (dpt st) ∧ V 196 45 = qz w ∧ mCo V cs ∧ mSk V st ∧ cs.length + st.length + (if w = true then 1 else 0) ≤ 2 * o ∧ o ≤ 20
def mZ (B : Nat → Nat) (n m : Nat) (V : Nat → Nat → Int32) (X : Nat → Nat → Int64) (p o : Nat) (cs : List sC) (st : List Nat) (w : Bool) : Prop := mN B n m V X p ∧ V 196 15 = Int32.ofNat 0 ∧ mY V o cs st w
/-- all but what a sentence is read with -/
def sFr (V W : Nat → Nat → Int32) (X Y : Nat → Nat → Int64) : Prop := (∀ j, j ≠ 4 → (j < 11 ∨ 18 < j) → (j < 41 ∨ 45 < j) → W 196 j = V 196 j) ∧ (∀ b, b ≠ 196 → b ≠ 200 → b ≠ 210 → W b = V b) ∧ ∀ b, b ≠ 196 → Y b = X b
theorem sFr.rf : sFr V V X X := ⟨fun _ _ _ _ => rfl, fun _ _ _ _ => rfl, fun _ _ => rfl⟩
theorem sFr.tr (h : sFr V W X Y) (h2 : sFr W U Y Z) : sFr V U X Z := ⟨fun j a b c => by rw [h2.1 j a b c, h.1 j a b c], fun b x y z => by rw [h2.2.1 b x y z, h.2.1 b x y z], fun b x => by rw [h2.2.2 b x, h.2.2 b x]⟩
theorem mFr.sf (h : mFr V W X Y) : sFr V W X Y := ⟨fun j a b _ => h.1 j a b, fun b x _ _ => h.2.1 b x, h.2.2⟩
theorem mSk.cg : ∀ {st : List Nat}, mSk V st → (∀ j, j < st.length → W 210 j = V 210 j) → mSk W st := by
  intro st
  induction st with
  | nil => intro _ _; trivial
  | cons x t ih =>
    intro h e
    exact ⟨by rw [e _ (by rw [List.length_cons]; omega)]; exact h.1, h.2.1, ih h.2.2 (fun j hj => e j (by rw [List.length_cons]; omega))⟩
theorem mCo.cg (h : mCo V cs) (e : ∀ j, j < 3 * cs.length → W 200 j = V 200 j) : mCo W cs := by
  intro i c hi
  have := (List.getElem?_eq_some_iff.mp hi).1
  rw [e _ (by omega), e _ (by omega), e _ (by omega)]
  exact h i c hi
theorem mY.cg (h : mY V o cs st w) (e1 : ∀ j, 41 ≤ j → j ≤ 45 → W 196 j = V 196 j) (e2 : ∀ j, W 200 j = V 200 j) (e3 : ∀ j, W 210 j = V 210 j) : mY W o cs st w := by
  obtain ⟨h1, h2, h3, h4, h5, h6, h7, h8⟩ := h
  exact ⟨by rw [e1 _ (by omega) (by omega)]; exact h1, by rw [e1 _ (by omega) (by omega)]; exact h2, by rw [e1 _ (by omega) (by omega)]; exact h3, by rw [e1 _ (by omega) (by omega)]; exact h4, by rw [e1 _ (by omega) (by omega)]; exact h5, h6.cg (fun j _ => e2 j), h7.cg (fun j _ => e3 j), h8⟩
theorem mN.cg (h : mN B n m V X p) (e1 : ∀ j, j < 19 → W 196 j = V 196 j) (e2 : ∀ j, W 197 j = V 197 j) (e3 : ∀ j, Y 196 j = X 196 j) : mN B n m W Y p := by
  obtain ⟨⟨a1, a2, a3⟩, h5, hm, hp, t1, t2, t3, t4, t5⟩ := h
  exact ⟨⟨by rw [e1 _ (by omega)]; exact a1, a2, fun i hi => by rw [e2]; exact a3 i hi⟩, by rw [e1 _ (by omega)]; exact h5, hm, hp, by rw [e1 _ (by omega)]; exact t1, by rw [e1 _ (by omega)]; exact t2, fun hk => by rw [e1 _ (by omega)]; exact t3 hk, fun hk => by rw [e1 _ (by omega)]; exact t4 hk, fun hk => by rw [e3]; exact t5 hk⟩
theorem mFr.y (h : mFr V W X Y) (h2 : mY V o cs st w) : mY W o cs st w := h2.cg (fun j a b => h.1 j (by omega) (by omega)) (fun j => by rw [h.2.1 200 (by decide)]) (fun j => by rw [h.2.1 210 (by decide)])
/-- what one code more means -/
def cdd (V : Nat → Nat → Int32) (L : Nat) (a b c : Int32) : Nat → Nat → Int32 := qw (qw V 200 (upd (upd (upd (V 200) (3 * L) a) (3 * L + 1) b) (3 * L + 2) c)) 196 (upd (V 196) 41 (Int32.ofNat (L + 1)))
/-- one code more -/
theorem m_code {L : Nat} {a b c : Int32} (hL : L < 45) (h41 : V 196 41 = Int32.ofNat L) : fX12_code N 216 (qH g V X) 196 a b c = some (qH g (cdd V L a b c) X) := by
  unfold fX12_code cdd
  rw [q196_g8, Option.bind_some, q196_g41, Option.bind_some, h41, show (3 : Int32) = Int32.ofNat 3 from rfl, qmul, qsI (t := 0) qk_200 (Or.inl rfl) (by omega) (by omega), Option.bind_some, q196_g8, Option.bind_some, q196_g41, Option.bind_some, qw_n (by decide), h41, qmul, show Int32.ofNat (3 * L) + (1 : Int32) = Int32.ofNat (3 * L + 1) by rw [l1, qadd], qsI (t := 0) qk_200 (Or.inl rfl) (by omega) (by omega), Option.bind_some, qw_qw, qw_s, q196_g8, Option.bind_some, q196_g41, Option.bind_some, qw_n (by decide), h41, qmul, show Int32.ofNat (3 * L) + (2 : Int32) = Int32.ofNat (3 * L + 2) by rw [show (2 : Int32) = Int32.ofNat 2 from rfl, qadd], qsI (t := 0) qk_200 (Or.inl rfl) (by omega) (by omega), Option.bind_some, qw_qw, qw_s, q196_g41, Option.bind_some, qw_n (by decide), h41, show Int32.ofNat L + (1 : Int32) = Int32.ofNat (L + 1) by rw [l1, qadd], q196_p41, Option.bind_some, qw_n (by decide)]
theorem cdd_j {L j : Nat} {a b c : Int32} (hj : j ≠ 41) : cdd V L a b c 196 j = V 196 j := by unfold cdd; rw [qw_s, upd_n hj]
theorem cdd_41 {L : Nat} {a b c : Int32} : cdd V L a b c 196 41 = Int32.ofNat (L + 1) := by unfold cdd; rw [qw_s, upd_s]
theorem cdd_n {L b2 : Nat} {a b c : Int32} (h : b2 ≠ 196) (h2 : b2 ≠ 200) : cdd V L a b c b2 = V b2 := by unfold cdd; rw [qw_n h, qw_n h2]
theorem cdd_fr {L : Nat} {a b c : Int32} : sFr V (cdd V L a b c) X X := ⟨fun j _ _ h => cdd_j (by omega), fun b h1 h2 _ => cdd_n h1 h2, fun _ _ => rfl⟩
theorem cdd_co {c : sC} {x y z : Int32} (h : mCo V cs) (hx : x = Int32.ofNat (mWd c.1)) (hy : y = Int32.ofNat c.2.1) (hz : z = Int32.ofNat c.2.2) : mCo (cdd V cs.length x y z) (cs ++ [c]) := by
  intro i c2 hi
  have e200 : (cdd V cs.length x y z) 200 = upd (upd (upd (V 200) (3 * cs.length) x) (3 * cs.length + 1) y) (3 * cs.length + 2) z := by
    unfold cdd
    rw [qw_n (by decide), qw_s]
  rw [e200]
  by_cases hl : i < cs.length
  · rw [List.getElem?_append_left hl] at hi
    rw [upd_n (by omega), upd_n (by omega), upd_n (by omega), upd_n (by omega), upd_n (by omega), upd_n (by omega), upd_n (by omega), upd_n (by omega), upd_n (by omega)]
    exact h i c2 hi
  · rw [List.getElem?_append_right (by omega)] at hi
    have hi2 : i = cs.length := by
      have := (List.getElem?_eq_some_iff.mp hi).1
      rw [List.length_singleton] at this
      omega
    subst hi2
    rw [Nat.sub_self] at hi
    have h3 : c = c2 := Option.some.inj hi
    rw [upd_n (by omega), upd_n (by omega), upd_s, upd_n (by omega), upd_s, upd_s, ← h3]
    exact ⟨hx, hy, hz⟩
theorem dpt_le : ∀ st : List Nat, dpt st ≤ st.length + 1 := by
  intro st
  induction st with
  | nil => exact Nat.le_refl _
  | cons x t ih =>
    show (if x = 20 ∨ x = 23 then dpt t + 1 else dpt t) ≤ _
    rw [List.length_cons]
    split <;> omega
/-- the stack made shorter by one -/
def qpop (V : Nat → Nat → Int32) (L : Nat) : Nat → Nat → Int32 := qw V 196 (upd (V 196) 43 (Int32.ofNat L))
theorem qpop_fr {L : Nat} : sFr V (qpop V L) X X := ⟨fun j _ _ h => by unfold qpop; rw [qw_s, upd_n (by omega)], fun b h1 _ _ => qw_n h1, fun _ _ => rfl⟩
theorem S_nots : ∀ (st : List Nat) k V cs, st.length < k → mZ B n m V X p o cs st true → hS g (fX12_nots_0 N 216 k (qH g V X) 196) (fun W Y => mZ B n m W Y p o (rNot cs st).1 (rNot cs st).2 true ∧ sFr V W X Y ∧ Y = X) := by
  intro st
  induction st with
  | nil =>
    intro k V cs hk h
    obtain ⟨k, rfl⟩ := Nat.exists_eq_succ_of_ne_zero (n := k) (by omega)
    unfold fX12_nots_0
    rw [q196_g43, Option.bind_some, h.2.2.2.2.1, if_pos (by decide)]
    exact hS_pure ⟨h, sFr.rf, rfl⟩
  | cons x t ih =>
    intro k V cs hk h
    obtain ⟨k, rfl⟩ := Nat.exists_eq_succ_of_ne_zero (n := k) (by omega)
    obtain ⟨hN1, hF, h1, h2, h3, h4, h5, h6, h7, h8, h9⟩ := id h
    rw [List.length_cons] at hk h3 h8
    rw [if_pos rfl] at h8
    have hx : x < 100 := by rcases h7.2.1 with e | e | e | e <;> omega
    have hd := dpt_le t
    unfold fX12_nots_0
    rw [q196_g43, Option.bind_some, h3, if_neg (by rw [l0, qle (by omega) (by omega)]; omega), q196_g40, Option.bind_some, Option.bind_some, show Int32.ofNat (t.length + 1) - (1 : Int32) = Int32.ofNat t.length by rw [l1, qsub (by omega)]; rfl, qlI (t := 0) qk_210 (Or.inl rfl) (by omega) (by omega), Option.bind_some, h7.1]
    by_cases e : x = 20
    · have e4 : V 196 44 = Int32.ofNat (dpt t + 1) := by rw [h4, show dpt (x :: t) = dpt t + 1 from if_pos (Or.inl e)]
      rw [if_pos (by rw [e]; rfl), Option.bind_some, show Int32.ofNat (t.length + 1) - (1 : Int32) = Int32.ofNat t.length by rw [l1, qsub (by omega)]; rfl, q196_p43, Option.bind_some, q196_g44, Option.bind_some, qw_s, upd_n (by decide), e4, show Int32.ofNat (dpt t + 1) - (1 : Int32) = Int32.ofNat (dpt t) by rw [l1, qsub (by omega)]; rfl, q196_p44, Option.bind_some, qw_qw, qw_s, q196_c, Option.bind_some, m_code (L := cs.length) (by omega) (by rw [qw_s, upd_n (by decide), upd_n (by decide)]; exact h1), Option.bind_some]
      have hfr : sFr V (qw V 196 (upd (upd (V 196) 43 (Int32.ofNat t.length)) 44 (Int32.ofNat (dpt t)))) X X := ⟨fun j _ _ h => by rw [qw_s, upd_n (by omega), upd_n (by omega)], fun b h1 _ _ => qw_n h1, fun _ _ => rfl⟩
      have hz : mZ B n m (cdd (qw V 196 (upd (upd (V 196) 43 (Int32.ofNat t.length)) 44 (Int32.ofNat (dpt t)))) cs.length (20 : Int32) 0 0) X p o (cs ++ [(8, 0, 0)]) t true := by
        refine ⟨hN1.cg (fun j hj => ?_) (fun j => ?_) (fun _ => rfl), ?_, ?_, ?_, ?_, ?_, ?_, cdd_co (c := (8, 0, 0)) (h6.cg (fun j _ => ?_)) rfl rfl rfl, h7.2.2.cg (fun j _ => ?_), ?_, h9⟩
        · rw [cdd_j (by omega), qw_s, upd_n (by omega), upd_n (by omega)]
        · rw [cdd_n (by decide) (by decide), qw_n (by decide)]
        · rw [cdd_j (by omega), qw_s, upd_n (by omega), upd_n (by omega)]; exact hF
        · rw [cdd_41, len_s]
        · rw [cdd_j (by omega), qw_s, upd_n (by omega), upd_n (by omega)]; exact h2
        · rw [cdd_j (by omega), qw_s, upd_n (by omega), upd_s]
        · rw [cdd_j (by omega), qw_s, upd_s]
        · rw [cdd_j (by omega), qw_s, upd_n (by omega), upd_n (by omega)]; exact h5
        · rw [qw_n (by decide)]
        · rw [cdd_n (by decide) (by decide), qw_n (by decide)]
        · rw [len_s, if_pos rfl]; omega
      have hr : rNot cs (x :: t) = rNot (cs ++ [(8, 0, 0)]) t := if_pos e
      rw [hr]
      exact hS_mono (ih k _ _ (by omega) hz) (fun W Y hy => ⟨hy.1, (hfr.tr cdd_fr).tr hy.2.1, hy.2.2⟩)
    · rw [if_neg (by rw [show (20 : Int32) = Int32.ofNat 20 from rfl, qeq (by omega) (by omega)]; exact e)]
      have hr : rNot cs (x :: t) = (cs, x :: t) := if_neg e
      rw [hr]
      exact hS_pure ⟨h, sFr.rf, rfl⟩
theorem S_joins {b : Bool} : ∀ (st : List Nat) k V cs, st.length < k → mZ B n m V X p o cs st true → hS g (fX12_joins_0 N 216 k (qH g V X) 196 (if b = true then 22 else 21)) (fun W Y => mZ B n m W Y p o (rJn b cs st).1 (rJn b cs st).2 true ∧ sFr V W X Y ∧ Y = X) := by
  intro st
  induction st with
  | nil =>
    intro k V cs hk h
    obtain ⟨k, rfl⟩ := Nat.exists_eq_succ_of_ne_zero (n := k) (by omega)
    unfold fX12_joins_0
    rw [q196_g43, Option.bind_some, h.2.2.2.2.1, if_pos (by decide)]
    exact hS_pure ⟨h, sFr.rf, rfl⟩
  | cons x t ih =>
    intro k V cs hk h
    obtain ⟨k, rfl⟩ := Nat.exists_eq_succ_of_ne_zero (n := k) (by omega)
    obtain ⟨hN1, hF, h1, h2, h3, h4, h5, h6, h7, h8, h9⟩ := id h
    rw [List.length_cons] at hk h3 h8
    rw [if_pos rfl] at h8
    have hx : x < 100 := by rcases h7.2.1 with e | e | e | e <;> omega
    have h45 : ∀ c : sC, x = mWd c.1 → c.2.1 = 0 → c.2.2 = 0 → (x = 21 ∨ x = 22) → rJn b cs (x :: t) = rJn b (cs ++ [c]) t → hS g (fX12_joins_45 (fX12_joins_0 N 216 k) N 216 (qH g V X) 196 (if b = true then 22 else 21)) (fun W Y => mZ B n m W Y p o (rJn b cs (x :: t)).1 (rJn b cs (x :: t)).2 true ∧ sFr V W X Y ∧ Y = X) := by
      intro c ec ec1 ec2 e2 er
      have e4 : V 196 44 = Int32.ofNat (dpt t) := by rw [h4, show dpt (x :: t) = dpt t from if_neg (by omega)]
      unfold fX12_joins_45
      rw [q196_g43, Option.bind_some, h3, show Int32.ofNat (t.length + 1) - (1 : Int32) = Int32.ofNat t.length by rw [l1, qsub (by omega)]; rfl, q196_p43, Option.bind_some, q196_g40, Option.bind_some, q196_g43, Option.bind_some, qw_s, upd_s, qlI (t := 0) qk_210 (Or.inl rfl) (by omega) (by omega), Option.bind_some, qw_n (by decide), h7.1, q196_c, Option.bind_some, m_code (L := cs.length) (by omega) (by rw [qw_s, upd_n (by decide)]; exact h1), Option.bind_some]
      have hz : mZ B n m (cdd (qw V 196 (upd (V 196) 43 (Int32.ofNat t.length))) cs.length (Int32.ofNat x) 0 0) X p o (cs ++ [c]) t true := by
        refine ⟨hN1.cg (fun j hj => ?_) (fun j => ?_) (fun _ => rfl), ?_, ?_, ?_, ?_, ?_, ?_, cdd_co (c := c) (h6.cg (fun j _ => ?_)) (by rw [ec]) (by rw [ec1]; rfl) (by rw [ec2]; rfl), h7.2.2.cg (fun j _ => ?_), ?_, h9⟩
        · rw [cdd_j (by omega), qw_s, upd_n (by omega)]
        · rw [cdd_n (by decide) (by decide), qw_n (by decide)]
        · rw [cdd_j (by omega), qw_s, upd_n (by omega)]; exact hF
        · rw [cdd_41, len_s]
        · rw [cdd_j (by omega), qw_s, upd_n (by omega)]; exact h2
        · rw [cdd_j (by omega), qw_s, upd_s]
        · rw [cdd_j (by omega), qw_s, upd_n (by omega)]; exact e4
        · rw [cdd_j (by omega), qw_s, upd_n (by omega)]; exact h5
        · rw [qw_n (by decide)]
        · rw [cdd_n (by decide) (by decide), qw_n (by decide)]
        · rw [len_s, if_pos rfl]; omega
      rw [er]
      exact hS_mono (ih k _ _ (by omega) hz) (fun W Y hy => ⟨hy.1, (qpop_fr.tr cdd_fr).tr hy.2.1, hy.2.2⟩)
    unfold fX12_joins_0
    rw [q196_g43, Option.bind_some, h3, if_neg (by rw [l0, qle (by omega) (by omega)]; omega), q196_g40, Option.bind_some, Option.bind_some, show Int32.ofNat (t.length + 1) - (1 : Int32) = Int32.ofNat t.length by rw [l1, qsub (by omega)]; rfl, qlI (t := 0) qk_210 (Or.inl rfl) (by omega) (by omega), Option.bind_some, h7.1]
    by_cases e : x = 21
    · rw [if_pos (by rw [e]; rfl)]
      exact h45 (9, 0, 0) e rfl rfl (Or.inl e) (if_pos e)
    · rw [if_neg (by rw [show (21 : Int32) = Int32.ofNat 21 from rfl, qeq (by omega) (by omega)]; exact e), Option.bind_some, Option.bind_some, show Int32.ofNat (t.length + 1) - (1 : Int32) = Int32.ofNat t.length by rw [l1, qsub (by omega)]; rfl, qlI (t := 0) qk_210 (Or.inl rfl) (by omega) (by omega), Option.bind_some, h7.1]
      have hno : ¬ (x = 22 ∧ b = true) → hS g (some (qH g V X)) (fun W Y => mZ B n m W Y p o (rJn b cs (x :: t)).1 (rJn b cs (x :: t)).2 true ∧ sFr V W X Y ∧ Y = X) := by
        intro h22
        have hr : rJn b cs (x :: t) = (cs, x :: t) := by
          show (if x = 21 then _ else if x = 22 ∧ b = true then _ else _) = _
          rw [if_neg e, if_neg h22]
        rw [hr]
        exact hS_pure ⟨h, sFr.rf, rfl⟩
      by_cases e2 : x = 22
      · rw [if_pos (by rw [e2]; rfl)]
        cases b with
        | true =>
          rw [if_pos rfl, if_pos rfl]
          have := h45 (10, 0, 0) e2 rfl rfl (Or.inr e2) (by
            show (if x = 21 then _ else if x = 22 ∧ true = true then _ else _) = _
            rw [if_neg e, if_pos ⟨e2, rfl⟩])
          rw [if_pos rfl] at this
          exact this
        | false =>
          rw [if_neg (by decide)]
          exact hno (fun h => by cases h.2)
      · rw [if_neg (by rw [show (22 : Int32) = Int32.ofNat 22 from rfl, qeq (by omega) (by omega)]; exact e2)]
        exact hno (fun h => e2 h.1)
end QSG
