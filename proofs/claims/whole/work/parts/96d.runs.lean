/-! .. the run and the descent -/
section QSD
variable {n m p o L : Nat} {B : Nat → Nat} {Q : sQ} {cs : List sC} {st : List Nat}
def rW (B : Nat → Nat) (n m : Nat) (Q : sQ) (p o : Nat) (cs : List sC) (st : List Nat) : sF := rRun B n m Q (n + 1 - p) true p o cs st
def rO (B : Nat → Nat) (n m : Nat) (Q : sQ) (p o : Nat) (cs : List sC) (st : List Nat) : sF := rRun B n m Q (n + 1 - p) false p o cs st
theorem rW_eq (hp : p ≤ n) : rW B n m Q p o cs st = (if (tTok B n m p).1 = 0 then (if (rJn true (rNot cs st).1 (rNot cs st).2).2 = [] then .ok (o, (rJn true (rNot cs st).1 (rNot cs st).2).1) else .error (1, (tTok B n m p).2.1))
    else if aIs B n m 17 p = true then rO B n m Q (tTok B n m p).2.2.1 o (rJn false (rNot cs st).1 (rNot cs st).2).1 (21 :: (rJn false (rNot cs st).1 (rNot cs st).2).2)
    else if aIs B n m 16 p = true then rO B n m Q (tTok B n m p).2.2.1 o (rJn true (rNot cs st).1 (rNot cs st).2).1 (22 :: (rJn true (rNot cs st).1 (rNot cs st).2).2)
    else (match (rJn true (rNot cs st).1 (rNot cs st).2).2, aSgn B n m 41 p with
      | _ :: t, .ok (_, p2) => rW B n m Q p2 o (rJn true (rNot cs st).1 (rNot cs st).2).1 t
      | _, _ => .error (1, (tTok B n m p).2.1))) := by
  have e : rW B n m Q p o cs st = rRun B n m Q ((n - p) + 1) true p o cs st := by unfold rW; rw [show n + 1 - p = (n - p) + 1 by omega]
  rw [e]
  unfold rRun
  by_cases h0 : (tTok B n m p).1 = 0
  · rw [if_pos h0, if_pos h0]
  rw [if_neg h0, if_neg h0]
  by_cases h1 : aIs B n m 17 p = true
  · rw [if_pos h1, if_pos h1]
    have := aIs_k h1
    have := tok_nx (B := B) (m := m) hp (by omega)
    exact rRun_fu _ _ _ _ _ _ _ (by omega) (by omega) (by omega)
  rw [if_neg h1, if_neg h1]
  by_cases h2 : aIs B n m 16 p = true
  · rw [if_pos h2, if_pos h2]
    have := aIs_k h2
    have := tok_nx (B := B) (m := m) hp (by omega)
    exact rRun_fu _ _ _ _ _ _ _ (by omega) (by omega) (by omega)
  rw [if_neg h2, if_neg h2]
  cases hs : (rJn true (rNot cs st).1 (rNot cs st).2).2 with
  | nil => rfl
  | cons x t =>
    cases ha : aSgn B n m 41 p with
    | error e => rfl
    | ok v =>
      obtain ⟨v1, v2⟩ := v
      have h3 := aSgn_nx ha
      have := tok_nx (B := B) (m := m) hp (by omega)
      exact rRun_fu _ _ _ _ _ _ _ (by omega) (by omega) (by omega)
theorem rO_eq (hp : p ≤ n) : rO B n m Q p o cs st = (if isOpn B n m p = false ∧ isOne B n m p = false then .error (1, (tTok B n m p).2.1)
    else if 20 ≤ o then .error (4, (tTok B n m p).2.1)
    else if 8 < dpt st then .error (4, (tTok B n m p).2.1)
    else if isOpn B n m p = true then rO B n m Q (tTok B n m p).2.2.1 (o + 1) cs (23 :: st)
    else if (tTok B n m p).2.2.2.1 = 18 then rO B n m Q (tTok B n m p).2.2.1 (o + 1) cs (20 :: st)
    else match sLf B n m Q (tTok B n m p).2.2.2.1 (tTok B n m p).2.2.1 with
      | .error x => .error x
      | .ok (p2, c) => rW B n m Q p2 (o + 1) (cs ++ [c]) st) := by
  have e : rO B n m Q p o cs st = rRun B n m Q ((n - p) + 1) false p o cs st := by unfold rO; rw [show n + 1 - p = (n - p) + 1 by omega]
  rw [e]
  unfold rRun
  by_cases h0 : isOpn B n m p = false ∧ isOne B n m p = false
  · rw [if_pos h0, if_pos h0]
  rw [if_neg h0, if_neg h0]
  have hx := tok_nx (B := B) (m := m) hp (is_2 h0)
  by_cases h1 : 20 ≤ o
  · rw [if_pos h1, if_pos h1]
  rw [if_neg h1, if_neg h1]
  by_cases h2 : 8 < dpt st
  · rw [if_pos h2, if_pos h2]
  rw [if_neg h2, if_neg h2]
  by_cases h3 : isOpn B n m p = true
  · rw [if_pos h3, if_pos h3]
    exact rRun_fu _ _ _ _ _ _ _ (by omega) (by omega) (by omega)
  rw [if_neg h3, if_neg h3]
  by_cases h4 : (tTok B n m p).2.2.2.1 = 18
  · rw [if_pos h4, if_pos h4]
    exact rRun_fu _ _ _ _ _ _ _ (by omega) (by omega) (by omega)
  rw [if_neg h4, if_neg h4]
  cases hl : sLf B n m Q (tTok B n m p).2.2.2.1 (tTok B n m p).2.2.1 with
  | error x => rfl
  | ok v =>
    obtain ⟨v1, v2⟩ := v
    have := sLf_nx hx.2 hl
    exact rRun_fu _ _ _ _ _ _ _ (by omega) (by omega) (by omega)
theorem hd_n {x y : Nat} (h : x ≠ y) : (x :: st).head? ≠ some y := fun e => h (Option.some.inj e)
theorem rNot_n (h : st.head? ≠ some 20) : rNot cs st = (cs, st) := by
  cases st with
  | nil => rfl
  | cons x t =>
    unfold rNot
    rw [if_neg (fun e => h (by rw [e]; rfl))]
theorem rJn_n {b : Bool} (h : st.head? ≠ some 21) (h2 : b = true → st.head? ≠ some 22) : rJn b cs st = (cs, st) := by
  cases st with
  | nil => rfl
  | cons x t =>
    unfold rJn
    rw [if_neg (fun e => h (by rw [e]; rfl)), if_neg (fun e => h2 e.2 (by rw [e.1]; rfl))]
theorem rW_not (hp : p ≤ n) : rW B n m Q p o cs (20 :: st) = rW B n m Q p o (cs ++ [(8, 0, 0)]) st := by
  rw [rW_eq hp, rW_eq hp, show rNot cs (20 :: st) = rNot (cs ++ [(8, 0, 0)]) st from if_pos rfl]
theorem rW_and (hp : p ≤ n) (h : st.head? ≠ some 20) : rW B n m Q p o cs (21 :: st) = rW B n m Q p o (cs ++ [(9, 0, 0)]) st := by
  rw [rW_eq hp, rW_eq hp, rNot_n (st := 21 :: st) (hd_n (by decide)), rNot_n h]
  show _ = _
  have e : ∀ b, rJn b cs (21 :: st) = rJn b (cs ++ [(9, 0, 0)]) st := fun b => if_pos rfl
  rw [e true, e false]
theorem rW_or (hp : p ≤ n) (h : st.head? ≠ some 20) (ha : aIs B n m 17 p = false) : rW B n m Q p o cs (22 :: st) = rW B n m Q p o (cs ++ [(10, 0, 0)]) st := by
  rw [rW_eq hp, rW_eq hp, rNot_n (st := 22 :: st) (hd_n (by decide)), rNot_n h]
  have e : rJn true cs (22 :: st) = rJn true (cs ++ [(10, 0, 0)]) st := by
    show (if 22 = 21 then _ else if 22 = 22 ∧ true = true then _ else _) = _
    rw [if_neg (by decide), if_pos ⟨rfl, rfl⟩]
  dsimp only
  rw [e, ha, if_neg (show ¬ false = true by decide), if_neg (show ¬ false = true by decide)]
def sBnd (s : sR) (k : Nat → Nat → List sC → sF) : sF := match s with
  | .error e => .error e
  | .ok (p, o, cs) => k p o cs
/-- what reading one of them means for the run -/
def sHas (B : Nat → Nat) (n m L : Nat) (Q : sQ) (e : Nat) (one : Nat × Nat × List sC → sR) : Prop := ∀ st p o cs, sPre L n p o cs → dpt st + e = 9 → rO B n m Q p o cs st = sBnd (one (p, o, cs)) (fun p o cs => rW B n m Q p o cs st)
theorem sAnd_run {one : Nat × Nat × List sC → sR} {e : Nat} (h1 : ∀ p o cs, sPre L n p o cs → sRes L n o cs 1 (one (p, o, cs))) (hH : sHas B n m L Q e one) : ∀ j st p o cs, sPre L n p o cs → 1 ≤ cDp cs → dpt st + e = 9 → st.head? ≠ some 20 → st.head? ≠ some 21 → 21 ≤ o + j →
    rW B n m Q p o cs st = sBnd (sAnd B n m one j (.ok (p, o, cs))) (fun p o cs => rW B n m Q p o cs st) ∧ ∀ p' o' cs', sAnd B n m one j (.ok (p, o, cs)) = .ok (p', o', cs') → aIs B n m 17 p' = false := by
  intro j
  induction j with
  | zero => intro st p o cs hP; have := hP.2.1; omega
  | succ j ih =>
    intro st p o cs hP hd hdp n20 n21 hj
    obtain ⟨a1, a2, a3, a4⟩ := id hP
    unfold sAnd
    cases hi : aIs B n m 17 p with
    | false =>
      rw [if_neg (by decide)]
      exact ⟨rfl, fun p' o' cs' h => by obtain ⟨rfl, -, -⟩ := ok_inj h; exact hi⟩
    | true =>
      have hk := aIs_k hi
      have hx := tok_nx (B := B) (m := m) a1 (by omega)
      rw [if_pos rfl]
      have hw : rW B n m Q p o cs st = rO B n m Q (tTok B n m p).2.2.1 o cs (21 :: st) := by
        rw [rW_eq a1, rNot_n n20, if_neg (by omega), if_pos hi, rJn_n n21 (fun h => by cases h)]
      rw [hw, hH (21 :: st) _ _ _ ⟨hx.2, a2, a3, a4⟩ (by show (if 21 = 20 ∨ 21 = 23 then _ else dpt st) + e = 9; rw [if_neg (by decide)]; exact hdp)]
      cases hr : one ((tTok B n m p).2.2.1, o, cs) with
      | error x =>
        show Except.error x = sBnd (sAnd B n m one j (.error x)) _ ∧ ∀ p' o' cs', sAnd B n m one j (.error x) = _ → _
        rw [sAnd_e]
        exact ⟨rfl, fun _ _ _ h => by cases h⟩
      | ok v =>
        obtain ⟨p1, o1, cs1⟩ := v
        obtain ⟨b1, b2, b3, b4, b5, b6⟩ := h1 _ _ _ ⟨hx.2, a2, a3, a4⟩ _ _ _ hr
        have hD : cDp (cs1 ++ [(9, 0, 0)]) = cDp cs1 - 1 := by rw [cDp_s]; rfl
        have hg : cGd L (cs1 ++ [(9, 0, 0)]) := cGd_s b4 ⟨by decide, by decide, by decide, fun h => absurd h (by decide), fun h => absurd h (by decide), fun _ => by omega, by omega⟩
        have hi2 := ih st p1 o1 _ ⟨b1, b3, hg, by omega⟩ (by omega) hdp n20 n21 (by omega)
        show rW B n m Q p1 o1 cs1 (21 :: st) = sBnd (sAnd B n m one j (.ok (p1, o1, cs1 ++ [(9, 0, 0)]))) _ ∧ ∀ p' o' cs', sAnd B n m one j (.ok (p1, o1, cs1 ++ [(9, 0, 0)])) = _ → _
        rw [rW_and b1 n20]
        exact hi2
theorem sAll_run {one : Nat × Nat × List sC → sR} {e : Nat} (h1 : ∀ p o cs, sPre L n p o cs → sRes L n o cs 1 (one (p, o, cs))) (hH : sHas B n m L Q e one) : ∀ j f b p o cs, sPre L n p o cs → (f = false → 1 ≤ cDp cs) → dpt b + e = 9 → b.head? ≠ some 20 → b.head? ≠ some 21 → b.head? ≠ some 22 → 21 ≤ o + j →
    rO B n m Q p o cs (if f = true then b else 22 :: b) = sBnd (sAll B n m one j f (p, o, cs)) (fun p o cs => rW B n m Q p o cs b) ∧ ∀ p' o' cs', sAll B n m one j f (p, o, cs) = .ok (p', o', cs') → aIs B n m 17 p' = false ∧ aIs B n m 16 p' = false := by
  intro j
  induction j with
  | zero => intro f b p o cs hP; have := hP.2.1; omega
  | succ j ih =>
    intro f b p o cs hP hd hdp n20 n21 n22 hj
    obtain ⟨a1, a2, a3, a4⟩ := id hP
    have hst : dpt (if f = true then b else 22 :: b) + e = 9 ∧ (if f = true then b else 22 :: b).head? ≠ some 20 ∧ (if f = true then b else 22 :: b).head? ≠ some 21 := by
      cases f with
      | true => exact ⟨hdp, n20, n21⟩
      | false =>
        refine ⟨?_, hd_n (st := b) (by decide), hd_n (st := b) (by decide)⟩
        show (if 22 = 20 ∨ 22 = 23 then _ else dpt b) + e = 9
        rw [if_neg (by decide)]
        exact hdp
    unfold sAll
    rw [hH _ _ _ _ hP hst.1]
    cases hr : one (p, o, cs) with
    | error x =>
      rw [sAnd_e]
      have e2 : sOrs f (.error x) = .error x := by cases f <;> rfl
      rw [e2]
      exact ⟨rfl, fun _ _ _ h => by cases h⟩
    | ok v =>
      obtain ⟨p1, o1, cs1⟩ := v
      obtain ⟨b1, b2, b3, b4, b5, b6⟩ := h1 _ _ _ hP _ _ _ hr
      obtain ⟨c1, c2⟩ := sAnd_run h1 hH 21 (if f = true then b else 22 :: b) p1 o1 cs1 ⟨b1, b3, b4, by omega⟩ (by omega) hst.1 hst.2.1 hst.2.2 (by omega)
      show rW B n m Q p1 o1 cs1 _ = _ ∧ _
      rw [c1]
      cases hs : sAnd B n m one 21 (.ok (p1, o1, cs1)) with
      | error x =>
        have e2 : sOrs f (.error x) = .error x := by cases f <;> rfl
        rw [e2]
        exact ⟨rfl, fun _ _ _ h => by cases h⟩
      | ok v =>
        obtain ⟨p2, o2, cs2⟩ := v
        obtain ⟨d1, d2, d3, d4, d5, d6⟩ := sAnd_res h1 21 _ _ _ ⟨b1, b3, b4, by omega⟩ (by omega) _ _ _ hs
        have h17 := c2 _ _ _ hs
        show rW B n m Q p2 o2 cs2 _ = _ ∧ _
        have go : ∀ cs3, sOrs f (.ok (p2, o2, cs2)) = .ok (p2, o2, cs3) → rW B n m Q p2 o2 cs2 (if f = true then b else 22 :: b) = rW B n m Q p2 o2 cs3 b → cGd L cs3 → 1 ≤ cDp cs3 → cDp cs3 ≤ o2 → (rW B n m Q p2 o2 cs2 (if f = true then b else 22 :: b) = sBnd (match sOrs f (.ok (p2, o2, cs2)) with
          | .error e => .error e
          | .ok (p, o, cs) => if aIs B n m 16 p = true then sAll B n m one j false ((tTok B n m p).2.2.1, o, cs) else .ok (p, o, cs)) (fun p o cs => rW B n m Q p o cs b) ∧ ∀ p' o' cs', (match sOrs f (.ok (p2, o2, cs2)) with
          | .error e => .error e
          | .ok (p, o, cs) => if aIs B n m 16 p = true then sAll B n m one j false ((tTok B n m p).2.2.1, o, cs) else .ok (p, o, cs)) = (.ok (p', o', cs') : sR) → aIs B n m 17 p' = false ∧ aIs B n m 16 p' = false) := by
          intro cs3 e1 e2 e3 e4 e5
          rw [e1, e2]
          dsimp only
          cases hi : aIs B n m 16 p2 with
          | false =>
            rw [if_neg (by decide)]
            exact ⟨rfl, fun p' o' cs' h => by obtain ⟨rfl, -, -⟩ := ok_inj h; exact ⟨h17, hi⟩⟩
          | true =>
            have hk := aIs_k hi
            have hx := tok_nx (B := B) (m := m) d1 (by omega)
            rw [if_pos rfl]
            have hw : rW B n m Q p2 o2 cs3 b = rO B n m Q (tTok B n m p2).2.2.1 o2 cs3 (22 :: b) := by
              rw [rW_eq d1, rNot_n n20, if_neg (by omega), if_neg (by rw [h17]; decide), if_pos hi, rJn_n n21 (fun _ => n22)]
            rw [hw]
            have := ih false b _ _ _ ⟨hx.2, d3, e3, e5⟩ (fun _ => e4) hdp n20 n21 n22 (by omega)
            rw [if_neg (by decide)] at this
            exact this
        cases f with
        | true => exact go cs2 rfl rfl d4 (by omega) (by omega)
        | false =>
          have hD : cDp (cs2 ++ [(10, 0, 0)]) = cDp cs2 - 1 := by rw [cDp_s]; rfl
          have := hd rfl
          exact go (cs2 ++ [(10, 0, 0)]) rfl (rW_or d1 n20 h17) (cGd_s d4 ⟨by decide, by decide, by decide, fun h => absurd h (by decide), fun h => absurd h (by decide), fun _ => by omega, by omega⟩) (by omega) (by omega)
/-- a whole COND ended, with no bracket open, or with one -/
theorem rW_end (hp : p ≤ n) (h17 : aIs B n m 17 p = false) (h16 : aIs B n m 16 p = false) : rW B n m Q p o cs [] = (if (tTok B n m p).1 = 0 then .ok (o, cs) else .error (1, (tTok B n m p).2.1)) := by
  rw [rW_eq hp]
  by_cases h0 : (tTok B n m p).1 = 0
  · rw [if_pos h0, if_pos h0]; rfl
  · rw [if_neg h0, if_neg h0, h17, h16, if_neg (by decide), if_neg (by decide)]; rfl
theorem aSgn_er {c : Nat} {e : Nat × Nat} (h : aSgn B n m c p = .error e) : e = (1, (tTok B n m p).2.1) := by
  unfold aSgn at h
  split at h
  · cases h
  · injection h with h1
    exact h1.symm
theorem rW_br (hp : p ≤ n) (h17 : aIs B n m 17 p = false) (h16 : aIs B n m 16 p = false) : rW B n m Q p o cs (23 :: st) = sBnd (sBr B n m (.ok (p, o, cs))) (fun p o cs => rW B n m Q p o cs st) := by
  rw [rW_eq hp]
  have e1 : rNot cs (23 :: st) = (cs, 23 :: st) := rNot_n (hd_n (by decide))
  have e2 : ∀ b, rJn b cs (23 :: st) = (cs, 23 :: st) := fun b => rJn_n (hd_n (by decide)) (fun _ => hd_n (by decide))
  rw [e1, h17, h16]
  dsimp only
  rw [e2 true]
  unfold sBr
  dsimp only
  by_cases h0 : (tTok B n m p).1 = 0
  · rw [if_pos h0, if_neg (by intro h; cases h)]
    unfold aSgn
    rw [if_neg (by omega)]
    rfl
  · rw [if_neg h0, if_neg (by decide), if_neg (by decide)]
    cases ha : aSgn B n m 41 p with
    | ok v => rfl
    | error e =>
      rw [aSgn_er ha]
      rfl
theorem sOne_run (hQ : Q.2.1 ≤ 1000) (hL : Q.2.2.2 ≤ L) (hL9 : L ≤ 1000) : ∀ e, sHas B n m L Q e (sOne B n m Q e) := by
  intro e
  induction e with
  | zero =>
    intro st p o cs hP hdp
    obtain ⟨a1, a2, a3, a4⟩ := id hP
    rw [rO_eq a1]
    unfold sOne
    by_cases h0 : isOpn B n m p = false ∧ isOne B n m p = false
    · rw [if_pos h0, if_pos h0]; rfl
    rw [if_neg h0, if_neg h0]
    by_cases h1 : 20 ≤ o
    · rw [if_pos h1, if_pos h1]; rfl
    rw [if_neg h1, if_neg h1, if_pos (by omega)]
    rfl
  | succ e ih =>
    intro st p o cs hP hdp
    obtain ⟨a1, a2, a3, a4⟩ := id hP
    rw [rO_eq a1]
    unfold sOne
    by_cases h0 : isOpn B n m p = false ∧ isOne B n m p = false
    · rw [if_pos h0, if_pos h0]; rfl
    rw [if_neg h0, if_neg h0]
    have hx := tok_nx (B := B) (m := m) a1 (is_2 h0)
    by_cases h1 : 20 ≤ o
    · rw [if_pos h1, if_pos h1]; rfl
    rw [if_neg h1, if_neg h1, if_neg (by omega)]
    dsimp only
    have hP2 : sPre L n (tTok B n m p).2.2.1 (o + 1) cs := ⟨hx.2, by omega, a3, by omega⟩
    by_cases h3 : isOpn B n m p = true
    · rw [if_pos h3, if_pos h3]
      have hd2 : dpt (23 :: st) + e = 9 := by
        show (if 23 = 20 ∨ 23 = 23 then dpt st + 1 else _) + e = 9
        rw [if_pos (by decide)]
        omega
      obtain ⟨c1, c2⟩ := sAll_run (sOne_res hQ hL hL9 e) ih 21 true (23 :: st) _ _ _ hP2 (fun h => by cases h) hd2 (hd_n (by decide)) (hd_n (by decide)) (hd_n (by decide)) (by omega)
      rw [if_pos rfl] at c1
      rw [c1]
      cases hr : sAll B n m (sOne B n m Q e) 21 true ((tTok B n m p).2.2.1, o + 1, cs) with
      | error x => rfl
      | ok v =>
        obtain ⟨p1, o1, cs1⟩ := v
        have h17 := c2 _ _ _ hr
        have b1 := (sAll_res (sOne_res hQ hL hL9 e) 21 true _ _ _ hP2 (fun h => by cases h) (fun _ => by omega) _ _ _ hr).1
        exact rW_br b1 h17.1 h17.2
    rw [if_neg h3, if_neg h3]
    by_cases h4 : (tTok B n m p).2.2.2.1 = 18
    · rw [if_pos h4, if_pos h4]
      rw [ih (20 :: st) _ _ _ hP2 (by
        show (if 20 = 20 ∨ 20 = 23 then dpt st + 1 else _) + e = 9
        rw [if_pos (by decide)]
        omega)]
      cases hr : sOne B n m Q e ((tTok B n m p).2.2.1, o + 1, cs) with
      | error x => rfl
      | ok v =>
        obtain ⟨p1, o1, cs1⟩ := v
        exact rW_not (sOne_res hQ hL hL9 e _ _ _ hP2 _ _ _ hr).1
    rw [if_neg h4, if_neg h4]
    cases hl : sLf B n m Q (tTok B n m p).2.2.2.1 (tTok B n m p).2.2.1 with
    | error x => rfl
    | ok v => rfl
/-- both ways -/
theorem sSen_run (hQ : Q.2.1 ≤ 1000) (hL : Q.2.2.2 ≤ L) (hL9 : L ≤ 1000) : rO B n m Q 0 0 [] [] = sSen B n m Q := by
  have hP : sPre L n 0 0 [] := ⟨Nat.zero_le _, by omega, cGd_nil, Nat.le_refl _⟩
  obtain ⟨c1, c2⟩ := sAll_run (sOne_res hQ hL hL9 8) (sOne_run (B := B) (n := n) (m := m) hQ hL hL9 8) 21 true [] 0 0 [] hP (fun h => by cases h) rfl (by decide) (by decide) (by decide) (by omega)
  rw [if_pos rfl] at c1
  rw [c1]
  unfold sSen
  cases hr : sAll B n m (sOne B n m Q 8) 21 true (0, 0, []) with
  | error x => rfl
  | ok v =>
    obtain ⟨p1, o1, cs1⟩ := v
    have h17 := c2 _ _ _ hr
    have b1 := (sAll_res (sOne_res hQ hL hL9 8) 21 true _ _ _ hP (fun h => by cases h) (fun _ => by omega) _ _ _ hr).1
    exact rW_end b1 h17.1 h17.2
theorem sSen_ok {o : Nat} {cs : List sC} (hQ : Q.2.1 ≤ 1000) (hL : Q.2.2.2 ≤ L) (hL9 : L ≤ 1000) (h : sSen B n m Q = .ok (o, cs)) : cGd L cs ∧ cDp cs = 1 ∧ 1 ≤ cs.length ∧ cs.length ≤ 40 ∧ o ≤ 20 := by
  have hP : sPre L n 0 0 [] := ⟨Nat.zero_le _, by omega, cGd_nil, Nat.le_refl _⟩
  unfold sSen at h
  cases hr : sAll B n m (sOne B n m Q 8) 21 true (0, 0, []) with
  | error x => rw [hr] at h; cases h
  | ok v =>
    obtain ⟨p1, o1, cs1⟩ := v
    rw [hr] at h
    dsimp only at h
    obtain ⟨b1, b2, b3, b4, b5, b6⟩ := sAll_res (sOne_res hQ hL hL9 8) 21 true _ _ _ hP (fun h => by cases h) (fun _ => by omega) _ _ _ hr
    rw [if_pos rfl] at b2 b5
    split at h
    · injection h with h1
      injection h1 with h2 h3
      subst h2 h3
      have e0 : cDp [] = 0 := rfl
      have e1 : ([] : List sC).length = 0 := rfl
      refine ⟨b4, by omega, ?_, by omega, b3⟩
      cases cs1 with
      | nil => omega
      | cons c t => rw [List.length_cons]; omega
    · cases h
end QSD
