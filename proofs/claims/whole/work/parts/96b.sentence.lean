/-! a sentence, told once for both sides -/
section QSA
variable {n m p : Nat} {B : Nat → Nat}
/-- kind (0 - 7 one of the leaves, 8 not, 9 and, 10 or), sign, number -/
abbrev sC := Nat × Nat × Nat
/-- where it is read on, the ones, the codes; or a fault -/
abbrev sR := Except (Nat × Nat) (Nat × Nat × List sC)
/-- the names of owners and lookers -/
abbrev sQ := (Nat → List Nat) × Nat × (Nat → List Nat) × Nat
def sLf (B : Nat → Nat) (n m : Nat) (Q : sQ) (v p : Nat) : Except (Nat × Nat) (Nat × sC) :=
  if v < 22 then .ok (p, v - 19, 0, 0)
  else if v = 22 then (match aOf B n m Q.1 Q.2.1 p with
    | .ok (i, p2) => .ok (p2, 3, 0, i)
    | .error e => .error e)
  else if v = 23 then (match aOf B n m Q.2.2.1 Q.2.2.2 p with
    | .ok (i, p2) => .ok (p2, 4, 0, i)
    | .error e => .error e)
  else if (tTok B n m p).1 = 2 ∧ 60 ≤ (tTok B n m p).2.2.2.1 ∧ (tTok B n m p).2.2.2.1 ≤ 62 then
    (match aNum B n m 0 999 (tTok B n m p).2.2.1 with
    | .ok (x, p3) => .ok (p3, v - 19, (tTok B n m p).2.2.2.1, x)
    | .error e => .error e)
  else .error (1, (tTok B n m p).2.1)
def sAdd (c : sC) : sR → sR
  | .ok (p, o, cs) => .ok (p, o, cs ++ [c])
  | .error e => .error e
def sAnd (B : Nat → Nat) (n m : Nat) (one : Nat × Nat × List sC → sR) : Nat → sR → sR
  | 0, s => s
  | _ + 1, .error e => .error e
  | j + 1, .ok (p, o, cs) => if aIs B n m 17 p = true then sAnd B n m one j (sAdd (9, 0, 0) (one ((tTok B n m p).2.2.1, o, cs))) else .ok (p, o, cs)
def sOrs (f : Bool) (s : sR) : sR := if f = true then s else sAdd (10, 0, 0) s
def sAll (B : Nat → Nat) (n m : Nat) (one : Nat × Nat × List sC → sR) : Nat → Bool → Nat × Nat × List sC → sR
  | 0, _, s => .ok s
  | j + 1, f, s => match sOrs f (sAnd B n m one 21 (one s)) with
    | .error e => .error e
    | .ok (p, o, cs) => if aIs B n m 16 p = true then sAll B n m one j false ((tTok B n m p).2.2.1, o, cs) else .ok (p, o, cs)
def sBr (B : Nat → Nat) (n m : Nat) : sR → sR
  | .error e => .error e
  | .ok (p, o, cs) => (match aSgn B n m 41 p with
    | .ok (_, p2) => .ok (p2, o, cs)
    | .error e => .error e)
def isOpn (B : Nat → Nat) (n m p : Nat) : Bool := decide ((tTok B n m p).1 = 2 ∧ (tTok B n m p).2.2.2.1 = 40)
def isOne (B : Nat → Nat) (n m p : Nat) : Bool := decide ((tTok B n m p).1 = 4 ∧ 18 ≤ (tTok B n m p).2.2.2.1)
def sOne (B : Nat → Nat) (n m : Nat) (Q : sQ) : Nat → Nat × Nat × List sC → sR
  | e, (p, o, cs) =>
    if isOpn B n m p = false ∧ isOne B n m p = false then .error (1, (tTok B n m p).2.1)
    else if 20 ≤ o then .error (4, (tTok B n m p).2.1)
    else match e with
      | 0 => .error (4, (tTok B n m p).2.1)
      | e + 1 => if isOpn B n m p = true then sBr B n m (sAll B n m (sOne B n m Q e) 21 true ((tTok B n m p).2.2.1, o + 1, cs))
        else if (tTok B n m p).2.2.2.1 = 18 then sAdd (8, 0, 0) (sOne B n m Q e ((tTok B n m p).2.2.1, o + 1, cs))
        else match sLf B n m Q (tTok B n m p).2.2.2.1 (tTok B n m p).2.2.1 with
          | .error x => .error x
          | .ok (p2, c) => .ok (p2, o + 1, cs ++ [c])
def sSen (B : Nat → Nat) (n m : Nat) (Q : sQ) : Except (Nat × Nat) (Nat × List sC) := match sAll B n m (sOne B n m Q 8) 21 true (0, 0, []) with
  | .error e => .error e
  | .ok (p, o, cs) => if (tTok B n m p).1 = 0 then .ok (o, cs) else .error (1, (tTok B n m p).2.1)
/-! .. as the reference reads it: a row of what waits (20 not, 21 and, 22 or, 23 a bracket) -/
def dpt : List Nat → Nat
  | [] => 1
  | x :: t => if x = 20 ∨ x = 23 then dpt t + 1 else dpt t
def rNot : List sC → List Nat → List sC × List Nat
  | cs, [] => (cs, [])
  | cs, x :: t => if x = 20 then rNot (cs ++ [(8, 0, 0)]) t else (cs, x :: t)
def rJn (or : Bool) : List sC → List Nat → List sC × List Nat
  | cs, [] => (cs, [])
  | cs, x :: t => if x = 21 then rJn or (cs ++ [(9, 0, 0)]) t else if x = 22 ∧ or = true then rJn or (cs ++ [(10, 0, 0)]) t else (cs, x :: t)
abbrev sF := Except (Nat × Nat) (Nat × List sC)
def rRun (B : Nat → Nat) (n m : Nat) (Q : sQ) : Nat → Bool → Nat → Nat → List sC → List Nat → sF
  | 0, _, _, _, _, _ => .error (0, 0)
  | k + 1, true, p, o, cs, st =>
    if (tTok B n m p).1 = 0 then (if (rJn true (rNot cs st).1 (rNot cs st).2).2 = [] then .ok (o, (rJn true (rNot cs st).1 (rNot cs st).2).1) else .error (1, (tTok B n m p).2.1))
    else if aIs B n m 17 p = true then rRun B n m Q k false (tTok B n m p).2.2.1 o (rJn false (rNot cs st).1 (rNot cs st).2).1 (21 :: (rJn false (rNot cs st).1 (rNot cs st).2).2)
    else if aIs B n m 16 p = true then rRun B n m Q k false (tTok B n m p).2.2.1 o (rJn true (rNot cs st).1 (rNot cs st).2).1 (22 :: (rJn true (rNot cs st).1 (rNot cs st).2).2)
    else (match (rJn true (rNot cs st).1 (rNot cs st).2).2, aSgn B n m 41 p with
      | _ :: t, .ok (_, p2) => rRun B n m Q k true p2 o (rJn true (rNot cs st).1 (rNot cs st).2).1 t
      | _, _ => .error (1, (tTok B n m p).2.1))
  | k + 1, false, p, o, cs, st =>
    if isOpn B n m p = false ∧ isOne B n m p = false then .error (1, (tTok B n m p).2.1)
    else if 20 ≤ o then .error (4, (tTok B n m p).2.1)
    else if 8 < dpt st then .error (4, (tTok B n m p).2.1)
    else if isOpn B n m p = true then rRun B n m Q k false (tTok B n m p).2.2.1 (o + 1) cs (23 :: st)
    else if (tTok B n m p).2.2.2.1 = 18 then rRun B n m Q k false (tTok B n m p).2.2.1 (o + 1) cs (20 :: st)
    else match sLf B n m Q (tTok B n m p).2.2.2.1 (tTok B n m p).2.2.1 with
      | .error x => .error x
      | .ok (p2, c) => rRun B n m Q k true p2 (o + 1) (cs ++ [c]) st
/-! reading goes on -/
theorem aSgn_nx {c q v : Nat} (h : aSgn B n m c p = .ok (v, q)) : (tTok B n m p).1 = 2 ∧ (tTok B n m p).2.2.2.1 = c ∧ q = (tTok B n m p).2.2.1 := by
  unfold aSgn at h
  split at h
  · rename_i h1
    injection h with h2
    injection h2 with h3 h4
    exact ⟨h1.1, h1.2, h4.symm⟩
  · cases h
theorem aNum_nx {lo hi q v : Nat} (h : aNum B n m lo hi p = .ok (v, q)) : (tTok B n m p).1 = 3 ∧ v = (tTok B n m p).2.2.2.1 ∧ lo ≤ v ∧ v ≤ hi ∧ q = (tTok B n m p).2.2.1 := by
  unfold aNum at h
  split at h
  · rename_i h1
    split at h
    · rename_i h2
      injection h with h3
      injection h3 with h4 h5
      exact ⟨h1, h4.symm, by omega, by omega, h5.symm⟩
    · cases h
  · cases h
theorem aOf_nx {q : Nat → List Nat} {c v r : Nat} (h : aOf B n m q c p = .ok (v, r)) : (tTok B n m p).1 = 5 ∧ v < c ∧ q v = (tTok B n m p).2.2.2.2 ∧ r = (tTok B n m p).2.2.1 := by
  unfold aOf at h
  split at h
  · rename_i h1
    split at h
    · rename_i i h2
      injection h with h3
      injection h3 with h4 h5
      have := fndN_lt h2
      exact ⟨h1, by omega, by rw [← h4]; exact this.2, h5.symm⟩
    · cases h
  · cases h
theorem tok_nx (hp : p ≤ n) (h : 2 ≤ (tTok B n m p).1) : p < (tTok B n m p).2.2.1 ∧ (tTok B n m p).2.2.1 ≤ n := by
  have h1 := tSk_le B (n - p) p
  have h2 := tTk_b (B := B) (n := n) (m := m) (q := tSk B (n - p) p) h
  exact ⟨Nat.lt_of_le_of_lt h1.1 h2.2.1, h2.2.2.1⟩
theorem aIs_k {v : Nat} (h : aIs B n m v p = true) : (tTok B n m p).1 = 4 ∧ (tTok B n m p).2.2.2.1 = v := of_decide_eq_true h
theorem isOpn_k (h : isOpn B n m p = true) : (tTok B n m p).1 = 2 ∧ (tTok B n m p).2.2.2.1 = 40 := of_decide_eq_true h
theorem isOne_k (h : isOne B n m p = true) : (tTok B n m p).1 = 4 ∧ 18 ≤ (tTok B n m p).2.2.2.1 := of_decide_eq_true h
theorem is_2 (h : ¬ (isOpn B n m p = false ∧ isOne B n m p = false)) : 2 ≤ (tTok B n m p).1 := by
  cases h1 : isOpn B n m p with
  | true => have := isOpn_k h1; omega
  | false =>
    cases h2 : isOne B n m p with
    | true => have := isOne_k h2; omega
    | false => exact absurd ⟨h1, h2⟩ h
theorem sLf_nx {Q : sQ} {v q : Nat} {c : sC} (hp : p ≤ n) (h : sLf B n m Q v p = .ok (q, c)) : p ≤ q ∧ q ≤ n := by
  unfold sLf at h
  split at h
  · injection h with h1; injection h1 with h2 h3; omega
  split at h
  · split at h
    · rename_i i p2 h1
      have h2 := aOf_nx h1
      injection h with h3; injection h3 with h4 h5
      have := tok_nx (B := B) (m := m) hp (by omega)
      omega
    · cases h
  split at h
  · split at h
    · rename_i i p2 h1
      have h2 := aOf_nx h1
      injection h with h3; injection h3 with h4 h5
      have := tok_nx (B := B) (m := m) hp (by omega)
      omega
    · cases h
  split at h
  · rename_i hs
    have h0 := tok_nx (B := B) (m := m) hp (by omega)
    split at h
    · rename_i i p2 h1
      have h2 := aNum_nx h1
      injection h with h3; injection h3 with h4 h5
      have := tok_nx (B := B) (m := m) h0.2 (by omega)
      omega
    · cases h
  · cases h
/-- the steps of the run that are left don't tell, where they suffice -/
theorem rRun_fu {Q : sQ} : ∀ k j w p o cs st, p ≤ n → n - p < k → n - p < j → rRun B n m Q k w p o cs st = rRun B n m Q j w p o cs st := by
  intro k
  induction k with
  | zero => intro j w p o cs st hp h1 h2; omega
  | succ k ih =>
    intro j w p o cs st hp h1 h2
    obtain ⟨j, rfl⟩ := Nat.exists_eq_succ_of_ne_zero (n := j) (by omega)
    cases w with
    | true =>
      unfold rRun
      split
      · rfl
      rename_i h0
      split
      · rename_i h3
        have := aIs_k h3
        have := tok_nx (B := B) (m := m) hp (by omega)
        exact ih _ _ _ _ _ _ (by omega) (by omega) (by omega)
      split
      · rename_i h3
        have := aIs_k h3
        have := tok_nx (B := B) (m := m) hp (by omega)
        exact ih _ _ _ _ _ _ (by omega) (by omega) (by omega)
      · cases hs : (rJn true (rNot cs st).1 (rNot cs st).2).2 with
        | nil => rfl
        | cons x t =>
          cases ha : aSgn B n m 41 p with
          | error e => rfl
          | ok v =>
            obtain ⟨v1, v2⟩ := v
            have h3 := aSgn_nx ha
            have := tok_nx (B := B) (m := m) hp (by omega)
            exact ih _ _ _ _ _ _ (by omega) (by omega) (by omega)
    | false =>
      unfold rRun
      split
      · rfl
      rename_i h0
      have h20 := is_2 h0
      have h21 := tok_nx (B := B) (m := m) hp h20
      split
      · rfl
      split
      · rfl
      split
      · exact ih _ _ _ _ _ _ (by omega) (by omega) (by omega)
      split
      · exact ih _ _ _ _ _ _ (by omega) (by omega) (by omega)
      · cases hl : sLf B n m Q (tTok B n m p).2.2.2.1 (tTok B n m p).2.2.1 with
        | error x => rfl
        | ok v =>
          obtain ⟨v1, v2⟩ := v
          have := sLf_nx h21.2 hl
          exact ih _ _ _ _ _ _ (by omega) (by omega) (by omega)
end QSA
