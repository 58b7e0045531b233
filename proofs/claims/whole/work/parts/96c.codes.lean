/-! codes as they are added; both ways to read a sentence come to one -/
section QSB
variable {n m p L : Nat} {B : Nat → Nat} {Q : sQ}
def cOk1 (L d : Nat) (c : sC) : Prop := c.1 < 11 ∧ c.2.1 < 1000 ∧ c.2.2 < 1000 ∧ (c.1 = 4 → c.2.2 < L) ∧ (c.1 = 8 → 1 ≤ d) ∧ (9 ≤ c.1 → 2 ≤ d) ∧ d ≤ 20
def cDp1 (d : Nat) (c : sC) : Nat := if c.1 < 8 then d + 1 else if c.1 = 8 then d else d - 1
def cDp (cs : List sC) : Nat := cs.foldl cDp1 0
def cGd (L : Nat) (cs : List sC) : Prop := ∀ i c, cs[i]? = some c → cOk1 L (cDp (cs.take i)) c
theorem cDp_s {cs : List sC} {c : sC} : cDp (cs ++ [c]) = cDp1 (cDp cs) c := by
  unfold cDp
  rw [List.foldl_append]
  rfl
theorem cGd_nil : cGd L [] := by
  intro i c h
  rw [List.getElem?_nil] at h
  cases h
theorem cGd_s {cs : List sC} {c : sC} (h : cGd L cs) (hc : cOk1 L (cDp cs) c) : cGd L (cs ++ [c]) := by
  intro i c2 h2
  by_cases hi : i < cs.length
  · rw [List.getElem?_append_left hi] at h2
    rw [List.take_append_of_le_length (by omega)]
    exact h i c2 h2
  · rw [List.getElem?_append_right (by omega)] at h2
    have hi2 : i = cs.length := by
      have := (List.getElem?_eq_some_iff.mp h2).1
      rw [List.length_singleton] at this
      omega
    subst hi2
    rw [Nat.sub_self] at h2
    have h3 : c = c2 := Option.some.inj h2
    rw [← h3, List.take_append_of_le_length (Nat.le_refl _), List.take_length]
    exact hc
theorem len_s {cs : List sC} {c : sC} : (cs ++ [c]).length = cs.length + 1 := by rw [List.length_append, List.length_singleton]
/-- what a reading gives: d more that wait -/
def sRes (L n o : Nat) (cs : List sC) (d : Nat) (r : sR) : Prop := ∀ p' o' cs', r = .ok (p', o', cs') → p' ≤ n ∧ o + d ≤ o' ∧ o' ≤ 20 ∧ cGd L cs' ∧ cDp cs' = cDp cs + d ∧ cs'.length + cDp cs' + 2 * o ≤ cs.length + cDp cs + 2 * o'
def sPre (L n : Nat) (p o : Nat) (cs : List sC) : Prop := p ≤ n ∧ o ≤ 20 ∧ cGd L cs ∧ cDp cs ≤ o
theorem sAnd_e {one : Nat × Nat × List sC → sR} {j : Nat} {e : Nat × Nat} : sAnd B n m one j (.error e) = .error e := by cases j <;> rfl
theorem ok_inj {p o p2 o2 : Nat} {cs cs2 : List sC} (h : (.ok (p, o, cs) : sR) = .ok (p2, o2, cs2)) : p = p2 ∧ o = o2 ∧ cs = cs2 := by
  injection h with h1
  injection h1 with h2 h3
  injection h3 with h4 h5
  exact ⟨h2, h4, h5⟩
theorem sAnd_res {one : Nat × Nat × List sC → sR} (h1 : ∀ p o cs, sPre L n p o cs → sRes L n o cs 1 (one (p, o, cs))) : ∀ j p o cs, sPre L n p o cs → 1 ≤ cDp cs → sRes L n o cs 0 (sAnd B n m one j (.ok (p, o, cs))) := by
  intro j
  induction j with
  | zero =>
    intro p o cs hP hd p' o' cs' h
    obtain ⟨rfl, rfl, rfl⟩ := ok_inj h
    obtain ⟨a1, a2, a3, a4⟩ := hP
    exact ⟨a1, by omega, a2, a3, by omega, by omega⟩
  | succ j ih =>
    intro p o cs hP hd p' o' cs' h
    obtain ⟨a1, a2, a3, a4⟩ := id hP
    unfold sAnd at h
    cases hi : aIs B n m 17 p with
    | false =>
      rw [hi, if_neg (by decide)] at h
      obtain ⟨rfl, rfl, rfl⟩ := ok_inj h
      exact ⟨a1, by omega, a2, a3, by omega, by omega⟩
    | true =>
      rw [hi, if_pos rfl] at h
      have hk := aIs_k hi
      have hx := tok_nx (B := B) (m := m) a1 (by omega)
      cases hr : one ((tTok B n m p).2.2.1, o, cs) with
      | error e =>
        rw [hr] at h
        have h2 : sAnd B n m one j (.error e) = .ok (p', o', cs') := h
        rw [sAnd_e] at h2
        cases h2
      | ok v =>
        obtain ⟨p1, o1, cs1⟩ := v
        rw [hr] at h
        have h2 : sAnd B n m one j (.ok (p1, o1, cs1 ++ [(9, 0, 0)])) = .ok (p', o', cs') := h
        obtain ⟨b1, b2, b3, b4, b5, b6⟩ := h1 _ _ _ ⟨hx.2, a2, a3, a4⟩ _ _ _ hr
        have hD : cDp (cs1 ++ [(9, 0, 0)]) = cDp cs1 - 1 := by rw [cDp_s]; rfl
        have hL := len_s (cs := cs1) (c := (9, 0, 0))
        have hg : cGd L (cs1 ++ [(9, 0, 0)]) := cGd_s b4 ⟨by decide, by decide, by decide, fun h => absurd h (by decide), fun h => absurd h (by decide), fun _ => by omega, by omega⟩
        obtain ⟨c1, c2, c3, c4, c5, c6⟩ := ih p1 o1 _ ⟨b1, b3, hg, by omega⟩ (by omega) _ _ _ h2
        exact ⟨c1, by omega, c3, c4, by omega, by omega⟩
theorem sAll_res {one : Nat × Nat × List sC → sR} (h1 : ∀ p o cs, sPre L n p o cs → sRes L n o cs 1 (one (p, o, cs))) : ∀ j f p o cs, sPre L n p o cs → (f = false → 1 ≤ cDp cs) → (f = true → 1 ≤ j) → sRes L n o cs (if f = true then 1 else 0) (sAll B n m one j f (p, o, cs)) := by
  intro j
  induction j with
  | zero =>
    intro f p o cs hP hd hj p' o' cs' h
    obtain ⟨rfl, rfl, rfl⟩ := ok_inj h
    obtain ⟨a1, a2, a3, a4⟩ := hP
    cases f with
    | true => exact absurd (hj rfl) (by omega)
    | false =>
      rw [if_neg (by decide)]
      exact ⟨a1, by omega, a2, a3, by omega, by omega⟩
  | succ j ih =>
    intro f p o cs hP hd hj p' o' cs' h
    obtain ⟨a1, a2, a3, a4⟩ := id hP
    unfold sAll at h
    cases hr : one (p, o, cs) with
    | error e =>
      rw [hr, sAnd_e] at h
      cases f <;> cases h
    | ok v =>
      obtain ⟨p1, o1, cs1⟩ := v
      rw [hr] at h
      obtain ⟨b1, b2, b3, b4, b5, b6⟩ := h1 _ _ _ hP _ _ _ hr
      cases hs : sAnd B n m one 21 (.ok (p1, o1, cs1)) with
      | error e =>
        rw [hs] at h
        cases f <;> cases h
      | ok v =>
        obtain ⟨p2, o2, cs2⟩ := v
        rw [hs] at h
        obtain ⟨c1, c2, c3, c4, c5, c6⟩ := sAnd_res h1 21 _ _ _ ⟨b1, b3, b4, by omega⟩ (by omega) _ _ _ hs
        have go : ∀ cs3, sOrs f (.ok (p2, o2, cs2)) = .ok (p2, o2, cs3) → cGd L cs3 → cDp cs3 = cDp cs + (if f = true then 1 else 0) → cs3.length + cDp cs3 ≤ cs2.length + cDp cs2 → p' ≤ n ∧ o + (if f = true then 1 else 0) ≤ o' ∧ o' ≤ 20 ∧ cGd L cs' ∧ cDp cs' = cDp cs + (if f = true then 1 else 0) ∧ cs'.length + cDp cs' + 2 * o ≤ cs.length + cDp cs + 2 * o' := by
          intro cs3 e1 e2 e3 e4
          rw [e1] at h
          have hb : (if f = true then 1 else 0) ≤ 1 := by split <;> omega
          have hf : 1 ≤ cDp cs3 := by
            cases f with
            | true => rw [if_pos rfl] at e3; omega
            | false => rw [if_neg (by decide)] at e3; have := hd rfl; omega
          cases hi : aIs B n m 16 p2 with
          | false =>
            have h2 : (if aIs B n m 16 p2 = true then sAll B n m one j false ((tTok B n m p2).2.2.1, o2, cs3) else .ok (p2, o2, cs3)) = (.ok (p', o', cs') : sR) := h
            rw [hi, if_neg (by decide)] at h2
            obtain ⟨rfl, rfl, rfl⟩ := ok_inj h2
            exact ⟨c1, by omega, c3, e2, e3, by omega⟩
          | true =>
            have h2 : (if aIs B n m 16 p2 = true then sAll B n m one j false ((tTok B n m p2).2.2.1, o2, cs3) else .ok (p2, o2, cs3)) = (.ok (p', o', cs') : sR) := h
            rw [hi, if_pos rfl] at h2
            have hk := aIs_k hi
            have hx := tok_nx (B := B) (m := m) c1 (by omega)
            obtain ⟨d1, d2, d3, d4, d5, d6⟩ := ih false _ _ _ ⟨hx.2, c3, e2, by omega⟩ (fun _ => hf) (fun h => by cases h) _ _ _ h2
            rw [if_neg (by decide)] at d2 d5
            exact ⟨d1, by omega, d3, d4, by omega, by omega⟩
        cases f with
        | true =>
          exact go cs2 rfl c4 (by rw [if_pos rfl]; omega) (Nat.le_refl _)
        | false =>
          have hD : cDp (cs2 ++ [(10, 0, 0)]) = cDp cs2 - 1 := by rw [cDp_s]; rfl
          have hL := len_s (cs := cs2) (c := (10, 0, 0))
          have := hd rfl
          exact go (cs2 ++ [(10, 0, 0)]) rfl (cGd_s c4 ⟨by decide, by decide, by decide, fun h => absurd h (by decide), fun h => absurd h (by decide), fun _ => by omega, by omega⟩) (by rw [if_neg (by decide)]; omega) (by omega)
theorem sLf_ok (hQ : Q.2.1 ≤ 1000) (hL : Q.2.2.2 ≤ L) (hL9 : L ≤ 1000) {v q : Nat} {c : sC} {d : Nat} (hd : d ≤ 20) (hv : 19 ≤ v) (hv2 : v < 27) (h : sLf B n m Q v p = .ok (q, c)) : cOk1 L d c ∧ c.1 < 8 := by
  unfold sLf at h
  split at h
  · injection h with h1; injection h1 with h2 h3
    subst h3
    exact ⟨⟨by show v - 19 < 11; omega, by show 0 < 1000; omega, by show 0 < 1000; omega, fun h => by have : v - 19 = 4 := h; omega, fun h => by have : v - 19 = 8 := h; omega, fun h => by have : 9 ≤ v - 19 := h; omega, hd⟩, by show v - 19 < 8; omega⟩
  split at h
  · split at h
    · rename_i i p2 h1
      have h2 := aOf_nx h1
      injection h with h3; injection h3 with h4 h5
      subst h5
      exact ⟨⟨by show 3 < 11; omega, by show 0 < 1000; omega, by show i < 1000; omega, fun h => absurd (show 3 = 4 from h) (by decide), fun h => absurd (show 3 = 8 from h) (by decide), fun h => absurd (show 9 ≤ 3 from h) (by decide), hd⟩, by show 3 < 8; omega⟩
    · cases h
  split at h
  · split at h
    · rename_i i p2 h1
      have h2 := aOf_nx h1
      injection h with h3; injection h3 with h4 h5
      subst h5
      exact ⟨⟨by show 4 < 11; omega, by show 0 < 1000; omega, by show i < 1000; omega, fun _ => by show i < L; omega, fun h => absurd (show 4 = 8 from h) (by decide), fun h => absurd (show 9 ≤ 4 from h) (by decide), hd⟩, by show 4 < 8; omega⟩
    · cases h
  split at h
  · rename_i hs
    split at h
    · rename_i i p2 h1
      have h2 := aNum_nx h1
      injection h with h3; injection h3 with h4 h5
      subst h5
      exact ⟨⟨by show v - 19 < 11; omega, by show (tTok B n m p).2.2.2.1 < 1000; omega, by show i < 1000; omega, fun h => by have : v - 19 = 4 := h; omega, fun h => by have : v - 19 = 8 := h; omega, fun h => by have : 9 ≤ v - 19 := h; omega, hd⟩, by show v - 19 < 8; omega⟩
    · cases h
  · cases h
theorem sOne_res (hQ : Q.2.1 ≤ 1000) (hL : Q.2.2.2 ≤ L) (hL9 : L ≤ 1000) : ∀ e p o cs, sPre L n p o cs → sRes L n o cs 1 (sOne B n m Q e (p, o, cs)) := by
  intro e
  induction e with
  | zero =>
    intro p o cs hP p' o' cs' h
    unfold sOne at h
    split at h
    · cases h
    split at h
    · cases h
    · cases h
  | succ e ih =>
    intro p o cs hP p' o' cs' h
    obtain ⟨a1, a2, a3, a4⟩ := id hP
    unfold sOne at h
    split at h
    · cases h
    rename_i h0
    have h2 := is_2 h0
    have hx := tok_nx (B := B) (m := m) a1 h2
    split at h
    · cases h
    rename_i h20
    dsimp only at h
    split at h
    · rename_i ho
      cases hr : sAll B n m (sOne B n m Q e) 21 true ((tTok B n m p).2.2.1, o + 1, cs) with
      | error x => rw [hr] at h; cases h
      | ok v =>
        obtain ⟨p1, o1, cs1⟩ := v
        rw [hr] at h
        obtain ⟨b1, b2, b3, b4, b5, b6⟩ := sAll_res ih 21 true _ _ _ ⟨hx.2, by omega, a3, by omega⟩ (fun h => by cases h) (fun _ => by omega) _ _ _ hr
        rw [if_pos rfl] at b2 b5
        unfold sBr at h
        dsimp only at h
        cases hs : aSgn B n m 41 p1 with
        | error x => rw [hs] at h; cases h
        | ok v =>
          obtain ⟨v1, v2⟩ := v
          rw [hs] at h
          obtain ⟨rfl, rfl, rfl⟩ := ok_inj h
          have h3 := aSgn_nx hs
          have := tok_nx (B := B) (m := m) b1 (by omega)
          exact ⟨by omega, by omega, b3, b4, b5, by omega⟩
    rename_i ho
    split at h
    · rename_i hn
      cases hr : sOne B n m Q e ((tTok B n m p).2.2.1, o + 1, cs) with
      | error x => rw [hr] at h; cases h
      | ok v =>
        obtain ⟨p1, o1, cs1⟩ := v
        rw [hr] at h
        obtain ⟨b1, b2, b3, b4, b5, b6⟩ := ih _ _ _ ⟨hx.2, by omega, a3, by omega⟩ _ _ _ hr
        obtain ⟨rfl, rfl, rfl⟩ := ok_inj (show (.ok (p1, o1, cs1 ++ [(8, 0, 0)]) : sR) = .ok (p', o', cs') from h)
        have hD : cDp (cs1 ++ [(8, 0, 0)]) = cDp cs1 := by rw [cDp_s]; rfl
        have hL := len_s (cs := cs1) (c := (8, 0, 0))
        exact ⟨b1, by omega, b3, cGd_s b4 ⟨by decide, by decide, by decide, fun h => absurd h (by decide), fun _ => by omega, fun h => absurd h (by decide), by omega⟩, by omega, by omega⟩
    · rename_i hn
      cases hr : sLf B n m Q (tTok B n m p).2.2.2.1 (tTok B n m p).2.2.1 with
      | error x => rw [hr] at h; cases h
      | ok v =>
        obtain ⟨p1, c⟩ := v
        rw [hr] at h
        obtain ⟨rfl, rfl, rfl⟩ := ok_inj (show (.ok (p1, o + 1, cs ++ [c]) : sR) = .ok (p', o', cs') from h)
        have hk : (tTok B n m p).1 = 4 ∧ 18 ≤ (tTok B n m p).2.2.2.1 := by
          cases h2 : isOne B n m p with
          | true => exact isOne_k h2
          | false => exact absurd ⟨by cases hh : isOpn B n m p with
            | true => exact absurd hh ho
            | false => rfl, h2⟩ h0
        obtain ⟨c1, c2⟩ := sLf_ok hQ hL hL9 (d := cDp cs) (by omega) (by omega) (tWord_lt hk.1) hr
        have hD : cDp (cs ++ [c]) = cDp cs + 1 := by rw [cDp_s]; unfold cDp1; rw [if_pos c2]
        have hL := len_s (cs := cs) (c := c)
        have := sLf_nx hx.2 hr
        exact ⟨this.2, by omega, by omega, cGd_s a3 c1, hD, by omega⟩
end QSB
