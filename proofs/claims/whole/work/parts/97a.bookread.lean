/-! a book read: told once, and the class -/
section QBA
variable {g : zF} {V W U K : Nat → Nat → Int32} {X Y Z : Nat → Nat → Int64} {N n m p o k pl d e : Nat} {s t u B : Nat → Nat} {Q : sQ} {cs : List sC}
/-- a line: what (0 turns 1 walks 2 shuts 3 opens 4 faces 5 hours), who (or how many hours), side -/
def bSd (B : Nat → Nat) (n m a w p : Nat) : Except (Nat × Nat) (Nat × sC) := match aSide B n m p with
  | .ok (x, p2) => .ok (p2, a, w, x)
  | .error e => .error e
def bLk (B : Nat → Nat) (n m w p : Nat) : Except (Nat × Nat) (Nat × sC) :=
  if aIs B n m 10 p = true then bSd B n m 0 w (tTok B n m p).2.2.1
  else if aIs B n m 11 p = true then bSd B n m 1 w (tTok B n m p).2.2.1
  else if aIs B n m 12 p = true then .ok ((tTok B n m p).2.2.1, 2, w, 0)
  else if aIs B n m 13 p = true then .ok ((tTok B n m p).2.2.1, 3, w, 0)
  else .error (1, (tTok B n m p).2.1)
def bFg (B : Nat → Nat) (n m w p : Nat) : Except (Nat × Nat) (Nat × sC) :=
  if aIs B n m 14 p = true then bSd B n m 4 w (tTok B n m p).2.2.1 else .error (1, (tTok B n m p).2.1)
def bHr (B : Nat → Nat) (n m p : Nat) : Except (Nat × Nat) (Nat × sC) := match aNum B n m 1 60 p with
  | .ok (x, p2) => .ok (p2, 5, x, 0)
  | .error e => .error e
/-- whose line it is: none hours, (false, l) a looker's, (true, f) a figure's -/
def bWho (B : Nat → Nat) (n m : Nat) (Q : sQ) (p : Nat) : Except (Nat × Nat) (Option (Bool × Nat)) :=
  if aIs B n m 15 p = true then .ok none
  else if (tTok B n m p).1 = 5 then (match fndN Q.2.2.1 Q.2.2.2 (tTok B n m p).2.2.2.2 with
    | some l => .ok (some (false, l))
    | none => (match fndN Q.1 Q.2.1 (tTok B n m p).2.2.2.2 with
      | some f => .ok (some (true, f))
      | none => .error (3, (tTok B n m p).2.1)))
  else .error (1, (tTok B n m p).2.1)
def bRest (B : Nat → Nat) (n m : Nat) (p : Nat) : Option (Bool × Nat) → Except (Nat × Nat) (Nat × sC)
  | none => bHr B n m p
  | some (false, l) => bLk B n m l p
  | some (true, f) => bFg B n m f p
def bLine (B : Nat → Nat) (n m : Nat) (Q : sQ) (c p : Nat) : Except (Nat × Nat) (Nat × sC) := match bWho B n m Q p with
  | .error e => .error e
  | .ok w => if 40 ≤ c then .error (4, (tTok B n m p).2.1) else bRest B n m (tTok B n m p).2.2.1 w
def bRd (B : Nat → Nat) (n m : Nat) (Q : sQ) : Nat → Nat → List sC → Except (Nat × Nat) (List sC)
  | 0, _, _ => .error (0, 0)
  | k + 1, p, cs => if (tTok B n m p).1 = 0 then .ok cs else match bLine B n m Q cs.length p with
    | .error e => .error e
    | .ok (p2, c) => match aSgn B n m 59 p2 with
      | .error e => .error e
      | .ok (_, p3) => bRd B n m Q k p3 (cs ++ [c])
/-- what holds of a line -/
def bOk (Q : sQ) (c : sC) : Prop := c.1 < 6 ∧ (c.1 < 4 → c.2.1 < Q.2.2.2) ∧ (c.1 = 4 → c.2.1 < Q.2.1) ∧ (c.1 = 5 → 1 ≤ c.2.1 ∧ c.2.1 ≤ 60) ∧ c.2.2 < 4
theorem aSide_nx {v q : Nat} (h : aSide B n m p = .ok (v, q)) : (tTok B n m p).1 = 4 ∧ v < 4 ∧ q = (tTok B n m p).2.2.1 := by
  unfold aSide at h
  split at h
  · rename_i h1
    injection h with h2
    injection h2 with h3 h4
    exact ⟨h1.1, by rw [← h3]; exact h1.2, h4.symm⟩
  · cases h
theorem bSd_nx {a w q : Nat} {c : sC} (hp : p ≤ n) (h : bSd B n m a w p = .ok (q, c)) : p < q ∧ q ≤ n ∧ c.1 = a ∧ c.2.1 = w ∧ c.2.2 < 4 := by
  unfold bSd at h
  split at h
  · rename_i x p2 h1
    injection h with h2
    injection h2 with h3 h4
    subst h4
    have h5 := aSide_nx h1
    have := tok_nx (B := B) (m := m) hp (by omega)
    exact ⟨by omega, by omega, rfl, rfl, h5.2.1⟩
  · cases h
theorem bRest_nx {w : Option (Bool × Nat)} {q : Nat} {c : sC} (hp : p ≤ n) (h : bRest B n m p w = .ok (q, c)) (hw : ∀ l, w = some (false, l) → l < Q.2.2.2) (hf : ∀ f, w = some (true, f) → f < Q.2.1) : p < q ∧ q ≤ n ∧ bOk Q c := by
  rcases w with _ | ⟨b, v⟩
  · have h' : bHr B n m p = .ok (q, c) := h
    unfold bHr at h'
    split at h'
    · rename_i x p2 h1
      injection h' with h2
      injection h2 with h3 h4
      subst h4
      have h5 := aNum_nx h1
      have := tok_nx (B := B) (m := m) hp (by omega)
      exact ⟨by omega, by omega, by show 5 < 6; omega, fun h => absurd (show 5 < 4 from h) (by omega), fun h => absurd (show 5 = 4 from h) (by omega), fun _ => ⟨h5.2.2.1, h5.2.2.2.1⟩, by show 0 < 4; omega⟩
    · cases h'
  · have sd : ∀ a, bSd B n m a v (tTok B n m p).2.2.1 = .ok (q, c) → (tTok B n m p).1 = 4 → (a < 4 → v < Q.2.2.2) → (a = 4 → v < Q.2.1) → a < 5 → p < q ∧ q ≤ n ∧ bOk Q c := by
      intro a h1 h2 h3 h4 h5
      have h6 := tok_nx (B := B) (m := m) hp (by omega)
      obtain ⟨h7, h8, h9, h10, h11⟩ := bSd_nx h6.2 h1
      exact ⟨by omega, h8, by omega, fun h => by rw [h10]; exact h3 (by omega), fun h => by rw [h10]; exact h4 (by omega), fun h => by omega, h11⟩
    have sk : ∀ a, (.ok ((tTok B n m p).2.2.1, a, v, 0) : Except (Nat × Nat) (Nat × sC)) = .ok (q, c) → (tTok B n m p).1 = 4 → v < Q.2.2.2 → a < 4 → p < q ∧ q ≤ n ∧ bOk Q c := by
      intro a h1 h2 h3 h4
      injection h1 with h5
      injection h5 with h6 h7
      subst h7
      have h6 := tok_nx (B := B) (m := m) hp (by omega)
      exact ⟨by omega, by omega, by show a < 6; omega, fun _ => h3, fun h => absurd (show a = 4 from h) (by omega), fun h => absurd (show a = 5 from h) (by omega), by show 0 < 4; omega⟩
    cases b with
    | false =>
      have hv := hw v rfl
      have h' : bLk B n m v p = .ok (q, c) := h
      unfold bLk at h'
      split at h'
      · rename_i h1
        exact sd 0 h' (aIs_k h1).1 (fun _ => hv) (fun h => by omega) (by omega)
      split at h'
      · rename_i h1
        exact sd 1 h' (aIs_k h1).1 (fun _ => hv) (fun h => by omega) (by omega)
      split at h'
      · rename_i h1
        exact sk 2 h' (aIs_k h1).1 hv (by omega)
      split at h'
      · rename_i h1
        exact sk 3 h' (aIs_k h1).1 hv (by omega)
      · cases h'
    | true =>
      have hv := hf v rfl
      have h' : bFg B n m v p = .ok (q, c) := h
      unfold bFg at h'
      split at h'
      · rename_i h1
        exact sd 4 h' (aIs_k h1).1 (fun h => by omega) (fun _ => hv) (by omega)
      · cases h'
theorem bWho_k {w : Option (Bool × Nat)} (h : bWho B n m Q p = .ok w) : 2 ≤ (tTok B n m p).1 ∧ (tTok B n m p).1 ≤ 5 ∧ (∀ l, w = some (false, l) → l < Q.2.2.2) ∧ ∀ f, w = some (true, f) → f < Q.2.1 := by
  unfold bWho at h
  split at h
  · rename_i h1
    have := aIs_k h1
    injection h with h2
    subst h2
    exact ⟨by omega, by omega, fun l h => (by cases h), fun f h => by cases h⟩
  split at h
  · rename_i h1
    split at h
    · rename_i l h2
      injection h with h3
      subst h3
      exact ⟨by omega, by omega, fun l h => (by injection h with h; injection h with h4 h5; subst h5; exact (fndN_lt h2).1), fun f h => (by injection h with h; injection h with h4 h5; cases h4)⟩
    · split at h
      · rename_i f h2
        injection h with h3
        subst h3
        exact ⟨by omega, by omega, fun l h => (by injection h with h; injection h with h4 h5; cases h4), fun f h => (by injection h with h; injection h with h4 h5; subst h5; exact (fndN_lt h2).1)⟩
      · cases h
  · cases h
theorem bLine_nx {c q : Nat} {x : sC} (hp : p ≤ n) (h : bLine B n m Q c p = .ok (q, x)) : p < q ∧ q ≤ n ∧ bOk Q x ∧ c < 40 := by
  unfold bLine at h
  split at h
  · cases h
  · rename_i w h1
    split at h
    · cases h
    · rename_i h2
      have h3 := bWho_k h1
      have h4 := tok_nx (B := B) (m := m) hp (by omega)
      have h5 := bRest_nx (Q := Q) h4.2 h h3.2.2.1 h3.2.2.2
      exact ⟨by omega, h5.2.1, h5.2.2, by omega⟩
theorem bRd_ok : ∀ k p cs cs', p ≤ n → (∀ c, c ∈ cs → bOk Q c) → cs.length ≤ 40 → bRd B n m Q k p cs = .ok cs' → cs'.length ≤ 40 ∧ ∀ c, c ∈ cs' → bOk Q c := by
  intro k
  induction k with
  | zero => intro p cs cs' hp hc hl h; cases h
  | succ k ih =>
    intro p cs cs' hp hc hl h
    unfold bRd at h
    split at h
    · injection h with h1
      subst h1
      exact ⟨hl, hc⟩
    split at h
    · cases h
    · rename_i p2 c h1
      obtain ⟨h2, h3, h4, h5⟩ := bLine_nx hp h1
      split at h
      · cases h
      · rename_i v p3 h6
        have h7 := aSgn_nx h6
        have h8 := tok_nx (B := B) (m := m) h3 (by omega)
        refine ih p3 _ cs' (by omega) (fun x hx => ?_) (by rw [len_s]; omega) h
        rcases List.mem_append.mp hx with hx | hx
        · exact hc x hx
        · rw [List.mem_singleton.mp hx]; exact h4
/-! the class -/
def bCo (V : Nat → Nat → Int32) (cs : List sC) : Prop := V 56 2 = Int32.ofNat cs.length ∧ ∀ i c, cs[i]? = some c → V 57 i = Int32.ofNat (10 + c.1) ∧ V 58 i = Int32.ofNat (if c.1 = 5 then 0 else c.2.1) ∧ V 59 i = Int32.ofNat (if c.1 = 5 then c.2.1 else c.2.2)
def bFr (V W : Nat → Nat → Int32) (X Y : Nat → Nat → Int64) : Prop := (∀ b, b ≠ 1 → ¬ (56 ≤ b ∧ b ≤ 59) → W b = V b) ∧ ∀ b, b ≠ 1 → Y b = X b
theorem bFr.rf : bFr V V X X := ⟨fun _ _ _ => rfl, fun _ _ => rfl⟩
theorem bFr.tr (h : bFr V W X Y) (h2 : bFr W U Y Z) : bFr V U X Z := ⟨fun b a c => by rw [h2.1 b a c, h.1 b a c], fun b a => by rw [h2.2 b a, h.2 b a]⟩
theorem cFr.bk (h : cFr V W X Y) : bFr V W X Y := ⟨fun b a _ => h.1 b a, h.2⟩
theorem bCo.cg (h : bCo V cs) (e : ∀ b, 56 ≤ b → b ≤ 59 → W b = V b) : bCo W cs := by
  unfold bCo at h ⊢
  rw [e 56 (by omega) (by omega), e 57 (by omega) (by omega), e 58 (by omega) (by omega), e 59 (by omega) (by omega)]
  exact h
/-- the names that the field has: figures, lookers -/
def bQ (V : Nat → Nat → Int32) (X : Nat → Nat → Int64) (Q : sQ) : Prop := (nOKs Q.1 Q.2.1 ∧ (∀ i, i < Q.2.1 → X 6 i = Int64.ofNat (r5 (Q.1 i))) ∧ Q.2.1 ≤ 6 ∧ V 4 3 = Int32.ofNat Q.2.1) ∧ (nOKs Q.2.2.1 Q.2.2.2 ∧ (∀ i, i < Q.2.2.2 → X 7 i = Int64.ofNat (r5 (Q.2.2.1 i))) ∧ Q.2.2.2 ≤ 5 ∧ V 4 4 = Int32.ofNat Q.2.2.2)
theorem bQ.fr (h : bQ V X Q) (hf : bFr V W X Y) : bQ W Y Q := by
  obtain ⟨⟨a1, a2, a3, a4⟩, b1, b2, b3, b4⟩ := h
  exact ⟨⟨a1, fun i hi => by rw [hf.2 6 (by decide)]; exact a2 i hi, a3, by rw [hf.1 4 (by decide) (by decide)]; exact a4⟩, b1, fun i hi => by rw [hf.2 7 (by decide)]; exact b2 i hi, b3, by rw [hf.1 4 (by decide) (by decide)]; exact b4⟩
/-- one line more written -/
theorem c_addL {L : Nat} (hL : L < 40) (h0 : V 56 2 = Int32.ofNat L) {x y z : Int32} : fX1_addLine N 216 (qH g V X) 56 x y z = some (qH g (qw (qw (qw (qw V 57 (upd (V 57) L x)) 58 (upd (V 58) L y)) 59 (upd (V 59) L z)) 56 (upd (V 56) 2 (Int32.ofNat (L + 1)))) X) := by
  unfold fX1_addLine
  rw [q56_g3, Option.bind_some, q56_g2, Option.bind_some, h0, e_put qk_57 (by omega) (by omega), Option.bind_some, q56_g4, Option.bind_some, q56_g2, Option.bind_some, qw_n (by decide), h0, e_put qk_58 (by omega) (by omega), Option.bind_some, q56_g5, Option.bind_some, q56_g2, Option.bind_some, qw_n (by decide), qw_n (by decide), qw_n (by decide), h0, e_put qk_59 (by omega) (by omega), Option.bind_some, q56_g2, Option.bind_some, qw_n (by decide), qw_n (by decide), qw_n (by decide), qw_n (by decide), qw_n (by decide), h0, l1, qadd, q56_p2, Option.bind_some, qw_n (by decide), qw_n (by decide), qw_n (by decide)]
theorem B_addO {c : sC} {x y z : Int32} (h : cN B n m V X p) (hc : bCo V cs) (hl : cs.length < 40) (hx : x = Int32.ofNat (10 + c.1)) (hy : y = Int32.ofNat (if c.1 = 5 then 0 else c.2.1)) (hz : z = Int32.ofNat (if c.1 = 5 then c.2.1 else c.2.2)) : hS g (fX1_addLine N 216 (qH g V X) 56 x y z) (fun W Y => cN B n m W Y p ∧ bCo W (cs ++ [c]) ∧ bFr V W X Y) := by
  refine ⟨_, X, c_addL hl hc.1, h.cg (fun j => ?_) (fun j => ?_) (fun _ => rfl) (fun _ => rfl), ⟨?_, fun i c2 hi => ?_⟩, fun b b1 b2 => ?_, fun _ _ => rfl⟩
  · rw [qw_n (by decide), qw_n (by decide), qw_n (by decide), qw_n (by decide)]
  · rw [qw_n (by decide), qw_n (by decide), qw_n (by decide), qw_n (by decide)]
  · rw [qw_s, upd_s, len_s]
  · rw [qw_n (by decide), qw_n (by decide), qw_n (by decide), qw_s, qw_n (by decide), qw_n (by decide), qw_s, qw_n (by decide), qw_s]
    by_cases hil : i < cs.length
    · rw [List.getElem?_append_left hil] at hi
      rw [upd_n (by omega), upd_n (by omega), upd_n (by omega)]
      exact hc.2 i c2 hi
    · rw [List.getElem?_append_right (by omega)] at hi
      have hi2 : i = cs.length := by
        have := (List.getElem?_eq_some_iff.mp hi).1
        rw [List.length_singleton] at this
        omega
      subst hi2
      rw [Nat.sub_self] at hi
      have h3 : c = c2 := Option.some.inj hi
      rw [upd_s, upd_s, upd_s, ← h3]
      exact ⟨hx, hy, hz⟩
  · rw [qw_n (by omega), qw_n (by omega), qw_n (by omega), qw_n (by omega)]
theorem B_addE {e : Nat × Nat} {x y z : Int32} (h : cFl B n m V X e.1 e.2) (hc : bCo V cs) (hl : cs.length < 40) : hS g (fX1_addLine N 216 (qH g V X) 56 x y z) (fun W Y => cFl B n m W Y e.1 e.2 ∧ bFr V W X Y) := by
  refine ⟨_, X, c_addL hl hc.1, h.cg (fun j => ?_) (fun j => ?_) (fun _ => rfl), fun b b1 b2 => ?_, fun _ _ => rfl⟩
  · rw [qw_n (by decide), qw_n (by decide), qw_n (by decide), qw_n (by decide)]
  · rw [qw_n (by decide), qw_n (by decide), qw_n (by decide), qw_n (by decide)]
  · rw [qw_n (by omega), qw_n (by omega), qw_n (by omega), qw_n (by omega)]
/-- what reading a line comes to in the class -/
def bRel (B : Nat → Nat) (n m : Nat) (V : Nat → Nat → Int32) (X : Nat → Nat → Int64) (cs : List sC) (W : Nat → Nat → Int32) (Y : Nat → Nat → Int64) : Except (Nat × Nat) (Nat × sC) → Prop
  | .error (k, pl) => cFl B n m W Y k pl ∧ bFr V W X Y
  | .ok (p2, c) => cN B n m W Y p2 ∧ bCo W (cs ++ [c]) ∧ bFr V W X Y
theorem B_side (hN : 3000 ≤ N) {a w : Nat} {x y : Int32} (h : cN B n m V X p) (hc : bCo V cs) (hl : cs.length < 40) (ha : a < 5) (hx : x = Int32.ofNat (10 + a)) (hy : y = Int32.ofNat w) : hS g (zbd (fX9_needSide N 216 (qH g V X) 1) fun f x18 => ((zck 216 f 1 56).bind fun _ => ((fX1_addLine N 216 f 56 x y x18).bind fun f20 => some f20))) (fun W Y => bRel B n m V X cs W Y (bSd B n m a w p)) := by
  refine hS_zbd (C_side hN (a := .ok p) h) (fun W Y r hr => ?_)
  obtain ⟨x1, x2, x3⟩ := hr
  have ex : rdSide B n m (.ok p) = (aV 0 (aSide B n m p), aP (aSide B n m p)) := rfl
  rw [ex] at x1 x2
  rw [q56_c, Option.bind_some]
  have hc2 : bCo W cs := hc.cg (fun b b1 b2 => x3.1 b (by omega))
  unfold bSd
  cases hs : aSide B n m p with
  | ok v =>
    obtain ⟨v, p2⟩ := v
    rw [hs] at x1 x2
    exact hS_bind (B_addO (c := (a, w, v)) x2 hc2 hl hx (by rw [if_neg (show ¬ a = 5 by omega)]; exact hy) (by rw [if_neg (show ¬ a = 5 by omega)]; exact x1)) (fun W2 Y2 h2 => hS_pure ⟨h2.1, h2.2.1, x3.bk.tr h2.2.2⟩)
  | error e =>
    rw [hs] at x1 x2
    exact hS_bind (B_addE (e := e) x2 hc2 hl) (fun W2 Y2 h2 => hS_pure ⟨h2.1, x3.bk.tr h2.2⟩)
theorem B_look (hN : 3000 ≤ N) {l : Nat} (h : cN B n m V X p) (hc : bCo V cs) (hl : cs.length < 40) : hS g (fX1_readLooker N 216 (qH g V X) 56 (Int32.ofNat l)) (fun W Y => bRel B n m V X cs W Y (bLk B n m l p)) := by
  unfold fX1_readLooker bLk
  have tk : ∀ (v : Nat) (V : Nat → Nat → Int32) (X : Nat → Nat → Int64) (R : (Nat → Nat → Int32) → (Nat → Nat → Int64) → Prop) (kk : zF → Int32 → Option zF), v < 27 → cN B n m V X p → bCo V cs → (∀ W Y, cFr V W X Y → bCo W cs → (if aIs B n m v p = true then cN B n m W Y (tTok B n m p).2.2.1 else cN B n m W Y p) → hS g (kk (qH g W Y) (qz (aIs B n m v p))) R) → hS g (zbd (fX9_takesWord N 216 (qH g V X) 1 (Int32.ofNat v)) kk) R := by
    intro v V X R kk hv h1 h2 h3
    refine hS_zbd (c_takesWN hN h1 hv) (fun W Y r hr => ?_)
    obtain ⟨rfl, r2, r3⟩ := hr
    exact h3 W Y r3 (h2.cg (fun b b1 b2 => r3.1 b (by omega))) r2
  rw [q56_g0, Option.bind_some, q1_c, Option.bind_some]
  refine tk 10 V X _ _ (by omega) h hc (fun W Y hf hc1 h1 => ?_)
  cases a0 : aIs B n m 10 p with
  | true =>
    rw [a0, if_pos rfl] at h1
    rw [if_neg qzt, if_pos rfl, q56_g0, Option.bind_some, q1_c, Option.bind_some]
    refine hS_mono (B_side (g := g) hN (a := 0) (w := l) h1 hc1 hl (by omega) rfl rfl) (fun W2 Y2 h2 => ?_)
    cases hb : bSd B n m 0 l (tTok B n m p).2.2.1 with
    | ok v => rw [hb] at h2; exact ⟨h2.1, h2.2.1, hf.bk.tr h2.2.2⟩
    | error e => rw [hb] at h2; exact ⟨h2.1, hf.bk.tr h2.2⟩
  | false =>
    rw [a0, if_neg (by decide)] at h1
    rw [if_pos qzf, if_neg (show ¬ false = true by decide), q56_g0, Option.bind_some, q1_c, Option.bind_some]
    refine tk 11 W Y _ _ (by omega) h1 hc1 (fun W2 Y2 hf2 hc2 h2 => ?_)
    have hff := hf.tr hf2
    cases a1 : aIs B n m 11 p with
    | true =>
      rw [a1, if_pos rfl] at h2
      rw [if_neg qzt, if_pos rfl, q56_g0, Option.bind_some, q1_c, Option.bind_some]
      refine hS_mono (B_side (g := g) hN (a := 1) (w := l) h2 hc2 hl (by omega) rfl rfl) (fun W3 Y3 h3 => ?_)
      cases hb : bSd B n m 1 l (tTok B n m p).2.2.1 with
      | ok v => rw [hb] at h3; exact ⟨h3.1, h3.2.1, hff.bk.tr h3.2.2⟩
      | error e => rw [hb] at h3; exact ⟨h3.1, hff.bk.tr h3.2⟩
    | false =>
      rw [a1, if_neg (by decide)] at h2
      rw [if_pos qzf, if_neg (show ¬ false = true by decide), q56_g0, Option.bind_some, q1_c, Option.bind_some]
      refine tk 12 W2 Y2 _ _ (by omega) h2 hc2 (fun W3 Y3 hf3 hc3 h3 => ?_)
      have hff := hff.tr hf3
      cases a2 : aIs B n m 12 p with
      | true =>
        rw [a2, if_pos rfl] at h3
        rw [if_neg qzt, if_pos rfl, q56_c, Option.bind_some]
        exact hS_bind (B_addO (c := (2, l, 0)) h3 hc3 hl rfl rfl rfl) (fun W4 Y4 h4 => hS_pure ⟨h4.1, h4.2.1, hff.bk.tr h4.2.2⟩)
      | false =>
        rw [a2, if_neg (by decide)] at h3
        rw [if_pos qzf, if_neg (show ¬ false = true by decide), q56_g0, Option.bind_some, q1_c, Option.bind_some]
        refine tk 13 W3 Y3 _ _ (by omega) h3 hc3 (fun W4 Y4 hf4 hc4 h4 => ?_)
        have hff := hff.tr hf4
        cases a3 : aIs B n m 13 p with
        | true =>
          rw [a3, if_pos rfl] at h4
          rw [if_neg qzt, if_pos rfl, q56_c, Option.bind_some]
          exact hS_bind (B_addO (c := (3, l, 0)) h4 hc4 hl rfl rfl rfl) (fun W5 Y5 h5 => hS_pure ⟨h5.1, h5.2.1, hff.bk.tr h5.2.2⟩)
        | false =>
          rw [a3, if_neg (by decide)] at h4
          rw [if_pos qzf, if_neg (show ¬ false = true by decide), q56_g0, Option.bind_some, q1_c, Option.bind_some]
          exact hS_bind (c_failN h4 (k := 1) (by omega) (by omega)) (fun W5 Y5 h5 => hS_pure ⟨h5.1, (hff.tr h5.2).bk⟩)
/-- behind the first word of a line: whose it is, as the class tells it -/
def wL : Option (Bool × Nat) → Option Nat
  | some (false, l) => some l
  | _ => none
def wF (B : Nat → Nat) (n m : Nat) (Q : sQ) (p : Nat) : Option Nat := fndN Q.1 Q.2.1 (tTok B n m p).2.2.2.2
theorem B_139 (hN : 3000 ≤ N) {w : Option (Bool × Nat)} {a4 : Int32} (h : cN B n m V X p) (hc : bCo V cs) (hl : cs.length ≤ 40) (hw : bWho B n m Q p = .ok w) (h4 : ∀ f, w = some (true, f) → a4 = Int32.ofNat f) (hlt : ∀ l, w = some (false, l) → l < 5) : hS g (fX1_readLine_139 N 216 (qH g V X) 56 (qz w.isNone) (qo (wL w)) a4) (fun W Y => bRel B n m V X cs W Y (if 40 ≤ cs.length then .error (4, (tTok B n m p).2.1) else bRest B n m (tTok B n m p).2.2.1 w)) := by
  have hk := bWho_k hw
  unfold fX1_readLine_139
  rw [q56_g2, Option.bind_some, hc.1]
  by_cases h40 : 40 ≤ cs.length
  · rw [if_neg (by rw [show (40 : Int32) = Int32.ofNat 40 from rfl, qlt (by omega) (by omega)]; omega), if_pos h40, q56_g0, Option.bind_some, q1_c, Option.bind_some]
    exact hS_bind (c_failN h (k := 4) (by omega) (by omega)) (fun W Y h1 => hS_pure ⟨h1.1, h1.2.bk⟩)
  rw [if_pos (by rw [show (40 : Int32) = Int32.ofNat 40 from rfl, qlt (by omega) (by omega)]; omega), if_neg h40, q56_g0, Option.bind_some, q1_c, Option.bind_some]
  refine hS_bind (cN.adv hN h hk.1 hk.2.1) (fun W Y h1 => ?_)
  obtain ⟨h1, -, hf⟩ := h1
  have hc1 : bCo W cs := hc.cg (fun b b1 b2 => hf.1 b (by omega))
  have tr : ∀ {W2 Y2 x}, bRel B n m W Y cs W2 Y2 x → bRel B n m V X cs W2 Y2 x := by
    intro W2 Y2 x hx
    cases x with
    | ok v => exact ⟨hx.1, hx.2.1, hf.bk.tr hx.2.2⟩
    | error e => exact ⟨hx.1, hf.bk.tr hx.2⟩
  rcases w with _ | ⟨b, v⟩
  · rw [show (none : Option (Bool × Nat)).isNone = true from rfl, if_neg qzt, q56_g0, Option.bind_some, q1_c, Option.bind_some]
    refine hS_zbd (C_num hN (a := .ok (tTok B n m p).2.2.1) h1 (lo := 1) (hi := 60) (by omega) (by omega)) (fun W2 Y2 r h2 => ?_)
    obtain ⟨x1, x2, x3, -⟩ := h2
    have ex : rdNum B n m 1 60 (.ok (tTok B n m p).2.2.1) = (aV 1 (aNum B n m 1 60 (tTok B n m p).2.2.1), aP (aNum B n m 1 60 (tTok B n m p).2.2.1)) := rfl
    rw [ex] at x1 x2
    rw [q56_c, Option.bind_some]
    have hc2 : bCo W2 cs := hc1.cg (fun b b1 b2 => x3.1 b (by omega))
    show hS g _ (fun W Y => bRel B n m V X cs W Y (bHr B n m (tTok B n m p).2.2.1))
    unfold bHr
    cases ha : aNum B n m 1 60 (tTok B n m p).2.2.1 with
    | ok v =>
      obtain ⟨v, p2⟩ := v
      rw [ha] at x1 x2
      exact hS_bind (B_addO (c := (5, v, 0)) x2 hc2 (by omega) rfl rfl x1) (fun W3 Y3 h3 => hS_pure ⟨h3.1, h3.2.1, (hf.tr x3).bk.tr h3.2.2⟩)
    | error e =>
      rw [ha] at x1 x2
      exact hS_bind (B_addE (e := e) x2 hc2 (by omega)) (fun W3 Y3 h3 => hS_pure ⟨h3.1, (hf.tr x3).bk.tr h3.2⟩)
  · rw [show (some (b, v)).isNone = false from rfl, if_pos qzf]
    cases b with
    | false =>
      have hv := hlt v rfl
      rw [show qo (wL (some (false, v))) = Int32.ofNat v from rfl, if_neg (by rw [qne1 (by omega)]; exact id), q56_c, Option.bind_some]
      exact hS_bind (B_look hN h1 hc1 (by omega)) (fun W2 Y2 h2 => hS_pure (tr h2))
    | true =>
      rw [show qo (wL (some (true, v))) = -1 from rfl, if_pos rfl, q56_g0, Option.bind_some, q1_c, Option.bind_some, h4 v rfl]
      refine hS_zbd (c_takesWN hN h1 (v := 14) (by omega)) (fun W2 Y2 r h2 => ?_)
      obtain ⟨rfl, r2, r3⟩ := h2
      have hc2 : bCo W2 cs := hc1.cg (fun b b1 b2 => r3.1 b (by omega))
      show hS g _ (fun W Y => bRel B n m V X cs W Y (bFg B n m v (tTok B n m p).2.2.1))
      unfold bFg
      cases a1 : aIs B n m 14 (tTok B n m p).2.2.1 with
      | true =>
        rw [a1, if_pos rfl] at r2
        rw [if_neg qzt, if_pos rfl, q56_g0, Option.bind_some, q1_c, Option.bind_some]
        refine hS_mono (B_side (g := g) hN (a := 4) (w := v) r2 hc2 (by omega) (by omega) rfl rfl) (fun W3 Y3 h3 => tr ?_)
        cases hb : bSd B n m 4 v (tTok B n m (tTok B n m p).2.2.1).2.2.1 with
        | ok v => rw [hb] at h3; exact ⟨h3.1, h3.2.1, r3.bk.tr h3.2.2⟩
        | error e => rw [hb] at h3; exact ⟨h3.1, r3.bk.tr h3.2⟩
      | false =>
        rw [a1, if_neg (by decide)] at r2
        rw [if_pos qzf, if_neg (show ¬ false = true by decide), q56_g0, Option.bind_some, q1_c, Option.bind_some]
        exact hS_bind (c_failN r2 (k := 1) (by omega) (by omega)) (fun W3 Y3 h3 => hS_pure ⟨h3.1, (hf.tr (r3.tr h3.2)).bk⟩)
theorem B_line (hN : 3000 ≤ N) (h : cN B n m V X p) (hc : bCo V cs) (hl : cs.length ≤ 40) (hq : bQ V X Q) : hS g (fX1_readLine N 216 (qH g V X) 56) (fun W Y => bRel B n m V X cs W Y (bLine B n m Q cs.length p)) := by
  obtain ⟨⟨q1, q2, q3, q4⟩, q5, q6, q7, q8⟩ := hq
  have hw15 : fX9_isWord N 216 (qH g V X) 1 (15 : Int32) = some (qz (aIs B n m 15 p)) := c_isW h (v := 15) (by omega)
  have hkd := h.kd (a := 5) (by omega) (by omega)
  unfold fX1_readLine fX1_readLine_16 fX1_readLine_59 fX1_readLine_92 fX1_readLine_113
  rw [q56_g0, Option.bind_some, q1_g5, Option.bind_some]
  unfold bLine
  by_cases hk : (tTok B n m p).1 = 5
  · obtain ⟨n1, n2, n3⟩ := h.name hk
    have a15 : aIs B n m 15 p = false := decide_eq_false (fun e => by omega)
    have hp7 : fX11_placeOf N 216 (qH g V X) 7 (Int32.ofNat Q.2.2.2) (Int64.ofNat (r5 (tTok B n m p).2.2.2.2)) = some (qo (fndN Q.2.2.1 Q.2.2.2 (tTok B n m p).2.2.2.2)) := c_findN hN (qF_k3 qF_4) (by omega) q7 q5 q6 n2 n3
    have hp6 : fX11_placeOf N 216 (qH g V X) 6 (Int32.ofNat Q.2.1) (Int64.ofNat (r5 (tTok B n m p).2.2.2.2)) = some (qo (fndN Q.1 Q.2.1 (tTok B n m p).2.2.2.2)) := c_findN hN (qF_k2 qF_4) (by omega) q3 q1 q2 n2 n3
    rw [if_pos (by rw [show (3 : Int32) = Int32.ofNat (cKd 5) from rfl, hkd]; exact hk)]
    simp only [q56_g0, q56_g1, q1_c, q1_g9, hw15, c4_g7, c4_g4, c4_g6, c4_g3, q4, q8, n1, hp7, hp6, Option.bind_some]
    rw [a15, if_neg (show ¬ (1 : Int32) = 0 by decide), if_neg (show ¬ (1 : Int32) = 0 by decide), if_neg (show ¬ (1 : Int32) = 0 by decide), if_neg (show ¬ (1 : Int32) = 0 by decide)]
    cases hfL : fndN Q.2.2.1 Q.2.2.2 (tTok B n m p).2.2.2.2 with
    | some l =>
      have hl5 := (fndN_lt hfL).1
      have ew : bWho B n m Q p = .ok (some (false, l)) := by
        unfold bWho
        rw [a15, if_neg (by decide), if_pos hk, hfL]
      rw [ew, if_neg (by rw [show qo (some l) = Int32.ofNat l from rfl, qne1 (by omega)]; exact id)]
      exact B_139 hN h hc hl ew (fun f e => by cases e) (fun l2 e => by injection e with e; injection e with e1 e2; omega)
    | none =>
      rw [if_pos (show qo none = -1 from rfl)]
      cases hfF : fndN Q.1 Q.2.1 (tTok B n m p).2.2.2.2 with
      | some f =>
        have hf6 := (fndN_lt hfF).1
        have ew : bWho B n m Q p = .ok (some (true, f)) := by
          unfold bWho
          rw [a15, if_neg (by decide), if_pos hk, hfL]
          dsimp only
          rw [hfF]
        rw [ew, if_neg (by rw [show qo (some f) = Int32.ofNat f from rfl, qne1 (by omega)]; exact id)]
        exact B_139 hN h hc hl ew (fun f2 e => by injection e with e; injection e with e1 e2; rw [e2]; rfl) (fun l2 e => by injection e with e; injection e with e1 e2; cases e1)
      | none =>
        have ew : bWho B n m Q p = .error (3, (tTok B n m p).2.1) := by
          unfold bWho
          rw [a15, if_neg (by decide), if_pos hk, hfL]
          dsimp only
          rw [hfF]
        rw [ew, if_pos (show qo none = -1 from rfl)]
        exact hS_bind (c_failN h (k := 3) (by omega) (by omega)) (fun W Y h1 => hS_pure ⟨h1.1, h1.2.bk⟩)
  · rw [if_neg (by rw [show (3 : Int32) = Int32.ofNat (cKd 5) from rfl, hkd]; exact hk)]
    simp only [q56_g0, q1_c, hw15, Option.bind_some, if_true]
    cases a15 : aIs B n m 15 p with
    | true =>
      have ew : bWho B n m Q p = .ok none := by
        unfold bWho
        rw [a15, if_pos rfl]
      rw [ew, if_neg qzt]
      exact B_139 hN h hc hl ew (fun f e => by cases e) (fun l2 e => by cases e)
    | false =>
      have ew : bWho B n m Q p = .error (1, (tTok B n m p).2.1) := by
        unfold bWho
        rw [a15, if_neg (by decide), if_neg hk]
      rw [ew, if_pos qzf]
      exact hS_bind (c_failN h (k := 1) (by omega) (by omega)) (fun W Y h1 => hS_pure ⟨h1.1, h1.2.bk⟩)
/-- what reading a book comes to -/
def bEnd (B : Nat → Nat) (n m : Nat) (W : Nat → Nat → Int32) (Y : Nat → Nat → Int64) : Except (Nat × Nat) (List sC) → Prop
  | .error (k, pl) => cFl B n m W Y k pl
  | .ok cs => (∃ p, cN B n m W Y p) ∧ bCo W cs
theorem bWho_1 (h : (tTok B n m p).1 = 1) : bWho B n m Q p = .error (1, (tTok B n m p).2.1) := by
  unfold bWho aIs
  rw [if_neg (by rw [decide_eq_false (by omega)]; decide), if_neg (by omega)]
theorem B_readL (hN : 3000 ≤ N) : ∀ k j V X p cs, cN B n m V X p → bCo V cs → cs.length ≤ 40 → bQ V X Q → n - p < k → 60 ≤ j + cs.length → hS g (fX1_read_17 N 216 j (qH g V X) 56 (Int32.ofNat cs.length)) (fun W Y => bEnd B n m W Y (bRd B n m Q k p cs) ∧ bFr V W X Y) := by
  intro k
  induction k with
  | zero => intro j V X p cs h hc hl hq h1 h2; omega
  | succ k ih =>
    intro j V X p cs h hc hl hq h1 h2
    obtain ⟨j, rfl⟩ := Nat.exists_eq_succ_of_ne_zero (n := j) (by omega)
    have hp := h.2.2.2.2.1
    unfold fX1_read_17
    rw [if_neg (by rw [show (400 : Int32) = Int32.ofNat 400 from rfl, qle (by omega) (by omega)]; omega), q56_g0, Option.bind_some, q1_c, Option.bind_some]
    refine hS_zbd (C_go (a := .ok p) h) (fun W Y r hr => ?_)
    obtain ⟨rfl, r2, r3⟩ := hr
    rw [rdGo_ok] at r2 ⊢
    unfold bRd
    by_cases h0 : (tTok B n m p).1 = 0
    · rw [if_pos h0] at r2 ⊢
      rw [if_pos h0, if_pos qzf]
      exact hS_pure ⟨⟨⟨p, r2⟩, hc.cg (fun b b1 b2 => r3.1 b (by omega))⟩, r3.bk⟩
    rw [if_neg h0] at r2 ⊢
    rw [if_neg h0]
    by_cases h1k : (tTok B n m p).1 = 1
    · rw [if_pos h1k] at r2 ⊢
      rw [if_pos qzf]
      have el : bLine B n m Q cs.length p = .error (1, (tTok B n m p).2.1) := by
        unfold bLine
        rw [bWho_1 h1k]
      rw [el]
      exact hS_pure ⟨r2, r3.bk⟩
    rw [if_neg h1k] at r2 ⊢
    rw [if_neg qzt, q56_c, Option.bind_some]
    refine hS_bind (B_line hN r2 (hc.cg (fun b b1 b2 => r3.1 b (by omega))) hl (hq.fr r3.bk)) (fun W2 Y2 h2l => ?_)
    rw [q56_g0, Option.bind_some, q1_c, Option.bind_some]
    cases hb : bLine B n m Q cs.length p with
    | error e =>
      obtain ⟨kk, pl⟩ := e
      rw [hb] at h2l
      refine hS_bind (C_sgn hN (a := .error (kk, pl)) h2l.1 (c := 59) (by omega)) (fun W3 Y3 h3 => ?_)
      obtain ⟨j, rfl⟩ := Nat.exists_eq_succ_of_ne_zero (n := j) (by omega)
      unfold fX1_read_17
      rw [l1, qadd, if_neg (by rw [show (400 : Int32) = Int32.ofNat 400 from rfl, qle (by omega) (by omega)]; omega), q56_g0, Option.bind_some, q1_c, Option.bind_some]
      refine hS_zbd (C_go (a := .error (kk, pl)) h3.1) (fun W4 Y4 r h4 => ?_)
      rw [h4.1, if_pos (show qz (rdGo B n m (.error (kk, pl))).1 = 0 from rfl)]
      exact hS_pure ⟨h4.2.1, (r3.bk.tr h2l.2).tr (h3.2.tr h4.2.2).bk⟩
    | ok v =>
      obtain ⟨p2, c⟩ := v
      rw [hb] at h2l
      obtain ⟨y1, y2, y3⟩ := h2l
      obtain ⟨z1, z2, z3, z4⟩ := bLine_nx hp hb
      refine hS_bind (C_sgn hN (a := .ok p2) y1 (c := 59) (by omega)) (fun W3 Y3 h3 => ?_)
      have ea : rdSgn B n m 59 (.ok p2) = aP (aSgn B n m 59 p2) := rfl
      rw [ea] at h3
      dsimp only
      have hff := (r3.bk.tr y3).tr h3.2.bk
      have hc3 : bCo W3 (cs ++ [c]) := y2.cg (fun b b1 b2 => h3.2.1 b (by omega))
      cases hs : aSgn B n m 59 p2 with
      | error e =>
        obtain ⟨kk, pl⟩ := e
        rw [hs] at h3
        obtain ⟨j, rfl⟩ := Nat.exists_eq_succ_of_ne_zero (n := j) (by omega)
        unfold fX1_read_17
        rw [l1, qadd, if_neg (by rw [show (400 : Int32) = Int32.ofNat 400 from rfl, qle (by omega) (by omega)]; omega), q56_g0, Option.bind_some, q1_c, Option.bind_some]
        refine hS_zbd (C_go (a := .error (kk, pl)) h3.1) (fun W4 Y4 r h4 => ?_)
        rw [h4.1, if_pos (show qz (rdGo B n m (.error (kk, pl))).1 = 0 from rfl)]
        exact hS_pure ⟨h4.2.1, hff.tr h4.2.2.bk⟩
      | ok v =>
        obtain ⟨v1, p3⟩ := v
        rw [hs] at h3
        have hnx := aSgn_nx hs
        have htk := tok_nx (B := B) (m := m) z2 (by omega)
        rw [show Int32.ofNat cs.length + 1 = Int32.ofNat (cs ++ [c]).length by rw [l1, qadd, len_s]]
        exact hS_mono (ih j W3 Y3 p3 (cs ++ [c]) h3.1 hc3 (by rw [len_s]; omega) (hq.fr hff) (by omega) (by rw [len_s]; omega)) (fun W4 Y4 h4 => ⟨h4.1, hff.tr h4.2⟩)
theorem B_read (hN : 3000 ≤ N) (hB : cB V B n) (hW : cW X) (hq : bQ V X Q) : hS g (fX1_read N 216 (qH g V X) 56) (fun W Y => bEnd B n 400 W Y (bRd B n 400 Q (n + 1) 0 []) ∧ bFr V W X Y) := by
  unfold fX1_read
  rw [q56_p2, Option.bind_some, q56_g0, Option.bind_some, q1_c, Option.bind_some]
  have hf0 : bFr V (qw V 56 (upd (V 56) 2 0)) X X := ⟨fun b b1 b2 => qw_n (by omega), fun _ _ => rfl⟩
  refine hS_bind (c_begin hN (⟨by rw [qw_n (by decide)]; exact hB.1, hB.2.1, fun i hi => by rw [qw_n (by decide)]; exact hB.2.2 i hi⟩ : cB (qw V 56 (upd (V 56) 2 0)) B n) hW (m := 400) (by omega)) (fun W Y hx => ?_)
  obtain ⟨x1, x2⟩ := hx
  have hf1 := hf0.tr x2.bk
  have hc : bCo W [] := ⟨by rw [x2.1 56 (by decide), qw_s, upd_s]; rfl, fun i c hi => by rw [List.getElem?_nil] at hi; cases hi⟩
  exact hS_mono (B_readL hN (n + 1) N W Y 0 [] x1 hc (Nat.zero_le _) (hq.fr hf1) (by omega) (by omega)) (fun W2 Y2 h2 => ⟨h2.1, hf1.tr h2.2⟩)
end QBA
