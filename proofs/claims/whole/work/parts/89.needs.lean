/-! tokens needed: the class -/
section QN9
variable {g : zF} {V W U K : Nat → Nat → Int32} {X Y Z : Nat → Nat → Int64} {N n m p k pl : Nat} {s t u B : Nat → Nat}
theorem tTk_b {q : Nat} (h : 2 ≤ (tTk B n m q).1) : q ≤ n ∧ q < (tTk B n m q).2.2.1 ∧ (tTk B n m q).2.2.1 ≤ n ∧ (tTk B n m q).2.1 = q := by
  unfold tTk at h ⊢
  split at h
  · exact absurd h (show ¬ 2 ≤ 1 by decide)
  rename_i h1
  rw [if_neg h1]
  split at h
  · exact absurd h (show ¬ 2 ≤ 0 by decide)
  rename_i h2
  rw [if_neg h2]
  have hr := tRn_le B (n - q) q
  split at h
  · rename_i h3
    rw [if_pos h3]
    exact ⟨by omega, by show q < q + 1; omega, by show q + 1 ≤ n; omega, rfl⟩
  · rename_i h3
    rw [if_neg h3]
    split at h
    · rename_i h4
      rw [if_pos h4]
      exact ⟨by omega, by show q < q + _; omega, by show q + _ ≤ n; omega, rfl⟩
    · rename_i h4
      rw [if_neg h4]
      split at h
      · rename_i h5
        rw [if_pos h5]
        exact ⟨by omega, by show q < q + _; omega, by show q + _ ≤ n; omega, rfl⟩
      · rename_i h5
        rw [if_neg h5]
        exact ⟨by omega, by show q < q + _; omega, by show q + _ ≤ n; omega, rfl⟩
theorem tTk_p {q : Nat} (hq : q ≤ n) : (tTk B n m q).2.1 ≤ n + m := by
  unfold tTk
  split
  · show m ≤ _; omega
  split
  · show q ≤ _; omega
  split
  · show q ≤ _; omega
  split
  · show q ≤ _; omega
  split
  · show q ≤ _; omega
  · show q ≤ _; omega
/-- reading goes on: no fault, the next token is the one at p -/
def cN (B : Nat → Nat) (n m : Nat) (V : Nat → Nat → Int32) (X : Nat → Nat → Int64) (p : Nat) : Prop := cB V B n ∧ cW X ∧ V 1 3 = Int32.ofNat m ∧ m ≤ 940 ∧ p ≤ n ∧ V 1 10 = Int32.ofNat 0 ∧ V 1 11 = Int32.ofNat 0 ∧ cT V X (tTok B n m p)
/-- .. a fault was found -/
def cFl (B : Nat → Nat) (n m : Nat) (V : Nat → Nat → Int32) (X : Nat → Nat → Int64) (k pl : Nat) : Prop := cB V B n ∧ cW X ∧ V 1 3 = Int32.ofNat m ∧ 1 ≤ k ∧ k < 10 ∧ pl < 2000 ∧ V 1 10 = Int32.ofNat k ∧ V 1 11 = Int32.ofNat pl ∧ V 1 5 = Int32.ofNat 0
/-- all but the tape as it was -/
def cFr (V W : Nat → Nat → Int32) (X Y : Nat → Nat → Int64) : Prop := (∀ b, b ≠ 1 → W b = V b) ∧ ∀ b, b ≠ 1 → Y b = X b
theorem cFr.rf : cFr V V X X := ⟨fun _ _ => rfl, fun _ _ => rfl⟩
theorem cFr.tr (h : cFr V W X Y) (h2 : cFr W U Y Z) : cFr V U X Z := ⟨fun b hb => by rw [h2.1 b hb, h.1 b hb], fun b hb => by rw [h2.2 b hb, h.2 b hb]⟩
theorem cN.adv (hN : 3000 ≤ N) (h : cN B n m V X p) (hk : 2 ≤ (tTok B n m p).1) (hk5 : (tTok B n m p).1 ≤ 5) : hS g (fX9_advance N 216 (qH g V X) 1) (fun W Y => cN B n m W Y (tTok B n m p).2.2.1 ∧ W 1 7 = Int32.ofNat (tTok B n m p).2.1 ∧ cFr V W X Y) := by
  obtain ⟨hB, hW, h3, hm, hp, h10, h11, hT⟩ := h
  obtain ⟨b1, b2, b3, b4⟩ := tTk_b (B := B) (n := n) (m := m) hk
  obtain ⟨t1, t2, t3, t4⟩ := id hT
  refine hS_mono (c_advance hN hB hW h3 hm (t3 ⟨hk, hk5⟩) b3 t2) (fun W Y h => ?_)
  obtain ⟨a1, a2, a3, a4, a5, a6, a7, a8⟩ := h
  exact ⟨⟨⟨by rw [a3]; exact hB.1, hB.2.1, fun i hi => by rw [a7 2 (by decide)]; exact hB.2.2 i hi⟩, fun v hv => by rw [a8 3 (by decide)]; exact hW v hv, by rw [a4]; exact h3, hm, b3, by rw [a5]; exact h10, by rw [a6]; exact h11, a1⟩, a2, a7, a8⟩
theorem c_failAtN (h : cN B n m V X p) {k pl : Nat} (hk : 1 ≤ k) (hk2 : k < 10) (hpl : pl < 2000) : hS g (fX9_failAt N 216 (qH g V X) 1 (Int32.ofNat k) (Int32.ofNat pl)) (fun W Y => cFl B n m W Y k pl ∧ cFr V W X Y) := by
  obtain ⟨hB, hW, h3, hm, hp, h10, h11, hT⟩ := h
  unfold fX9_failAt fX9_failAt_17
  rw [q1_g10, Option.bind_some, h10, if_pos (by decide), q1_p10, Option.bind_some, q1_p11, Option.bind_some, qw_qw, qw_s, q1_p5, Option.bind_some, qw_qw, qw_s]
  refine ⟨_, X, rfl, ⟨⟨by rw [qw_s, upd_n (by decide), upd_n (by decide), upd_n (by decide)]; exact hB.1, hB.2.1, fun i hi => by rw [qw_n (by decide)]; exact hB.2.2 i hi⟩, hW, by rw [qw_s, upd_n (by decide), upd_n (by decide), upd_n (by decide)]; exact h3, hk, hk2, hpl, by rw [qw_s, upd_n (by decide), upd_n (by decide), upd_s], by rw [qw_s, upd_n (by decide), upd_s], by rw [qw_s, upd_s]; rfl⟩, fun b hb => qw_n hb, fun _ _ => rfl⟩
theorem c_failAtF {k0 pl0 : Nat} (h : cFl B n m V X k0 pl0) {k pl : Int32} : hS g (fX9_failAt N 216 (qH g V X) 1 k pl) (fun W Y => cFl B n m W Y k0 pl0 ∧ cFr V W X Y) := by
  obtain ⟨hB, hW, h3, hk, hk2, hpl, h10, h11, h5⟩ := h
  unfold fX9_failAt fX9_failAt_17
  rw [q1_g10, Option.bind_some, h10, if_neg (by rw [l0, qeq (by omega) (by omega)]; omega), q1_p5, Option.bind_some]
  refine ⟨_, X, rfl, ⟨⟨by rw [qw_s, upd_n (by decide)]; exact hB.1, hB.2.1, fun i hi => by rw [qw_n (by decide)]; exact hB.2.2 i hi⟩, hW, by rw [qw_s, upd_n (by decide)]; exact h3, hk, hk2, hpl, by rw [qw_s, upd_n (by decide)]; exact h10, by rw [qw_s, upd_n (by decide)]; exact h11, by rw [qw_s, upd_s]; rfl⟩, fun b hb => qw_n hb, fun _ _ => rfl⟩
theorem tTok_p (hm : m ≤ 940) (hn : n ≤ 940) (hp : p ≤ n) : (tTok B n m p).2.1 < 2000 := by
  have h1 := tSk_le B (n - p) p
  have := tTk_p (B := B) (n := n) (m := m) (q := tSk B (n - p) p) (by omega)
  unfold tTok
  omega
theorem c_failN (h : cN B n m V X p) {k : Nat} (hk : 1 ≤ k) (hk2 : k < 10) : hS g (fX9_fail N 216 (qH g V X) 1 (Int32.ofNat k)) (fun W Y => cFl B n m W Y k (tTok B n m p).2.1 ∧ cFr V W X Y) := by
  obtain ⟨hB, hW, h3, hm, hp, h10, h11, hT⟩ := id h
  unfold fX9_fail
  rw [q1_g6, Option.bind_some, hT.2.1, q1_c, Option.bind_some]
  exact hS_bind (c_failAtN h hk hk2 (tTok_p hm hB.2.1 hp)) (fun W Y h => hS_pure h)
theorem c_failF {k0 pl0 : Nat} (h : cFl B n m V X k0 pl0) {k : Int32} : hS g (fX9_fail N 216 (qH g V X) 1 k) (fun W Y => cFl B n m W Y k0 pl0 ∧ cFr V W X Y) := by
  unfold fX9_fail
  rw [q1_g6, Option.bind_some, q1_c, Option.bind_some]
  exact hS_bind (c_failAtF h) (fun W Y h => hS_pure h)
/-- what reading comes to: a value and where to go on, or a fault and its place -/
abbrev aR := Except (Nat × Nat) (Nat × Nat)
def aRel (B : Nat → Nat) (n m : Nat) (V : Nat → Nat → Int32) (X : Nat → Nat → Int64) (q : Nat) (d : Int32) (a : aR) (W : Nat → Nat → Int32) (Y : Nat → Nat → Int64) (r : Int32) : Prop := (match a with
  | .ok (v, p) => r = Int32.ofNat v ∧ cN B n m W Y p ∧ W 1 7 = Int32.ofNat q
  | .error (k, pl) => r = d ∧ cFl B n m W Y k pl) ∧ cFr V W X Y
def aNum (B : Nat → Nat) (n m lo hi p : Nat) : aR := if (tTok B n m p).1 = 3 then (if lo ≤ (tTok B n m p).2.2.2.1 ∧ (tTok B n m p).2.2.2.1 ≤ hi then .ok ((tTok B n m p).2.2.2.1, (tTok B n m p).2.2.1) else .error (2, (tTok B n m p).2.1)) else .error (1, (tTok B n m p).2.1)
def aSgn (B : Nat → Nat) (n m c p : Nat) : aR := if (tTok B n m p).1 = 2 ∧ (tTok B n m p).2.2.2.1 = c then .ok (0, (tTok B n m p).2.2.1) else .error (1, (tTok B n m p).2.1)
def aSide (B : Nat → Nat) (n m p : Nat) : aR := if (tTok B n m p).1 = 4 ∧ (tTok B n m p).2.2.2.1 < 4 then .ok ((tTok B n m p).2.2.2.1, (tTok B n m p).2.2.1) else .error (1, (tTok B n m p).2.1)
theorem cKd_lt (k : Nat) : cKd k < 6 := by
  have h : ∀ k, k < 7 → cKd k < 6 := by decide
  by_cases hk : k < 7
  · exact h k hk
  · unfold cKd
    rw [List.getD_eq_getElem?_getD, List.getElem?_eq_none (by show 7 ≤ k; omega)]
    decide
theorem tTk_k {q : Nat} : (tTk B n m q).1 < 7 := by
  unfold tTk
  split
  · show 1 < 7; decide
  split
  · show 0 < 7; decide
  split
  · dsimp only; split <;> decide
  split
  · dsimp only; split <;> decide
  split
  · show 3 < 7; decide
  · show 6 < 7; decide
theorem tTok_k : (tTok B n m p).1 < 7 := tTk_k
theorem cKd_e : ∀ a, a < 7 → ∀ b, b < 7 → 2 ≤ a → a < 6 → cKd b = cKd a → b = a := by decide
theorem tNm_b5 {n q k : Nat} (hB : cB V B n) (ha : tAll kDg B q k = true) (hk : k ≤ 3) (hq : q + k ≤ n) : tNm B q k < 100000 := by
  have hb : ∀ i, i < k → B (q + i) < 256 := fun i hi => (hB.2.2 _ (by omega)).1
  have : k = 0 ∨ k = 1 ∨ k = 2 ∨ k = 3 := by omega
  rcases this with rfl | rfl | rfl | rfl
  · unfold tNm; omega
  · have b0 := hb 0 (by omega)
    simp only [tNm]
    omega
  · have b0 := hb 0 (by omega)
    have b1 := hb 1 (by omega)
    simp only [tNm]
    omega
  · have b0 := hb 0 (by omega)
    have b1 := hb 1 (by omega)
    have b2 := hb 2 (by omega)
    simp only [tNm]
    omega
theorem tSgn_lt (hB : cB V B n) (hp : p ≤ n) (hk : (tTok B n m p).1 = 2) : (tTok B n m p).2.2.2.1 < 1000 := by
  have hs := tSk_le B (n - p) p
  unfold tTok at hk ⊢
  generalize tSk B (n - p) p = q at hk hs ⊢
  unfold tTk at hk ⊢
  split at hk
  · exact absurd hk (show ¬ 1 = 2 by decide)
  rename_i h1
  rw [if_neg h1]
  split at hk
  · exact absurd hk (show ¬ 0 = 2 by decide)
  rename_i h2
  rw [if_neg h2]
  split at hk
  · rename_i h3
    rw [if_pos h3]
    have := (hB.2.2 q (by omega)).1
    show B q < 1000
    omega
  rename_i h3
  split at hk
  · dsimp only at hk
    split at hk <;> exact absurd hk (by decide)
  rename_i h4
  split at hk
  · exact absurd hk (show ¬ 3 = 2 by decide)
  · exact absurd hk (show ¬ 6 = 2 by decide)
theorem tWord_lt (hk : (tTok B n m p).1 = 4) : (tTok B n m p).2.2.2.1 < 27 := by
  unfold tTok at hk ⊢
  generalize tSk B (n - p) p = q at hk ⊢
  unfold tTk at hk ⊢
  split at hk
  · exact absurd hk (show ¬ 1 = 4 by decide)
  rename_i h1
  rw [if_neg h1]
  split at hk
  · exact absurd hk (show ¬ 0 = 4 by decide)
  rename_i h2
  rw [if_neg h2]
  split at hk
  · dsimp only at hk
    split at hk <;> exact absurd hk (by decide)
  rename_i h3
  rw [if_neg h3]
  split at hk
  · rename_i h4
    rw [if_pos h4]
    dsimp only at hk ⊢
    cases hx : tIdx (tWd B q (tRn B (n - q) q)) with
    | none => rw [hx] at hk; exact absurd hk (by decide)
    | some v => exact tIdx_lt hx
  rename_i h4
  split at hk
  · exact absurd hk (show ¬ 3 = 4 by decide)
  · exact absurd hk (show ¬ 6 = 4 by decide)
theorem cN.kd (h : cN B n m V X p) {a : Nat} (ha : 2 ≤ a) (ha6 : a < 6) : (V 1 5 = Int32.ofNat (cKd a)) = ((tTok B n m p).1 = a) := by
  have hk := tTok_k (B := B) (n := n) (m := m) (p := p)
  have c1 := cKd_lt (tTok B n m p).1
  have c2 := cKd_lt a
  rw [h.2.2.2.2.2.2.2.1, qeq (by omega) (by omega)]
  exact propext ⟨fun e => cKd_e a (by omega) _ hk ha ha6 e, fun e => by rw [e]⟩
theorem c_needNumN (hN : 3000 ≤ N) (h : cN B n m V X p) {lo hi : Nat} (hlo : lo < 1000) (hhi : hi < 1000) : hV g (fX9_needNumber N 216 (qH g V X) 1 (Int32.ofNat lo) (Int32.ofNat hi)) (aRel B n m V X (tTok B n m p).2.1 (Int32.ofNat lo) (aNum B n m lo hi p)) := by
  have hkd := h.kd (a := 3) (by omega) (by omega)
  have hT := h.2.2.2.2.2.2.2
  unfold fX9_needNumber fX9_needNumber_31 aNum
  rw [q1_g5, Option.bind_some]
  by_cases hk : (tTok B n m p).1 = 3
  · rw [if_pos (by rw [show (4 : Int32) = Int32.ofNat (cKd 3) from rfl, hkd]; exact hk), if_pos hk]
    have hv := hT.2.2.2.1 ⟨by omega, by omega⟩
    have hv2 : (tTok B n m p).2.2.2.1 < 100000 := by
      have := hk
      unfold tTok tTk at this ⊢
      split at this
      · exact absurd this (show ¬ 1 = 3 by decide)
      rename_i h1
      rw [if_neg h1]
      split at this
      · exact absurd this (show ¬ 0 = 3 by decide)
      rename_i h2
      rw [if_neg h2]
      split at this
      · dsimp only at this
        split at this <;> exact absurd this (by decide)
      rename_i h3
      rw [if_neg h3]
      split at this
      · dsimp only at this
        split at this <;> exact absurd this (by decide)
      rename_i h4
      rw [if_neg h4]
      split at this
      · rename_i h5
        rw [if_pos h5]
        exact tNm_b5 h.1 h5.1 h5.2 (by have := tSk_le B (n - p) p; have := h.2.2.2.2.1; have := tRn_le B (n - tSk B (n - p) p) (tSk B (n - p) p); omega)
      · exact absurd this (show ¬ 6 = 3 by decide)
    rw [q1_g8, Option.bind_some, hv]
    by_cases h1 : (tTok B n m p).2.2.2.1 < lo
    · rw [if_pos (by rw [qlt (by omega) (by omega)]; exact h1), if_neg (by omega), q1_c, Option.bind_some]
      exact hV_bind (c_failN h (k := 2) (by omega) (by omega)) (fun W Y hx => hV_pure ⟨⟨rfl, hx.1⟩, hx.2⟩)
    · rw [if_neg (by rw [qlt (by omega) (by omega)]; exact h1), Option.bind_some]
      by_cases h2 : (tTok B n m p).2.2.2.1 ≤ hi
      · rw [if_pos (by rw [qle (by omega) (by omega)]; exact h2), if_pos ⟨by omega, h2⟩, Option.bind_some, q1_c, Option.bind_some]
        exact hV_bind (cN.adv hN h (by omega) (by omega)) (fun W Y hx => hV_pure ⟨⟨rfl, hx.1, hx.2.1⟩, hx.2.2⟩)
      · rw [if_neg (by rw [qle (by omega) (by omega)]; exact h2), if_neg (fun e => h2 e.2), q1_c, Option.bind_some]
        exact hV_bind (c_failN h (k := 2) (by omega) (by omega)) (fun W Y hx => hV_pure ⟨⟨rfl, hx.1⟩, hx.2⟩)
  · rw [if_neg (by rw [show (4 : Int32) = Int32.ofNat (cKd 3) from rfl, hkd]; exact hk), if_neg hk, q1_c, Option.bind_some]
    exact hV_bind (c_failN h (k := 1) (by omega) (by omega)) (fun W Y hx => hV_pure ⟨⟨rfl, hx.1⟩, hx.2⟩)
theorem c_needNumF (h : cFl B n m V X k pl) {lo : Int32} {hi : Int32} : hV g (fX9_needNumber N 216 (qH g V X) 1 lo hi) (aRel B n m V X 0 lo (.error (k, pl))) := by
  unfold fX9_needNumber
  rw [q1_g5, Option.bind_some, h.2.2.2.2.2.2.2.2, if_neg (by decide), q1_c, Option.bind_some]
  exact hV_bind (c_failF h) (fun W Y hx => hV_pure ⟨⟨rfl, hx.1⟩, hx.2⟩)
theorem c_needSgnN (hN : 3000 ≤ N) (h : cN B n m V X p) {c : Nat} (hc : c < 256) : hS g (fX9_needSign N 216 (qH g V X) 1 (Int32.ofNat c)) (fun W Y => aRel B n m V X (tTok B n m p).2.1 0 (aSgn B n m c p) W Y 0) := by
  have hkd := h.kd (a := 2) (by omega) (by omega)
  have hT := h.2.2.2.2.2.2.2
  unfold fX9_needSign fX9_isSign aSgn
  rw [q1_c, Option.bind_some, q1_g5, Option.bind_some]
  by_cases hk : (tTok B n m p).1 = 2
  · rw [if_pos (by rw [show (5 : Int32) = Int32.ofNat (cKd 2) from rfl, hkd]; exact hk)]
    have hv := hT.2.2.2.1 ⟨by omega, by omega⟩
    have hv2 : (tTok B n m p).2.2.2.1 < 1000 := tSgn_lt h.1 h.2.2.2.2.1 hk
    rw [q1_g8, Option.bind_some, hv]
    by_cases h1 : (tTok B n m p).2.2.2.1 = c
    · rw [if_pos (by rw [h1]), if_pos ⟨hk, h1⟩, show zbl (1 : Int32) = some (qz true) from rfl, Option.bind_some, if_neg qzt, Option.bind_some]
      exact hS_bind (cN.adv hN h (by omega) (by omega)) (fun W Y hx => hS_pure ⟨⟨rfl, hx.1, hx.2.1⟩, hx.2.2⟩)
    · rw [if_neg (by rw [qeq (by omega) (by omega)]; exact h1), if_neg (fun e => h1 e.2), show zbl (0 : Int32) = some (qz false) from rfl, Option.bind_some, if_pos qzf, Option.bind_some]
      exact hS_bind (c_failN h (k := 1) (by omega) (by omega)) (fun W Y hx => hS_pure ⟨⟨rfl, hx.1⟩, hx.2⟩)
  · rw [if_neg (by rw [show (5 : Int32) = Int32.ofNat (cKd 2) from rfl, hkd]; exact hk), if_neg (fun e => hk e.1), show zbl (0 : Int32) = some (qz false) from rfl, Option.bind_some, if_pos qzf, Option.bind_some]
    exact hS_bind (c_failN h (k := 1) (by omega) (by omega)) (fun W Y hx => hS_pure ⟨⟨rfl, hx.1⟩, hx.2⟩)
theorem c_needSgnF (h : cFl B n m V X k pl) {c : Int32} : hS g (fX9_needSign N 216 (qH g V X) 1 c) (fun W Y => aRel B n m V X 0 0 (.error (k, pl)) W Y 0) := by
  unfold fX9_needSign fX9_isSign
  rw [q1_c, Option.bind_some, q1_g5, Option.bind_some, h.2.2.2.2.2.2.2.2, if_neg (by decide), show zbl (0 : Int32) = some (qz false) from rfl, Option.bind_some, if_pos qzf, Option.bind_some]
  exact hS_bind (c_failF h) (fun W Y hx => hS_pure ⟨⟨rfl, hx.1⟩, hx.2⟩)
theorem c_needSideN (hN : 3000 ≤ N) (h : cN B n m V X p) : hV g (fX9_needSide N 216 (qH g V X) 1) (aRel B n m V X (tTok B n m p).2.1 0 (aSide B n m p)) := by
  have hkd := h.kd (a := 4) (by omega) (by omega)
  have hT := h.2.2.2.2.2.2.2
  unfold fX9_needSide fX9_needSide_18 fX11_isSide aSide
  rw [q1_g5, Option.bind_some]
  by_cases hk : (tTok B n m p).1 = 4
  · rw [if_pos (by rw [show (2 : Int32) = Int32.ofNat (cKd 4) from rfl, hkd]; exact hk)]
    have hv := hT.2.2.2.1 ⟨by omega, by omega⟩
    have hv2 : (tTok B n m p).2.2.2.1 < 27 := tWord_lt hk
    rw [q1_g8, Option.bind_some, hv, if_neg (Int32.ofNat_not_neg (by omega))]
    by_cases h1 : (tTok B n m p).2.2.2.1 < 4
    · rw [if_neg (by rw [show (4 : Int32) = Int32.ofNat 4 from rfl, qle (by omega) (by omega)]; omega), if_pos ⟨hk, h1⟩, show zbl (1 : Int32) = some (qz true) from rfl, Option.bind_some, if_neg qzt, Option.bind_some, q1_c, Option.bind_some]
      exact hV_bind (cN.adv hN h (by omega) (by omega)) (fun W Y hx => hV_pure ⟨⟨rfl, hx.1, hx.2.1⟩, hx.2.2⟩)
    · rw [if_pos (by rw [show (4 : Int32) = Int32.ofNat 4 from rfl, qle (by omega) (by omega)]; omega), if_neg (fun e => h1 e.2), show zbl (0 : Int32) = some (qz false) from rfl, Option.bind_some, if_pos qzf, q1_c, Option.bind_some]
      exact hV_bind (c_failN h (k := 1) (by omega) (by omega)) (fun W Y hx => hV_pure ⟨⟨rfl, hx.1⟩, hx.2⟩)
  · rw [if_neg (by rw [show (2 : Int32) = Int32.ofNat (cKd 4) from rfl, hkd]; exact hk), if_neg (fun e => hk e.1), q1_c, Option.bind_some]
    exact hV_bind (c_failN h (k := 1) (by omega) (by omega)) (fun W Y hx => hV_pure ⟨⟨rfl, hx.1⟩, hx.2⟩)
theorem c_needSideF (h : cFl B n m V X k pl) : hV g (fX9_needSide N 216 (qH g V X) 1) (aRel B n m V X 0 0 (.error (k, pl))) := by
  unfold fX9_needSide fX9_needSide_18
  rw [q1_g5, Option.bind_some, h.2.2.2.2.2.2.2.2, if_neg (by decide), q1_c, Option.bind_some]
  exact hV_bind (c_failF h) (fun W Y hx => hV_pure ⟨⟨rfl, hx.1⟩, hx.2⟩)
end QN9
