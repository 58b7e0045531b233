/-! who should look away: blind -/
section QBL
variable {g : zF} {V W K : Nat → Nat → Int32} {X : Nat → Nat → Int64} {N : Nat} {s t u : Nat → Nat}
def pop (v : Nat) : Nat := v % 2 + v / 2 % 2 + v / 4 % 2 + v / 8 % 2 + v / 16 % 2 + v / 32 % 2
theorem c_bits {f : zF} {v : Nat} (hv : v < 64) : fJ6_bitCount_0f7a4 N 216 f (Int32.ofNat v) = some (Int32.ofNat (pop v)) := by
  have h : ∀ v, v < 64 → fJ6_bitCount_0f7a4 0 216 zf0 (Int32.ofNat v) = some (Int32.ofNat (pop v)) := by decide +kernel
  exact h v hv
theorem m_bits4 {f : zF} : ∀ v, v < 64 → ∀ n k, v < k → fX12_bits_4 N 216 f k (Int32.ofNat n) (Int32.ofNat v) = some (Int32.ofNat (n + pop v)) := by
  intro v
  induction v using Nat.strongRecOn with
  | _ v ih =>
    intro hv n k hk
    obtain ⟨k, rfl⟩ : ∃ j, k = j + 1 := ⟨k - 1, by omega⟩
    unfold fX12_bits_4
    by_cases h0 : v = 0
    · subst h0
      rw [if_pos (by decide)]; rfl
    · have hd : ∀ v, v < 64 → v ≠ 0 → v &&& (v - 1) < v ∧ pop v = pop (v &&& (v - 1)) + 1 := by decide +kernel
      obtain ⟨a1, a2⟩ := hd v hv h0
      rw [if_neg (by rw [qlit0, qeq (by omega) (by omega)]; exact h0), l1', qadd, qsub (by omega), qand, ih _ a1 (by omega) (n + 1) k (by omega), a2]
      congr 2
      omega
theorem m_bits (hN : 3000 ≤ N) {f : zF} {v : Nat} (hv : v < 64) : fX12_bits N 216 f (Int32.ofNat v) = some (Int32.ofNat (pop v)) := by
  unfold fX12_bits
  have := m_bits4 (N := N) (f := f) v hv 0 N (by omega)
  rw [Nat.zero_add] at this
  exact this
theorem pop_le {L v : Nat} (hL : L ≤ 5) (hv : v < 2 ^ L) : pop v ≤ L := by
  have h : ∀ L, L < 6 → ∀ v, v < 2 ^ L → pop v ≤ L := by decide +kernel
  exact h L (by omega) v hv
theorem pop_6 {v : Nat} : pop v ≤ 6 := by unfold pop; omega
def isBest (ok : Nat → Bool) (M : Nat) (o : Option Nat) : Prop := match o with
  | none => ∀ v, v < M → ok v = false
  | some b => b < M ∧ ok b = true ∧ ∀ v, v < M → ok v = true → pop b < pop v ∨ (pop b = pop v ∧ b ≤ v)
theorem isBest_u {ok : Nat → Bool} {M : Nat} {o1 o2 : Option Nat} (h1 : isBest ok M o1) (h2 : isBest ok M o2) : o1 = o2 := by
  cases o1 with
  | none =>
    cases o2 with
    | none => rfl
    | some b => have := h1 b h2.1; rw [h2.2.1] at this; cases this
  | some a =>
    cases o2 with
    | none => have := h2 a h1.1; rw [h1.2.1] at this; cases this
    | some b =>
      have e1 := h1.2.2 b h2.1 h2.2.1
      have e2 := h2.2.2 a h1.1 h1.2.1
      rw [show a = b by omega]
/-- the class's way: by how many, then which -/
def cBest (ok : Nat → Bool) (M : Nat) : Nat → Nat → Option Nat
  | _, 0 => none
  | many, m + 1 => match qfnd (fun v => decide (pop v = many) && ok v) 0 M with
    | some b => some b
    | none => cBest ok M (many + 1) m
theorem qfnd_first {P : Nat → Bool} : ∀ n i k, qfnd P i n = some k → ∀ v, i ≤ v → v < k → P v = false := by
  intro n
  induction n with
  | zero => intro i k h; cases h
  | succ n ih =>
    intro i k h v h1 h2
    unfold qfnd at h
    split at h
    · cases h; omega
    · rename_i hp
      by_cases e : v = i
      · subst e; simpa using hp
      · exact ih (i + 1) k h v (by omega) h2
theorem cBest_ok {ok : Nat → Bool} {L : Nat} (hL : L ≤ 5) : ∀ m many, many + m = L + 1 → (∀ v, v < 2 ^ L → ok v = true → many ≤ pop v) → isBest ok (2 ^ L) (cBest ok (2 ^ L) many m) := by
  intro m
  induction m with
  | zero =>
    intro many h h2 v hv
    cases e : ok v with
    | false => rfl
    | true => have := h2 v hv e; have := pop_le hL hv; omega
  | succ m ih =>
    intro many h h2
    unfold cBest
    cases e : qfnd (fun v => decide (pop v = many) && ok v) 0 (2 ^ L) with
    | some b =>
      obtain ⟨e1, e2, e3⟩ := qfnd_lt e
      rw [Bool.and_eq_true] at e3
      have e4 := of_decide_eq_true e3.1
      refine ⟨by omega, e3.2, fun v hv hok => ?_⟩
      have h3 := h2 v hv hok
      by_cases e5 : pop v = many
      · refine Or.inr ⟨by omega, ?_⟩
        rcases Nat.lt_or_ge v b with h6 | h6
        · have := qfnd_first _ _ _ e v (by omega) h6
          rw [e5, hok] at this
          simp at this
        · exact h6
      · exact Or.inl (by omega)
    | none =>
      dsimp only
      refine ih (many + 1) (by omega) (fun v hv hok => ?_)
      have h3 := h2 v hv hok
      have := qfnd_none e v (by omega) (by omega)
      rw [hok, Bool.and_true] at this
      have := of_decide_eq_false this
      omega
/-- the reference's way -/
def mBest (ok : Nat → Bool) : Option Nat → Nat → Nat → Option Nat
  | o, _, 0 => o
  | o, i, j + 1 => mBest ok (if (match o with | none => true | some b => decide (pop i < pop b)) && ok i then some i else o) (i + 1) j
theorem mBest_ok {ok : Nat → Bool} : ∀ j i o, isBest ok i o → isBest ok (i + j) (mBest ok o i j) := by
  intro j
  induction j with
  | zero => intro i o h; exact h
  | succ j ih =>
    intro i o h
    unfold mBest
    rw [show i + (j + 1) = i + 1 + j by omega]
    refine ih (i + 1) _ ?_
    cases o with
    | none =>
      rw [Bool.true_and]
      split
      · rename_i hok
        refine ⟨by omega, hok, fun v hv h2 => ?_⟩
        by_cases e : v = i
        · subst e; exact Or.inr ⟨rfl, by omega⟩
        · have := h v (by omega); rw [h2] at this; cases this
      · rename_i hok
        intro v hv
        by_cases e : v = i
        · subst e; simpa using hok
        · exact h v (by omega)
    | some b =>
      obtain ⟨h1, h2, h3⟩ := h
      dsimp only
      split
      · rename_i hok
        rw [Bool.and_eq_true] at hok
        have hlt := of_decide_eq_true hok.1
        refine ⟨by omega, hok.2, fun v hv h4 => ?_⟩
        by_cases e : v = i
        · subst e; exact Or.inr ⟨rfl, by omega⟩
        · have := h3 v (by omega) h4; omega
      · rename_i hok
        refine ⟨by omega, h2, fun v hv h4 => ?_⟩
        by_cases e : v = i
        · subst e
          have hlt : ¬ pop v < pop b := by
            intro hlt
            apply hok
            rw [Bool.and_eq_true]
            exact ⟨decide_eq_true hlt, h4⟩
          omega
        · exact h3 v (by omega) h4
theorem best_same {ok : Nat → Bool} {L : Nat} (hL : L ≤ 5) : cBest ok (2 ^ L) 0 (L + 1) = mBest ok none 0 (2 ^ L) := by
  refine isBest_u (M := 2 ^ L) (cBest_ok hL (L + 1) 0 (by omega) (fun _ _ _ => by omega)) ?_
  have := mBest_ok (2 ^ L) 0 none (show isBest ok 0 none from fun v hv => by omega)
  rw [Nat.zero_add] at this
  exact this
def sBl (s : Nat → Nat) (v : Nat) : Nat → Nat := sU s 140 (s 140 ||| v)
def okB (s : Nat → Nat) (f c n v : Nat) : Bool := decide (v &&& s 140 = 0) && (sCm f c n 1 (sHour (sBl s v))).isSome
theorem sBl_ok (hW : sWF s) (hD : sWD s) {v : Nat} (hv : v < 2 ^ s 4) : sWF (sBl s v) ∧ sWD (sBl s v) ∧ sKp s (sBl s v) ∧ sBl s v 139 = s 139 := by
  have h := sWD.set hW hD (k := 140) (x := s 140 ||| v) (Or.inr (Or.inr (Or.inr ⟨rfl, Nat.or_lt_two_pow hD.2.1 hv⟩)))
  exact ⟨(sEq.u (by omega)).wf hW, h, sKp.u (by omega) (by omega), sU_n (by omega)⟩
theorem c_blind61 (hN : 3000 ≤ N) {c f n : Nat} (hc : c < 1000) (hf : f < s 3) (hn : n < 1000) : ∀ m i k W u, i + m = n → m < k → rF W 4 u → rS W 23 u → sWF u → sWD u → u 139 + m ≤ 50000 → u 3 = s 3 → ∃ W2, fX11_comesBlind_61 N 216 k (qH g W X) 0 (Int32.ofNat f) (Int32.ofNat c) (Int32.ofNat n) (Int32.ofNat i) = some (qH g W2 X, qz (sCm f c m (i + 1) (sHour u)).isSome) ∧ qfr W W2 23 8 := by
  intro m
  induction m with
  | zero =>
    intro i k W u hi hk hR hS hW hD h9 h3
    obtain ⟨k, rfl⟩ : ∃ j, k = j + 1 := ⟨k - 1, by omega⟩
    unfold fX11_comesBlind_61 sCm
    rw [if_pos (by rw [qle (by omega) (by omega)]; omega)]
    exact ⟨W, rfl, qfr.rf⟩
  | succ m ih =>
    intro i k W u hi hk hR hS hW hD h9 h3
    obtain ⟨k, rfl⟩ : ∃ j, k = j + 1 := ⟨k - 1, by omega⟩
    obtain ⟨⟨w0, w0b⟩, ⟨w1, w1b⟩, w2, w3, w4, w5, w95, w113, w101, w129, w134⟩ := id hW
    obtain ⟨a1, a2, a3, a4⟩ := sHour_wd hW hD (by omega)
    have hd := a1.2.2.1 f (by rw [a2 3 (by omega)]; omega)
    obtain ⟨W1, b1, b2, b3⟩ := e_goHour (g := g) (X := X) hN qS_23 qF_4 hR hS hW hD (by omega)
    have r24 : W1 24 f = Int32.ofNat (sHour u (141 + f)) := b2.2.1 f (by rw [a2 3 (by omega)]; omega)
    obtain ⟨W2, c1, c2⟩ := ih (i + 1) k W1 (sHour u) (by omega) (by omega) (a2.toF hW (hR.fr b3 (Or.inl (by omega)))) b2 (a2.wf hW) a1 (by omega) (by rw [a2 3 (by omega)]; exact h3)
    unfold fX11_comesBlind_61 sCm
    rw [if_neg (by rw [qle (by omega) (by omega)]; omega), q0_g3, Option.bind_some, c23_c, Option.bind_some, b1, Option.bind_some, q0_g3, Option.bind_some, c23_g2, Option.bind_some, c24_at (by omega), Option.bind_some, r24]
    by_cases h : sHour u (141 + f) = c
    · rw [if_pos (by rw [h]), if_pos h]
      exact ⟨W1, rfl, b3⟩
    · rw [if_neg (by rw [qeq (by omega) (by omega)]; exact h), if_neg h, l1', qadd, c1]
      exact ⟨W2, rfl, b3.tr c2⟩
theorem tb_mod {v l j : Nat} : (v % 2 ^ l).testBit j = (decide (j < l) && v.testBit j) := Nat.testBit_mod_two_pow v l j
theorem sBl_next {v l : Nat} (hs : s 140 < 2 ^ 5) (hb : (s 140).testBit l = false) (hv : v.testBit l = true) : sFlip (sBl s (v % 2 ^ l)) l = sBl s (v % 2 ^ (l + 1)) := by
  unfold sFlip sBl
  rw [sU_s]
  have e : (s 140 ||| v % 2 ^ l) ^^^ 2 ^ l = s 140 ||| v % 2 ^ (l + 1) := by
    apply Nat.eq_of_testBit_eq
    intro j
    rw [Nat.testBit_xor, Nat.testBit_or, Nat.testBit_or, tb_mod, tb_mod, Nat.testBit_two_pow]
    by_cases e1 : j = l
    · subst e1
      rw [hb, hv]
      simp
    · have e2 : ¬ l = j := fun h => e1 h.symm
      rw [decide_eq_false e2, Bool.xor_false]
      by_cases e3 : j < l
      · rw [decide_eq_true e3, decide_eq_true (show j < l + 1 by omega)]
      · rw [decide_eq_false e3, decide_eq_false (show ¬ j < l + 1 by omega)]
  rw [e]
  funext j
  unfold sU
  split <;> rfl
theorem sBl_skip {v l : Nat} (hv : v.testBit l = false) : v % 2 ^ l = v % 2 ^ (l + 1) := by
  apply Nat.eq_of_testBit_eq
  intro j
  rw [tb_mod, tb_mod]
  by_cases e1 : j = l
  · subst e1; rw [hv]; simp
  · by_cases e3 : j < l
    · rw [decide_eq_true e3, decide_eq_true (show j < l + 1 by omega)]
    · rw [decide_eq_false e3, decide_eq_false (show ¬ j < l + 1 by omega)]
theorem c_blind14 (hN : 3000 ≤ N) {c f n v : Nat} (hc : c < 1000) (hf : f < s 3) (hn : n < 1000) (hs : sOK s) (hv : v < 2 ^ s 4) : ∀ m l k W, l + m = s 4 → m < k → rF W 4 s → rS W 23 (sBl s (v % 2 ^ l)) → (∀ j, j < l → (v.testBit j && (s 140).testBit j) = false) → ∃ W2, fX11_comesBlind_14 N 216 k (qH g W X) 0 (Int32.ofNat f) (Int32.ofNat c) (Int32.ofNat n) (Int32.ofNat v) (Int32.ofNat l) = some (qH g W2 X, qz (okB s f c n v)) ∧ qfr W W2 23 8 := by
  obtain ⟨hW, hD, hG, h9⟩ := hs
  obtain ⟨⟨w0, w0b⟩, ⟨w1, w1b⟩, w2, w3, w4, w5, w95, w113, w101, w129, w134⟩ := id hW
  have f4 : ∀ W : Nat → Nat → Int32, rF W 4 s → W 4 4 = Int32.ofNat (s 4) := fun W h => h.2.2.2.2.1
  have h25 : 2 ^ s 4 ≤ 2 ^ 5 := Nat.pow_le_pow_right (by decide) w4
  have hs140 := hD.2.1
  intro m
  induction m with
  | zero =>
    intro l k W hi hk hR hS hj
    obtain ⟨k, rfl⟩ : ∃ j, k = j + 1 := ⟨k - 1, by omega⟩
    have hl : l = s 4 := by omega
    subst hl
    rw [Nat.mod_eq_of_lt hv] at hS
    have hz : v &&& s 140 = 0 := by
      apply Nat.eq_of_testBit_eq
      intro j
      rw [Nat.testBit_and, Nat.zero_testBit]
      rcases Nat.lt_or_ge j (s 4) with h | h
      · exact hj j h
      · rw [Nat.testBit_lt_two_pow (Nat.lt_of_lt_of_le hv (Nat.pow_le_pow_right (by decide) h)), Bool.false_and]
    obtain ⟨q1, q2, q3, q4⟩ := sBl_ok hW hD hv
    obtain ⟨W2, b1, b2⟩ := c_blind61 (g := g) (X := X) (s := s) hN hc hf hn n 0 N W (sBl s v) (by omega) (by omega) (q3.eq.toF hW hR) hS q1 q2 (by omega) (q3 3 (by omega))
    unfold fX11_comesBlind_14
    rw [c0_1, Option.bind_some, c4_g4, Option.bind_some, f4 W hR, if_pos (by rw [qle (by omega) (by omega)]; omega), l0, b1]
    unfold okB
    rw [decide_eq_true hz, Bool.true_and]
    exact ⟨W2, rfl, b2⟩
  | succ m ih =>
    intro l k W hi hk hR hS hj
    obtain ⟨k, rfl⟩ : ∃ j, k = j + 1 := ⟨k - 1, by omega⟩
    obtain ⟨q1, q2, q3, q4⟩ := sBl_ok hW hD (v := v % 2 ^ l) (Nat.lt_of_le_of_lt (Nat.mod_le _ _) hv)
    have ebit : v / 2 ^ l % 2 = (v.testBit l).toNat := (Nat.toNat_testBit _ _).symm
    have esh : sShut (sBl s (v % 2 ^ l)) l = ((s 140).testBit l).toNat := by
      rw [sShut_b]
      unfold sBl
      rw [sU_s, Nat.testBit_or, tb_mod, decide_eq_false (show ¬ l < l by omega), Bool.false_and, Bool.or_false]
    unfold fX11_comesBlind_14
    have hbc : zishr (Int32.ofNat v) (Int32.ofNat l) &&& 1 = Int32.ofNat (v / 2 ^ l % 2) := by
      rw [qshr (by omega) (by omega), l1', qand, show v / 2 ^ l &&& 1 = v / 2 ^ l % 2 from Nat.and_two_pow_sub_one_eq_mod _ 1]
    rw [c0_1, Option.bind_some, c4_g4, Option.bind_some, f4 W hR, if_neg (by rw [qle (by omega) (by omega)]; omega), hbc, ebit]
    unfold fX11_comesBlind_52
    cases hb : v.testBit l with
    | false =>
      obtain ⟨W2, b1, b2⟩ := ih (l + 1) k W (by omega) (by omega) hR (by rw [← sBl_skip hb]; exact hS) (fun j hj2 => by
        by_cases e : j = l
        · subst e; rw [hb, Bool.false_and]
        · exact hj j (by omega))
      rw [if_neg (by decide), l1', qadd, b1]
      exact ⟨W2, rfl, b2⟩
    | true =>
      obtain ⟨W1, e1, e2, e3⟩ := e_setEyes (g := g) (X := X) (N := N) qS_23 hS q1 (l := l) (v := 1) (by rw [q3 4 (by omega)]; omega) (by omega)
      rw [if_pos (by decide), q0_g3, Option.bind_some, c23_c, Option.bind_some, l1', e1, zbd_some]
      cases hsh : (s 140).testBit l with
      | true =>
        rw [esh, hsh, if_neg (by decide)]
        have hok : okB s f c n v = false := by
          unfold okB
          rw [decide_eq_false, Bool.false_and]
          intro h
          have := congrArg (fun x => x.testBit l) h
          try dsimp only at this
          rw [Nat.testBit_and, hb, hsh, Nat.zero_testBit] at this
          cases this
        rw [hok]
        exact ⟨W1, rfl, e3⟩
      | false =>
        rw [esh, hsh, if_neg (by decide)] at e2
        rw [esh, hsh, if_pos (by decide)]
        obtain ⟨W2, b1, b2⟩ := ih (l + 1) k W1 (by omega) (by omega) (hR.fr e3 (Or.inl (by omega))) (by rw [← sBl_next (by omega) hsh hb]; exact e2) (fun j hj2 => by
          by_cases e : j = l
          · subst e; rw [hsh, Bool.and_false]
          · exact hj j (by omega))
        rw [qadd, b1]
        exact ⟨W2, rfl, e3.tr b2⟩
theorem c_comesBlind (hN : 3000 ≤ N) {c f n v : Nat} (hc : c < 1000) (hf : f < s 3) (hn : n < 1000) (hs : sOK s) (hv : v < 2 ^ s 4) (hR : rF V 4 s) (hS : rS V 15 s) : ∃ W, fX11_comesBlind N 216 (qH g V X) 0 (Int32.ofNat f) (Int32.ofNat c) (Int32.ofNat n) (Int32.ofNat v) = some (qH g W X, qz (okB s f c n v)) ∧ qfr V W 23 8 := by
  obtain ⟨C, a1, a2, a3⟩ := c_scr (g := g) (X := X) (N := N) hS hs.1
  have hw4 := hs.1.2.2.2.2.1
  have e0 : sBl s (v % 2 ^ 0) = s := by
    unfold sBl
    rw [Nat.pow_zero, Nat.mod_one, Nat.or_zero, sU_id]
  obtain ⟨W, b1, b2⟩ := c_blind14 (g := g) (X := X) hN hc hf hn hs hv (s 4) 0 N C (by omega) (by omega) (hR.fr a3 (Or.inl (by omega))) (by rw [e0]; exact a2) (fun j hj => by omega)
  unfold fX11_comesBlind
  rw [q0_g3, Option.bind_some, c0_2, Option.bind_some, c23_c, Option.bind_some, a1, Option.bind_some, l0, b1]
  exact ⟨W, rfl, a3.tr b2⟩
theorem c_blind56 (hN : 3000 ≤ N) {x y f n many : Nat} (hx : x < 9) (hy : y < 9) (hf : f < s 3) (hn : n < 1000) (hs : sOK s) (hm : many < 10) {r41 : zF → Nat → Int32 → Int32 → Int32 → Int32 → Int32 → Option (zF × Int32)} : ∀ j i k W, i + j = 2 ^ s 4 → j < k → rF W 4 s → rS W 15 s →
    match qfnd (fun v => decide (pop v = many) && okB s f (9 * y + x) n v) i j with
    | some b => ∃ W2, fX11_blind_56 r41 N 216 k (qH g W X) 0 (Int32.ofNat f) (Int32.ofNat x) (Int32.ofNat y) (Int32.ofNat n) (Int32.ofNat many) (Int32.ofNat i) = some (qH g (qw W2 191 (upd (W2 191) 4 (Int32.ofNat b))) X, Int32.ofNat many) ∧ qfr W W2 23 8
    | none => ∃ W2, fX11_blind_56 r41 N 216 k (qH g W X) 0 (Int32.ofNat f) (Int32.ofNat x) (Int32.ofNat y) (Int32.ofNat n) (Int32.ofNat many) (Int32.ofNat i) = r41 (qH g W2 X) 0 (Int32.ofNat f) (Int32.ofNat x) (Int32.ofNat y) (Int32.ofNat n) (Int32.ofNat (many + 1)) ∧ qfr W W2 23 8 := by
  have hw4 := hs.1.2.2.2.2.1
  have h25 : 2 ^ s 4 ≤ 2 ^ 5 := Nat.pow_le_pow_right (by decide) hw4
  intro j
  induction j with
  | zero =>
    intro i k W hi hk hR hS
    obtain ⟨k, rfl⟩ : ∃ j, k = j + 1 := ⟨k - 1, by omega⟩
    have f4 : W 4 4 = Int32.ofNat (s 4) := hR.2.2.2.2.1
    unfold qfnd fX11_blind_56
    rw [c0_1, Option.bind_some, c4_g4, Option.bind_some, f4, l1', qshl1 (by omega), if_pos (by rw [qle (by omega) (by omega)]; omega), qadd]
    exact ⟨W, rfl, qfr.rf⟩
  | succ j ih =>
    intro i k W hi hk hR hS
    obtain ⟨k, rfl⟩ : ∃ j, k = j + 1 := ⟨k - 1, by omega⟩
    have f4 : W 4 4 = Int32.ofNat (s 4) := hR.2.2.2.2.1
    have hp := pop_6 (v := i)
    have hc0 : ∀ {α : Type} (a b : α), (if Int32.ofNat (2 ^ s 4) ≤ Int32.ofNat i then a else b) = b := fun a b => if_neg (by rw [qle (by omega) (by omega)]; omega)
    unfold qfnd fX11_blind_56 fX11_blind_110
    rw [c0_1, Option.bind_some, c4_g4, Option.bind_some, f4, l1', qshl1 (by omega), hc0, c_bits (by omega), Option.bind_some]
    by_cases h1 : pop i = many
    · obtain ⟨W1, b1, b2⟩ := c_comesBlind (g := g) (X := X) (V := W) hN (c := 9 * y + x) (by omega) hf hn hs (v := i) (by omega) hR hS
      have hc1 : ∀ {α : Type} (a b : α), (if Int32.ofNat (pop i) = Int32.ofNat many then a else b) = a := fun a b => if_pos (by rw [h1])
      rw [hc1, q0_c, Option.bind_some, show (9 : Int32) = Int32.ofNat 9 from rfl, qmul, qadd, b1, zbd_some, decide_eq_true h1, Bool.true_and]
      cases hok : okB s f (9 * y + x) n i with
      | true =>
        rw [if_pos rfl, if_neg qzt, q0_g12, Option.bind_some, q191_p4, Option.bind_some]
        exact ⟨W1, rfl, b2⟩
      | false =>
        rw [if_neg (by decide), if_pos qzf, qadd]
        have := ih (i + 1) k W1 (by omega) (by omega) (hR.fr b2 (Or.inl (by omega))) (hS.fr b2 (Or.inl (by omega)))
        split at this
        · obtain ⟨W2, c1, c2⟩ := this; exact ⟨W2, c1, b2.tr c2⟩
        · obtain ⟨W2, c1, c2⟩ := this; exact ⟨W2, c1, b2.tr c2⟩
    · have hc1 : ∀ {α : Type} (a b : α), (if Int32.ofNat (pop i) = Int32.ofNat many then a else b) = b := fun a b => if_neg (by rw [qeq (by omega) (by omega)]; exact h1)
      rw [hc1, decide_eq_false h1, Bool.false_and, if_neg (by decide), qadd]
      exact ih (i + 1) k W (by omega) (by omega) hR hS
theorem c_blind41 (hN : 3000 ≤ N) {x y f n : Nat} (hx : x < 9) (hy : y < 9) (hf : f < s 3) (hn : n < 1000) (hs : sOK s) : ∀ m many k W, many + m = s 4 + 1 → m < k → rF W 4 s → rS W 15 s →
    match cBest (okB s f (9 * y + x) n) (2 ^ s 4) many m with
    | some b => ∃ W2, fX11_blind_41 N 216 k (qH g W X) 0 (Int32.ofNat f) (Int32.ofNat x) (Int32.ofNat y) (Int32.ofNat n) (Int32.ofNat many) = some (qH g (qw W2 191 (upd (W2 191) 4 (Int32.ofNat b))) X, Int32.ofNat (pop b)) ∧ qfr W W2 23 8
    | none => ∃ W2, fX11_blind_41 N 216 k (qH g W X) 0 (Int32.ofNat f) (Int32.ofNat x) (Int32.ofNat y) (Int32.ofNat n) (Int32.ofNat many) = some (qH g W2 X, -1) ∧ qfr W W2 23 8 := by
  have hw4 := hs.1.2.2.2.2.1
  intro m
  induction m with
  | zero =>
    intro many k W hi hk hR hS
    obtain ⟨k, rfl⟩ : ∃ j, k = j + 1 := ⟨k - 1, by omega⟩
    have f4 : W 4 4 = Int32.ofNat (s 4) := hR.2.2.2.2.1
    unfold cBest fX11_blind_41
    rw [c0_1, Option.bind_some, c4_g4, Option.bind_some, f4, if_pos (by rw [qlt (by omega) (by omega)]; omega)]
    exact ⟨W, rfl, qfr.rf⟩
  | succ m ih =>
    intro many k W hi hk hR hS
    obtain ⟨k, rfl⟩ : ∃ j, k = j + 1 := ⟨k - 1, by omega⟩
    have f4 : W 4 4 = Int32.ofNat (s 4) := hR.2.2.2.2.1
    have h25 : 2 ^ s 4 ≤ 2 ^ 5 := Nat.pow_le_pow_right (by decide) hw4
    have h56 := c_blind56 (g := g) (X := X) hN hx hy hf hn hs (many := many) (by omega) (r41 := fX11_blind_41 N 216 k) (2 ^ s 4) 0 N W (by omega) (by omega) hR hS
    unfold cBest fX11_blind_41
    rw [c0_1, Option.bind_some, c4_g4, Option.bind_some, f4, if_neg (by rw [qlt (by omega) (by omega)]; omega), l0]
    cases e : qfnd (fun v => decide (pop v = many) && okB s f (9 * y + x) n v) 0 (2 ^ s 4) with
    | some b =>
      rw [e] at h56
      obtain ⟨W2, c1, c2⟩ := h56
      obtain ⟨e1, e2, e3⟩ := qfnd_lt e
      rw [Bool.and_eq_true] at e3
      refine ⟨W2, ?_, c2⟩
      rw [c1, of_decide_eq_true e3.1]
    | none =>
      rw [e] at h56
      obtain ⟨W2, c1, c2⟩ := h56
      dsimp only
      rw [c1]
      have := ih (many + 1) k W2 (by omega) (by omega) (hR.fr c2 (Or.inl (by omega))) (hS.fr c2 (Or.inl (by omega)))
      split at this
      · obtain ⟨W3, d1, d2⟩ := this; exact ⟨W3, d1, c2.tr d2⟩
      · obtain ⟨W3, d1, d2⟩ := this; exact ⟨W3, d1, c2.tr d2⟩
theorem m_blind45 (hN : 3000 ≤ N) {x y f n : Nat} (hx : x < 9) (hy : y < 9) (hf : f < s 3) (hn : n < 1000) (hs : sOK s) : ∀ j i k V o, i + j = 2 ^ s 4 → j < k → rM V s → (∀ j, j < 111 → V 204 j = Int32.ofNat (s (139 + j))) → (∀ b, o = some b → b < 2 ^ s 4) →
    match mBest (okB s f (9 * y + x) n) o i j with
    | some b => ∃ W, fX12_blind_45 N 216 k (qH g V X) 196 (Int32.ofNat f) (Int32.ofNat x) (Int32.ofNat y) (Int32.ofNat n) (qo o) (Int32.ofNat i) = some (qH g (qw W 196 (upd (upd (W 196) 25 (Int32.ofNat 1)) 24 (Int32.ofNat b))) X, Int32.ofNat (pop b)) ∧ rM W s ∧ qfr V W 198 1
    | none => ∃ W, fX12_blind_45 N 216 k (qH g V X) 196 (Int32.ofNat f) (Int32.ofNat x) (Int32.ofNat y) (Int32.ofNat n) (qo o) (Int32.ofNat i) = some (qH g W X, -1) ∧ rM W s ∧ qfr V W 198 1 := by
  have hs' := hs
  obtain ⟨hW, hD, hG, h9⟩ := hs
  obtain ⟨⟨w0, w0b⟩, ⟨w1, w1b⟩, w2, w3, w4, w5, w95, w113, w101, w129, w134⟩ := id hW
  have h25 : 2 ^ s 4 ≤ 2 ^ 5 := Nat.pow_le_pow_right (by decide) w4
  have hs140 := hD.2.1
  intro j
  induction j with
  | zero =>
    intro i k V o hi hk hM hb ho
    obtain ⟨k, rfl⟩ : ∃ j, k = j + 1 := ⟨k - 1, by omega⟩
    unfold mBest fX12_blind_45
    rw [q196_g6, Option.bind_some, show (4 : Int32) = Int32.ofNat 4 from rfl, m_ld hM (by omega), Option.bind_some, l1', qshl1 (by omega), if_pos (by rw [qle (by omega) (by omega)]; omega)]
    cases o with
    | none =>
      rw [if_neg (by decide)]
      exact ⟨V, rfl, hM, qfr.rf⟩
    | some b =>
      have hb2 := ho b rfl
      rw [qo_some, if_pos (q0le (by omega)), q196_p25 (Int32.ofNat 1) (Or.inr rfl), Option.bind_some, q196_p24, Option.bind_some, m_bits hN (by omega), Option.bind_some, qw_s, qw_qw]
      exact ⟨V, rfl, hM, qfr.rf⟩
  | succ j ih =>
    intro i k V o hi hk hM hb ho
    obtain ⟨k, rfl⟩ : ∃ j, k = j + 1 := ⟨k - 1, by omega⟩
    have hpi := pop_6 (v := i)
    have h93 : ∀ o2, (∀ b, o2 = some b → b < 2 ^ s 4) → i &&& s 140 = 0 → ∃ W, fX12_blind_93 (fX12_blind_45 N 216 k) N 216 (qH g V X) 196 (Int32.ofNat f) (Int32.ofNat x) (Int32.ofNat y) (Int32.ofNat n) (qo o2) (Int32.ofNat i) = fX12_blind_45 N 216 k (qH g W X) 196 (Int32.ofNat f) (Int32.ofNat x) (Int32.ofNat y) (Int32.ofNat n) (qo (if okB s f (9 * y + x) n i then some i else o2)) (Int32.ofNat (i + 1)) ∧ rM W s ∧ qfr V W 198 1 := by
      intro o2 ho2 hz
      obtain ⟨q1, q2, q3, q4⟩ := sBl_ok hW hD (v := i) (by omega)
      obtain ⟨-, ⟨W, z1, z2, z3⟩⟩ := m_comesIn (g := g) (X := X) (s := s) (V := qw V 198 (upd (V 198) 140 (Int32.ofNat (s 140 ||| i)))) (u := sBl s i) (c := 9 * y + x) (f := f) (n := n) hN (by omega) hf hn hM.set q1 q2 (by omega) q3 (fun j hj => by rw [qw_n (by omega)]; exact hb j hj)
      unfold fX12_blind_93
      rw [q196_g6, Option.bind_some, show (140 : Int32) = Int32.ofNat 140 from rfl, m_ld hM (by omega), Option.bind_some, qor, m_st (by omega), Option.bind_some, q196_c, Option.bind_some, show (9 : Int32) = Int32.ofNat 9 from rfl, qmul, qadd, l1', z1, zbd_some]
      unfold fX12_blind_127 okB
      rw [decide_eq_true hz, Bool.true_and]
      refine ⟨W, ?_, z2, (qfr.w (by omega) (by omega)).tr z3⟩
      cases hc : sCm f (9 * y + x) n 1 (sHour (sBl s i)) with
      | none =>
        rw [if_pos (by decide), l1', qadd]
        rfl
      | some h =>
        have := sCm_lt _ _ _ _ hc
        rw [qo_some, if_neg (by rw [qlit0, qle (by omega) (by omega)]; omega), l1', qadd]
        rfl
    have step : ∀ o2, mBest (okB s f (9 * y + x) n) o i (j + 1) = mBest (okB s f (9 * y + x) n) o2 (i + 1) j → ∀ W, rM W s → qfr V W 198 1 → (∀ b, o2 = some b → b < 2 ^ s 4) → fX12_blind_45 N 216 (k + 1) (qH g V X) 196 (Int32.ofNat f) (Int32.ofNat x) (Int32.ofNat y) (Int32.ofNat n) (qo o) (Int32.ofNat i) = fX12_blind_45 N 216 k (qH g W X) 196 (Int32.ofNat f) (Int32.ofNat x) (Int32.ofNat y) (Int32.ofNat n) (qo o2) (Int32.ofNat (i + 1)) →
        (match mBest (okB s f (9 * y + x) n) o i (j + 1) with
        | some b => ∃ W, fX12_blind_45 N 216 (k + 1) (qH g V X) 196 (Int32.ofNat f) (Int32.ofNat x) (Int32.ofNat y) (Int32.ofNat n) (qo o) (Int32.ofNat i) = some (qH g (qw W 196 (upd (upd (W 196) 25 (Int32.ofNat 1)) 24 (Int32.ofNat b))) X, Int32.ofNat (pop b)) ∧ rM W s ∧ qfr V W 198 1
        | none => ∃ W, fX12_blind_45 N 216 (k + 1) (qH g V X) 196 (Int32.ofNat f) (Int32.ofNat x) (Int32.ofNat y) (Int32.ofNat n) (qo o) (Int32.ofNat i) = some (qH g W X, -1) ∧ rM W s ∧ qfr V W 198 1) := by
      intro o2 h1 W h2 h3 h4 h5
      rw [h1, h5]
      have := ih (i + 1) k W o2 (by omega) (by omega) h2 (fun j hj => by rw [h3 204 (by omega)]; exact hb j hj) h4
      split at this
      · obtain ⟨W3, d1, d2, d3⟩ := this; exact ⟨W3, d1, d2, h3.tr d3⟩
      · obtain ⟨W3, d1, d2, d3⟩ := this; exact ⟨W3, d1, d2, h3.tr d3⟩
    have hpre : fX12_blind_45 N 216 (k + 1) (qH g V X) 196 (Int32.ofNat f) (Int32.ofNat x) (Int32.ofNat y) (Int32.ofNat n) (qo o) (Int32.ofNat i) = (if Int32.ofNat (i &&& s 140) = 0 then (if qo o < 0 then (fX12_blind_93 (fX12_blind_45 N 216 k) N 216 (qH g V X) 196 (Int32.ofNat f) (Int32.ofNat x) (Int32.ofNat y) (Int32.ofNat n) (qo o) (Int32.ofNat i)) else ((fX12_bits N 216 (qH g V X) (Int32.ofNat i)).bind fun x18 => ((fX12_bits N 216 (qH g V X) (qo o)).bind fun x19 => (if x18 < x19 then (fX12_blind_93 (fX12_blind_45 N 216 k) N 216 (qH g V X) 196 (Int32.ofNat f) (Int32.ofNat x) (Int32.ofNat y) (Int32.ofNat n) (qo o) (Int32.ofNat i)) else (fX12_blind_127 (fX12_blind_45 N 216 k) N 216 (qH g V X) 196 (Int32.ofNat f) (Int32.ofNat x) (Int32.ofNat y) (Int32.ofNat n) (qo o) (Int32.ofNat i)))))) else (fX12_blind_127 (fX12_blind_45 N 216 k) N 216 (qH g V X) 196 (Int32.ofNat f) (Int32.ofNat x) (Int32.ofNat y) (Int32.ofNat n) (qo o) (Int32.ofNat i))) := by
      conv => lhs; unfold fX12_blind_45
      rw [q196_g6, Option.bind_some, show (4 : Int32) = Int32.ofNat 4 from rfl, m_ld hM (by omega), Option.bind_some, l1', qshl1 (by omega), if_neg (by rw [qle (by omega) (by omega)]; omega), Option.bind_some, show (140 : Int32) = Int32.ofNat 140 from rfl, m_ld hM (by omega), Option.bind_some, qand]
    have hand : i &&& s 140 < 2147483648 := Nat.lt_of_le_of_lt Nat.and_le_left (by omega)
    have h127 : ∀ o2, fX12_blind_127 (fX12_blind_45 N 216 k) N 216 (qH g V X) 196 (Int32.ofNat f) (Int32.ofNat x) (Int32.ofNat y) (Int32.ofNat n) (qo o2) (Int32.ofNat i) = fX12_blind_45 N 216 k (qH g V X) 196 (Int32.ofNat f) (Int32.ofNat x) (Int32.ofNat y) (Int32.ofNat n) (qo o2) (Int32.ofNat (i + 1)) := by
      intro o2
      unfold fX12_blind_127
      rw [l1', qadd]
    by_cases hz : i &&& s 140 = 0
    · rw [if_pos (by rw [hz]; rfl)] at hpre
      cases o with
      | none =>
        obtain ⟨W, a1, a2, a3⟩ := h93 none ho hz
        rw [if_pos (by decide), a1] at hpre
        refine step _ ?_ W a2 a3 ?_ hpre
        · conv => lhs; unfold mBest
          rw [Bool.true_and]
        · intro b hb; split at hb <;> cases hb; omega
      | some b =>
        have hb2 := ho b rfl
        have hpb := pop_6 (v := b)
        rw [qo_some, if_neg (Int32.ofNat_not_neg (by omega)), m_bits hN (by omega), Option.bind_some, m_bits hN (by omega), Option.bind_some] at hpre
        by_cases hlt : pop i < pop b
        · obtain ⟨W, a1, a2, a3⟩ := h93 (some b) ho hz
          rw [qo_some] at a1
          rw [if_pos (by rw [qlt (by omega) (by omega)]; exact hlt), a1] at hpre
          refine step _ ?_ W a2 a3 ?_ hpre
          · conv => lhs; unfold mBest
            simp only [hlt, decide_true, Bool.true_and]
          · intro b2 hb3; split at hb3 <;> cases hb3 <;> omega
        · have := h127 (some b)
          rw [qo_some] at this
          rw [if_neg (by rw [qlt (by omega) (by omega)]; exact hlt), this] at hpre
          refine step (some b) ?_ V hM qfr.rf ho hpre
          conv => lhs; unfold mBest
          simp only [hlt, decide_false, Bool.false_and, Bool.false_eq_true, if_false]
    · rw [if_neg (by rw [qlit0, qeq (by omega) (by omega)]; exact hz), h127] at hpre
      refine step o ?_ V hM qfr.rf ho hpre
      conv => lhs; unfold mBest
      have hok : okB s f (9 * y + x) n i = false := by unfold okB; rw [decide_eq_false hz, Bool.false_and]
      rw [hok, Bool.and_false, if_neg (by decide)]
theorem s_22 (hN : 3000 ≤ N) {f : zF} (hI : Inv f) (p1 p2 p3 p4 : Int32) : ∃ f2, zlc22 N 216 f p1 p2 p3 p4 = some f2 ∧ Inv f2 := by
  obtain ⟨g, V, X, s, rfl, hg, hJ⟩ := hI
  obtain ⟨⟨⟨hW, hD, hG, h9⟩, hWL, hR, hL, hS, hM, hNs, hNm⟩, hU, hR2⟩ := id hJ
  unfold zlc22
  obtain ⟨⟨w0, w0b⟩, ⟨w1, w1b⟩, w2, w3, w4, w5, w95, w113, w101, w129, w134⟩ := id hW
  cases hp : qrg p1 0 (s 3) with
  | false =>
    refine cstep (o1 := fX11_blind N 216 (qH g V X) 0 p1 p2 p3 p4) (m := fun ff => fX12_blind N 216 ff 196 p1 p2 p3 p4) (V1 := V) (X1 := X) (V2 := qT V) (X2 := X) (r := -1) hg ?_ ?_ hJ.thr
    · unfold fX11_blind
      rw [c0_1, Option.bind_some, c4_c, Option.bind_some, c_hasFigure hR hW, Option.bind_some, hp, if_pos qzf]
    · unfold fX12_blind
      rw [m_thr0, Option.bind_some, q196_c, Option.bind_some, m_isFigure hM.thr hW, Option.bind_some, hp, if_pos qzf]
  | true =>
    obtain ⟨v, rfl, hv0, -, hv⟩ := qrg_e hp
    cases hq : (qrg p2 0 (s 0) && qrg p3 0 (s 1)) with
    | false =>
      refine cstep (o1 := fX11_blind N 216 (qH g V X) 0 (Int32.ofNat v) p2 p3 p4) (m := fun ff => fX12_blind N 216 ff 196 (Int32.ofNat v) p2 p3 p4) (V1 := V) (X1 := X) (V2 := qT V) (X2 := X) (r := -1) hg ?_ ?_ hJ.thr
      · unfold fX11_blind
        rw [c0_1, Option.bind_some, c4_c, Option.bind_some, c_hasFigure hR hW, Option.bind_some, hp, if_neg qzt, Option.bind_some, c4_c, Option.bind_some, c_hasCell hR hW, Option.bind_some, hq, if_pos qzf]
      · unfold fX12_blind
        rw [m_thr0, Option.bind_some, q196_c, Option.bind_some, m_isFigure hM.thr hW, Option.bind_some, hp, if_neg qzt, Option.bind_some, m_isCellP hM.thr hW, Option.bind_some, hq, if_pos qzf]
    | true =>
      rw [Bool.and_eq_true] at hq
      obtain ⟨x, rfl, hx0, -, hx⟩ := qrg_e hq.1
      obtain ⟨y, rfl, hy0, -, hy⟩ := qrg_e hq.2
      have hq : (qrg (Int32.ofNat x) 0 (s 0) && qrg (Int32.ofNat y) 0 (s 1)) = true := by rw [Bool.and_eq_true]; exact hq
      cases hr : qrg p4 1 61 with
      | false =>
        refine cstep (o1 := fX11_blind N 216 (qH g V X) 0 (Int32.ofNat v) (Int32.ofNat x) (Int32.ofNat y) p4) (m := fun ff => fX12_blind N 216 ff 196 (Int32.ofNat v) (Int32.ofNat x) (Int32.ofNat y) p4) (V1 := V) (X1 := X) (V2 := qT V) (X2 := X) (r := -1) hg ?_ ?_ hJ.thr
        · unfold fX11_blind
          rw [c0_1, Option.bind_some, c4_c, Option.bind_some, c_hasFigure hR hW, Option.bind_some, hp, if_neg qzt, Option.bind_some, c4_c, Option.bind_some, c_hasCell hR hW, Option.bind_some, hq, if_neg qzt, l1', show (60 : Int32) = Int32.ofNat 60 from rfl, c_rng (by omega) (by omega), hr, if_neg (by decide)]
        · unfold fX12_blind
          rw [m_thr0, Option.bind_some, q196_c, Option.bind_some, m_isFigure hM.thr hW, Option.bind_some, hp, if_neg qzt, Option.bind_some, m_isCellP hM.thr hW, Option.bind_some, hq, if_neg qzt, m_in1, Option.bind_some, hr, if_pos qzf]
      | true =>
        obtain ⟨n, rfl, hn0, hn1, hn⟩ := qrg_e hr
        have h25 : 2 ^ s 4 ≤ 2 ^ 5 := Nat.pow_le_pow_right (by decide) w4
        have h2N : 2 ^ s 4 < N := by omega
        have hcl := c_blind41 (g := g) (X := X) hN (x := x) (y := y) (f := v) (n := n) (by omega) (by omega) hv (by omega) hJ.1.1 (s 4 + 1) 0 N V (by omega) (by omega) hR hS
        rw [best_same w4] at hcl
        have hcls : fX11_blind N 216 (qH g V X) 0 (Int32.ofNat v) (Int32.ofNat x) (Int32.ofNat y) (Int32.ofNat n) = fX11_blind_41 N 216 N (qH g V X) 0 (Int32.ofNat v) (Int32.ofNat x) (Int32.ofNat y) (Int32.ofNat n) (Int32.ofNat 0) := by
          unfold fX11_blind
          rw [c0_1, Option.bind_some, c4_c, Option.bind_some, c_hasFigure hR hW, Option.bind_some, hp, if_neg qzt, Option.bind_some, c4_c, Option.bind_some, c_hasCell hR hW, Option.bind_some, hq, if_neg qzt, l1', show (60 : Int32) = Int32.ofNat 60 from rfl, c_rng (by omega) (by omega), hr, if_pos rfl, l0]
        have hmod : ∀ W, rM W s → ∃ T, (∀ j, j < 111 → T 204 j = Int32.ofNat (s (139 + j))) ∧ rM T s ∧ qfr (qT W) T 204 1 ∧ fX12_blind N 216 (qH g W X) 196 (Int32.ofNat v) (Int32.ofNat x) (Int32.ofNat y) (Int32.ofNat n) = fX12_blind_45 N 216 N (qH g T X) 196 (Int32.ofNat v) (Int32.ofNat x) (Int32.ofNat y) (Int32.ofNat n) (qo none) (Int32.ofNat 0) := by
          intro W hMW
          obtain ⟨T, t1, t2, t3⟩ := m_tries (g := g) (X := X) (V := qT W) hN
          refine ⟨T, fun j hj => by rw [t2 j hj]; exact hMW.thr (139 + j) (by omega), fun i hi => by rw [t3 198 (by omega)]; exact hMW.thr i hi, t3, ?_⟩
          unfold fX12_blind
          rw [m_thr0, Option.bind_some, q196_c, Option.bind_some, m_isFigure hMW.thr hW, Option.bind_some, hp, if_neg qzt, Option.bind_some, m_isCellP hMW.thr hW, Option.bind_some, hq, if_neg qzt, m_in1, Option.bind_some, hr, if_neg qzt, Option.bind_some, t1, Option.bind_some, l0, show (-1 : Int32) = qo none from rfl]
        cases hb : mBest (okB s v (9 * y + x) n) none 0 (2 ^ s 4) with
        | none =>
          rw [hb] at hcl
          obtain ⟨W, b1, b2⟩ := hcl
          have hMW : rM W s := fun i hi => by rw [b2 198 (by omega)]; exact hM i hi
          obtain ⟨T, t1, t2, t3, t4⟩ := hmod W hMW
          have h45 := m_blind45 (g := g) (X := X) hN (x := x) (y := y) (f := v) (n := n) (by omega) (by omega) hv (by omega) hJ.1.1 (2 ^ s 4) 0 N T none (by omega) h2N t2 t1 (fun b hb => by cases hb)
          rw [hb] at h45
          obtain ⟨Z, z1, z2, z3⟩ := h45
          refine cstep (o1 := fX11_blind N 216 (qH g V X) 0 (Int32.ofNat v) (Int32.ofNat x) (Int32.ofNat y) (Int32.ofNat n)) (m := fun ff => fX12_blind N 216 ff 196 (Int32.ofNat v) (Int32.ofNat x) (Int32.ofNat y) (Int32.ofNat n)) (V1 := W) (X1 := X) (V2 := Z) (X2 := X) (r := -1) hg (by rw [hcls, b1]) (by rw [t4, z1]) (look_fin hJ (fun b j hb hb2 => ?_) z2)
          unfold scr at hb
          rw [z3 b (by omega), t3 b (by omega)]
          by_cases e : b = 196
          · subst e; rw [qT_j (by omega), b2 196 (by omega)]
          · rw [qT_n e, b2 b (by omega)]
        | some b =>
          rw [hb] at hcl
          obtain ⟨W, b1, b2⟩ := hcl
          have hMW : rM (qw W 191 (upd (W 191) 4 (Int32.ofNat b))) s := fun i hi => by rw [qw_n (by omega), b2 198 (by omega)]; exact hM i hi
          obtain ⟨T, t1, t2, t3, t4⟩ := hmod _ hMW
          have h45 := m_blind45 (g := g) (X := X) hN (x := x) (y := y) (f := v) (n := n) (by omega) (by omega) hv (by omega) hJ.1.1 (2 ^ s 4) 0 N T none (by omega) h2N t2 t1 (fun b hb => by cases hb)
          rw [hb] at h45
          obtain ⟨Z, z1, z2, z3⟩ := h45
          obtain ⟨jt, jw, jg, ji0, ji1, jc, jf, jb, jx, jl, jd⟩ := id hR2
          have e : ∀ b' j, ¬ scr b' j → b' ≠ 198 → ¬ (b' = 191 ∧ j = 4) → ¬ (b' = 196 ∧ (j = 24 ∨ j = 25)) → (qw Z 196 (upd (upd (Z 196) 25 (Int32.ofNat 1)) 24 (Int32.ofNat b))) b' j = V b' j := by
            intro b' j h1 h2 h3 h4
            unfold scr at h1
            by_cases e6 : b' = 196
            · subst e6
              rw [qw_s, upd_n (by omega), upd_n (by omega), z3 196 (by omega), t3 196 (by omega), qT_j (by omega), qw_n (by omega), b2 196 (by omega)]
            · rw [qw_n e6, z3 b' (by omega), t3 b' (by omega), qT_n e6]
              by_cases e1 : b' = 191
              · subst e1; rw [qw_s, upd_n (by omega), b2 191 (by omega)]
              · rw [qw_n e1, b2 b' (by omega)]
          refine cstep (o1 := fX11_blind N 216 (qH g V X) 0 (Int32.ofNat v) (Int32.ofNat x) (Int32.ofNat y) (Int32.ofNat n)) (m := fun ff => fX12_blind N 216 ff 196 (Int32.ofNat v) (Int32.ofNat x) (Int32.ofNat y) (Int32.ofNat n)) (X1 := X) (X2 := X) (r := Int32.ofNat (pop b)) (s := s) hg (by rw [hcls, b1]) (by rw [t4, z1]) ⟨hJ.1.go hJ.1.1 sKp.rf (hS.pt (fun b' j h1 h2 => e b' j (by unfold scr; omega) (by omega) (by omega) (by omega))) (fun i hi => by rw [qw_n (by omega)]; exact z2 i hi) (fun b' j h => e b' j (by unfold scr; omega) (by omega) (by omega) (by omega)), hU.pt sEq.rf (fun b' j h => e b' j (by unfold scr; omega) (by omega) (by omega) (by omega)),
            jt.pt (fun b' j h => e b' j (by unfold scr; omega) (by omega) (by omega) (by omega)), jw, jg.pt (fun b' j h => e b' j (by unfold scr; omega) (by omega) (by omega) (by omega)), ji0.pt (fun b' j h => e b' j (by unfold scr; omega) (by omega) (by omega) (by omega)) (fun _ _ _ => rfl), ji1.pt (fun b' j h => e b' j (by unfold scr; omega) (by omega) (by omega) (by omega)) (fun _ _ _ => rfl), jc.pt (fun b' j h => e b' j (by unfold scr; omega) (by omega) (by omega) (by omega)), jf.pt (fun b' j h => e b' j (by unfold scr; omega) (by omega) (by omega) (by omega)), Or.inr ⟨?_, ?_⟩, jx.pt (fun b' j h => e b' j (by unfold scr; omega) (by omega) (by omega) (by omega)), jl.pt (fun b' j h => e b' j (by unfold scr; omega) (by omega) (by omega) (by omega)), jd.pt (fun b' j h => e b' j (by unfold scr; omega) (by omega) (by omega) (by omega))⟩
          · rw [qw_n (by omega), z3 191 (by omega), t3 191 (by omega), qT_n (by omega), qw_s, upd_s, qw_s, upd_s]
          · rw [qw_s, upd_n (by omega), upd_s]
end QBL
