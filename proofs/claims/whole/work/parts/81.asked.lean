/-! fits: found, asked -/
section QFU
variable {g : zF} {V W K : Nat → Nat → Int32} {X Y : Nat → Nat → Int64} {N n : Nat} {s t u B : Nat → Nat}
/-- the numbers that fit, below a -/
def nuF (p : Nat → Bool) : Nat → (Nat → Nat) × Nat
  | 0 => (fun _ => 0, 0)
  | a + 1 => if p a then (sU (nuF p a).1 (nuF p a).2 a, (nuF p a).2 + 1) else nuF p a
theorem nuF_le {p : Nat → Bool} : ∀ a, (nuF p a).2 ≤ a ∧ ∀ j, (nuF p a).1 j ≤ a - 1 := by
  intro a
  induction a with
  | zero => exact ⟨Nat.le_refl _, fun j => Nat.le_refl _⟩
  | succ a ih =>
    unfold nuF
    split
    · refine ⟨Nat.succ_le_succ ih.1, fun j => ?_⟩
      dsimp only
      unfold sU
      split
      · omega
      · have := ih.2 j; omega
    · exact ⟨by omega, fun j => by have := ih.2 j; omega⟩
theorem nuF_mono {p : Nat → Bool} {a b : Nat} (h : a ≤ b) : (nuF p a).2 ≤ (nuF p b).2 := by
  induction b with
  | zero => rw [show a = 0 by omega]; exact Nat.le_refl _
  | succ b ih =>
    by_cases e : a = b + 1
    · subst e; exact Nat.le_refl _
    · have := ih (by omega)
      conv => rhs; unfold nuF
      split
      · dsimp only; omega
      · exact this
/-- how many go to the same cell at that hour, and the greatest of these -/
def eqH (q : Nat → Nat → Nat) (h a j : Nat) : Nat := if q j h = q a h then 1 else 0
def mxH (q : Nat → Nat → Nat) (h n : Nat) : Nat → Nat
  | 0 => 0
  | i + 1 => if mxH q h n i ≤ qsum (eqH q h i) n then qsum (eqH q h i) n else mxH q h n i
def bsH (L : Nat → Nat) : Nat → Nat → Nat → Nat
  | b, _, 0 => b
  | b, h, m + 1 => if L b ≤ L h then bsH L b (h + 1) m else bsH L h (h + 1) m
theorem eqH_le {q : Nat → Nat → Nat} {h a : Nat} (n : Nat) : qsum (eqH q h a) n ≤ n := qsum_le (fun i => by unfold eqH; split <;> omega) n
theorem mxH_le {q : Nat → Nat → Nat} {h n : Nat} : ∀ i, mxH q h n i ≤ n := by
  intro i
  induction i with
  | zero => exact Nat.zero_le _
  | succ i ih =>
    unfold mxH
    split
    · exact eqH_le n
    · exact ih
theorem bsH_lt {L : Nat → Nat} {b0 : Nat} : ∀ m b h, b < b0 → h + m ≤ b0 → bsH L b h m < b0 := by
  intro m
  induction m with
  | zero => intro b h hb hh; exact hb
  | succ m ih =>
    intro b h hb hh
    unfold bsH
    split
    · exact ih b (h + 1) hb (by omega)
    · exact ih h (h + 1) (by omega) (by omega)
section ASK
variable {nu : Nat → Nat} {c : Nat} {P : Nat → Nat → Nat}
theorem c_most40 (hc : c ≤ 36) (hnu : ∀ j, nu j < 36) (hP : ∀ f i, P f i < 1000) (h1 : V 187 1 = Int32.ofNat c) (h188 : ∀ j, j < c → V 188 j = Int32.ofNat (nu j)) (h190 : ∀ f i, f < 36 → i < 13 → V 190 (13 * f + i) = Int32.ofNat (P f i)) {r4 : Nat → Int32 → Int32 → Int32 → Option Int32} {h a : Nat} (hh : h < 13) {b : Int32} : ∀ m k j, j + m = c → m < k → fX4_mostLeft_40 r4 N 216 (qH g V X) k 187 (Int32.ofNat h) b (Int32.ofNat a) (Int32.ofNat (P (nu a) h)) (Int32.ofNat (qsum (eqH (fun j => P (nu j)) h a) j)) (Int32.ofNat j) = (fJ9_max_7cf53 N 216 (qH g V X) b (Int32.ofNat (qsum (eqH (fun j => P (nu j)) h a) c))).bind fun x7 => r4 187 (Int32.ofNat h) x7 (Int32.ofNat (a + 1)) := by
  intro m
  induction m with
  | zero =>
    intro k j hj hk
    obtain ⟨k, rfl⟩ := Nat.exists_eq_succ_of_ne_zero (n := k) (by omega)
    rw [show j = c by omega]
    unfold fX4_mostLeft_40
    rw [q187_g1, Option.bind_some, h1, if_pos (by rw [qle (by omega) (by omega)]; omega), l1, qadd]
  | succ m ih =>
    intro k j hj hk
    obtain ⟨k, rfl⟩ := Nat.exists_eq_succ_of_ne_zero (n := k) (by omega)
    have hn := hnu j
    have p1 := hP (nu j) h
    have p2 := hP (nu a) h
    have hs : qsum (eqH (fun j => P (nu j)) h a) (j + 1) = qsum (eqH (fun j => P (nu j)) h a) j + (if P (nu j) h = P (nu a) h then 1 else 0) := rfl
    have hih := ih k (j + 1) (by omega) (by omega)
    unfold fX4_mostLeft_40
    rw [q187_g1, Option.bind_some, h1, if_neg (by rw [qle (by omega) (by omega)]; omega), q187_g5, Option.bind_some, q187_g0, Option.bind_some, e_at qk_188 (by omega) (by omega), Option.bind_some, h188 j (by omega), show (13 : Int32) = Int32.ofNat 13 from rfl, qmul, qadd, e_at qk_190 (by omega) (by omega), Option.bind_some, h190 _ _ hn hh]
    by_cases e : P (nu j) h = P (nu a) h
    · rw [if_pos e] at hs
      rw [if_pos (by rw [e])]
      unfold fX4_mostLeft_78
      rw [l1, qadd, qadd, ← hs]
      exact hih
    · rw [if_neg e] at hs
      have hs2 : qsum (eqH (fun j => P (nu j)) h a) (j + 1) = qsum (eqH (fun j => P (nu j)) h a) j := hs
      rw [if_neg (by rw [qeq (by omega) (by omega)]; exact e)]
      unfold fX4_mostLeft_78
      rw [l1, qadd, ← hs2]
      exact hih
theorem c_most4 (hN : 3000 ≤ N) (hc : c ≤ 36) (hnu : ∀ j, nu j < 36) (hP : ∀ f i, P f i < 1000) (h1 : V 187 1 = Int32.ofNat c) (h188 : ∀ j, j < c → V 188 j = Int32.ofNat (nu j)) (h190 : ∀ f i, f < 36 → i < 13 → V 190 (13 * f + i) = Int32.ofNat (P f i)) {h : Nat} (hh : h < 13) : ∀ m k a, a + m = c → m < k → fX4_mostLeft_4 N 216 (qH g V X) k 187 (Int32.ofNat h) (Int32.ofNat (mxH (fun j => P (nu j)) h c a)) (Int32.ofNat a) = some (Int32.ofNat (mxH (fun j => P (nu j)) h c c)) := by
  intro m
  induction m with
  | zero =>
    intro k j hj hk
    obtain ⟨k, rfl⟩ := Nat.exists_eq_succ_of_ne_zero (n := k) (by omega)
    rw [show j = c by omega]
    unfold fX4_mostLeft_4
    rw [q187_g1, Option.bind_some, h1, if_pos (by rw [qle (by omega) (by omega)]; omega)]
  | succ m ih =>
    intro k a hj hk
    obtain ⟨k, rfl⟩ := Nat.exists_eq_succ_of_ne_zero (n := k) (by omega)
    have hn := hnu a
    have b1 := mxH_le (q := fun j => P (nu j)) (h := h) (n := c) a
    have b2 := eqH_le (q := fun j => P (nu j)) (h := h) (a := a) c
    have hih := ih k (a + 1) (by omega) (by omega)
    have e40 := c_most40 (g := g) (X := X) (N := N) hc hnu hP h1 h188 h190 (r4 := fX4_mostLeft_4 N 216 (qH g V X) k) (a := a) hh (b := Int32.ofNat (mxH (fun j => P (nu j)) h c a)) c N 0 (by omega) (by omega)
    rw [show qsum (eqH (fun j => P (nu j)) h a) 0 = 0 from rfl] at e40
    unfold fX4_mostLeft_4
    rw [q187_g1, Option.bind_some, h1, if_neg (by rw [qle (by omega) (by omega)]; omega), q187_g5, Option.bind_some, q187_g0, Option.bind_some, e_at qk_188 (by omega) (by omega), Option.bind_some, h188 a (by omega), show (13 : Int32) = Int32.ofNat 13 from rfl, qmul, qadd, e_at qk_190 (by omega) (by omega), Option.bind_some, h190 _ _ hn hh, l0, e40]
    unfold fJ9_max_7cf53
    conv at hih => lhs; unfold mxH
    by_cases e : mxH (fun j => P (nu j)) h c a < qsum (eqH (fun j => P (nu j)) h a) c
    · rw [if_pos (by rw [qlt (by omega) (by omega)]; exact e), Option.bind_some]
      rw [if_pos (by omega)] at hih
      exact hih
    · rw [if_neg (by rw [qlt (by omega) (by omega)]; exact e), Option.bind_some]
      by_cases e2 : mxH (fun j => P (nu j)) h c a ≤ qsum (eqH (fun j => P (nu j)) h a) c
      · rw [if_pos e2] at hih
        rw [show mxH (fun j => P (nu j)) h c a = qsum (eqH (fun j => P (nu j)) h a) c by omega]
        exact hih
      · rw [if_neg e2] at hih
        exact hih
theorem c_best (hN : 3000 ≤ N) (hc : c ≤ 36) (hnu : ∀ j, nu j < 36) (hP : ∀ f i, P f i < 1000) (h1 : V 187 1 = Int32.ofNat c) (h188 : ∀ j, j < c → V 188 j = Int32.ofNat (nu j)) (h190 : ∀ f i, f < 36 → i < 13 → V 190 (13 * f + i) = Int32.ofNat (P f i)) : ∀ m k b h, b < 13 → h + m = 13 → m < k → fX4_bestHour_4 N 216 (qH g V X) k 187 (Int32.ofNat b) (Int32.ofNat h) = some (Int32.ofNat (bsH (fun h => mxH (fun j => P (nu j)) h c c) b h m)) := by
  intro m
  induction m with
  | zero =>
    intro k b h hb hj hk
    obtain ⟨k, rfl⟩ := Nat.exists_eq_succ_of_ne_zero (n := k) (by omega)
    unfold fX4_bestHour_4
    rw [if_pos (by rw [show (12 : Int32) = Int32.ofNat 12 from rfl, qlt (by omega) (by omega)]; omega)]
    rfl
  | succ m ih =>
    intro k b h hb hj hk
    obtain ⟨k, rfl⟩ := Nat.exists_eq_succ_of_ne_zero (n := k) (by omega)
    have b1 := mxH_le (q := fun j => P (nu j)) (h := h) (n := c) c
    have b2 := mxH_le (q := fun j => P (nu j)) (h := b) (n := c) c
    unfold fX4_bestHour_4 fX4_mostLeft bsH
    rw [if_neg (by rw [show (12 : Int32) = Int32.ofNat 12 from rfl, qlt (by omega) (by omega)]; omega), q187_c, Option.bind_some, l0]
    have e1 := c_most4 (g := g) (X := X) hN hc hnu hP h1 h188 h190 (h := h) (by omega) c N 0 (by omega) (by omega)
    have e2 := c_most4 (g := g) (X := X) hN hc hnu hP h1 h188 h190 (h := b) (by omega) c N 0 (by omega) (by omega)
    rw [show mxH (fun j => P (nu j)) h c 0 = 0 from rfl] at e1
    rw [show mxH (fun j => P (nu j)) b c 0 = 0 from rfl] at e2
    rw [e1, Option.bind_some, Option.bind_some, e2, Option.bind_some]
    by_cases e : mxH (fun j => P (nu j)) b c c ≤ mxH (fun j => P (nu j)) h c c
    · rw [if_pos (by rw [qle (by omega) (by omega)]; exact e), if_pos e]
      unfold fX4_bestHour_25
      rw [show Int32.ofNat h + 1 = Int32.ofNat (h + 1) by rw [l1, qadd]]
      exact ih k b (h + 1) hb (by omega) (by omega)
    · rw [if_neg (by rw [qle (by omega) (by omega)]; exact e), if_neg e]
      unfold fX4_bestHour_25
      rw [show Int32.ofNat h + 1 = Int32.ofNat (h + 1) by rw [l1, qadd]]
      exact ih k h (h + 1) (by omega) (by omega) (by omega)
theorem m_left18 (hc : c ≤ 36) (hnu : ∀ j, nu j < 36) (hP : ∀ f i, P f i < 1000) (h1 : V 196 32 = Int32.ofNat c) (h188 : ∀ j, j < c → V 206 j = Int32.ofNat (nu j)) (h190 : ∀ f i, f < 36 → i < 13 → V 207 (13 * f + i) = Int32.ofNat (P f i)) {r4 : Nat → Int32 → Int32 → Int32 → Option Int32} {h a : Nat} (ha : a < c) (hh : h < 13) {b : Int32} : ∀ m k j, j + m = c → m < k → fX12_leftBy_18 r4 N 216 (qH g V X) k 196 (Int32.ofNat h) b (Int32.ofNat a) (Int32.ofNat (qsum (eqH (fun j => P (nu j)) h a) j)) (Int32.ofNat j) = (fX12_greater N 216 (qH g V X) b (Int32.ofNat (qsum (eqH (fun j => P (nu j)) h a) c))).bind fun x7 => r4 196 (Int32.ofNat h) x7 (Int32.ofNat (a + 1)) := by
  intro m
  induction m with
  | zero =>
    intro k j hj hk
    obtain ⟨k, rfl⟩ := Nat.exists_eq_succ_of_ne_zero (n := k) (by omega)
    rw [show j = c by omega]
    unfold fX12_leftBy_18
    rw [q196_g32, Option.bind_some, h1, if_pos (by rw [qle (by omega) (by omega)]; omega), l1, qadd]
  | succ m ih =>
    intro k j hj hk
    obtain ⟨k, rfl⟩ := Nat.exists_eq_succ_of_ne_zero (n := k) (by omega)
    have hn := hnu j
    have hna := hnu a
    have p1 := hP (nu j) h
    have p2 := hP (nu a) h
    have hs : qsum (eqH (fun j => P (nu j)) h a) (j + 1) = qsum (eqH (fun j => P (nu j)) h a) j + (if P (nu j) h = P (nu a) h then 1 else 0) := rfl
    have hih := ih k (j + 1) (by omega) (by omega)
    have g1 : zlI 216 (qH g V X) 0 206 (Int32.ofNat a) = some (Int32.ofNat (nu a)) := by rw [qlI (t := 0) qk_206 (Or.inl rfl) (by omega) (by omega), h188 a ha]
    have g2 : zlI 216 (qH g V X) 0 206 (Int32.ofNat j) = some (Int32.ofNat (nu j)) := by rw [qlI (t := 0) qk_206 (Or.inl rfl) (by omega) (by omega), h188 j (by omega)]
    have g3 : zlI 216 (qH g V X) 0 207 (Int32.ofNat (13 * nu a + h)) = some (Int32.ofNat (P (nu a) h)) := by rw [qlI (t := 0) qk_207 (Or.inl rfl) (by omega) (by omega), h190 _ _ hna hh]
    have g4 : zlI 216 (qH g V X) 0 207 (Int32.ofNat (13 * nu j + h)) = some (Int32.ofNat (P (nu j) h)) := by rw [qlI (t := 0) qk_207 (Or.inl rfl) (by omega) (by omega), h190 _ _ hn hh]
    unfold fX12_leftBy_18
    rw [q196_g32, Option.bind_some, h1, if_neg (by rw [qle (by omega) (by omega)]; omega), q196_g31, Option.bind_some, q196_g30, Option.bind_some, g1, Option.bind_some, show (13 : Int32) = Int32.ofNat 13 from rfl, qmul, qadd, g3, Option.bind_some, Option.bind_some, Option.bind_some, g2, Option.bind_some, qmul, qadd, g4, Option.bind_some]
    by_cases e : P (nu j) h = P (nu a) h
    · rw [if_pos e] at hs
      rw [if_pos (by rw [e])]
      unfold fX12_leftBy_70
      rw [l1, qadd, qadd, ← hs]
      exact hih
    · rw [if_neg e] at hs
      rw [if_neg (by rw [qeq (by omega) (by omega)]; exact fun h => e h.symm)]
      unfold fX12_leftBy_70
      rw [l0, qadd, ← hs, l1, qadd]
      exact hih
theorem m_left4 (hN : 3000 ≤ N) (hc : c ≤ 36) (hnu : ∀ j, nu j < 36) (hP : ∀ f i, P f i < 1000) (h1 : V 196 32 = Int32.ofNat c) (h188 : ∀ j, j < c → V 206 j = Int32.ofNat (nu j)) (h190 : ∀ f i, f < 36 → i < 13 → V 207 (13 * f + i) = Int32.ofNat (P f i)) {h : Nat} (hh : h < 13) : ∀ m k a, a + m = c → m < k → fX12_leftBy_4 N 216 (qH g V X) k 196 (Int32.ofNat h) (Int32.ofNat (mxH (fun j => P (nu j)) h c a)) (Int32.ofNat a) = some (Int32.ofNat (mxH (fun j => P (nu j)) h c c)) := by
  intro m
  induction m with
  | zero =>
    intro k j hj hk
    obtain ⟨k, rfl⟩ := Nat.exists_eq_succ_of_ne_zero (n := k) (by omega)
    rw [show j = c by omega]
    unfold fX12_leftBy_4
    rw [q196_g32, Option.bind_some, h1, if_pos (by rw [qle (by omega) (by omega)]; omega)]
  | succ m ih =>
    intro k a hj hk
    obtain ⟨k, rfl⟩ := Nat.exists_eq_succ_of_ne_zero (n := k) (by omega)
    have b1 := mxH_le (q := fun j => P (nu j)) (h := h) (n := c) a
    have b2 := eqH_le (q := fun j => P (nu j)) (h := h) (a := a) c
    have hih := ih k (a + 1) (by omega) (by omega)
    have e40 := m_left18 (g := g) (X := X) (N := N) hc hnu hP h1 h188 h190 (r4 := fX12_leftBy_4 N 216 (qH g V X) k) (a := a) (by omega) hh (b := Int32.ofNat (mxH (fun j => P (nu j)) h c a)) c N 0 (by omega) (by omega)
    rw [show qsum (eqH (fun j => P (nu j)) h a) 0 = 0 from rfl] at e40
    unfold fX12_leftBy_4
    rw [q196_g32, Option.bind_some, h1, if_neg (by rw [qle (by omega) (by omega)]; omega), l0, e40]
    unfold fX12_greater
    conv at hih => lhs; unfold mxH
    by_cases e : mxH (fun j => P (nu j)) h c a ≤ qsum (eqH (fun j => P (nu j)) h a) c
    · rw [if_pos (by rw [qle (by omega) (by omega)]; exact e), Option.bind_some]
      rw [if_pos e] at hih
      exact hih
    · rw [if_neg (by rw [qle (by omega) (by omega)]; exact e), Option.bind_some]
      rw [if_neg e] at hih
      exact hih
/-- the hour to ask, as the reference finds it: b in its place -/
theorem m_best (hN : 3000 ≤ N) (hc : c ≤ 36) (hnu : ∀ j, nu j < 36) (hP : ∀ f i, P f i < 1000) {r : Int32} : ∀ m k V b h, V 196 32 = Int32.ofNat c → (∀ j, j < c → V 206 j = Int32.ofNat (nu j)) → (∀ f i, f < 36 → i < 13 → V 207 (13 * f + i) = Int32.ofNat (P f i)) → V 196 33 = Int32.ofNat b → b < 13 → h + m = 13 → m < k → ∃ W, fX12_fits_200 N 216 k (qH g V X) 196 r (Int32.ofNat h) = some (qH g W X, r) ∧ W 196 33 = Int32.ofNat (bsH (fun h => mxH (fun j => P (nu j)) h c c) b h m) ∧ ∀ b j, ¬ (b = 196 ∧ j = 33) → W b j = V b j := by
  intro m
  induction m with
  | zero =>
    intro k V b h h1 h188 h190 h33 hb hj hk
    obtain ⟨k, rfl⟩ := Nat.exists_eq_succ_of_ne_zero (n := k) (by omega)
    refine ⟨V, ?_, h33, fun _ _ _ => rfl⟩
    unfold fX12_fits_200
    rw [if_pos (by rw [show (13 : Int32) = Int32.ofNat 13 from rfl, qle (by omega) (by omega)]; omega)]
  | succ m ih =>
    intro k V b h h1 h188 h190 h33 hb hj hk
    obtain ⟨k, rfl⟩ := Nat.exists_eq_succ_of_ne_zero (n := k) (by omega)
    have b1 := mxH_le (q := fun j => P (nu j)) (h := h) (n := c) c
    have b2 := mxH_le (q := fun j => P (nu j)) (h := b) (n := c) c
    have e1 := m_left4 (g := g) (X := X) hN hc hnu hP h1 h188 h190 (h := h) (by omega) c N 0 (by omega) (by omega)
    have e2 := m_left4 (g := g) (X := X) hN hc hnu hP h1 h188 h190 (h := b) (by omega) c N 0 (by omega) (by omega)
    rw [show mxH (fun j => P (nu j)) h c 0 = 0 from rfl] at e1
    rw [show mxH (fun j => P (nu j)) b c 0 = 0 from rfl] at e2
    unfold fX12_fits_200 fX12_leftBy bsH
    rw [if_neg (by rw [show (13 : Int32) = Int32.ofNat 13 from rfl, qle (by omega) (by omega)]; omega), q196_c, Option.bind_some, l0, e1, Option.bind_some, q196_g33, Option.bind_some, Option.bind_some, h33, e2, Option.bind_some]
    by_cases e : mxH (fun j => P (nu j)) b c c ≤ mxH (fun j => P (nu j)) h c c
    · rw [if_pos (by rw [qle (by omega) (by omega)]; exact e), if_pos e]
      unfold fX12_fits_227
      rw [l1, qadd]
      exact ih k V b (h + 1) h1 h188 h190 h33 hb (by omega) (by omega)
    · rw [if_neg (by rw [qle (by omega) (by omega)]; exact e), if_neg e]
      obtain ⟨W, x1, x2, x3⟩ := ih k (qw V 196 (upd (V 196) 33 (Int32.ofNat h))) h (h + 1) (by rw [qw_s, upd_n (by omega)]; exact h1) (fun j hj => by rw [qw_n (by decide)]; exact h188 j hj) (fun f i a1 a2 => by rw [qw_n (by decide)]; exact h190 f i a1 a2) (by rw [qw_s, upd_s]) (by omega) (by omega) (by omega)
      refine ⟨W, ?_, x2, fun b2 j hb2 => ?_⟩
      · unfold fX12_fits_227
        rw [q196_p33, Option.bind_some, l1, qadd]
        exact x1
      · rw [x3 b2 j hb2]
        by_cases e : b2 = 196
        · subst e
          rw [qw_s, upd_n (by omega)]
        · rw [qw_n e]
end ASK
end QFU
