/-! tokens, told once for both sides -/
def kSm (c : Nat) : Bool := decide (97 ≤ c ∧ c ≤ 122)
def kDg (c : Nat) : Bool := decide (48 ≤ c ∧ c ≤ 57)
def kBl (c : Nat) : Bool := decide (c = 32 ∨ c = 10)
def kSg (c : Nat) : Bool := decide (c = 59 ∨ c = 40 ∨ c = 41 ∨ (60 ≤ c ∧ c ≤ 62))
def tSk (B : Nat → Nat) : Nat → Nat → Nat
  | 0, p => p
  | k + 1, p => if kBl (B p) then tSk B k (p + 1) else p
def tRn (B : Nat → Nat) : Nat → Nat → Nat
  | 0, _ => 0
  | k + 1, p => if kSm (B p) || kDg (B p) then tRn B k (p + 1) + 1 else 0
def tWd (B : Nat → Nat) (p : Nat) : Nat → List Nat
  | 0 => []
  | k + 1 => B (p + k) :: tWd B p k
def tNm (B : Nat → Nat) (p : Nat) : Nat → Nat
  | 0 => 0
  | k + 1 => 10 * tNm B p k + B (p + k) - 48
def tAll (h : Nat → Bool) (B : Nat → Nat) (p : Nat) : Nat → Bool
  | 0 => true
  | k + 1 => tAll h B p k && h (B (p + k))
theorem tAll_s {h : Nat → Bool} {B : Nat → Nat} {p k : Nat} : tAll h B p (k + 1) = (tAll h B p k && h (B (p + k))) := rfl
theorem tWd_s {B : Nat → Nat} {p k : Nat} : tWd B p (k + 1) = B (p + k) :: tWd B p k := rfl
theorem tNm_s {B : Nat → Nat} {p k : Nat} : tNm B p (k + 1) = 10 * tNm B p k + B (p + k) - 48 := rfl
def r5 : List Nat → Nat
  | [] => 0
  | c :: t => 32 * r5 t + (c - 96)
def r8 : List Nat → Nat
  | [] => 0
  | c :: t => 256 * r8 t + c
def wKs : List (List Nat) := [[116, 115, 97, 101], [104, 116, 117, 111, 115], [116, 115, 101, 119], [104, 116, 114, 111, 110], [100, 108, 101, 105, 102], [101, 103, 100, 101, 104], [114, 101, 110, 119, 111], [100, 110, 97, 108], [101, 114, 117, 103, 105, 102], [114, 101, 107, 111, 111, 108], [115, 110, 114, 117, 116], [115, 107, 108, 97, 119], [115, 116, 117, 104, 115], [115, 110, 101, 112, 111], [115, 101, 99, 97, 102], [114, 117, 111, 104], [114, 111], [100, 110, 97], [116, 111, 110], [110, 101, 101, 115], [107, 99, 117, 116, 115], [100, 101, 118, 111, 109], [102, 111], [121, 98], [101, 110, 111, 103], [121, 114, 101, 118, 101], [114, 101, 98, 109, 117, 110]]
def wK (v : Nat) : List Nat := wKs.getD v []
def tIdx (w : List Nat) : Option Nat := qfnd (fun v => decide (wK v = w)) 0 27
/-- kind (0 the end, 1 the end of what may be read, 2 sign, 3 number, 4 word, 5 name, 6 none), place, behind it, value, letters -/
def tTk (B : Nat → Nat) (n m q : Nat) : Nat × Nat × Nat × Nat × List Nat :=
  if m < n ∧ m ≤ q then (1, m, q, 0, [])
  else if n ≤ q then (0, q, q, 0, [])
  else if tRn B (n - q) q = 0 then (if kSg (B q) then 2 else 6, q, q + 1, B q, [])
  else if tAll kSm B q (tRn B (n - q) q) = true ∧ tRn B (n - q) q ≤ 7 then
    (if (tIdx (tWd B q (tRn B (n - q) q))).isSome then 4 else 5, q, q + tRn B (n - q) q, (tIdx (tWd B q (tRn B (n - q) q))).getD 0, tWd B q (tRn B (n - q) q))
  else if tAll kDg B q (tRn B (n - q) q) = true ∧ tRn B (n - q) q ≤ 3 then (3, q, q + tRn B (n - q) q, tNm B q (tRn B (n - q) q), [])
  else (6, q, q + tRn B (n - q) q, 0, [])
def tTok (B : Nat → Nat) (n m p : Nat) : Nat × Nat × Nat × Nat × List Nat := tTk B n m (tSk B (n - p) p)
theorem tSk_le (B : Nat → Nat) : ∀ k p, p ≤ tSk B k p ∧ tSk B k p ≤ p + k := by
  intro k
  induction k with
  | zero => intro p; unfold tSk; omega
  | succ k ih =>
    intro p
    unfold tSk
    split
    · have := ih (p + 1); omega
    · omega
theorem tSk_b (B : Nat → Nat) : ∀ k p, tSk B k p < p + k → kBl (B (tSk B k p)) = false := by
  intro k
  induction k with
  | zero => intro p h; unfold tSk at h; omega
  | succ k ih =>
    intro p h
    unfold tSk at h ⊢
    split
    · rename_i hb
      rw [if_pos hb] at h
      exact ih (p + 1) (by omega)
    · rename_i hb
      simpa using hb
/-- read as far as a limit -/
theorem tSk_lim (B : Nat → Nat) : ∀ k j p, j ≤ k → tSk B j p = min (tSk B k p) (p + j) := by
  intro k
  induction k with
  | zero => intro j p h; obtain rfl : j = 0 := by omega
            unfold tSk; omega
  | succ k ih =>
    intro j p h
    cases j with
    | zero => have := (tSk_le B (k + 1) p).1; show p = _; omega
    | succ j =>
      unfold tSk
      split
      · rw [ih j (p + 1) (by omega)]; congr 1; omega
      · omega
theorem tRn_le (B : Nat → Nat) : ∀ k p, tRn B k p ≤ k := by
  intro k
  induction k with
  | zero => intro p; unfold tRn; omega
  | succ k ih =>
    intro p
    unfold tRn
    split
    · have := ih (p + 1); omega
    · omega
theorem kSm_e {c : Nat} : (kSm c = true) = (97 ≤ c ∧ c ≤ 122) := by simp [kSm]
theorem kDg_e {c : Nat} : (kDg c = true) = (48 ≤ c ∧ c ≤ 57) := by simp [kDg]
theorem kSm_f {c : Nat} (h : ¬ (97 ≤ c ∧ c ≤ 122)) : kSm c = false := decide_eq_false h
theorem kDg_f {c : Nat} (h : ¬ (48 ≤ c ∧ c ≤ 57)) : kDg c = false := decide_eq_false h
theorem kSm_t {c : Nat} (h : 97 ≤ c ∧ c ≤ 122) : kSm c = true := decide_eq_true h
theorem kDg_t {c : Nat} (h : 48 ≤ c ∧ c ≤ 57) : kDg c = true := decide_eq_true h
def wOK (w : List Nat) : Prop := ∀ c, c ∈ w → 97 ≤ c ∧ c ≤ 122
theorem tAll_wd {B : Nat → Nat} {p : Nat} : ∀ k, tAll kSm B p k = true → wOK (tWd B p k) := by
  intro k
  induction k with
  | zero => intro _ c hc; unfold tWd at hc; cases hc
  | succ k ih =>
    intro h c hc
    unfold tAll at h
    rw [Bool.and_eq_true, kSm_e] at h
    unfold tWd at hc
    rcases List.mem_cons.mp hc with rfl | hc
    · exact h.2
    · exact ih h.1 c hc
theorem tWd_len {B : Nat → Nat} {p : Nat} : ∀ k, (tWd B p k).length = k := by
  intro k
  induction k with
  | zero => rfl
  | succ k ih => unfold tWd; simp [ih]
theorem r5_s {c : Nat} {t : List Nat} : r5 (c :: t) = 32 * r5 t + (c - 96) := rfl
theorem r8_s {c : Nat} {t : List Nat} : r8 (c :: t) = 256 * r8 t + c := rfl
theorem r5_inj : ∀ v w : List Nat, wOK v → wOK w → r5 v = r5 w → v = w := by
  intro v
  induction v with
  | nil =>
    intro w hv hw h
    cases w with
    | nil => rfl
    | cons c t =>
      have := hw c List.mem_cons_self
      unfold r5 at h
      omega
  | cons d u ih =>
    intro w hv hw h
    have hd := hv d List.mem_cons_self
    cases w with
    | nil =>
      have e : r5 [] = 0 := rfl
      have e2 : r5 (d :: u) = 32 * r5 u + (d - 96) := rfl
      omega
    | cons c t =>
      have hc := hw c List.mem_cons_self
      have e1 : r5 (c :: t) = 32 * r5 t + (c - 96) := rfl
      have e2 : r5 (d :: u) = 32 * r5 u + (d - 96) := rfl
      rw [e1, e2] at h
      have hcd : d = c := by omega
      have ht : r5 u = r5 t := by omega
      rw [hcd, ih t (fun x hx => hv x (List.mem_cons_of_mem _ hx)) (fun x hx => hw x (List.mem_cons_of_mem _ hx)) ht]
theorem r8_inj : ∀ v w : List Nat, wOK v → wOK w → r8 v = r8 w → v = w := by
  intro v
  induction v with
  | nil =>
    intro w hv hw h
    cases w with
    | nil => rfl
    | cons c t =>
      have := hw c List.mem_cons_self
      unfold r8 at h
      omega
  | cons d u ih =>
    intro w hv hw h
    have hd := hv d List.mem_cons_self
    cases w with
    | nil =>
      have e : r8 [] = 0 := rfl
      have e2 : r8 (d :: u) = 256 * r8 u + d := rfl
      omega
    | cons c t =>
      have hc := hw c List.mem_cons_self
      have e1 : r8 (c :: t) = 256 * r8 t + c := rfl
      have e2 : r8 (d :: u) = 256 * r8 u + d := rfl
      rw [e1, e2] at h
      have hcd : d = c := by omega
      have ht : r8 u = r8 t := by omega
      rw [hcd, ih t (fun x hx => hv x (List.mem_cons_of_mem _ hx)) (fun x hx => hw x (List.mem_cons_of_mem _ hx)) ht]
theorem r5_lt : ∀ w : List Nat, wOK w → r5 w < 32 ^ w.length := by
  intro w
  induction w with
  | nil => intro _; decide
  | cons c t ih =>
    intro h
    have hc := h c List.mem_cons_self
    have ht := ih (fun x hx => h x (List.mem_cons_of_mem _ hx))
    have e1 : r5 (c :: t) = 32 * r5 t + (c - 96) := rfl
    rw [e1, List.length_cons, Nat.pow_succ]
    omega
theorem r8_lt : ∀ w : List Nat, wOK w → r8 w < 256 ^ w.length := by
  intro w
  induction w with
  | nil => intro _; decide
  | cons c t ih =>
    intro h
    have hc := h c List.mem_cons_self
    have ht := ih (fun x hx => h x (List.mem_cons_of_mem _ hx))
    have e1 : r8 (c :: t) = 256 * r8 t + c := rfl
    rw [e1, List.length_cons, Nat.pow_succ]
    omega
theorem pow7 {b k : Nat} (hb : 1 ≤ b) (h : k ≤ 7) : b ^ k ≤ b ^ 7 := Nat.pow_le_pow_right hb h
theorem r5_b {w : List Nat} (h : wOK w) (hl : w.length ≤ 7) : r5 w < 34359738368 := Nat.lt_of_lt_of_le (r5_lt w h) (Nat.le_trans (pow7 (by decide) hl) (by decide))
theorem r8_b {w : List Nat} (h : wOK w) (hl : w.length ≤ 7) : r8 w < 72057594037927936 := Nat.lt_of_lt_of_le (r8_lt w h) (Nat.le_trans (pow7 (by decide) hl) (by decide))
theorem q64_inj {a b : Nat} (ha : a < 9223372036854775808) (hb : b < 9223372036854775808) : (Int64.ofNat a = Int64.ofNat b) = (a = b) := by
  apply propext
  constructor
  · intro h
    have h2 := congrArg Int64.toInt h
    rw [Int64.toInt_ofNat_of_lt (by omega), Int64.toInt_ofNat_of_lt (by omega)] at h2
    omega
  · intro h; rw [h]
/-- a name as both sides keep it -/
def nmR (x y : Int64) : Prop := ∃ w, wOK w ∧ w.length ≤ 7 ∧ x = Int64.ofNat (r5 w) ∧ y = Int64.ofNat (r8 w)
theorem nmR_eq {x y x2 y2 : Int64} (h : nmR x y) (h2 : nmR x2 y2) : (x = x2) = (y = y2) := by
  obtain ⟨w, a1, a2, rfl, rfl⟩ := h
  obtain ⟨v, b1, b2, rfl, rfl⟩ := h2
  have c1 := r5_b a1 a2
  have c2 := r5_b b1 b2
  have c3 := r8_b a1 a2
  have c4 := r8_b b1 b2
  rw [q64_inj (by omega) (by omega), q64_inj (by omega) (by omega)]
  exact propext ⟨fun h => by rw [r5_inj w v a1 b1 h], fun h => by rw [r8_inj w v a1 b1 h]⟩
theorem wK_ok : ∀ v, v < 27 → wOK (wK v) ∧ (wK v).length ≤ 7 := by
  intro v hv
  have h : ∀ v, v < 27 → (wK v).all (fun c => decide (97 ≤ c ∧ c ≤ 122)) = true ∧ (wK v).length ≤ 7 := by decide +kernel
  obtain ⟨h1, h2⟩ := h v hv
  refine ⟨fun c hc => ?_, h2⟩
  have := List.all_eq_true.mp h1 c hc
  exact of_decide_eq_true this
theorem wK_inj : ∀ v, v < 27 → ∀ u, u < 27 → wK v = wK u → v = u := by decide +kernel
theorem tIdx_wK {v : Nat} (hv : v < 27) : tIdx (wK v) = some v := by
  have h : ∀ v, v < 27 → tIdx (wK v) = some v := by decide +kernel
  exact h v hv
theorem tIdx_s {w : List Nat} {v : Nat} (h : tIdx w = some v) : v < 27 ∧ wK v = w := by
  have := qfnd_lt h
  exact ⟨by omega, of_decide_eq_true this.2.2⟩
theorem tIdx_n {w : List Nat} (h : tIdx w = none) : ∀ v, v < 27 → wK v ≠ w := by
  intro v hv
  have := qfnd_none h v (by omega) (by omega)
  exact of_decide_eq_false this
theorem q64i {k : Nat} (h : k < 2147483648) : (Int32.ofNat k).toInt64 = Int64.ofNat k := by
  apply Int64.toInt_inj.mp
  rw [Int32.toInt_toInt64, Int32.toInt_ofNat_of_lt (by omega), Int64.toInt_ofNat_of_lt (by omega)]
theorem q64_sh (x k : Nat) (hk : ((Int64.ofNat k).toBitVec.smod 64).toNat = k) : Int64.ofNat x <<< Int64.ofNat k = Int64.ofNat (x * 2 ^ k) := by
  apply Int64.toBitVec_inj.mp
  have e1 : ∀ y, (Int64.ofNat y).toBitVec = BitVec.ofNat 64 y := fun y => rfl
  rw [Int64.toBitVec_shiftLeft, BitVec.shiftLeft_eq', hk, e1, e1]
  apply BitVec.eq_of_toNat_eq
  rw [BitVec.toNat_shiftLeft, BitVec.toNat_ofNat, BitVec.toNat_ofNat, Nat.shiftLeft_eq, Nat.mod_mul_mod]
theorem q64_or {a b : Nat} : Int64.ofNat a ||| Int64.ofNat b = Int64.ofNat (a ||| b) := by
  apply Int64.toBitVec_inj.mp
  have e1 : ∀ y, (Int64.ofNat y).toBitVec = BitVec.ofNat 64 y := fun y => rfl
  rw [Int64.toBitVec_or, e1, e1, e1]
  apply BitVec.eq_of_toNat_eq
  simp [BitVec.toNat_or, Nat.or_mod_two_pow]
theorem q64_5 {x c : Nat} (hc : c < 32) : zlshl (Int64.ofNat x) (Int32.ofNat 5) ||| Int64.ofNat c = Int64.ofNat (32 * x + c) := by
  unfold zlshl
  rw [show ((Int32.ofNat 5).toInt64 &&& 63) = Int64.ofNat 5 by decide, q64_sh x 5 (by decide), q64_or]
  have := Nat.two_pow_add_eq_or_of_lt (i := 5) (b := c) (by omega) x
  rw [Nat.mul_comm x, ← this]
theorem q64_8 {x c : Nat} (hc : c < 256) : zlshl (Int64.ofNat x) (Int32.ofNat 8) ||| Int64.ofNat c = Int64.ofNat (256 * x + c) := by
  unfold zlshl
  rw [show ((Int32.ofNat 8).toInt64 &&& 63) = Int64.ofNat 8 by decide, q64_sh x 8 (by decide), q64_or]
  have := Nat.two_pow_add_eq_or_of_lt (i := 8) (b := c) (by omega) x
  rw [Nat.mul_comm x, ← this]
theorem q64_cmp {x y : Int64} : (lg_cmp x y = 0) = (x = y) := by
  apply propext
  unfold lg_cmp
  constructor
  · intro h
    split at h
    · cases h
    · split at h
      · assumption
      · cases h
  · intro h
    subst h
    simp
theorem q64_cmp0 {x y : Int64} : (lg_cmp x y = Int32.ofNat 0) = (x = y) := q64_cmp
theorem tAll_le {h : Nat → Bool} {B : Nat → Nat} {p : Nat} : ∀ k, tAll h B p (k + 1) = true → tAll h B p k = true := by
  intro k hk
  unfold tAll at hk
  exact (Bool.and_eq_true _ _ ▸ hk).1
theorem tNm_lt {B : Nat → Nat} {p : Nat} : ∀ k, tAll kDg B p k = true → tNm B p k < 10 ^ k := by
  intro k
  induction k with
  | zero => intro _; exact Nat.one_pos
  | succ k ih =>
    intro h
    unfold tAll at h
    rw [Bool.and_eq_true, kDg_e] at h
    have := ih h.1
    unfold tNm
    rw [Nat.pow_succ]
    omega
