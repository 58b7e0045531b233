/-! small numbers as ints -/
def qo (o : Option Nat) : Int32 := match o with
  | none => -1
  | some k => Int32.ofNat k
def qz (b : Bool) : Int32 := if b then 1 else 0
theorem qlit {n : Nat} : (no_index (OfNat.ofNat n) : Int32) = Int32.ofNat n := rfl
theorem qlit0 : (0 : Int32) = Int32.ofNat 0 := rfl
theorem qlit1 : (1 : Int32) = Int32.ofNat 1 := rfl
theorem qle {a b : Nat} (ha : a < 2147483648) (hb : b < 2147483648) : (Int32.ofNat a ≤ Int32.ofNat b) = (a ≤ b) := propext (Int32.ofNat_le_ofNat ha hb)
theorem qlt {a b : Nat} (ha : a < 2147483648) (hb : b < 2147483648) : (Int32.ofNat a < Int32.ofNat b) = (a < b) := propext (Int32.ofNat_lt_ofNat ha hb)
theorem qeq {a b : Nat} (ha : a < 2147483648) (hb : b < 2147483648) : (Int32.ofNat a = Int32.ofNat b) = (a = b) := by
  apply propext
  constructor
  · intro h
    have h2 := congrArg Int32.toInt h
    rw [Int32.toInt_ofNat_of_lt (by omega), Int32.toInt_ofNat_of_lt (by omega)] at h2
    omega
  · intro h
    rw [h]
theorem qneg {a : Nat} (ha : a < 2147483648) : (Int32.ofNat a < 0) = False := eq_false (Int32.ofNat_not_neg ha)
theorem qne1 {a : Nat} (ha : a < 2147483648) : (Int32.ofNat a = -1) = False := by
  apply eq_false
  intro h
  have h2 := congrArg Int32.toInt h
  rw [Int32.toInt_ofNat_of_lt (by omega)] at h2
  have h3 : (-1 : Int32).toInt = -1 := rfl
  omega
theorem qne1' {a : Nat} (ha : a < 2147483648) : (-1 = Int32.ofNat a) = False := by
  apply eq_false
  intro h
  have h2 := (qne1 ha).mp h.symm
  exact h2
theorem qm1 : ((-1 : Int32) < 0) = True := eq_true (by decide)
theorem qm1e : ((-1 : Int32) = -1) = True := eq_true rfl
theorem qadd {a b : Nat} : Int32.ofNat a + Int32.ofNat b = Int32.ofNat (a + b) := (Int32.ofNat_add a b).symm
theorem qmul {a b : Nat} : Int32.ofNat a * Int32.ofNat b = Int32.ofNat (a * b) := (Int32.ofNat_mul a b).symm
theorem qsub {a b : Nat} (h : b ≤ a) : Int32.ofNat a - Int32.ofNat b = Int32.ofNat (a - b) := (Int32.ofNat_sub a b h).symm
theorem qdec {a : Nat} (h : 1 ≤ a) : Int32.ofNat a + -1 = Int32.ofNat (a - 1) := by
  rw [← qsub h, Int32.sub_eq_add_neg]
  rfl
theorem qdec0 : Int32.ofNat 0 + -1 = -1 := by decide
theorem qnat {a : Nat} (h : a < 2147483648) : (Int32.ofNat a).toNatClampNeg = a := Int32.toNatClampNeg_ofNat_of_lt (by omega)
theorem qdiv {a b : Nat} (ha : a < 2147483648) (hb : b < 2147483648) : Int32.ofNat a / Int32.ofNat b = Int32.ofNat (a / b) := by
  apply Int32.toInt_inj.mp
  have hd : a / b ≤ a := Nat.div_le_self a b
  rw [Int32.toInt_div_of_ne_right _ _ (by rw [ne_eq, qne1 hb]; exact not_false), Int32.toInt_ofNat_of_lt (by omega), Int32.toInt_ofNat_of_lt (by omega), Int32.toInt_ofNat_of_lt (by omega)]
  rfl
theorem qrem {a b : Nat} (ha : a < 2147483648) (hb : b < 2147483648) : zrem (Int32.ofNat a) (Int32.ofNat b) = Int32.ofNat (a % b) := by
  unfold zrem
  rw [qdiv ha hb, qmul, qsub (Nat.div_mul_le_self a b)]
  congr 1
  have h := Nat.mod_add_div a b
  rw [Nat.mul_comm] at h
  omega
theorem qbv {a : Nat} : (Int32.ofNat a).toBitVec = BitVec.ofNat 32 a := rfl
theorem qor {a b : Nat} : Int32.ofNat a ||| Int32.ofNat b = Int32.ofNat (a ||| b) := by
  apply Int32.toBitVec_inj.mp
  rw [Int32.toBitVec_or, qbv, qbv, qbv]
  apply BitVec.eq_of_toNat_eq
  simp [BitVec.toNat_or, Nat.or_mod_two_pow]
theorem qand {a b : Nat} : Int32.ofNat a &&& Int32.ofNat b = Int32.ofNat (a &&& b) := by
  apply Int32.toBitVec_inj.mp
  rw [Int32.toBitVec_and, qbv, qbv, qbv]
  apply BitVec.eq_of_toNat_eq
  simp [BitVec.toNat_and, Nat.and_mod_two_pow]
theorem qxor {a b : Nat} : Int32.ofNat a ^^^ Int32.ofNat b = Int32.ofNat (a ^^^ b) := by
  apply Int32.toBitVec_inj.mp
  rw [Int32.toBitVec_xor, qbv, qbv, qbv]
  apply BitVec.eq_of_toNat_eq
  simp [BitVec.toNat_xor, Nat.xor_mod_two_pow]
theorem qsh {k : Nat} (h : k < 32) : (Int32.ofNat k &&& 31) = Int32.ofNat k := by
  rw [show (31 : Int32) = Int32.ofNat 31 from rfl, qand, show (31 : Nat) = 2 ^ 5 - 1 from rfl, Nat.and_two_pow_sub_one_eq_mod, Nat.mod_eq_of_lt h]
theorem qsmod : ∀ k, k < 32 → ((BitVec.ofNat 32 k).smod 32).toNat = k := by decide +kernel
theorem qshl {a k : Nat} (h : k < 32) : zishl (Int32.ofNat a) (Int32.ofNat k) = Int32.ofNat (a * 2 ^ k) := by
  unfold zishl
  rw [qsh h]
  apply Int32.toBitVec_inj.mp
  rw [Int32.toBitVec_shiftLeft, qbv, qbv, qbv, BitVec.shiftLeft_eq', qsmod k h]
  apply BitVec.eq_of_toNat_eq
  rw [BitVec.toNat_shiftLeft, BitVec.toNat_ofNat, BitVec.toNat_ofNat, Nat.shiftLeft_eq, Nat.mod_mul_mod]
theorem qshr {a k : Nat} (h : k < 32) (ha : a < 2147483648) : zishr (Int32.ofNat a) (Int32.ofNat k) = Int32.ofNat (a / 2 ^ k) := by
  unfold zishr
  rw [qsh h]
  apply Int32.toBitVec_inj.mp
  apply BitVec.eq_of_toInt_eq
  have h1 : (BitVec.ofNat 32 a).toInt = (a : Int) := Int32.toInt_ofNat_of_lt (n := a) (by omega)
  have h3 : a / 2 ^ k ≤ a := Nat.div_le_self _ _
  have h2 : (BitVec.ofNat 32 (a / 2 ^ k)).toInt = ((a / 2 ^ k : Nat) : Int) := Int32.toInt_ofNat_of_lt (n := a / 2 ^ k) (by omega)
  rw [Int32.toBitVec_shiftRight, qbv, qbv, qbv, BitVec.sshiftRight_eq', qsmod k h, BitVec.toInt_sshiftRight, h1, h2, Int.shiftRight_eq_div_pow]
  simp
theorem qarg (p : Int32) : p < 0 ∨ ∃ k, k < 2147483648 ∧ p = Int32.ofNat k := by
  by_cases h : p < 0
  · exact Or.inl h
  · refine Or.inr ⟨p.toNatClampNeg, Int32.toNatClampNeg_lt p, (Int32.ofNat_toNatClampNeg p (by rw [Int32.le_iff_toInt_le]; rw [Int32.lt_iff_toInt_lt] at h; omega)).symm⟩
theorem qzb (b : Bool) : zbl (qz b) = some (qz b) := by cases b <;> rfl
theorem qz0 (b : Bool) : (qz b = 0) = (b = false) := by cases b <;> simp [qz]
theorem qb0 : zbl 0 = some (qz false) := rfl
theorem qb1 : zbl 1 = some (qz true) := rfl
theorem qo_none : qo none = -1 := rfl
theorem qo_some {k : Nat} : qo (some k) = Int32.ofNat k := rfl
theorem qo_1 {o : Option Nat} (h : ∀ k, o = some k → k < 2147483648) : (qo o = -1) = (o = none) := by
  cases o with
  | none => simp [qo]
  | some k => simp [qo, qne1 (h k rfl)]
theorem qo_neg {o : Option Nat} (h : ∀ k, o = some k → k < 2147483648) : (qo o < 0) = (o = none) := by
  cases o with
  | none => simp [qo, qm1]
  | some k => simp [qo, qneg (h k rfl)]
/-- the first of n numbers from i on that fits -/
def qfnd (P : Nat → Bool) (i : Nat) : Nat → Option Nat
  | 0 => none
  | n + 1 => if P i then some i else qfnd P (i + 1) n
theorem qfnd_lt {P : Nat → Bool} {n i k : Nat} (h : qfnd P i n = some k) : i ≤ k ∧ k < i + n ∧ P k = true := by
  induction n generalizing i with
  | zero => cases h
  | succ n ih =>
    unfold qfnd at h
    split at h
    · rename_i hp
      cases h
      exact ⟨Nat.le_refl _, by omega, hp⟩
    · have h2 := ih h
      exact ⟨by omega, by omega, h2.2.2⟩
/-- a set of numbers below n, as bits -/
def qbits (P : Nat → Bool) : Nat → Nat
  | 0 => 0
  | n + 1 => qbits P n + (if P n then 2 ^ n else 0)
theorem qbits_lt {P : Nat → Bool} {n : Nat} : qbits P n < 2 ^ n := by
  induction n with
  | zero => simp [qbits]
  | succ n ih =>
    unfold qbits
    rw [Nat.pow_succ]
    split <;> omega
theorem qbits_or {P : Nat → Bool} {n : Nat} : qbits P n ||| 2 ^ n = qbits P n + 2 ^ n := by
  rw [Nat.or_comm, Nat.add_comm]
  have h := Nat.two_pow_add_eq_or_of_lt (qbits_lt (P := P) (n := n)) 1
  rw [Nat.mul_one] at h
  exact h.symm
/-- a sum -/
def qsum (P : Nat → Nat) : Nat → Nat
  | 0 => 0
  | n + 1 => qsum P n + P n
theorem qmr : -Int32.ofNat 1 = qo none := by decide
theorem qneo {a : Nat} (ha : a < 2147483648) : (Int32.ofNat a = qo none) = False := qne1 ha
theorem qneo' {a : Nat} (ha : a < 2147483648) : (qo none = Int32.ofNat a) = False := qne1' ha
theorem qlto {a : Nat} (ha : a < 2147483648) : (qo none < Int32.ofNat a) = True := by
  apply eq_true
  rw [Int32.lt_iff_toInt_lt, Int32.toInt_ofNat_of_lt (by omega)]
  have h3 : (qo none).toInt = -1 := by decide
  omega
theorem qleo {a : Nat} (ha : a < 2147483648) : (Int32.ofNat a ≤ qo none) = False := by
  apply eq_false
  rw [Int32.le_iff_toInt_le, Int32.toInt_ofNat_of_lt (by omega)]
  have h3 : (qo none).toInt = -1 := by decide
  omega
theorem qleo' {a : Nat} (ha : a < 2147483648) : (qo none ≤ Int32.ofNat a) = True := by
  apply eq_true
  rw [Int32.le_iff_toInt_le, Int32.toInt_ofNat_of_lt (by omega)]
  have h3 : (qo none).toInt = -1 := by decide
  omega
theorem qdeco {a : Nat} (h : 1 ≤ a) : Int32.ofNat a + qo none = Int32.ofNat (a - 1) := qdec h
theorem qdeco0 : Int32.ofNat 0 + qo none = qo none := by decide
