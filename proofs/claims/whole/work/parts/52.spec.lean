/-! what both sides do, told of one row of numbers (the reference's own order of them) -/
def sU (s : Nat → Nat) (k x : Nat) : Nat → Nat := fun j => if j = k then x else s j
theorem sU_s {s : Nat → Nat} {k x : Nat} : sU s k x k = x := by simp [sU]
theorem sU_n {s : Nat → Nat} {k x j : Nat} (h : j ≠ k) : sU s k x j = s j := by simp [sU, h]
def sBeside (s : Nat → Nat) (c d : Nat) : Option Nat :=
  if d = 0 then (if c % 9 + 1 < s 0 ∧ c / 9 < s 1 then some (9 * (c / 9) + (c % 9 + 1)) else none)
  else if d = 1 then (if c % 9 < s 0 ∧ c / 9 + 1 < s 1 then some (9 * (c / 9 + 1) + c % 9) else none)
  else if d = 2 then (if 1 ≤ c % 9 ∧ c % 9 - 1 < s 0 ∧ c / 9 < s 1 then some (9 * (c / 9) + (c % 9 - 1)) else none)
  else (if c % 9 < s 0 ∧ 1 ≤ c / 9 ∧ c / 9 - 1 < s 1 then some (9 * (c / 9 - 1) + c % 9) else none)
def sFig (s : Nat → Nat) (c : Nat) : Option Nat := qfnd (fun f => decide (s (141 + f) = c)) 0 (s 3)
def sLook (s : Nat → Nat) (c : Nat) : Option Nat := qfnd (fun l => decide (s (159 + l) = c)) 0 (s 4)
def sFree (s : Nat → Nat) (t : Nat) : Bool := decide (s (5 + t) = 0) && ((sFig s t).isNone && (sLook s t).isNone)
def sCan (s : Nat → Nat) (f : Nat) : Bool := match sBeside s (s (141 + f)) (s (147 + f)) with
  | none => false
  | some t => sFree s t
/-- the cells on a line, as far as there is no hedge -/
def sLn (s : Nat → Nat) (d : Nat) : Nat → Option Nat → List Nat
  | 0, _ => []
  | _ + 1, none => []
  | n + 1, some c => if s (5 + c) = 0 then c :: sLn s d n (sBeside s c d) else []
def sShut (s : Nat → Nat) (l : Nat) : Nat := s 140 / 2 ^ l % 2
def sLooks (s : Nat → Nat) (l : Nat) : Bool := decide (sShut s l = 0) && decide ((s 139 + 24 - s (129 + l)) % 24 < s (134 + l))
def sSight (s : Nat → Nat) (c d f : Nat) : Bool := decide (s (141 + f) ∈ sLn s d 9 (some c))
def sSeen (s : Nat → Nat) (c d : Nat) : Nat := qbits (fun f => sSight s c d f) (s 3)
def sSeers (s : Nat → Nat) (f : Nat) : Nat := qbits (fun l => sLooks s l && sSight s (s (159 + l)) (s (164 + l)) f) (s 4)
def sGoes (s : Nat → Nat) (f : Nat) : Nat → Nat :=
  if sCan s f then
    let t := (sBeside s (s (141 + f)) (s (147 + f))).getD 0
    sU (sU (sU s (141 + f) t) (169 + t) (s (95 + f) + 1)) (153 + f) (s (153 + f) + 1)
  else sU s (147 + f) ((s (147 + f) + 1) % 4)
def sTurn (s : Nat → Nat) (f : Nat) : Nat → Nat := if (s 139 + 1) % s (113 + f) = 0 ∧ sSeers s f = 0 then sGoes s f else s
def sHourL (s : Nat → Nat) (f : Nat) : Nat → (Nat → Nat)
  | 0 => s
  | n + 1 => sHourL (sTurn s f) (f + 1) n
def sHour (s : Nat → Nat) : Nat → Nat :=
  let t := sHourL s 0 (s 3)
  sU t 139 (t 139 + 1)
/-- what holds of the row: the field's part -/
def sWF (s : Nat → Nat) : Prop :=
  (2 ≤ s 0 ∧ s 0 ≤ 9) ∧ (2 ≤ s 1 ∧ s 1 ≤ 9) ∧ s 2 ≤ 4 ∧ s 3 ≤ 6 ∧ s 4 ≤ 5 ∧ (∀ c, c < 81 → s (5 + c) ≤ 1) ∧
  (∀ f, f < s 3 → s (95 + f) < s 2) ∧ (∀ f, f < s 3 → 1 ≤ s (113 + f) ∧ s (113 + f) ≤ 9) ∧ (∀ f, f < s 3 → s (101 + f) < 81) ∧
  (∀ l, l < s 4 → s (129 + l) ≤ 23) ∧ (∀ l, l < s 4 → 1 ≤ s (134 + l) ∧ s (134 + l) ≤ 24)
/-- .. and the part that goes on -/
def sWD (s : Nat → Nat) : Prop :=
  s 139 ≤ 100000 ∧ s 140 < 2 ^ s 4 ∧ (∀ f, f < s 3 → s (141 + f) < 81) ∧ (∀ f, f < s 3 → s (147 + f) < 4) ∧
  (∀ l, l < s 4 → s (159 + l) < 81) ∧ (∀ l, l < s 4 → s (164 + l) < 4) ∧ (∀ c, c < 81 → s (169 + c) ≤ 4) ∧
  (∀ f g, f < s 3 → g < s 3 → s (141 + f) = s (141 + g) → f = g)
theorem sBeside_lt {s : Nat → Nat} (hW : sWF s) {c d t : Nat} (h : sBeside s c d = some t) : t < 81 := by
  obtain ⟨⟨-, h0⟩, ⟨-, h1⟩, -⟩ := hW
  unfold sBeside at h
  split at h
  · split at h <;> first | (cases h; omega) | cases h
  · split at h
    · split at h <;> first | (cases h; omega) | cases h
    · split at h
      · split at h <;> first | (cases h; omega) | cases h
      · split at h <;> first | (cases h; omega) | cases h
/-- the ints of a field's object are the row's -/
def rF (V : Nat → Nat → Int32) (φ : Nat) (s : Nat → Nat) : Prop :=
  V φ 0 = Int32.ofNat (s 0) ∧ V φ 1 = Int32.ofNat (s 1) ∧ V φ 2 = Int32.ofNat (s 2) ∧ V φ 3 = Int32.ofNat (s 3) ∧ V φ 4 = Int32.ofNat (s 4) ∧ (∀ c, c < 81 → V (φ + 4) c = Int32.ofNat (s (5 + c))) ∧
  (∀ f, f < s 3 → V (φ + 6) f = Int32.ofNat (s (95 + f))) ∧ (∀ f, f < s 3 → V (φ + 7) f = Int32.ofNat (s (113 + f))) ∧ (∀ f, f < s 3 → V (φ + 8) f = Int32.ofNat (s (101 + f))) ∧
  (∀ l, l < s 4 → V (φ + 9) l = Int32.ofNat (s (129 + l))) ∧ (∀ l, l < s 4 → V (φ + 10) l = Int32.ofNat (s (134 + l)))
/-- .. and of a state's object -/
def rS (V : Nat → Nat → Int32) (a : Nat) (s : Nat → Nat) : Prop :=
  V a 1 = Int32.ofNat (s 139) ∧ (∀ f, f < s 3 → V (a + 1) f = Int32.ofNat (s (141 + f))) ∧ (∀ f, f < s 3 → V (a + 2) f = Int32.ofNat (s (147 + f))) ∧ (∀ f, f < s 3 → V (a + 3) f = Int32.ofNat (s (153 + f))) ∧
  (∀ l, l < s 4 → V (a + 4) l = Int32.ofNat (s (159 + l))) ∧ (∀ l, l < s 4 → V (a + 5) l = Int32.ofNat (s (164 + l))) ∧ (∀ l, l < s 4 → V (a + 6) l = Int32.ofNat (sShut s l)) ∧ (∀ c, c < 81 → V (a + 7) c = Int32.ofNat (s (169 + c)) + -1)
