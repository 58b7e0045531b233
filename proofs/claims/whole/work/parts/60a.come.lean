/-! what a piece of a method comes to -/
theorem qw_qw {V : Nat → Nat → Int32} {a : Nat} {r r2 : Nat → Int32} : qw (qw V a r) a r2 = qw V a r2 := by
  funext b
  unfold qw
  split <;> rfl
theorem qx_qx {X : Nat → Nat → Int64} {a : Nat} {r r2 : Nat → Int64} : qx (qx X a r) a r2 = qx X a r2 := by
  funext b
  unfold qx
  split <;> rfl
def hS (g : zF) (o : Option zF) (R : (Nat → Nat → Int32) → (Nat → Nat → Int64) → Prop) : Prop := ∃ W Y, o = some (qH g W Y) ∧ R W Y
def hV (g : zF) (o : Option (zF × Int32)) (R : (Nat → Nat → Int32) → (Nat → Nat → Int64) → Int32 → Prop) : Prop := ∃ W Y r, o = some (qH g W Y, r) ∧ R W Y r
section QZ
variable {g : zF} {V : Nat → Nat → Int32} {X : Nat → Nat → Int64}
theorem hS_pure {R : (Nat → Nat → Int32) → (Nat → Nat → Int64) → Prop} (h : R V X) : hS g (some (qH g V X)) R := ⟨V, X, rfl, h⟩
theorem hV_pure {R : (Nat → Nat → Int32) → (Nat → Nat → Int64) → Int32 → Prop} {r : Int32} (h : R V X r) : hV g (some (qH g V X, r)) R := ⟨V, X, r, rfl, h⟩
theorem hS_bind {o : Option zF} {k : zF → Option zF} {Q R : (Nat → Nat → Int32) → (Nat → Nat → Int64) → Prop} (h : hS g o Q) (h2 : ∀ W Y, Q W Y → hS g (k (qH g W Y)) R) : hS g (o.bind k) R := by
  obtain ⟨W, Y, e, q⟩ := h
  rw [e]
  exact h2 W Y q
theorem hS_zbd {o : Option (zF × Int32)} {k : zF → Int32 → Option zF} {Q : (Nat → Nat → Int32) → (Nat → Nat → Int64) → Int32 → Prop} {R : (Nat → Nat → Int32) → (Nat → Nat → Int64) → Prop} (h : hV g o Q) (h2 : ∀ W Y r, Q W Y r → hS g (k (qH g W Y) r) R) : hS g (zbd o k) R := by
  obtain ⟨W, Y, r, e, q⟩ := h
  rw [e]
  exact h2 W Y r q
theorem hV_bind {o : Option zF} {k : zF → Option (zF × Int32)} {Q : (Nat → Nat → Int32) → (Nat → Nat → Int64) → Prop} {R : (Nat → Nat → Int32) → (Nat → Nat → Int64) → Int32 → Prop} (h : hS g o Q) (h2 : ∀ W Y, Q W Y → hV g (k (qH g W Y)) R) : hV g (o.bind k) R := by
  obtain ⟨W, Y, e, q⟩ := h
  rw [e]
  exact h2 W Y q
theorem hV_zbd {o : Option (zF × Int32)} {k : zF → Int32 → Option (zF × Int32)} {Q R : (Nat → Nat → Int32) → (Nat → Nat → Int64) → Int32 → Prop} (h : hV g o Q) (h2 : ∀ W Y r, Q W Y r → hV g (k (qH g W Y) r) R) : hV g (zbd o k) R := by
  obtain ⟨W, Y, r, e, q⟩ := h
  rw [e]
  exact h2 W Y r q
theorem hS_mono {o : Option zF} {Q R : (Nat → Nat → Int32) → (Nat → Nat → Int64) → Prop} (h : hS g o Q) (h2 : ∀ W Y, Q W Y → R W Y) : hS g o R := by
  obtain ⟨W, Y, e, q⟩ := h
  exact ⟨W, Y, e, h2 W Y q⟩
theorem hV_mono {o : Option (zF × Int32)} {Q R : (Nat → Nat → Int32) → (Nat → Nat → Int64) → Int32 → Prop} (h : hV g o Q) (h2 : ∀ W Y r, Q W Y r → R W Y r) : hV g o R := by
  obtain ⟨W, Y, r, e, q⟩ := h
  exact ⟨W, Y, r, e, h2 W Y r q⟩
/-- a method that changes no longs, told in the older way -/
theorem hS_of {o : Option zF} {Q : (Nat → Nat → Int32) → Prop} (h : ∃ W, o = some (qH g W X) ∧ Q W) : hS g o (fun W Y => Y = X ∧ Q W) := by
  obtain ⟨W, e, q⟩ := h
  exact ⟨W, X, e, rfl, q⟩
theorem hV_of {o : Option (zF × Int32)} {r : Int32} {Q : (Nat → Nat → Int32) → Prop} (h : ∃ W, o = some (qH g W X, r) ∧ Q W) : hV g o (fun W Y x => Y = X ∧ x = r ∧ Q W) := by
  obtain ⟨W, e, q⟩ := h
  exact ⟨W, X, r, e, rfl, rfl, q⟩
end QZ
