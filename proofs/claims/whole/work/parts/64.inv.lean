/-! what holds between calls -/
def sWL (s : Nat → Nat) : Prop := ∀ y, y < 9 → s (86 + y) ≤ s 2
/-- whose a cell is at first -/
def sFO (s : Nat → Nat) (c : Nat) : Option Nat := if c % 9 < s 0 ∧ c / 9 < s 1 then (match qfnd (fun f => decide (s (101 + f) = c)) 0 (s 3) with
  | some f => some (s (95 + f))
  | none => if s (86 + c / 9) = 0 then none else some (s (86 + c / 9) - 1)) else none
def sFL (s : Nat → Nat) (o : Nat) : Nat := qsum (fun c => if sFO s c = some o then 1 else 0) 81
def rL (V : Nat → Nat → Int32) (φ : Nat) (s : Nat → Nat) : Prop := ∀ o, o < s 2 → V (φ + 5) o = Int32.ofNat (sFL s o)
/-- a sentence: steps as both sides keep them, and that the stack suffices -/
def nStep (a x : Int32) : Prop := ∃ k, k < 11 ∧ a = Int32.ofNat ([19, 20, 21, 22, 23, 24, 25, 26, 18, 17, 16].getD k 0) ∧ x = Int32.ofNat ([0, 1, 2, 3, 4, 5, 6, 7, 20, 21, 22].getD k 0)
def nDep (s : Nat → Nat) : Nat → Nat
  | 0 => 0
  | k + 1 => if s (251 + 3 * k) = 20 then nDep s k else if s (251 + 3 * k) = 21 ∨ s (251 + 3 * k) = 22 then nDep s k - 1 else nDep s k + 1
def rN (V : Nat → Nat → Int32) (σ : Nat) (s : Nat → Nat) : Prop := V σ 0 = Int32.ofNat (s 250) ∧ s 250 ≤ 40 ∧ (s 250 = 0 ∨ nDep s (s 250) = 1) ∧
  ∀ i, i < s 250 → nStep (V (σ + 1) i) (Int32.ofNat (s (251 + 3 * i))) ∧ s (251 + 3 * i) < 23 ∧ V (σ + 2) i = Int32.ofNat (s (252 + 3 * i)) ∧ V (σ + 3) i = Int32.ofNat (s (253 + 3 * i)) ∧ s (252 + 3 * i) < 1000 ∧ s (253 + 3 * i) < 1000 ∧
    (s (251 + 3 * i) = 4 → s (253 + 3 * i) < s 4) ∧ (s (251 + 3 * i) = 20 → 1 ≤ nDep s i) ∧ (s (251 + 3 * i) = 21 ∨ s (251 + 3 * i) = 22 → 2 ≤ nDep s i) ∧ nDep s i ≤ 20
/-- names of a field at φ and at μ, from z on -/
def rNm (X : Nat → Nat → Int64) (φ μ z : Nat) (s : Nat → Nat) : Prop := (∀ o, o < s 2 → nmR (X (φ + 1) o) (X μ (z + o))) ∧ (∀ f, f < s 3 → nmR (X (φ + 2) f) (X μ (z + (4 + f)))) ∧ (∀ l, l < s 4 → nmR (X (φ + 3) l) (X μ (z + (10 + l)))) ∧ (∀ f l, f < s 3 → l < s 4 → X (φ + 2) f ≠ X (φ + 3) l)
def jM (V : Nat → Nat → Int32) (X : Nat → Nat → Int64) (s : Nat → Nat) : Prop := sOK s ∧ sWL s ∧ rF V 4 s ∧ rL V 4 s ∧ rS V 15 s ∧ rM V s ∧ rN V 31 s ∧ rNm X 4 201 0 s
def jT (V : Nat → Nat → Int32) : Prop := ∃ n B, cB V B n ∧ V 196 2 = Int32.ofNat n ∧ ∀ i, i < n → V 197 i &&& Int32.ofNat 255 = Int32.ofNat (B i)
def wMs : List (List Nat) := [4, 5, 6, 7, 8, 9, 0, 1, 2, 3, 10, 11, 12, 13, 14, 15, 16, 17, 18, 19, 20, 21, 22, 23, 24, 25, 26].map wK
def jW (X : Nat → Nat → Int64) : Prop := cW X ∧ ∀ v, v < 27 → X 202 v = Int64.ofNat (r8 (wMs.getD v []))
def jG (V : Nat → Nat → Int32) : Prop := V 191 0 = V 196 15
def jI (V : Nat → Nat → Int32) (X : Nat → Nat → Int64) (a k : Nat) : Prop := (V a 3 = Int32.ofNat 0 ∧ V 214 k = Int32.ofNat 0) ∨ (V a 3 = Int32.ofNat 1 ∧ V 214 k = Int32.ofNat 1 ∧ ∃ t, sOK t ∧ sWL t ∧ rF V (a + 1) t ∧ rL V (a + 1) t ∧ rS V (a + 12) t ∧ rN V (a + 20) t ∧ rNm X (a + 1) 213 (15 * k) t ∧ ∀ i, i < 431 → V 212 (431 * k + i) = Int32.ofNat (t i))
def jC (V : Nat → Nat → Int32) : Prop := (V 191 2 = Int32.ofNat 0 ∧ V 196 27 = qo none) ∨ ∃ n, n ≤ 5 ∧ V 191 2 = Int32.ofNat n ∧ V 196 27 = Int32.ofNat n ∧ ∀ l, l < n → V 192 l = V 205 l
def jF (V : Nat → Nat → Int32) : Prop := (V 191 3 = qo none ∧ V 196 29 = Int32.ofNat 0) ∨ (V 191 3 = V 196 28 ∧ V 196 29 = Int32.ofNat 1)
def jB (V : Nat → Nat → Int32) : Prop := (V 191 4 = qo none ∧ V 196 25 = Int32.ofNat 0) ∨ (V 191 4 = V 196 24 ∧ V 196 25 = Int32.ofNat 1)
def jX (V : Nat → Nat → Int32) : Prop := (V 187 1 = Int32.ofNat 0 ∧ V 187 2 = qo none ∧ V 196 32 = qo none) ∨ ∃ n, 1 ≤ n ∧ n ≤ 36 ∧ V 187 1 = Int32.ofNat n ∧ V 196 32 = Int32.ofNat n ∧ V 187 2 = V 196 33 ∧ ∀ i, i < n → V 188 i = V 206 i
def jL (V : Nat → Nat → Int32) : Prop := ∃ n, n ≤ 40 ∧ V 191 6 = Int32.ofNat n ∧ V 196 35 = Int32.ofNat n ∧ ∀ i, i < n → V 193 i = V 208 i
def jD (V : Nat → Nat → Int32) : Prop := (V 191 8 = Int32.ofNat 0 ∧ V 196 39 = Int32.ofNat 0) ∨ (V 191 8 = Int32.ofNat 1 ∧ V 196 39 = Int32.ofNat 1 ∧ ∀ i, i < 4 → V 194 i = V 209 i)
/-- all but the field, the state, the sentence, the names, the acts -/
def jR (V : Nat → Nat → Int32) (X : Nat → Nat → Int64) : Prop := jT V ∧ jW X ∧ jG V ∧ jI V X 139 0 ∧ jI V X 163 1 ∧ jC V ∧ jF V ∧ jB V ∧ jX V ∧ jL V ∧ jD V
def jA (V : Nat → Nat → Int32) (X : Nat → Nat → Int64) (s : Nat → Nat) : Prop := jM V X s ∧ rU V s ∧ jR V X
def Inv (f : zF) : Prop := ∃ g V X s, f = qH g V X ∧ gQ g ∧ jA V X s
section QI
variable {V W : Nat → Nat → Int32} {X Y : Nat → Nat → Int64} {s t : Nat → Nat}
theorem rF.pt {φ : Nat} (h : rF V φ s) (e : ∀ b j, φ ≤ b → b < φ + 11 → W b j = V b j) : rF W φ s := by
  have e2 : ∀ b, φ ≤ b → b < φ + 11 → W b = V b := fun b h1 h2 => funext (fun j => e b j h1 h2)
  unfold rF at h ⊢
  rw [e2 φ (by omega) (by omega), e2 (φ + 4) (by omega) (by omega), e2 (φ + 6) (by omega) (by omega), e2 (φ + 7) (by omega) (by omega), e2 (φ + 8) (by omega) (by omega), e2 (φ + 9) (by omega) (by omega), e2 (φ + 10) (by omega) (by omega)]
  exact h
theorem rL.pt {φ : Nat} (h : rL V φ s) (e : ∀ b j, φ ≤ b → b < φ + 11 → W b j = V b j) : rL W φ s := fun o ho => by rw [e _ _ (by omega) (by omega)]; exact h o ho
theorem rS.pt {a : Nat} (h : rS V a s) (e : ∀ b j, a ≤ b → b < a + 8 → W b j = V b j) : rS W a s := by
  have e2 : ∀ b, a ≤ b → b < a + 8 → W b = V b := fun b h1 h2 => funext (fun j => e b j h1 h2)
  unfold rS at h ⊢
  rw [e2 a (by omega) (by omega), e2 (a + 1) (by omega) (by omega), e2 (a + 2) (by omega) (by omega), e2 (a + 3) (by omega) (by omega), e2 (a + 4) (by omega) (by omega), e2 (a + 5) (by omega) (by omega), e2 (a + 6) (by omega) (by omega), e2 (a + 7) (by omega) (by omega)]
  exact h
theorem rN.pt {a : Nat} (h : rN V a s) (e : ∀ b j, a ≤ b → b < a + 4 → W b j = V b j) : rN W a s := by
  have e2 : ∀ b, a ≤ b → b < a + 4 → W b = V b := fun b h1 h2 => funext (fun j => e b j h1 h2)
  unfold rN at h ⊢
  rw [e2 a (by omega) (by omega), e2 (a + 1) (by omega) (by omega), e2 (a + 2) (by omega) (by omega), e2 (a + 3) (by omega) (by omega)]
  exact h
theorem rNm.pt {φ μ z : Nat} (h : rNm X φ μ z s) (hW : sWF s) (e : ∀ b j, φ ≤ b → b < φ + 4 → Y b j = X b j) (e2 : ∀ j, z ≤ j → j < z + 15 → Y μ j = X μ j) : rNm Y φ μ z s := by
  obtain ⟨⟨w0, w0b⟩, ⟨w1, w1b⟩, w2, w3, w4, w5, w95, w113, w101, w129, w134⟩ := id hW
  obtain ⟨h1, h2, h3, h4⟩ := h
  refine ⟨fun o ho => ?_, fun f hf => ?_, fun l hl => ?_, fun f l hf hl => ?_⟩
  · rw [e _ _ (by omega) (by omega), e2 _ (by omega) (by omega)]; exact h1 o ho
  · rw [e _ _ (by omega) (by omega), e2 _ (by omega) (by omega)]; exact h2 f hf
  · rw [e _ _ (by omega) (by omega), e2 _ (by omega) (by omega)]; exact h3 l hl
  · rw [e _ _ (by omega) (by omega), e _ _ (by omega) (by omega)]; exact h4 f l hf hl
theorem jM.pt (h : jM V X s) (e : ∀ b j, (4 ≤ b ∧ b < 23) ∨ (31 ≤ b ∧ b < 35) ∨ b = 198 → W b j = V b j) (e2 : ∀ b j, (4 ≤ b ∧ b < 8) ∨ (b = 201 ∧ j < 15) → Y b j = X b j) : jM W Y s := by
  obtain ⟨h1, h2, h3, h4, h5, h6, h7, h8⟩ := h
  exact ⟨h1, h2, h3.pt (fun b j a1 a2 => e b j (by omega)), h4.pt (fun b j a1 a2 => e b j (by omega)), h5.pt (fun b j a1 a2 => e b j (by omega)), fun i hi => by rw [e 198 i (by omega)]; exact h6 i hi, h7.pt (fun b j a1 a2 => e b j (by omega)), h8.pt h1.1 (fun b j a1 a2 => e2 b j (by omega)) (fun j a1 a2 => e2 201 j (by omega))⟩
theorem rU.pt (h : rU V s) (hst : sEq s t) (e : ∀ b j, b = 65 ∨ (67 ≤ b ∧ b < 139) ∨ (b = 196 ∧ j = 23) ∨ b = 203 → W b j = V b j) : rU W t := by
  refine rU_held h hst (funext (fun j => e 65 j (by omega))) (e 196 23 (by omega)) (funext (fun j => e 203 j (by omega))) (fun nx _ _ b h1 h2 _ => funext (fun j => e b j (by omega)))
theorem jT.pt (h : jT V) (e : ∀ b j, (b = 1 ∧ j = 2) ∨ b = 2 ∨ (b = 196 ∧ j = 2) ∨ b = 197 → W b j = V b j) : jT W := by
  obtain ⟨n, B, ⟨h1, h2, h3⟩, h4, h5⟩ := h
  refine ⟨n, B, ⟨by rw [e 1 2 (by omega)]; exact h1, h2, fun i hi => ?_⟩, by rw [e 196 2 (by omega)]; exact h4, fun i hi => by rw [e 197 i (by omega)]; exact h5 i hi⟩
  rw [e 2 i (by omega)]
  exact h3 i hi
theorem jW.pt (h : jW X) (e : ∀ b j, b = 3 ∨ b = 202 → Y b j = X b j) : jW Y := ⟨fun v hv => by rw [e 3 v (by omega)]; exact h.1 v hv, fun v hv => by rw [e 202 v (by omega)]; exact h.2 v hv⟩
theorem jG.pt (h : jG V) (e : ∀ b j, (b = 191 ∧ j = 0) ∨ (b = 196 ∧ j = 15) → W b j = V b j) : jG W := by
  unfold jG
  rw [e 191 0 (by omega), e 196 15 (by omega)]
  exact h
theorem jI.pt {a k : Nat} (h : jI V X a k) (e : ∀ b j, (a ≤ b ∧ b < a + 24) ∨ (b = 214 ∧ j = k) ∨ (b = 212 ∧ 431 * k ≤ j ∧ j < 431 * k + 431) → W b j = V b j) (e2 : ∀ b j, (a + 1 ≤ b ∧ b < a + 5) ∨ (b = 213 ∧ 15 * k ≤ j ∧ j < 15 * k + 15) → Y b j = X b j) : jI W Y a k := by
  rcases h with ⟨h1, h2⟩ | ⟨h1, h2, t, t1, t2, t3, t4, t5, t6, t7, t8⟩
  · exact Or.inl ⟨by rw [e a 3 (by omega)]; exact h1, by rw [e 214 k (by omega)]; exact h2⟩
  · refine Or.inr ⟨by rw [e a 3 (by omega)]; exact h1, by rw [e 214 k (by omega)]; exact h2, t, t1, t2, t3.pt (fun b j a1 a2 => e b j (by omega)), t4.pt (fun b j a1 a2 => e b j (by omega)), t5.pt (fun b j a1 a2 => e b j (by omega)), t6.pt (fun b j a1 a2 => e b j (by omega)), t7.pt t1.1 (fun b j a1 a2 => e2 b j (by omega)) (fun j a1 a2 => e2 213 j (by omega)), fun i hi => ?_⟩
    rw [e 212 _ (by omega)]
    exact t8 i hi
theorem jC.pt (h : jC V) (e : ∀ b j, (b = 191 ∧ j = 2) ∨ b = 192 ∨ (b = 196 ∧ j = 27) ∨ b = 205 → W b j = V b j) : jC W := by
  unfold jC
  rw [e 191 2 (by omega), e 196 27 (by omega), show W 192 = V 192 from funext (fun j => e 192 j (by omega)), show W 205 = V 205 from funext (fun j => e 205 j (by omega))]
  exact h
theorem jF.pt (h : jF V) (e : ∀ b j, (b = 191 ∧ j = 3) ∨ (b = 196 ∧ (j = 28 ∨ j = 29)) → W b j = V b j) : jF W := by
  unfold jF
  rw [e 191 3 (by omega), e 196 28 (by omega), e 196 29 (by omega)]
  exact h
theorem jB.pt (h : jB V) (e : ∀ b j, (b = 191 ∧ j = 4) ∨ (b = 196 ∧ (j = 24 ∨ j = 25)) → W b j = V b j) : jB W := by
  unfold jB
  rw [e 191 4 (by omega), e 196 24 (by omega), e 196 25 (by omega)]
  exact h
theorem jX.pt (h : jX V) (e : ∀ b j, (b = 187 ∧ (j = 1 ∨ j = 2)) ∨ b = 188 ∨ (b = 196 ∧ (j = 32 ∨ j = 33)) ∨ b = 206 → W b j = V b j) : jX W := by
  unfold jX
  rw [e 187 1 (by omega), e 187 2 (by omega), e 196 32 (by omega), e 196 33 (by omega), show W 188 = V 188 from funext (fun j => e 188 j (by omega)), show W 206 = V 206 from funext (fun j => e 206 j (by omega))]
  exact h
theorem jL.pt (h : jL V) (e : ∀ b j, (b = 191 ∧ j = 6) ∨ b = 193 ∨ (b = 196 ∧ j = 35) ∨ b = 208 → W b j = V b j) : jL W := by
  unfold jL
  rw [e 191 6 (by omega), e 196 35 (by omega), show W 193 = V 193 from funext (fun j => e 193 j (by omega)), show W 208 = V 208 from funext (fun j => e 208 j (by omega))]
  exact h
theorem jD.pt (h : jD V) (e : ∀ b j, (b = 191 ∧ j = 8) ∨ b = 194 ∨ (b = 196 ∧ j = 39) ∨ b = 209 → W b j = V b j) : jD W := by
  unfold jD
  rw [e 191 8 (by omega), e 196 39 (by omega), show W 194 = V 194 from funext (fun j => e 194 j (by omega)), show W 209 = V 209 from funext (fun j => e 209 j (by omega))]
  exact h
/-- places that nobody asks for behind a call -/
def scr (b j : Nat) : Prop := (b = 1 ∧ j ≠ 2) ∨ (23 ≤ b ∧ b < 31) ∨ (35 ≤ b ∧ b < 65) ∨ (b = 187 ∧ j ≠ 1 ∧ j ≠ 2) ∨ b = 189 ∨ b = 190 ∨ b = 195 ∨ b = 199 ∨ b = 200 ∨ b = 204 ∨ b = 207 ∨ b = 210 ∨ b = 211 ∨ b = 215 ∨ (b = 196 ∧ (j < 2 ∨ (3 ≤ j ∧ j < 15) ∨ (16 ≤ j ∧ j < 23) ∨ j = 26 ∨ j = 30 ∨ j = 31 ∨ j = 34 ∨ (36 ≤ j ∧ j < 39) ∨ 40 ≤ j))
def scx (b j : Nat) : Prop := b = 1 ∨ (37 ≤ b ∧ b < 40) ∨ b = 196 ∨ b = 215 ∨ (b = 201 ∧ 15 ≤ j)
theorem jR.pt (h : jR V X) (e : ∀ b j, ¬ scr b j → (b < 4 ∨ 139 ≤ b) → b ≠ 198 → b ≠ 203 → (b ≠ 196 ∨ j ≠ 23) → W b j = V b j) (e2 : ∀ b j, ¬ scx b j → (b < 4 ∨ 139 ≤ b) → (b ≠ 201) → Y b j = X b j) : jR W Y := by
  unfold scr at e
  unfold scx at e2
  obtain ⟨h1, h2, h3, h4, h5, h6, h7, h8, h9, h10, h11⟩ := h
  exact ⟨h1.pt (fun b j h => e b j (by omega) (by omega) (by omega) (by omega) (by omega)), h2.pt (fun b j h => e2 b j (by omega) (by omega) (by omega)), h3.pt (fun b j h => e b j (by omega) (by omega) (by omega) (by omega) (by omega)), h4.pt (fun b j h => e b j (by omega) (by omega) (by omega) (by omega) (by omega)) (fun b j h => e2 b j (by omega) (by omega) (by omega)), h5.pt (fun b j h => e b j (by omega) (by omega) (by omega) (by omega) (by omega)) (fun b j h => e2 b j (by omega) (by omega) (by omega)),
    h6.pt (fun b j h => e b j (by omega) (by omega) (by omega) (by omega) (by omega)), h7.pt (fun b j h => e b j (by omega) (by omega) (by omega) (by omega) (by omega)), h8.pt (fun b j h => e b j (by omega) (by omega) (by omega) (by omega) (by omega)), h9.pt (fun b j h => e b j (by omega) (by omega) (by omega) (by omega) (by omega)), h10.pt (fun b j h => e b j (by omega) (by omega) (by omega) (by omega) (by omega)), h11.pt (fun b j h => e b j (by omega) (by omega) (by omega) (by omega) (by omega))⟩
theorem jA.pt (h : jA V X s) (e : ∀ b j, ¬ scr b j → W b j = V b j) (e2 : ∀ b j, ¬ scx b j → Y b j = X b j) : jA W Y s := by
  obtain ⟨h1, h2, h3⟩ := h
  refine ⟨h1.pt (fun b j h => e b j (by unfold scr; omega)) (fun b j h => e2 b j (by unfold scx; omega)), h2.pt sEq.rf (fun b j h => e b j (by unfold scr; omega)), h3.pt (fun b j h _ _ _ _ => e b j h) (fun b j h _ _ => e2 b j h)⟩
end QI
