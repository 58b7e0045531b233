/-! what acts keep; an act done, an act not done -/
def sKp (s t : Nat → Nat) : Prop := ∀ i, i < 139 ∨ 250 ≤ i → t i = s i
theorem sKp.rf {s : Nat → Nat} : sKp s s := fun _ _ => rfl
theorem sKp.tr {s t u : Nat → Nat} (h : sKp s t) (h2 : sKp t u) : sKp s u := fun i hi => (h2 i hi).trans (h i hi)
theorem sKp.u {s : Nat → Nat} {k x : Nat} (hk : 139 ≤ k) (h2 : k < 250) : sKp s (sU s k x) := fun i hi => sU_n (by omega)
theorem sKp.eq {s t : Nat → Nat} (h : sKp s t) : sEq s t := fun i hi => h i (Or.inl hi)
theorem sGoes_k {s : Nat → Nat} {f : Nat} (hW : sWF s) (hf : f < s 3) : sKp s (sGoes s f) := by
  obtain ⟨-, -, -, w3, -⟩ := id hW
  intro i hi
  exact sGoes_n (by omega) (by omega) (by omega) (fun t ht => by omega) hW
theorem sTurn_k {s : Nat → Nat} {f : Nat} (hW : sWF s) (hf : f < s 3) : sKp s (sTurn s f) := by
  unfold sTurn
  split
  · exact sGoes_k hW hf
  · exact sKp.rf
theorem sHourL_k : ∀ (n i : Nat) {s : Nat → Nat}, sWF s → sWD s → i + n = s 3 → sKp s (sHourL s i n) := by
  intro n
  induction n with
  | zero => intro i s hW hD hi; exact sKp.rf
  | succ n ih =>
    intro i s hW hD hi
    obtain ⟨h1, h2, h3, h4⟩ := sTurn_wd hW hD (f := i) (by omega)
    exact (sTurn_k hW (by omega)).tr (ih (i + 1) (h2.wf hW) h1 (by rw [h2 3 (by omega)]; omega))
theorem sHour_k {s : Nat → Nat} (hW : sWF s) (hD : sWD s) : sKp s (sHour s) := (sHourL_k (s 3) 0 hW hD (by omega)).tr (sKp.u (by omega) (by omega))
theorem sWalk_k {s : Nat → Nat} {l d : Nat} (hW : sWF s) (hl : l < s 4) : sKp s (sWalk s l d) := by
  obtain ⟨-, -, -, -, w4, -⟩ := id hW
  unfold sWalk
  cases hb : sBeside s (s (159 + l)) d with
  | none => exact sKp.rf
  | some t =>
    dsimp only
    split
    · exact sKp.u (by omega) (by omega)
    · exact sKp.rf
theorem sFlip_k {s : Nat → Nat} {l : Nat} : sKp s (sFlip s l) := sKp.u (by omega) (by omega)
theorem sDrawL_k {s : Nat → Nat} {x : Int32} {l : Nat} (hW : sWF s) (hl : l < s 4) : sKp s (sDrawL x s l).2 := by
  obtain ⟨-, -, -, -, w4, -⟩ := id hW
  unfold sDrawL sDrawW
  split
  · exact sKp.u (by omega) (by omega)
  · split
    · exact sFlip_k
    · split
      · exact sWalk_k hW hl
      · exact sKp.rf
theorem sDrawA_k : ∀ (n l : Nat) (x : Int32) (s : Nat → Nat), sWF s → sWD s → l + n = s 4 → sKp s (sDrawA x s l n).2 := by
  intro n
  induction n with
  | zero => intro l x s hW hD hl; exact sKp.rf
  | succ n ih =>
    intro l x s hW hD hl
    obtain ⟨h1, h2, h3⟩ := sDrawL_wd (x := x) hW hD (show l < s 4 by omega)
    exact (sDrawL_k hW (by omega)).tr (ih (l + 1) (sDrawL x s l).1 (sDrawL x s l).2 (h2.wf hW) h1 (by rw [h2 4 (by omega)]; omega))
theorem sDrawn_k {s : Nat → Nat} {x : Int32} (hW : sWF s) (hD : sWD s) : sKp s (sDrawn x s).2 := by
  obtain ⟨g1, g2, g3⟩ := sDrawA_wd (s 4) 0 x s hW hD (by omega)
  exact (sDrawA_k (s 4) 0 x s hW hD (by omega)).tr (sHour_k (g2.wf hW) g1)
theorem sWL.k {s t : Nat → Nat} (h : sWL s) (hk : sEq s t) : sWL t := fun y hy => by rw [hk _ (by omega), hk 2 (by omega)]; exact h y hy
theorem qfnd_cg {P Q : Nat → Bool} : ∀ n i, (∀ k, i ≤ k → k < i + n → P k = Q k) → qfnd P i n = qfnd Q i n := by
  intro n
  induction n with
  | zero => intro i h; rfl
  | succ n ih =>
    intro i h
    unfold qfnd
    rw [h i (by omega) (by omega), ih (i + 1) (fun k h1 h2 => h k (by omega) (by omega))]
theorem qsum_cg {P Q : Nat → Nat} : ∀ n, (∀ k, k < n → P k = Q k) → qsum P n = qsum Q n := by
  intro n
  induction n with
  | zero => intro h; rfl
  | succ n ih =>
    intro h
    unfold qsum
    rw [h n (by omega), ih (fun k h1 => h k (by omega))]
theorem sFO.k {s t : Nat → Nat} (hW : sWF s) (hk : sEq s t) {c : Nat} (hc : c < 81) : sFO t c = sFO s c := by
  obtain ⟨-, -, -, w3, -⟩ := id hW
  unfold sFO
  rw [hk 0 (by omega), hk 1 (by omega), hk 3 (by omega), hk (86 + c / 9) (by omega), qfnd_cg (P := fun f => decide (t (101 + f) = c)) (Q := fun f => decide (s (101 + f) = c)) (s 3) 0 (fun k h1 h2 => by rw [hk (101 + k) (by omega)])]
  split
  · cases hq : qfnd (fun f => decide (s (101 + f) = c)) 0 (s 3) with
    | none => rfl
    | some f =>
      have := qfnd_lt hq
      dsimp only
      rw [hk (95 + f) (by omega)]
  · rfl
theorem sFL.k {s t : Nat → Nat} (hW : sWF s) (hk : sEq s t) {o : Nat} : sFL t o = sFL s o := by
  unfold sFL
  exact qsum_cg 81 (fun c hc => by rw [sFO.k hW hk hc])
theorem rL.k {V : Nat → Nat → Int32} {φ : Nat} {s t : Nat → Nat} (h : rL V φ s) (hW : sWF s) (hk : sEq s t) : rL V φ t := fun o ho => by
  rw [hk 2 (by omega)] at ho
  rw [sFL.k hW hk]; exact h o ho
theorem nDep.k {s t : Nat → Nat} (hk : ∀ i, 250 ≤ i → t i = s i) : ∀ k, nDep t k = nDep s k := by
  intro k
  induction k with
  | zero => rfl
  | succ k ih => unfold nDep; rw [ih, hk (251 + 3 * k) (by omega)]
theorem rN.k {V : Nat → Nat → Int32} {σ : Nat} {s t : Nat → Nat} (h : rN V σ s) (h4 : t 4 = s 4) (hk : ∀ i, 250 ≤ i → t i = s i) : rN V σ t := by
  unfold rN at h ⊢
  rw [hk 250 (by omega)]
  obtain ⟨h1, h2, h3, h5⟩ := h
  refine ⟨h1, h2, ?_, fun i hi => ?_⟩
  · rw [nDep.k hk]; exact h3
  · rw [hk (251 + 3 * i) (by omega), hk (252 + 3 * i) (by omega), hk (253 + 3 * i) (by omega), nDep.k hk, h4]
    exact h5 i hi
theorem rNm.k {X : Nat → Nat → Int64} {φ μ z : Nat} {s t : Nat → Nat} (h : rNm X φ μ z s) (hk : sEq s t) : rNm X φ μ z t := by
  unfold rNm at h ⊢
  rw [hk 2 (by omega), hk 3 (by omega), hk 4 (by omega)]
  exact h
section QP2
variable {g : zF} {V W W2 : Nat → Nat → Int32} {X : Nat → Nat → Int64} {N : Nat} {s t : Nat → Nat}
/-- a new row behind an act: the rest of the main part -/
theorem jM.go (h : jM V X s) (ht : sOK t) (hk : sKp s t) (hS : rS W 15 t) (hM : rM W t) (e : ∀ b j, (4 ≤ b ∧ b < 15) ∨ (31 ≤ b ∧ b < 35) → W b j = V b j) : jM W X t := by
  obtain ⟨h1, h2, h3, h4, h5, h6, h7, h8⟩ := h
  exact ⟨ht, h2.k hk.eq, hk.eq.toF h1.1 (h3.pt (fun b j a1 a2 => e b j (by omega))), (h4.pt (fun b j a1 a2 => e b j (by omega))).k h1.1 hk.eq, hS, hM, (h7.pt (fun b j a1 a2 => e b j (by omega))).k (hk 4 (by omega)) (fun i hi => hk i (Or.inr hi)), h8.k hk.eq⟩
theorem act_no (hJ : jA V X s) {nx : Nat} (h2 : V 65 2 = Int32.ofNat nx) (hx : nx < 9) (hS : rS W 15 s) (hf : ∀ b, ¬ ((67 + 8 * nx ≤ b ∧ b < 67 + 8 * nx + 8) ∨ (15 ≤ b ∧ b < 23)) → W b = V b) : jA W X s := by
  obtain ⟨j1, j2, j3⟩ := hJ
  refine ⟨j1.go j1.1 sKp.rf hS (fun i hi => by rw [hf 198 (by omega)]; exact j1.2.2.2.2.2.1 i hi) (fun b j hb => by rw [hf b (by omega)]), ?_, j3.pt (fun b j hb _ _ _ _ => by unfold scr at hb; rw [hf b (by omega)]) (fun _ _ _ _ _ => rfl)⟩
  refine rU_held j2 sEq.rf (hf 65 (by omega)) (by rw [hf 196 (by omega)]) (hf 203 (by omega)) (fun nx2 e1 e2 b b1 b2 b3 => ?_)
  rw [h2, qeq (by omega) (by omega)] at e1
  subst e1
  exact hf b (by omega)
theorem act_do (hJ : jA V X s) (ht : sOK t) (hk : sKp s t) {n nx : Nat} {U : Nat → Nat → Nat} (hn : n ≤ 8) (hx : nx < 9)
    (hU : ∀ j, j < n → sEq s (U j) ∧ sOK (U j) ∧ rS V (67 + 8 * ((nx + 9 - n + j) % 9)) (U j) ∧ ∀ i, i < 111 → V 203 (111 * j + i) = Int32.ofNat (U j (139 + i)))
    (hS : rS W2 15 t) (hM : rM W2 t) (hH : rS W2 (67 + 8 * nx) s) (h1 : W2 65 1 = Int32.ofNat (min (n + 1) 8)) (h2 : W2 65 2 = Int32.ofNat ((nx + 1) % 9)) (h3 : W2 196 23 = Int32.ofNat (min (n + 1) 8))
    (h6 : ∀ j i, j < n ∧ (n = 8 → j < 7) → i < 111 → W2 203 (111 * j + i) = V 203 (111 * (if n = 8 then j + 1 else j) + i)) (h7 : ∀ i, i < 111 → W2 203 (111 * (if n = 8 then 7 else n) + i) = V 198 (139 + i))
    (hf : ∀ b j, ¬ scr b j → ¬ ((67 + 8 * nx ≤ b ∧ b < 67 + 8 * nx + 8) ∨ (15 ≤ b ∧ b < 23) ∨ b = 65 ∨ b = 198 ∨ b = 203 ∨ (b = 196 ∧ j = 23)) → W2 b j = V b j) : jA W2 X t := by
  obtain ⟨j1, j2, j3⟩ := hJ
  have hM0 := j1.2.2.2.2.2.1
  refine ⟨j1.go ht hk hS hM (fun b j hb => hf b j (by unfold scr; omega) (by omega)), ?_, j3.pt (fun b j hb b1 b2 b3 b4 => hf b j hb (by unfold scr at hb; omega)) (fun _ _ _ _ _ => rfl)⟩
  exact rU_push hn hx j1.1 (fun i hi => hM0 (139 + i) (by omega)) hk.eq hU h1 h2 h3 hH (fun b b1 b2 b3 => funext (fun j => hf b j (by unfold scr; omega) (by omega))) h6 h7
end QP2
