/-! the start -/
def st0 : zF := zu zf0 0 (.inr (11, zN11))
def st1 : Option zF := fX11_init 3000 1 st0 0
def st2 : Option zF := st1.bind fun f1 => fX12_init 3000 197 (zu f1 196 (.inr (12, zN12))) 196
set_option maxRecDepth 1000000 in
theorem st1_ok : st1.isSome = true := by decide +kernel
set_option maxRecDepth 1000000 in
theorem st2_ok : st2.isSome = true := by decide +kernel
/-- the heap at the start -/
def stF : zF := zu (st2.getD zf0) 215 (.inl (1, 1, .inr (.inl (fun _ => 0))))
def exV (e : zE) (j : Nat) : Int32 := match e with
  | .inl (_, _, .inl r) => r j
  | .inr (_, fs) => (match fs[j]? with
    | some (.int x) => x
    | _ => 0)
  | _ => 0
def exX (e : zE) (j : Nat) : Int64 := match e with
  | .inl (_, _, .inr (.inl r)) => r j
  | .inr (_, fs) => (match fs[j]? with
    | some (.long x) => x
    | _ => 0)
  | _ => 0
def stV (a j : Nat) : Int32 := exV (stF a) j
def stX (a j : Nat) : Int64 := exX (stF a) j
def ckV (k r : Nat) (v : Option Value) : Bool := match v with
  | some (.int _) => decide (k = 0)
  | some (.long _) => decide (k = 1)
  | some (.ref x) => decide (k = 2) && decide (x = r)
  | _ => false
def ckE (e : zE) (a : Nat) : Bool := match e with
  | .inl (t, len, .inl _) => decide (qK a = 20 + t) && (decide (t = 0) || decide (t = 2) || decide (t = 3)) && decide (len = qL a)
  | .inl (t, len, .inr (.inl _)) => decide (t = 1) && decide (qK a = 21) && decide (len = qL a)
  | .inl (_, _, _) => decide (qK a = 24)
  | .inr (c, fs) => decide (qK a = c) && decide (c < 20) && decide (fs.length = (qTs.getD c []).length) && (List.range fs.length).all (fun j => ckV ((qTs.getD c []).getD j 0) (qR a j) fs[j]?)
set_option maxRecDepth 1000000 in
theorem st_ck : ∀ a, a < 216 → ckE (stF a) a = true := by decide +kernel
theorem ckE_e {e : zE} {a : Nat} {V : Nat → Nat → Int32} {X : Nat → Nat → Int64} {g : zF} (h : ckE e a = true) (hV : V a = exV e) (hX : X a = exX e) (hg : g a = e) : e = qE g V X a := by
  unfold qE
  match e, h, hV, hX, hg with
  | .inl (t, len, .inl r), h, hV, hX, hg =>
    unfold ckE at h
    simp only [Bool.and_eq_true, Bool.or_eq_true, decide_eq_true_eq] at h
    obtain ⟨⟨h1, h2⟩, h3⟩ := h
    have hr : V a = r := hV
    rw [hr, ← h3, h1]
    rcases h2 with (rfl | rfl) | rfl
    · rw [if_pos rfl]
    · rw [if_neg (by decide), if_neg (by decide), if_pos rfl]
    · rw [if_neg (by decide), if_neg (by decide), if_neg (by decide), if_pos rfl]
  | .inl (t, len, .inr (.inl r)), h, hV, hX, hg =>
    unfold ckE at h
    simp only [Bool.and_eq_true, decide_eq_true_eq] at h
    obtain ⟨⟨h1, h2⟩, h3⟩ := h
    have hr : X a = r := hX
    rw [hr, ← h3, h2, h1, if_neg (by decide), if_pos rfl]
  | .inl (t, len, .inr (.inr r)), h, hV, hX, hg =>
    unfold ckE at h
    have h2 := of_decide_eq_true h
    rw [h2, if_neg (by decide), if_neg (by decide), if_neg (by decide), if_neg (by decide), if_pos rfl, hg]
  | .inr (c, fs), h, hV, hX, hg =>
    unfold ckE at h
    simp only [Bool.and_eq_true, decide_eq_true_eq, List.all_eq_true, List.mem_range] at h
    obtain ⟨⟨⟨h1, h2⟩, h3⟩, h4⟩ := h
    rw [h1, if_neg (by omega), if_neg (by omega), if_neg (by omega), if_neg (by omega), if_neg (by omega)]
    congr 2
    unfold qFv
    apply List.ext_getElem?
    intro j
    by_cases hj : j < fs.length
    · have h5 := h4 j hj
      have ev : V a j = (match fs[j]? with
        | some (.int x) => x
        | _ => 0) := by rw [hV]; rfl
      have ex : X a j = (match fs[j]? with
        | some (.long x) => x
        | _ => 0) := by rw [hX]; rfl
      rw [List.getElem?_map, List.getElem?_range (by omega), Option.map_some]
      generalize (qTs.getD c []).getD j 0 = k at h5
      cases hv : fs[j]? with
      | none => rw [hv] at h5; cases h5
      | some v =>
        rw [hv] at h5 ev ex
        cases v with
        | int x =>
          have h6 : k = 0 := of_decide_eq_true h5
          dsimp only at ev
          simp [h6, ev]
        | long x =>
          have h6 : k = 1 := of_decide_eq_true h5
          dsimp only at ex
          simp [h6, ex]
        | ref x =>
          unfold ckV at h5
          simp only [Bool.and_eq_true, decide_eq_true_eq] at h5
          simp [h5.1, h5.2]
        | _ => cases h5
    · rw [List.getElem?_eq_none (by omega), List.getElem?_eq_none (by rw [List.length_map, List.length_range]; omega)]
theorem st_eq : stF = qH stF stV stX := by
  funext a
  unfold qH
  by_cases h : a < 216
  · rw [if_pos h]
    exact ckE_e (st_ck a h) rfl rfl rfl
  · rw [if_neg h]
/-- the reference's row at the start -/
def st_s : Nat → Nat := fun i => if i = 0 ∨ i = 1 then 6 else 0
theorem st_n {i : Nat} (h : 2 ≤ i) : st_s i = 0 := by unfold st_s; rw [if_neg (by omega)]
set_option maxRecDepth 1000000 in
theorem st_M : ∀ i, i < 431 → stV 198 i = Int32.ofNat (st_s i) := by decide +kernel
set_option maxRecDepth 1000000 in
theorem st_8 : ∀ i, i < 81 → stV 8 i = Int32.ofNat 0 := by decide +kernel
set_option maxRecDepth 1000000 in
theorem st_22 : ∀ i, i < 81 → stV 22 i = Int32.ofNat 0 + -1 := by decide +kernel
set_option maxRecDepth 1000000 in
theorem st_W : ∀ v, v < 27 → stX 3 v = Int64.ofNat (r5 (wK v)) ∧ stX 202 v = Int64.ofNat (r8 (wMs.getD v [])) := by decide +kernel
set_option maxRecDepth 1000000 in
theorem st_v : stV 4 0 = Int32.ofNat 6 ∧ stV 4 1 = Int32.ofNat 6 ∧ stV 4 2 = Int32.ofNat 0 ∧ stV 4 3 = Int32.ofNat 0 ∧ stV 4 4 = Int32.ofNat 0 ∧ stV 15 1 = Int32.ofNat 0 ∧ stV 31 0 = Int32.ofNat 0 ∧ stV 1 2 = Int32.ofNat 0 ∧ stV 196 2 = Int32.ofNat 0 ∧ stV 191 0 = stV 196 15 ∧ stV 139 3 = Int32.ofNat 0 ∧ stV 163 3 = Int32.ofNat 0 ∧ stV 214 0 = Int32.ofNat 0 ∧ stV 214 1 = Int32.ofNat 0 ∧
    stV 191 2 = Int32.ofNat 0 ∧ stV 196 27 = qo none ∧ stV 191 3 = qo none ∧ stV 196 29 = Int32.ofNat 0 ∧ stV 191 4 = qo none ∧ stV 196 25 = Int32.ofNat 0 ∧ stV 187 1 = Int32.ofNat 0 ∧ stV 187 2 = qo none ∧ stV 196 32 = qo none ∧ stV 191 6 = Int32.ofNat 0 ∧ stV 196 35 = Int32.ofNat 0 ∧ stV 191 8 = Int32.ofNat 0 ∧ stV 196 39 = Int32.ofNat 0 ∧ stV 65 1 = Int32.ofNat 0 ∧ stV 65 2 = Int32.ofNat 0 ∧ stV 196 23 = Int32.ofNat 0 := by decide +kernel
def ckQ (e : zE) : Bool := match e with
  | .inl (t, len, .inr (.inr (.inr (.inr h)))) => decide (t = 4) && decide (len = 9) && (List.range 9).all (fun i => decide (h i = some (67 + 8 * i)))
  | _ => false
set_option maxRecDepth 1000000 in
theorem st_q : ckQ (stF 66) = true := by decide +kernel
theorem st_g : gQ stF := by
  have h := st_q
  unfold gQ
  unfold ckQ at h
  split at h
  · rename_i t len r he
    simp only [Bool.and_eq_true, decide_eq_true_eq, List.all_eq_true, List.mem_range] at h
    obtain ⟨⟨rfl, rfl⟩, h3⟩ := h
    exact ⟨r, he, h3⟩
  · cases h
theorem st_inv : Inv stF := by
  obtain ⟨v1, v2, v3, v4, v5, v6, v7, v8, v9, v10, v11, v12, v13, v14, v15, v16, v17, v18, v19, v20, v21, v22, v23, v24, v25, v26, v27, v28, v29, v30⟩ := st_v
  have s0 : st_s 0 = 6 := rfl
  have s1 : st_s 1 = 6 := rfl
  have s2 : st_s 2 = 0 := rfl
  have s3 : st_s 3 = 0 := rfl
  have s4 : st_s 4 = 0 := rfl
  have hW : sWF st_s := by
    unfold sWF
    rw [s0, s1, s2, s3, s4]
    refine ⟨by omega, by omega, by omega, by omega, by omega, fun c hc => by rw [st_n (by omega)]; omega, fun f hf => by omega, fun f hf => by omega, fun f hf => by omega, fun f hf => by omega, fun f hf => by omega⟩
  have hD : sWD st_s := by
    unfold sWD
    rw [s3, s4, st_n (i := 139) (by omega), st_n (i := 140) (by omega)]
    refine ⟨by omega, by decide, fun f hf => by omega, fun f hf => by omega, fun f hf => by omega, fun f hf => by omega, fun c hc => by rw [st_n (by omega)]; omega, fun f g hf => by omega⟩
  refine ⟨stF, stV, stX, st_s, st_eq, st_g, ⟨⟨hW, hD, fun f hf => by rw [s3] at hf; omega, by rw [st_n (by omega)]; omega⟩, fun y hy => by rw [st_n (by omega)]; omega, ⟨v1, v2, v3, v4, v5, fun c hc => by rw [st_n (by omega)]; exact st_8 c hc, fun f hf => by rw [s3] at hf; omega, fun f hf => by rw [s3] at hf; omega, fun f hf => by rw [s3] at hf; omega, fun f hf => by rw [s4] at hf; omega, fun f hf => by rw [s4] at hf; omega⟩, fun o ho => by rw [s2] at ho; omega,
    ⟨by rw [st_n (by omega)]; exact v6, fun f hf => by rw [s3] at hf; omega, fun f hf => by rw [s3] at hf; omega, fun f hf => by rw [s3] at hf; omega, fun f hf => by rw [s4] at hf; omega, fun f hf => by rw [s4] at hf; omega, fun f hf => by rw [s4] at hf; omega, fun c hc => by rw [st_n (by omega)]; exact st_22 c hc⟩, st_M, ⟨by rw [st_n (by omega)]; exact v7, by rw [st_n (by omega)]; omega, Or.inl (st_n (by omega)), fun i hi => by rw [st_n (by omega)] at hi; omega⟩, ⟨fun o ho => by rw [s2] at ho; omega, fun o ho => by rw [s3] at ho; omega, fun o ho => by rw [s4] at ho; omega, fun f l hf => by rw [s3] at hf; omega⟩⟩,
    ⟨0, 0, fun _ _ => 0, by omega, by omega, v28, v29, v30, fun j hj => by omega⟩, jT0 v8 v9, ⟨fun v hv => (st_W v hv).1, fun v hv => (st_W v hv).2⟩, v10, Or.inl ⟨v11, v13⟩, Or.inl ⟨v12, v14⟩, Or.inl ⟨v15, v16⟩, Or.inl ⟨v17, v18⟩, Or.inl ⟨v19, v20⟩, Or.inl ⟨v21, v22, v23⟩, ⟨0, by omega, v24, v25, fun i hi => by omega⟩, Or.inl ⟨v26, v27⟩⟩
theorem st_start : ∃ f1 f2, fX11_init 3000 1 (zu zf0 0 (.inr (11, zN11))) 0 = some f1 ∧ fX12_init 3000 197 (zu f1 196 (.inr (12, zN12))) 196 = some f2 ∧ Inv (zu f2 215 (.inl (1, 1, .inr (.inl (fun _ => 0))))) := by
  have h1 := st1_ok
  have h2 := st2_ok
  have hI := st_inv
  unfold stF at hI
  unfold st2 at h2 hI
  cases e1 : st1 with
  | none => rw [e1] at h1; cases h1
  | some f1 =>
    rw [e1, Option.bind_some] at h2 hI
    cases e2 : fX12_init 3000 197 (zu f1 196 (.inr (12, zN12))) 196 with
    | none => rw [e2] at h2; cases h2
    | some f2 =>
      rw [e2] at hI
      exact ⟨f1, f2, e1, e2, hI⟩
