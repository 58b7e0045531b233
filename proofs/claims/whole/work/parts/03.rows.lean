/-! ROWS over the small heap -/
def zfld (n : Nat) (f : zF) (ci a j : Nat) : Option Value := if a < n then (match f a with
  | .inr (c, fs) => if c = ci then fs[j]? else none
  | .inl _ => none) else none
def zgI (n : Nat) (f : zF) (ci a j : Nat) : Option Int32 := match zfld n f ci a j with
  | some (.int x) => some x
  | _ => none
def zgL (n : Nat) (f : zF) (ci a j : Nat) : Option Int64 := match zfld n f ci a j with
  | some (.long x) => some x
  | _ => none
def zgR (n : Nat) (f : zF) (ci a j : Nat) : Option Nat := match zfld n f ci a j with
  | some (.ref x) => some x
  | _ => none
def zpV (n : Nat) (f : zF) (ci a j : Nat) (v : Value) : Option zF := if a < n then (match f a with
  | .inr (c, fs) => if c = ci ∧ j < fs.length then some (zu f a (.inr (c, fs.set j v))) else none
  | .inl _ => none) else none
def zpI (n : Nat) (f : zF) (ci a j : Nat) (x : Int32) : Option zF := zpV n f ci a j (.int x)
def zpL (n : Nat) (f : zF) (ci a j : Nat) (x : Int64) : Option zF := zpV n f ci a j (.long x)
def zpR (n : Nat) (f : zF) (ci a j : Nat) (x : Nat) : Option zF := zpV n f ci a j (.ref x)
def zpZ (n : Nat) (f : zF) (ci a j : Nat) (x : Int32) : Option zF := if x = 0 ∨ x = 1 then zpV n f ci a j (.int x) else none
def zck (n : Nat) (f : zF) (ci a : Nat) : Option Unit := if a < n then (match f a with
  | .inr (c, _) => if c = ci then some () else none
  | .inl _ => none) else none
def zarr (n : Nat) (f : zF) (t a : Nat) : Option vp_A := if a < n then (match f a with
  | .inl (t2, x) => if t2 = t then some x else none
  | .inr _ => none) else none
def zlen (n : Nat) (f : zF) (t a : Nat) : Option Int32 := match zarr n f t a with
  | some x => some (Int32.ofNat x.1)
  | none => none
def zlI (n : Nat) (f : zF) (t a : Nat) (i : Int32) : Option Int32 := match zarr n f t a with
  | some (len, .inl g) => if ¬ i < 0 ∧ i.toNatClampNeg < len then some (g i.toNatClampNeg) else none
  | _ => none
def zlL (n : Nat) (f : zF) (t a : Nat) (i : Int32) : Option Int64 := match zarr n f t a with
  | some (len, .inr (.inl g)) => if ¬ i < 0 ∧ i.toNatClampNeg < len then some (g i.toNatClampNeg) else none
  | _ => none
def zlQ (n : Nat) (f : zF) (t a : Nat) (i : Int32) : Option (Option Nat) := match zarr n f t a with
  | some (len, .inr (.inr (.inr (.inr g)))) => if ¬ i < 0 ∧ i.toNatClampNeg < len then some (g i.toNatClampNeg) else none
  | _ => none
def zsI (n : Nat) (f : zF) (t a : Nat) (i x : Int32) : Option zF := match zarr n f t a with
  | some (len, .inl g) => if ¬ i < 0 ∧ i.toNatClampNeg < len then some (zu f a (.inl (t, len, .inl (upd g i.toNatClampNeg x)))) else none
  | _ => none
def zsL (n : Nat) (f : zF) (t a : Nat) (i : Int32) (x : Int64) : Option zF := match zarr n f t a with
  | some (len, .inr (.inl g)) => if ¬ i < 0 ∧ i.toNatClampNeg < len then some (zu f a (.inl (t, len, .inr (.inl (vp_updL g i.toNatClampNeg x))))) else none
  | _ => none
def zsB (n : Nat) (f : zF) (t a : Nat) (i x : Int32) : Option zF := zsI n f t a i x.toInt8.toInt32
def zsZ (n : Nat) (f : zF) (t a : Nat) (i x : Int32) : Option zF := if x = 0 ∨ x = 1 then zsI n f t a i x else none
def zbl (x : Int32) : Option Int32 := if x = 0 ∨ x = 1 then some x else none
def znz (x : Int32) : Option Unit := if x = 0 then none else some ()
def zbd {α β : Type} (o : Option (zF × α)) (g : zF → α → Option β) : Option β := match o with
  | some (f, x) => g f x
  | none => none
theorem zbd_i {α β : Type} {o : Option (zF × α)} {g : zF → α → Option β} {r : β} (h : zbd o g = some r) : ∃ f x, o = some (f, x) ∧ g f x = some r := by
  cases o with
  | none => cases h
  | some q => exact ⟨q.1, q.2, rfl, h⟩
theorem zob {α β : Type} {o : Option α} {g : α → Option β} {r : β} (h : o.bind g = some r) : ∃ x, o = some x ∧ g x = some r := by
  cases o with
  | none => cases h
  | some q => exact ⟨q, rfl, h⟩
theorem zfld_i {n : Nat} {f : zF} {ci a j : Nat} {v : Value} (h : zfld n f ci a j = some v) : a < n ∧ ∃ fs, f a = .inr (ci, fs) ∧ fs[j]? = some v := by
  unfold zfld at h
  split at h
  · rename_i h1
    refine ⟨h1, ?_⟩
    split at h
    · rename_i c fs hf
      split at h
      · rename_i hc
        subst hc
        exact ⟨fs, hf, h⟩
      · cases h
    · cases h
  · cases h
theorem zgI_i {n : Nat} {f : zF} {ci a j : Nat} {x : Int32} (h : zgI n f ci a j = some x) : zfld n f ci a j = some (.int x) := by
  unfold zgI at h
  split at h
  · rename_i y hy
    cases h
    exact hy
  · cases h
theorem zgL_i {n : Nat} {f : zF} {ci a j : Nat} {x : Int64} (h : zgL n f ci a j = some x) : zfld n f ci a j = some (.long x) := by
  unfold zgL at h
  split at h
  · rename_i y hy
    cases h
    exact hy
  · cases h
theorem zgR_i {n : Nat} {f : zF} {ci a j : Nat} {x : Nat} (h : zgR n f ci a j = some x) : zfld n f ci a j = some (.ref x) := by
  unfold zgR at h
  split at h
  · rename_i y hy
    cases h
    exact hy
  · cases h
theorem zpV_i {n : Nat} {f f1 : zF} {ci a j : Nat} {v : Value} (h : zpV n f ci a j v = some f1) : a < n ∧ ∃ fs, f a = .inr (ci, fs) ∧ j < fs.length ∧ f1 = zu f a (.inr (ci, fs.set j v)) := by
  unfold zpV at h
  split at h
  · rename_i h1
    refine ⟨h1, ?_⟩
    split at h
    · rename_i c fs hf
      split at h
      · rename_i hc
        obtain ⟨hc, hl⟩ := hc
        subst hc
        cases h
        exact ⟨fs, hf, hl, rfl⟩
      · cases h
    · cases h
  · cases h
theorem zck_i {n : Nat} {f : zF} {ci a : Nat} {u : Unit} (h : zck n f ci a = some u) : a < n ∧ ∃ fs, f a = .inr (ci, fs) := by
  unfold zck at h
  split at h
  · rename_i h1
    refine ⟨h1, ?_⟩
    split at h
    · rename_i c fs hf
      split at h
      · rename_i hc
        subst hc
        exact ⟨fs, hf⟩
      · cases h
    · cases h
  · cases h
theorem zarr_i {n : Nat} {f : zF} {t a : Nat} {x : vp_A} (h : zarr n f t a = some x) : a < n ∧ f a = .inl (t, x) := by
  unfold zarr at h
  split at h
  · rename_i h1
    refine ⟨h1, ?_⟩
    split at h
    · rename_i t2 y hf
      split at h
      · rename_i ht
        subst ht
        cases h
        exact hf
      · cases h
    · cases h
  · cases h
theorem zlen_i {n : Nat} {f : zF} {t a : Nat} {x : Int32} (h : zlen n f t a = some x) : ∃ y, zarr n f t a = some y ∧ Int32.ofNat y.1 = x := by
  unfold zlen at h
  split at h
  · rename_i y hy
    cases h
    exact ⟨y, hy, rfl⟩
  · cases h
theorem zin_i {i : Int32} {len : Nat} (h : ¬ i < 0 ∧ i.toNatClampNeg < len) : vp_in i len := fun q => q.elim h.1 (fun z => by omega)
theorem zlI_i {n : Nat} {f : zF} {t a : Nat} {i x : Int32} (h : zlI n f t a i = some x) : ∃ len g, zarr n f t a = some (len, .inl g) ∧ vp_in i len ∧ x = g i.toNatClampNeg := by
  unfold zlI at h
  split at h
  · rename_i len g hy
    split at h
    · rename_i hi
      cases h
      exact ⟨len, g, hy, zin_i hi, rfl⟩
    · cases h
  · cases h
theorem zlL_i {n : Nat} {f : zF} {t a : Nat} {i : Int32} {x : Int64} (h : zlL n f t a i = some x) : ∃ len g, zarr n f t a = some (len, .inr (.inl g)) ∧ vp_in i len ∧ x = g i.toNatClampNeg := by
  unfold zlL at h
  split at h
  · rename_i len g hy
    split at h
    · rename_i hi
      cases h
      exact ⟨len, g, hy, zin_i hi, rfl⟩
    · cases h
  · cases h
theorem zlQ_i {n : Nat} {f : zF} {t a : Nat} {i : Int32} {x : Option Nat} (h : zlQ n f t a i = some x) : ∃ len g, zarr n f t a = some (len, .inr (.inr (.inr (.inr g)))) ∧ vp_in i len ∧ x = g i.toNatClampNeg := by
  unfold zlQ at h
  split at h
  · rename_i len g hy
    split at h
    · rename_i hi
      cases h
      exact ⟨len, g, hy, zin_i hi, rfl⟩
    · cases h
  · cases h
theorem zsI_i {n : Nat} {f f1 : zF} {t a : Nat} {i x : Int32} (h : zsI n f t a i x = some f1) : ∃ len g, zarr n f t a = some (len, .inl g) ∧ vp_in i len ∧ f1 = zu f a (.inl (t, len, .inl (upd g i.toNatClampNeg x))) := by
  unfold zsI at h
  split at h
  · rename_i len g hy
    split at h
    · rename_i hi
      cases h
      exact ⟨len, g, hy, zin_i hi, rfl⟩
    · cases h
  · cases h
theorem zsL_i {n : Nat} {f f1 : zF} {t a : Nat} {i : Int32} {x : Int64} (h : zsL n f t a i x = some f1) : ∃ len g, zarr n f t a = some (len, .inr (.inl g)) ∧ vp_in i len ∧ f1 = zu f a (.inl (t, len, .inr (.inl (vp_updL g i.toNatClampNeg x)))) := by
  unfold zsL at h
  split at h
  · rename_i len g hy
    split at h
    · rename_i hi
      cases h
      exact ⟨len, g, hy, zin_i hi, rfl⟩
    · cases h
  · cases h
section ZR
variable {G : zG} {p : Program} {l : Launch} {e : Env} {R : Room} {s : State} {m : MethodId} {args : Array Value} {below : List Frame} {meth : Method} {c : Code} {H : Heap} {locs : List Loc} {cells slots : Nat} {Q : State → Prop} {own : String} {cc : ByteArray} {nL : Nat} {ret : Option FieldType} {n : Nat} {f f1 : zF} {pc : Nat} {ls : Array Slot} {rest : List Value}
theorem z_get (B : zB G p s m args meth c own cc nL ret) (hS : zS G n f H locs) {ci a j index N : Nat} {C : String} {T : u_T} {v : Value} (hv : zfld n f ci a j = some v) (hc : vwCl[ci]? = some (C, T, N)) (hin : ∀ w ∈ u_ws C T N, w ∈ zTT) (hj : j < N) (hlk : Cond.fieldLink own index (T j).1 (T j).2.1 (T j).2.2.1 ∈ zTT) (hdg : decode cc pc = .ok (.getfield index, 3))
    (kk : W p l e R s m args below meth c H locs cells slots Q (F0 m (pc + 3) ls (zv G v :: rest))) : W p l e R s m args below meth c H locs cells slots Q (F0 m pc ls (zr G a :: rest)) := by
  obtain ⟨ha, fs, hf, hfs⟩ := zfld_i hv
  refine va_get (D := G.1) (cl := vwCl) (tys := zT G) (ws := zw G n f) (C := C) (T := T) (N := N) (ci := ci) (ref := (T j).1) (fs := fs.map (zv G)) (a := G.2.2.2.size + a) B.1 B.2.1 B.2.2.2.2.1 hin B.2.2.2.1 B.2.2.2.2.2.1.1 hS.1 a ?_ hc j hj (B.2.2.2.2.1 _ hlk) (fun _ h => h) (v := zv G v) ?_ hdg kk
  · rw [zw_at ha, hf]; rfl
  · rw [List.getElem?_map, hfs]; rfl
theorem z_getI (B : zB G p s m args meth c own cc nL ret) (hS : zS G n f H locs) {ci a j index N : Nat} {C : String} {T : u_T} {v : Int32} (hv : zgI n f ci a j = some v) (hc : vwCl[ci]? = some (C, T, N)) (hin : ∀ w ∈ u_ws C T N, w ∈ zTT) (hj : j < N) (hlk : Cond.fieldLink own index (T j).1 (T j).2.1 (T j).2.2.1 ∈ zTT) (hdg : decode cc pc = .ok (.getfield index, 3))
    (kk : W p l e R s m args below meth c H locs cells slots Q (F0 m (pc + 3) ls (.int v :: rest))) : W p l e R s m args below meth c H locs cells slots Q (F0 m pc ls (zr G a :: rest)) := z_get B hS (zgI_i hv) hc hin hj hlk hdg kk
theorem z_getL (B : zB G p s m args meth c own cc nL ret) (hS : zS G n f H locs) {ci a j index N : Nat} {C : String} {T : u_T} {v : Int64} (hv : zgL n f ci a j = some v) (hc : vwCl[ci]? = some (C, T, N)) (hin : ∀ w ∈ u_ws C T N, w ∈ zTT) (hj : j < N) (hlk : Cond.fieldLink own index (T j).1 (T j).2.1 (T j).2.2.1 ∈ zTT) (hdg : decode cc pc = .ok (.getfield index, 3))
    (kk : W p l e R s m args below meth c H locs cells slots Q (F0 m (pc + 3) ls (.long v :: rest))) : W p l e R s m args below meth c H locs cells slots Q (F0 m pc ls (zr G a :: rest)) := z_get B hS (zgL_i hv) hc hin hj hlk hdg kk
theorem z_getR (B : zB G p s m args meth c own cc nL ret) (hS : zS G n f H locs) {ci a j index N : Nat} {C : String} {T : u_T} {v : Nat} (hv : zgR n f ci a j = some v) (hc : vwCl[ci]? = some (C, T, N)) (hin : ∀ w ∈ u_ws C T N, w ∈ zTT) (hj : j < N) (hlk : Cond.fieldLink own index (T j).1 (T j).2.1 (T j).2.2.1 ∈ zTT) (hdg : decode cc pc = .ok (.getfield index, 3))
    (kk : W p l e R s m args below meth c H locs cells slots Q (F0 m (pc + 3) ls (zr G v :: rest))) : W p l e R s m args below meth c H locs cells slots Q (F0 m pc ls (zr G a :: rest)) := z_get B hS (zgR_i hv) hc hin hj hlk hdg kk
theorem zS.of {a : Nat} {x : zE} {H1 : Heap} {locs1 : List Loc} (ha : a < n) (h1 : va_P G.1 vwCl ((zw G n f).set a (G.2.2.2.size + a, ze G x)) H1) (h2 : va_S (zA G) G.2.2.2 H1 locs1) : zS G n (zu f a x) H1 locs1 := ⟨by rw [← zw_set ha]; exact h1, h2⟩
theorem z_putV (B : zB G p s m args meth c own cc nL ret) (hS : zS G n f H locs) {ci a j index N : Nat} {C : String} {T : u_T} {v : Value} (hv : zpV n f ci a j v = some f1) (hc : vwCl[ci]? = some (C, T, N)) (hin : ∀ w ∈ u_ws C T N, w ∈ zTT) (ty0 : Nat → FieldType) (hty : ∀ k, k < N → parseFieldDescriptor (T k).2.2.1 = some (ty0 k)) (hnm : ∀ a, a < N → ∀ b, b < N → a ≠ b → (T a).2.1 ≠ (T b).2.1) (hj : j < N) (hlk : Cond.fieldLink own index (T j).1 (T j).2.1 (T j).2.2.1 ∈ zTT) (hfin : (T j).2.2.2 = false) (hn : narrow (ty0 j) (zv G v) = zv G v) (hfit : fits (ty0 j) (zv G v) = true) (hdg : decode cc pc = .ok (.putfield index, 3))
    (kk : ∀ H1 locs1, zS G n f1 H1 locs1 → W p l e R s m args below meth c H1 locs1 cells slots Q (F0 m (pc + 3) ls rest)) : W p l e R s m args below meth c H locs cells slots Q (F0 m pc ls (zv G v :: zr G a :: rest)) := by
  obtain ⟨ha, fs, hf, hl, rfl⟩ := zpV_i hv
  refine va_put (D := G.1) (cl := vwCl) (tys := zT G) (ws := zw G n f) (A := zA G) (H0 := G.2.2.2) (C := C) (T := T) (N := N) (ci := ci) (ref := (T j).1) (fs := fs.map (zv G)) (a := G.2.2.2.size + a) (ty := ty0 j) B.1 B.2.1 B.2.2.2.2.1 hin ty0 hty hnm B.2.2.2.1 B.2.2.2.2.2.1.1 hS.1 zw_D hS.2 a ?_ hc j hj (B.2.2.2.2.1 _ hlk) (fun _ h => h) hfin (v := zv G v) (hty j hj) hn hfit (by rw [List.length_map]; exact hl) hdg (fun H1 locs1 q1 _ q2 => kk H1 locs1 (zS.of ha ?_ q2))
  · rw [zw_at ha, hf]; rfl
  · have e1 : ze G (.inr (ci, fs.set j v)) = .inr (ci, (fs.map (zv G)).set j (zv G v)) := by
      show Sum.inr (ci, (fs.set j v).map (zv G)) = _
      rw [List.map_set]
    rw [e1]
    exact q1
theorem z_putI (B : zB G p s m args meth c own cc nL ret) (hS : zS G n f H locs) {ci a j index N : Nat} {C : String} {T : u_T} {x : Int32} (hv : zpI n f ci a j x = some f1) (hc : vwCl[ci]? = some (C, T, N)) (hin : ∀ w ∈ u_ws C T N, w ∈ zTT) (ty0 : Nat → FieldType) (hty : ∀ k, k < N → parseFieldDescriptor (T k).2.2.1 = some (ty0 k)) (hnm : ∀ a, a < N → ∀ b, b < N → a ≠ b → (T a).2.1 ≠ (T b).2.1) (hj : j < N) (hlk : Cond.fieldLink own index (T j).1 (T j).2.1 (T j).2.2.1 ∈ zTT) (hfin : (T j).2.2.2 = false) (ht : ty0 j = .int) (hdg : decode cc pc = .ok (.putfield index, 3))
    (kk : ∀ H1 locs1, zS G n f1 H1 locs1 → W p l e R s m args below meth c H1 locs1 cells slots Q (F0 m (pc + 3) ls rest)) : W p l e R s m args below meth c H locs cells slots Q (F0 m pc ls (.int x :: zr G a :: rest)) :=
  z_putV (v := .int x) B hS hv hc hin ty0 hty hnm hj hlk hfin (by rw [ht]; rfl) (by rw [ht]; rfl) hdg kk
theorem z_putL (B : zB G p s m args meth c own cc nL ret) (hS : zS G n f H locs) {ci a j index N : Nat} {C : String} {T : u_T} {x : Int64} (hv : zpL n f ci a j x = some f1) (hc : vwCl[ci]? = some (C, T, N)) (hin : ∀ w ∈ u_ws C T N, w ∈ zTT) (ty0 : Nat → FieldType) (hty : ∀ k, k < N → parseFieldDescriptor (T k).2.2.1 = some (ty0 k)) (hnm : ∀ a, a < N → ∀ b, b < N → a ≠ b → (T a).2.1 ≠ (T b).2.1) (hj : j < N) (hlk : Cond.fieldLink own index (T j).1 (T j).2.1 (T j).2.2.1 ∈ zTT) (hfin : (T j).2.2.2 = false) (ht : ty0 j = .long) (hdg : decode cc pc = .ok (.putfield index, 3))
    (kk : ∀ H1 locs1, zS G n f1 H1 locs1 → W p l e R s m args below meth c H1 locs1 cells slots Q (F0 m (pc + 3) ls rest)) : W p l e R s m args below meth c H locs cells slots Q (F0 m pc ls (.long x :: zr G a :: rest)) :=
  z_putV (v := .long x) B hS hv hc hin ty0 hty hnm hj hlk hfin (by rw [ht]; rfl) (by rw [ht]; rfl) hdg kk
theorem z_putZ (B : zB G p s m args meth c own cc nL ret) (hS : zS G n f H locs) {ci a j index N : Nat} {C : String} {T : u_T} {x : Int32} (hv : zpZ n f ci a j x = some f1) (hc : vwCl[ci]? = some (C, T, N)) (hin : ∀ w ∈ u_ws C T N, w ∈ zTT) (ty0 : Nat → FieldType) (hty : ∀ k, k < N → parseFieldDescriptor (T k).2.2.1 = some (ty0 k)) (hnm : ∀ a, a < N → ∀ b, b < N → a ≠ b → (T a).2.1 ≠ (T b).2.1) (hj : j < N) (hlk : Cond.fieldLink own index (T j).1 (T j).2.1 (T j).2.2.1 ∈ zTT) (hfin : (T j).2.2.2 = false) (ht : ty0 j = .boolean) (hdg : decode cc pc = .ok (.putfield index, 3))
    (kk : ∀ H1 locs1, zS G n f1 H1 locs1 → W p l e R s m args below meth c H1 locs1 cells slots Q (F0 m (pc + 3) ls rest)) : W p l e R s m args below meth c H locs cells slots Q (F0 m pc ls (.int x :: zr G a :: rest)) := by
  unfold zpZ at hv
  split at hv
  · rename_i hx
    refine z_putV (v := .int x) B hS hv hc hin ty0 hty hnm hj hlk hfin ?_ ?_ hdg kk
    · rw [ht]; rcases hx with rfl | rfl <;> rfl
    · rw [ht]; rcases hx with rfl | rfl <;> rfl
  · cases hv
theorem z_len (B : zB G p s m args meth c own cc nL ret) (hS : zS G n f H locs) {t a : Nat} {x : Int32} (hv : zlen n f t a = some x) {ty : FieldType} (ht : (zT G)[t]? = some (G.2.1 t, ty)) (hdg : decode cc pc = .ok (.arraylength, 1))
    (kk : W p l e R s m args below meth c H locs cells slots Q (F0 m (pc + 1) ls (.int x :: rest))) : W p l e R s m args below meth c H locs cells slots Q (F0 m pc ls (zr G a :: rest)) := by
  obtain ⟨y, hy, hx⟩ := zlen_i hv
  obtain ⟨ha, hf⟩ := zarr_i hy
  refine va_alen (D := G.1) (cl := vwCl) (tys := zT G) (ws := zw G n f) (a := G.2.2.2.size + a) B.1 B.2.1 B.2.2.2.2.2.1.1 hS.1 a t (x := za G y) (cA := G.2.1 t) ?_ ht (v := x) ?_ hdg kk
  · rw [zw_at ha, hf]; rfl
  · rw [← hx]
    obtain ⟨len, g | g | g | g | g⟩ := y <;> rfl
theorem z_ildI (B : zB G p s m args meth c own cc nL ret) (hS : zS G n f H locs) {a : Nat} {i x : Int32} (hv : zlI n f 0 a i = some x) (hdg : decode cc pc = .ok (.iaload, 1))
    (kk : W p l e R s m args below meth c H locs cells slots Q (F0 m (pc + 1) ls (.int x :: rest))) : W p l e R s m args below meth c H locs cells slots Q (F0 m pc ls (.int i :: zr G a :: rest)) := by
  obtain ⟨len, g, hy, hi, rfl⟩ := zlI_i hv
  obtain ⟨ha, hf⟩ := zarr_i hy
  exact va_iald (D := G.1) (cl := vwCl) (tys := zT G) (ws := zw G n f) (a := G.2.2.2.size + a) B.1 B.2.1 B.2.2.2.2.2.1.1 hS.1 a 0 (cA := G.2.1 0) (n := len) (f := g) (by rw [zw_at ha, hf]; rfl) rfl hi hdg kk
theorem z_ildB (B : zB G p s m args meth c own cc nL ret) (hS : zS G n f H locs) {a : Nat} {i x : Int32} (hv : zlI n f 2 a i = some x) (hdg : decode cc pc = .ok (.baload, 1))
    (kk : W p l e R s m args below meth c H locs cells slots Q (F0 m (pc + 1) ls (.int x :: rest))) : W p l e R s m args below meth c H locs cells slots Q (F0 m pc ls (.int i :: zr G a :: rest)) := by
  obtain ⟨len, g, hy, hi, rfl⟩ := zlI_i hv
  obtain ⟨ha, hf⟩ := zarr_i hy
  exact va_bald (D := G.1) (cl := vwCl) (tys := zT G) (ws := zw G n f) (a := G.2.2.2.size + a) B.1 B.2.1 B.2.2.2.2.2.1.1 hS.1 a 2 (cA := G.2.1 2) (n := len) (f := g) (by rw [zw_at ha, hf]; rfl) rfl hi hdg kk
theorem z_ildZ (B : zB G p s m args meth c own cc nL ret) (hS : zS G n f H locs) {a : Nat} {i x : Int32} (hv : zlI n f 3 a i = some x) (hdg : decode cc pc = .ok (.baload, 1))
    (kk : W p l e R s m args below meth c H locs cells slots Q (F0 m (pc + 1) ls (.int x :: rest))) : W p l e R s m args below meth c H locs cells slots Q (F0 m pc ls (.int i :: zr G a :: rest)) := by
  obtain ⟨len, g, hy, hi, rfl⟩ := zlI_i hv
  obtain ⟨ha, hf⟩ := zarr_i hy
  exact va_zald (D := G.1) (cl := vwCl) (tys := zT G) (ws := zw G n f) (a := G.2.2.2.size + a) B.1 B.2.1 B.2.2.2.2.2.1.1 hS.1 a 3 (cA := G.2.1 3) (n := len) (f := g) (by rw [zw_at ha, hf]; rfl) rfl hi hdg kk
theorem z_ildL (B : zB G p s m args meth c own cc nL ret) (hS : zS G n f H locs) {a : Nat} {i : Int32} {x : Int64} (hv : zlL n f 1 a i = some x) (hdg : decode cc pc = .ok (.laload, 1))
    (kk : W p l e R s m args below meth c H locs cells slots Q (F0 m (pc + 1) ls (.long x :: rest))) : W p l e R s m args below meth c H locs cells slots Q (F0 m pc ls (.int i :: zr G a :: rest)) := by
  obtain ⟨len, g, hy, hi, rfl⟩ := zlL_i hv
  obtain ⟨ha, hf⟩ := zarr_i hy
  exact va_lald (D := G.1) (cl := vwCl) (tys := zT G) (ws := zw G n f) (a := G.2.2.2.size + a) B.1 B.2.1 B.2.2.2.2.2.1.1 hS.1 a 1 (cA := G.2.1 1) (n := len) (f := g) (by rw [zw_at ha, hf]; rfl) rfl hi hdg kk
theorem z_ildQ (B : zB G p s m args meth c own cc nL ret) (hS : zS G n f H locs) {a : Nat} {i : Int32} {x : Option Nat} (hv : zlQ n f 4 a i = some x) (hdg : decode cc pc = .ok (.aaload, 1))
    (kk : W p l e R s m args below meth c H locs cells slots Q (F0 m (pc + 1) ls (zn G x :: rest))) : W p l e R s m args below meth c H locs cells slots Q (F0 m pc ls (.int i :: zr G a :: rest)) := by
  obtain ⟨len, g, hy, hi, rfl⟩ := zlQ_i hv
  obtain ⟨ha, hf⟩ := zarr_i hy
  refine va_aldq (D := G.1) (cl := vwCl) (tys := zT G) (ws := zw G n f) (a := G.2.2.2.size + a) B.1 B.2.1 B.2.2.2.2.2.1.1 hS.1 a 4 (cA := G.2.1 4) (C := "SeenToMove$State") (n := len) (f := fun j => (g j).map (fun k => G.2.2.2.size + k)) (by rw [zw_at ha, hf]; rfl) rfl hi hdg ?_
  have e1 : va_rf ((g i.toNatClampNeg).map (fun k => G.2.2.2.size + k)) = zn G (g i.toNatClampNeg) := by cases g i.toNatClampNeg <;> rfl
  rw [e1]
  exact kk
theorem z_istI (B : zB G p s m args meth c own cc nL ret) (hS : zS G n f H locs) {a : Nat} {i x : Int32} (hv : zsI n f 0 a i x = some f1) (hdg : decode cc pc = .ok (.iastore, 1))
    (kk : ∀ H1 locs1, zS G n f1 H1 locs1 → W p l e R s m args below meth c H1 locs1 cells slots Q (F0 m (pc + 1) ls rest)) : W p l e R s m args below meth c H locs cells slots Q (F0 m pc ls (.int x :: .int i :: zr G a :: rest)) := by
  obtain ⟨len, g, hy, hi, rfl⟩ := zsI_i hv
  obtain ⟨ha, hf⟩ := zarr_i hy
  exact va_iast (D := G.1) (cl := vwCl) (tys := zT G) (ws := zw G n f) (A := zA G) (H0 := G.2.2.2) (a := G.2.2.2.size + a) B.1 B.2.1 B.2.2.2.2.2.1.1 hS.1 zw_D hS.2 a 0 (cA := G.2.1 0) (n := len) (f := g) (by rw [zw_at ha, hf]; rfl) rfl hi hdg (fun H1 locs1 q1 _ q2 => kk H1 locs1 (zS.of ha q1 q2))
theorem z_istB (B : zB G p s m args meth c own cc nL ret) (hS : zS G n f H locs) {a : Nat} {i x : Int32} (hv : zsB n f 2 a i x = some f1) (hdg : decode cc pc = .ok (.bastore, 1))
    (kk : ∀ H1 locs1, zS G n f1 H1 locs1 → W p l e R s m args below meth c H1 locs1 cells slots Q (F0 m (pc + 1) ls rest)) : W p l e R s m args below meth c H locs cells slots Q (F0 m pc ls (.int x :: .int i :: zr G a :: rest)) := by
  obtain ⟨len, g, hy, hi, rfl⟩ := zsI_i hv
  obtain ⟨ha, hf⟩ := zarr_i hy
  exact va_bast (D := G.1) (cl := vwCl) (tys := zT G) (ws := zw G n f) (A := zA G) (H0 := G.2.2.2) (a := G.2.2.2.size + a) B.1 B.2.1 B.2.2.2.2.2.1.1 hS.1 zw_D hS.2 a 2 (cA := G.2.1 2) (n := len) (f := g) (by rw [zw_at ha, hf]; rfl) rfl hi hdg (fun H1 locs1 q1 _ q2 => kk H1 locs1 (zS.of ha (by rw [vp_nar_byte] at q1; exact q1) q2))
theorem z_istZ (B : zB G p s m args meth c own cc nL ret) (hS : zS G n f H locs) {a : Nat} {i x : Int32} (hv : zsZ n f 3 a i x = some f1) (hdg : decode cc pc = .ok (.bastore, 1))
    (kk : ∀ H1 locs1, zS G n f1 H1 locs1 → W p l e R s m args below meth c H1 locs1 cells slots Q (F0 m (pc + 1) ls rest)) : W p l e R s m args below meth c H locs cells slots Q (F0 m pc ls (.int x :: .int i :: zr G a :: rest)) := by
  unfold zsZ at hv
  split at hv
  · rename_i hx
    obtain ⟨len, g, hy, hi, rfl⟩ := zsI_i hv
    obtain ⟨ha, hf⟩ := zarr_i hy
    have e1 : vp_nar .boolean x = x := by rcases hx with rfl | rfl <;> decide
    exact va_zast (D := G.1) (cl := vwCl) (tys := zT G) (ws := zw G n f) (A := zA G) (H0 := G.2.2.2) (a := G.2.2.2.size + a) B.1 B.2.1 B.2.2.2.2.2.1.1 hS.1 zw_D hS.2 a 3 (cA := G.2.1 3) (n := len) (f := g) (by rw [zw_at ha, hf]; rfl) rfl hi hdg (fun H1 locs1 q1 _ q2 => kk H1 locs1 (zS.of ha (by rw [e1] at q1; exact q1) q2))
  · cases hv
theorem z_istL (B : zB G p s m args meth c own cc nL ret) (hS : zS G n f H locs) {a : Nat} {i : Int32} {x : Int64} (hv : zsL n f 1 a i x = some f1) (hdg : decode cc pc = .ok (.lastore, 1))
    (kk : ∀ H1 locs1, zS G n f1 H1 locs1 → W p l e R s m args below meth c H1 locs1 cells slots Q (F0 m (pc + 1) ls rest)) : W p l e R s m args below meth c H locs cells slots Q (F0 m pc ls (.long x :: .int i :: zr G a :: rest)) := by
  obtain ⟨len, g, hy, hi, rfl⟩ := zsL_i hv
  obtain ⟨ha, hf⟩ := zarr_i hy
  exact va_last (D := G.1) (cl := vwCl) (tys := zT G) (ws := zw G n f) (A := zA G) (H0 := G.2.2.2) (a := G.2.2.2.size + a) B.1 B.2.1 B.2.2.2.2.2.1.1 hS.1 zw_D hS.2 a 1 (cA := G.2.1 1) (n := len) (f := g) (by rw [zw_at ha, hf]; rfl) rfl hi hdg (fun H1 locs1 q1 _ q2 => kk H1 locs1 (zS.of ha q1 q2))
end ZR
