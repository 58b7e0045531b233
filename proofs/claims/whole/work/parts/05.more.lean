/-! more rows: shifts, remainders, String constants, copies of rows -/
def zrem (x y : Int32) : Int32 := x - x / y * y
def zishl (x y : Int32) : Int32 := x <<< (y &&& 31)
def zishr (x y : Int32) : Int32 := x >>> (y &&& 31)
def ziushr (x y : Int32) : Int32 := (x.toUInt32 >>> (y.toUInt32 &&& Int32.toUInt32 31)).toInt32
def zlshl (x : Int64) (y : Int32) : Int64 := x <<< (y.toInt64 &&& 63)
def zlshr (x : Int64) (y : Int32) : Int64 := x >>> (y.toInt64 &&& 63)
theorem znz_i {x : Int32} {u : Unit} (h : znz x = some u) : ¬ x = 0 := by
  unfold znz at h
  split at h
  · cases h
  · assumption
theorem zbl_i {x y : Int32} (h : zbl x = some y) : (x = 0 ∨ x = 1) ∧ x = y := by
  unfold zbl at h
  split at h
  · rename_i hx
    cases h
    exact ⟨hx, rfl⟩
  · cases h
section ZM
variable {G : zG} {p : Program} {l : Launch} {e : Env} {R : Room} {s : State} {m : MethodId} {args : Array Value} {below : List Frame} {meth : Method} {c : Code} {H : Heap} {locs : List Loc} {cells slots : Nat} {Q : State → Prop} {own : String} {cc : ByteArray} {nL : Nat} {ret : Option FieldType} {n : Nat} {f f1 : zF} {pc : Nat} {ls : Array Slot} {rest : List Value}
theorem z_irem (he : p.tables.exec = Jvm.exec) (hb : c.code = cc) {x y : Int32} (hdg : decode cc pc = .ok (.irem, 1)) (hne : ¬ y = 0) (k : W p l e R s m args below meth c H locs cells slots Q (F0 m (pc + 1) ls (.int (zrem x y) :: rest))) : W p l e R s m args below meth c H locs cells slots Q (F0 m pc ls (.int y :: .int x :: rest)) := lv_irem he hb hdg hne k
theorem z_ishl (he : p.tables.exec = Jvm.exec) (hb : c.code = cc) {x y : Int32} (hdg : decode cc pc = .ok (.ishl, 1)) (k : W p l e R s m args below meth c H locs cells slots Q (F0 m (pc + 1) ls (.int (zishl x y) :: rest))) : W p l e R s m args below meth c H locs cells slots Q (F0 m pc ls (.int y :: .int x :: rest)) := lv_ishl he hb hdg k
theorem z_ishr (he : p.tables.exec = Jvm.exec) (hb : c.code = cc) {x y : Int32} (hdg : decode cc pc = .ok (.ishr, 1)) (k : W p l e R s m args below meth c H locs cells slots Q (F0 m (pc + 1) ls (.int (zishr x y) :: rest))) : W p l e R s m args below meth c H locs cells slots Q (F0 m pc ls (.int y :: .int x :: rest)) := lv_ishr he hb hdg k
theorem z_iushr (he : p.tables.exec = Jvm.exec) (hb : c.code = cc) {x y : Int32} (hdg : decode cc pc = .ok (.iushr, 1)) (k : W p l e R s m args below meth c H locs cells slots Q (F0 m (pc + 1) ls (.int (ziushr x y) :: rest))) : W p l e R s m args below meth c H locs cells slots Q (F0 m pc ls (.int y :: .int x :: rest)) := lv_iushr (v := ziushr x y) he hb hdg rfl k
theorem z_lshl (he : p.tables.exec = Jvm.exec) (hb : c.code = cc) {x : Int64} {y : Int32} (hdg : decode cc pc = .ok (.lshl, 1)) (k : W p l e R s m args below meth c H locs cells slots Q (F0 m (pc + 1) ls (.long (zlshl x y) :: rest))) : W p l e R s m args below meth c H locs cells slots Q (F0 m pc ls (.int y :: .long x :: rest)) := lv_lshl (v := zlshl x y) he hb hdg rfl k
theorem z_lshr (he : p.tables.exec = Jvm.exec) (hb : c.code = cc) {x : Int64} {y : Int32} (hdg : decode cc pc = .ok (.lshr, 1)) (k : W p l e R s m args below meth c H locs cells slots Q (F0 m (pc + 1) ls (.long (zlshr x y) :: rest))) : W p l e R s m args below meth c H locs cells slots Q (F0 m pc ls (.int y :: .long x :: rest)) := lv_lshr (v := zlshr x y) he hb hdg rfl k
end ZM
/-- System.arraycopy between rows of ints, of longs -/
def zcpI (n : Nat) (f : zF) (a0 : Nat) (sp : Int32) (a1 : Nat) (dp k : Int32) : Option zF := match zarr n f 0 a0, zarr n f 0 a1 with
  | some (n0, .inl g0), some (n1, .inl g1) => if ¬ sp < 0 ∧ ¬ dp < 0 ∧ ¬ k < 0 ∧ sp.toNatClampNeg + k.toNatClampNeg ≤ n0 ∧ dp.toNatClampNeg + k.toNatClampNeg ≤ n1 then some (zu f a1 (.inl (0, n1, .inl (va_cpy g0 g1 sp.toNatClampNeg dp.toNatClampNeg k.toNatClampNeg)))) else none
  | _, _ => none
def zcpL (n : Nat) (f : zF) (a0 : Nat) (sp : Int32) (a1 : Nat) (dp k : Int32) : Option zF := match zarr n f 1 a0, zarr n f 1 a1 with
  | some (n0, .inr (.inl g0)), some (n1, .inr (.inl g1)) => if ¬ sp < 0 ∧ ¬ dp < 0 ∧ ¬ k < 0 ∧ sp.toNatClampNeg + k.toNatClampNeg ≤ n0 ∧ dp.toNatClampNeg + k.toNatClampNeg ≤ n1 then some (zu f a1 (.inl (1, n1, .inr (.inl (va_cpy g0 g1 sp.toNatClampNeg dp.toNatClampNeg k.toNatClampNeg))))) else none
  | _, _ => none
theorem zcpI_i {n : Nat} {f f1 : zF} {a0 a1 : Nat} {sp dp k : Int32} (h : zcpI n f a0 sp a1 dp k = some f1) : ∃ n0 g0 n1 g1, zarr n f 0 a0 = some (n0, .inl g0) ∧ zarr n f 0 a1 = some (n1, .inl g1) ∧ (¬ sp < 0 ∧ ¬ dp < 0 ∧ ¬ k < 0 ∧ sp.toNatClampNeg + k.toNatClampNeg ≤ n0 ∧ dp.toNatClampNeg + k.toNatClampNeg ≤ n1) ∧ f1 = zu f a1 (.inl (0, n1, .inl (va_cpy g0 g1 sp.toNatClampNeg dp.toNatClampNeg k.toNatClampNeg))) := by
  unfold zcpI at h
  split at h
  · rename_i n0 g0 n1 g1 h0 h1
    split at h
    · rename_i hh
      cases h
      exact ⟨n0, g0, n1, g1, h0, h1, hh, rfl⟩
    · cases h
  · cases h
theorem zcpL_i {n : Nat} {f f1 : zF} {a0 a1 : Nat} {sp dp k : Int32} (h : zcpL n f a0 sp a1 dp k = some f1) : ∃ n0 g0 n1 g1, zarr n f 1 a0 = some (n0, .inr (.inl g0)) ∧ zarr n f 1 a1 = some (n1, .inr (.inl g1)) ∧ (¬ sp < 0 ∧ ¬ dp < 0 ∧ ¬ k < 0 ∧ sp.toNatClampNeg + k.toNatClampNeg ≤ n0 ∧ dp.toNatClampNeg + k.toNatClampNeg ≤ n1) ∧ f1 = zu f a1 (.inl (1, n1, .inr (.inl (va_cpy g0 g1 sp.toNatClampNeg dp.toNatClampNeg k.toNatClampNeg)))) := by
  unfold zcpL at h
  split at h
  · rename_i n0 g0 n1 g1 h0 h1
    split at h
    · rename_i hh
      cases h
      exact ⟨n0, g0, n1, g1, h0, h1, hh, rfl⟩
    · cases h
  · cases h
/-- what the words say of System.arraycopy -/
def zCpw : Prop := Cond.native arraycopyName ∈ zTT ∧ Cond.static arraycopyName ∈ zTT ∧ Cond.initialized "java/lang/System" ∈ zTT
section ZCP
variable {G : zG} {p : Program} {l : Launch} {e : Env} {D : Nat} {s : State} {m : MethodId} {args : Array Value} {below : List Frame} {meth : Method} {c : Code} {H : Heap} {locs : List Loc} {cells slots : Nat} {Q : State → Prop} {own : String} {cc : ByteArray} {nL : Nat} {ret : Option FieldType} {n : Nat} {f f1 : zF} {pc : Nat} {ls : Array Slot}
theorem z_cpI (B : zB G p s m args meth c own cc nL ret) (hS : zS G n f H locs) {a0 a1 idx : Nat} {sp dp k : Int32} {lv : List (Nat × Value)} (hv : zcpI n f a0 sp a1 dp k = some f1) (hlk : Cond.methodLink own idx arraycopyName ∈ zTT) (hcw : zCpw) (hl : lv_has ls nL lv) (hd : 1 ≤ D) (hdg : decode cc pc = .ok (.invokestatic idx, 3))
    (kk : ∀ H1 locs1, zS G n f1 H1 locs1 → W p l e (zrm D) s m args below meth c H1 locs1 cells slots Q (F0 m (pc + 3) ls [])) : W p l e (zrm D) s m args below meth c H locs cells slots Q (F0 m pc ls [.int k, .int dp, zr G a1, .int sp, zr G a0]) := by
  obtain ⟨n0, g0, n1, g1, h0, h1, ⟨q1, q2, q3, q4, q5⟩, rfl⟩ := zcpI_i hv
  obtain ⟨b0, e0⟩ := zarr_i h0
  obtain ⟨b1, e1⟩ := zarr_i h1
  refine va_copyi (D := G.1) (cl := vwCl) (tys := zT G) (ws := zw G n f) (A := zA G) (H0 := G.2.2.2) (a := G.2.2.2.size + a1) (a0 := G.2.2.2.size + a0) B.1 B.2.1 (B.2.2.1.trans hl.1.symm) B.2.2.2.1 (B.2.2.2.2.1 _ hlk) (B.2.2.2.2.1 _ hcw.1) (B.2.2.2.2.1 _ hcw.2.1) (B.2.2.2.2.1 _ hcw.2.2) B.2.2.2.2.2.1.1 hS.1 zw_D hS.2 a0 a1 0 0 (c0 := G.2.1 0) (c1 := G.2.1 0) (n0 := n0) (n1 := n1) (f := g0) (g := g1) (ty := .int) (by rw [zw_at b0, e0]; rfl) (by rw [zw_at b1, e1]; rfl) rfl rfl rfl q1 q2 q3 q4 q5 (fun _ _ => rfl) hd ?_ hdg (fun H1 locs1 z1 _ z2 => kk H1 locs1 (zS.of b1 z1 z2))
  show 0 + (nativeFrameWords "java/lang/System" "arraycopy" 5 + 11) ≤ 64 * D
  have : nativeFrameWords "java/lang/System" "arraycopy" 5 + 11 ≤ 64 := by decide
  omega
theorem z_cpL (B : zB G p s m args meth c own cc nL ret) (hS : zS G n f H locs) {a0 a1 idx : Nat} {sp dp k : Int32} {lv : List (Nat × Value)} (hv : zcpL n f a0 sp a1 dp k = some f1) (hlk : Cond.methodLink own idx arraycopyName ∈ zTT) (hcw : zCpw) (hl : lv_has ls nL lv) (hd : 1 ≤ D) (hdg : decode cc pc = .ok (.invokestatic idx, 3))
    (kk : ∀ H1 locs1, zS G n f1 H1 locs1 → W p l e (zrm D) s m args below meth c H1 locs1 cells slots Q (F0 m (pc + 3) ls [])) : W p l e (zrm D) s m args below meth c H locs cells slots Q (F0 m pc ls [.int k, .int dp, zr G a1, .int sp, zr G a0]) := by
  obtain ⟨n0, g0, n1, g1, h0, h1, ⟨q1, q2, q3, q4, q5⟩, rfl⟩ := zcpL_i hv
  obtain ⟨b0, e0⟩ := zarr_i h0
  obtain ⟨b1, e1⟩ := zarr_i h1
  refine va_copyl (D := G.1) (cl := vwCl) (tys := zT G) (ws := zw G n f) (A := zA G) (H0 := G.2.2.2) (a := G.2.2.2.size + a1) (a0 := G.2.2.2.size + a0) B.1 B.2.1 (B.2.2.1.trans hl.1.symm) B.2.2.2.1 (B.2.2.2.2.1 _ hlk) (B.2.2.2.2.1 _ hcw.1) (B.2.2.2.2.1 _ hcw.2.1) (B.2.2.2.2.1 _ hcw.2.2) B.2.2.2.2.2.1.1 hS.1 zw_D hS.2 a0 a1 1 1 (c0 := G.2.1 1) (c1 := G.2.1 1) (n0 := n0) (n1 := n1) (f := g0) (g := g1) (ty := .long) (by rw [zw_at b0, e0]; rfl) (by rw [zw_at b1, e1]; rfl) rfl rfl rfl q1 q2 q3 q4 q5 (fun _ _ => rfl) hd ?_ hdg (fun H1 locs1 z1 _ z2 => kk H1 locs1 (zS.of b1 z1 z2))
  show 0 + (nativeFrameWords "java/lang/System" "arraycopy" 5 + 11) ≤ 64 * D
  have : nativeFrameWords "java/lang/System" "arraycopy" 5 + 11 ≤ 64 := by decide
  omega
end ZCP
