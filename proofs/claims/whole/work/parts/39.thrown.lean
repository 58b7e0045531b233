/-! the two methods that may throw -/
theorem zk_193 : (Jvm.Cond.fieldLink "SeenToMove" (154 : Nat) "SeenToMove$Field" "figureOwners" "[I") ∈ zTT := zTT_in (List.mem_of_getElem? (i := 193) (by decide +kernel)) rfl
theorem zk_197 : (Jvm.Cond.fieldLink "SeenToMove" (157 : Nat) "SeenToMove$Field" "everys" "[I") ∈ zTT := zTT_in (List.mem_of_getElem? (i := 197) (by decide +kernel)) rfl
theorem zk_1215 : (Jvm.Cond.instanceMethod ({ cls := "SeenToMove", name := "figure", desc := "(II)I" } : Jvm.MethodName)) ∈ zTT := zTT_in (List.mem_of_getElem? (i := 1215) (by decide +kernel)) rfl
theorem zk_1216 : (Jvm.Cond.selects "SeenToMove" ({ cls := "SeenToMove", name := "figure", desc := "(II)I" } : Jvm.MethodName) ({ cls := "SeenToMove", name := "figure", desc := "(II)I" } : Jvm.MethodName)) ∈ zTT := zTT_in (List.mem_of_getElem? (i := 1216) (by decide +kernel)) rfl
theorem zk_1217 : (Jvm.Cond.code ({ cls := "SeenToMove", name := "figure", desc := "(II)I" } : Jvm.MethodName) prog_1_method_6_code (3 : Nat) (Option.some Jvm.ClassFile.FieldType.int)) ∈ zTT := zTT_in (List.mem_of_getElem? (i := 1217) (by decide +kernel)) rfl
theorem zk_1287 : (Jvm.Cond.instanceMethod ({ cls := "SeenToMove", name := "mean", desc := "(I)I" } : Jvm.MethodName)) ∈ zTT := zTT_in (List.mem_of_getElem? (i := 1287) (by decide +kernel)) rfl
theorem zk_1288 : (Jvm.Cond.selects "SeenToMove" ({ cls := "SeenToMove", name := "mean", desc := "(I)I" } : Jvm.MethodName) ({ cls := "SeenToMove", name := "mean", desc := "(I)I" } : Jvm.MethodName)) ∈ zTT := zTT_in (List.mem_of_getElem? (i := 1288) (by decide +kernel)) rfl
theorem zk_1289 : (Jvm.Cond.code ({ cls := "SeenToMove", name := "mean", desc := "(I)I" } : Jvm.MethodName) prog_1_method_41_code (5 : Nat) (Option.some Jvm.ClassFile.FieldType.int)) ∈ zTT := zTT_in (List.mem_of_getElem? (i := 1289) (by decide +kernel)) rfl
theorem zk_1291 : (Jvm.Cond.methodLink "SeenToMove" (324 : Nat) ({ cls := "SeenToMove", name := "commonDivisor", desc := "(II)I" } : Jvm.MethodName)) ∈ zTT := zTT_in (List.mem_of_getElem? (i := 1291) (by decide +kernel)) rfl
theorem zy_X11_figure : zYV yX11_figure RX11 cX11_figure 3 (some .int) 2 := ⟨zk_1217, zk_1215, zk_1216, zk_1, ⟨rfl, by decide +kernel, by decide +kernel, by decide +kernel⟩, by decide⟩
theorem zy_X11_mean : zYV yX11_mean RX11 cX11_mean 5 (some .int) 1 := ⟨zk_1289, zk_1287, zk_1288, zk_1, ⟨rfl, by decide +kernel, by decide +kernel, by decide +kernel⟩, by decide⟩
theorem zfT {w : Cond} (h : w ∈ zFaceW) : w.onTables = true := by
  have h1 := (List.mem_filter.mp h).2
  cases w <;> first | rfl | cases h1
theorem zS.bigger {G : zG} {n : Nat} {f : zF} {H H1 : Heap} {locs : List Loc} (h : zS G n f H locs) (hz : H.size ≤ H1.size) (hq : ∀ q : Nat, q < H.size → H1[q]? = H[q]?) : zS G n f H1 [] :=
  ⟨h.1.kept (fun k q hk => hq _ (h.1 k q hk).lt), Nat.le_trans h.2.1 hz, fun q h1 h2 => (hq q (Nat.lt_of_lt_of_le h1 h.2.1)).trans (h.2.2.1 q h1 h2), fun _ q => by cases q⟩
/-- what a body that may throw owes -/
def zXR (G : zG) (n : Nat) (f : zF) (ro : Option Int32) : Array Value → State → Outcome → State → Prop := fun _ _ o t => ∃ v, ro = some v ∧ o = .returned (some (.int v)) ∧ zS G n f t.heap []
def zXC (G : zG) (n : Nat) (f : zF) (ro : Option Int32) : String → State → State → Prop := fun E _ t => (ro = none ∧ E = zNSE) ∧ zS G n f t.heap []
def zXQ (G : zG) (below : List Frame) (n : Nat) (f : zF) (ro : Option Int32) (args : Array Value) (s : State) : State → Prop := vx_MQ below (zXR G n f ro) (zXC G n f ro) args s 1 6 (zA G)
def zMX (l : Launch) (G : zG) (y : MethodName) (cc : ByteArray) (maxL : Nat) (ret : Option FieldType) (d n : Nat) (f : zF) (av : List Value) (ro : Option Int32) (_ : zF) : Prop :=
  vx_Met l y (zws y cc maxL ret) (zrmA d 1 6) (va_Pc av (fun U => zS G n f U.heap [] ∧ zC G U)) (zXR G n f ro) (zXC G n f ro) 1 6 (zA G)
theorem zMX.of {l : Launch} {G : zG} {own name desc : String} {cc : ByteArray} {maxL : Nat} {ret : Option FieldType} {d n : Nat} {f : zF} {av : List Value} {ro : Option Int32} (hy : plainName own = true) (hL : (lg_sl av).length ≤ maxL)
    (body : ∀ p e s m args below meth c locs ls, zB G p s m args meth c own cc maxL ret → (∀ x ∈ c.exceptionTable.toList, False) → zS G n f s.heap locs → lv_has ls maxL (lv_args 0 av) → W p l e (zrmA d 1 6) s m args below meth c s.heap locs 0 0 (zXQ G below n f ro args s) (F0 m 0 ls [])) :
    zMX l G ⟨own, name, desc⟩ cc maxL ret d n f av ro f := by
  refine vx_ofW (cc := cc) (maxL := maxL) (ret := ret) hy rfl ?_
  intro p e s m args below meth c s₁ B hml hT9 hv
  obtain ⟨rfl, hP, hC⟩ := hv
  have hl := lv_entry av hL
  rw [lg_entry_eq]
  generalize (lg_sl av ++ List.replicate (maxL - (lg_sl av).length) Slot.unset).toArray = ls at hl ⊢
  exact body p e s m _ below meth c [] ls ⟨B.exec, B.bytes, hml, findClass_of_methodNamed B.named, fun w hw => atoms_spec (ws := zws _ cc maxL ret) B.pre w (List.mem_cons_of_mem _ hw), hC, B.returns, B.notSynchronized⟩ hT9 hP hl
section ZXR
variable {G : zG} {p : Program} {l : Launch} {e : Env} {R : Room} {s : State} {m : MethodId} {args : Array Value} {below : List Frame} {meth : Method} {c : Code} {H : Heap} {locs : List Loc} {cells slots : Nat} {Q : State → Prop} {own : String} {cc : ByteArray} {nL d : Nat} {ret : Option FieldType} {n : Nat} {f f2 : zF} {pc : Nat} {ls : Array Slot} {rest : List Value}
theorem zq_callS (B : zB G p s m args meth c own cc nL ret) (hS : zS G n f H locs) {y : MethodName} {idx maxL np d : Nat} {bytes : ByteArray} {ret2 : Option FieldType} {ro : Option Value} {As st : List Value} {lv : List (Nat × Value)}
    (hM : zM l G y bytes maxL ret2 d n f As ro f2) (hY : zYS y own bytes maxL ret2 np) (hlk : Cond.methodLink own idx y ∈ zTT) (hd : d + 1 ≤ R.frames ∧ 64 * (d + 1) ≤ R.locals) (hn : As.length = np) (hl : lv_has ls nL lv) (hst : st = As.reverse ++ rest) (hW : (rest.map fun v => v.category).sum ≤ 8) (hdg : decode cc pc = .ok (.invokestatic idx, 3))
    (hcs : cells ≤ R.cells ∧ slots ≤ R.slots)
    (kk : ∀ H1 locs1, zS G n f2 H1 locs1 → W p l e R s m args below meth c H1 locs1 cells slots Q (F0 m (pc + 3) ls (ro.toList ++ rest))) : W p l e R s m args below meth c H locs cells slots Q (F0 m pc ls st) := by
  subst hst
  obtain ⟨y1, y2, y3, y5, y6⟩ := hY
  have hG : GoodIn zTT (wsS own idx y (zws y bytes maxL ret2)) := zTT_good (by
    intro w hw
    simp only [wsS, zws, List.mem_append, List.mem_cons, List.not_mem_nil, or_false] at hw
    rcases hw with (rfl | rfl | rfl) | rfl | hw
    · exact hlk
    · exact y2
    · exact y3
    · exact y1
    · exact hw)
  refine zq_back hS (va_runS (As := As) (rest := rest) (own := own) (Ts := zTT) ⟨B.1, B.2.1, B.2.2.1, B.2.2.2.1, B.2.2.2.2.1⟩ hM (cwS np B.2.2.2.2.1 hG rfl rfl rfl y5 ⟨hd.1, ?_⟩) ⟨zPc_blind, fun U hU hW2 => ⟨rfl, by rw [hU]; exact hS.drop, zC_up B hW2⟩⟩ rfl hn hl.1 rfl (lv_room hW) hdg ⟨hcs.1, hcs.2⟩) kk
  show 8 + (maxL + 11) + 64 * d ≤ R.locals
  omega
theorem zx_iret (B : zB G p s m args meth c own cc nL (some .int)) (hS : zS G n f H locs) {x : Int32} (hdg : decode cc pc = .ok (.ireturn, 1)) : W p l e R s m args below meth c H locs 0 0 (zXQ G below n f (some x) args s) (F0 m pc ls [.int x]) :=
  vx_ret (W.widen (Nat.zero_le 1) (Nat.zero_le 6) (W.iret B.1 B.2.1 B.2.2.2.2.2.2.1 (fun t ht _ => ⟨x, rfl, rfl, by rw [ht]; exact hS.drop⟩) hS.2.2.2 hdg B.2.2.2.2.2.2.2))
theorem zx_throw (B : zB G p s m args meth c own cc nL ret) (hG : zOK G) (hown9 : own = RX11) (hLf : l.stackTraces = false) (hT9 : ∀ x ∈ c.exceptionTable.toList, False) (hS : zS G n f H locs) (i : Nat) {tx : String} {is : Nat} {lv : List (Nat × Value)} (hi : zStrs[i]? = some (own, is, tx)) (hl : lv_has ls nL lv)
    (d0 : decode cc pc = .ok (.new 137, 3)) (d3 : decode cc (pc + 3) = .ok (.dup, 1)) (d4 : decode cc (pc + 4) = .ok (.ldc is, 2)) (d6 : decode cc (pc + 6) = .ok (.invokespecial 141, 3)) (d9 : decode cc (pc + 9) = .ok (.athrow, 1))
    (hR : R.frames = d ∧ R.locals = 64 * d ∧ R.cells = 1 ∧ R.slots = 6) (hd : 6 ≤ d) : W p l e R s m args below meth c H locs 0 0 (zXQ G below n f none args s) (F0 m pc ls []) := by
  subst hown9
  have hX := hG.choose_spec s B.x
  have hb := B.2.1
  intro T hT X
  have htr : e.platform.stackTraces = false := (show e.platform.stackTraces = l.stackTraces by rw [X.admits.platform]).trans hLf
  have Y := vx_rebase X (R' := { frames := R.frames, locals := R.locals, cells := 1, slots := 6 }) (Nat.le_refl _) (Nat.le_refl _) (by rw [hR.2.2.1]; exact Nat.le_refl _) (by rw [hR.2.2.2]; exact Nat.le_refl _)
  obtain ⟨s', hA⟩ : ∃ z, z = (T.setVm s.vm).setFrames (.invoking m args :: below) := ⟨_, rfl⟩
  rw [← hA] at Y
  have hvm : s'.vm = s.vm := by rw [hA]; rfl
  have hhp : s'.heap = H := by rw [hA]; exact hT
  have hW0 : s.WarmedH s'.vm := by rw [hvm]; exact State.WarmedH.refl s
  have hgood : ∀ w ∈ zTT, w.before args s' = true := fun w hw => word_at hW0 (good_of_word (List.mem_filter.mp hw).2) (B.2.2.2.2.1 w hw)
  have hface : ∀ w ∈ zFaceW, w.before args s' = true := fun w hw => va_tabs (zfT hw) hvm.symm (hX.2.1 w hw)
  have hk' := hgood _ zk_1218
  have hini' := hgood _ zk_23
  have hU' : vx_Zq Bundle.tN "UNASSIGNED_STACK" Bundle.steD (zA G) s' s'.heap := by rw [hhp]; exact vx_Zq.moved hW0.alike (hX.2.2.2.2.2.1.kept hS.2.2.1)
  have hN' : vx_Zq Bundle.tN "SUPPRESSED_SENTINEL" Bundle.listD (zA G) s' s'.heap := by rw [hhp]; exact vx_Zq.moved hW0.alike (hX.2.2.2.2.2.2.1.kept hS.2.2.1)
  have h : ∀ w ∈ zNall, w.before args s' = true := zNall_ok hgood hface (vx_isRefq hU'.1) (vx_isRefq hN'.1) hU'.2.word hN'.2.word
  have hown' : s'.vm.findClass RX11 = some m.cls := by rw [hvm]; exact B.2.2.2.1
  have hins : (Cond.instantiable zNSE 6).before args s' = true := hgood _ zk_1219
  obtain ⟨vm₁, cX, kX, hfX, hkX, -, -, X₁, st1⟩ := Y.newCold B.1 (own := RX11) (C := zNSE) (index := 137) (n := 6) hown' hk' hins hini' (g := F0 m pc ls []) rfl (by rw [hb]; exact d0) (Nat.le_refl _) (Nat.le_refl _)
  generalize hT1 : (T.setVm vm₁).pushCell { cls := cX, slots := kX.instanceTypes.map defaultValue, vm := .none } = T1 at X₁ st1
  have hcat : (Value.ref T.heap.size).category = 1 := rfl
  have hcellA : T1.heap[T.heap.size]? = some (freshCell cX kX) := by rw [← hT1]; exact State.heap_pushCell_size _ _
  have d3' : decode c.code (pc + 3) = .ok (.dup, 1) := by rw [hb]; exact d3
  have d4' : decode c.code (pc + 4) = .ok (.ldc is, 2) := by rw [hb]; exact d4
  have hstr' : vk_R RX11 is tx (G.2.2.1.1 i) s' := vk_R.warm hW0 (hX.2.2.1 i _ hi)
  obtain ⟨U, hsteps, hrun, hend, hW, hsame, ce, hce, hcv, hcl⟩ := z_ctorThrow X₁ B.1 htr hown' h (fun x hx => nomatch hx) hfX hkX hcellA (by rw [hhp, hT]; exact Nat.le_refl _) (msg := .ref (G.2.2.1.1 i)) rfl
    (g := { method := m, pc := pc + 6, locals := ls, stack := [.ref (G.2.2.1.1 i), .ref T.heap.size, .ref T.heap.size], locked := none }) rfl (hl.1.trans B.2.2.1.symm) rfl rfl (rest := []) rfl
    (by rw [hb]; exact d6) (by rw [hb]; exact d9) (fun x hx => (hT9 x hx).elim) (by simp only [hR.1]; omega) (by simp only [List.map_cons, List.map_nil, List.sum_cons, List.sum_nil, hcat, hR.2.1]; show 0 + _ + 81 ≤ _; omega) B.2.2.2.2.2.2.2
  obtain ⟨f1, f2⟩ := vx_frame hsame
  rw [hhp] at f1 f2
  have hWs : s.WarmedH U.vm := State.WarmedH.trans hW0 hW
  have hcl2 : s.vm.findClass zNSE = some ce.cls := by
    rw [hvm] at hcl
    exact hcl
  have hall : s.sameButNew ({ U with vm := s.vm } : State) locs 1 6 := by
    subst hA
    obtain ⟨e1, e2⟩ := hsame
    rw [State.setFrames_setFrames] at e1
    have h2 : (T.setVm s.vm).sameButNew ({ U with vm := s.vm } : State) [] (0 + 1) (0 + 6) := ⟨e1, e2⟩
    have h3 := X.same.trans h2
    rw [List.append_nil] at h3
    exact h3.mono (Nat.le_refl 1) (Nat.le_refl 6)
  have hS2 : zS G n f U.heap [] := zS.bigger hS f1 (fun q hq => f2 q hq (fun z hz => nomatch hz))
  refine ⟨U, ?_, .threw T.heap.size, hrun, hend, Or.inr ⟨T.heap.size, rfl, zNSE, ce, locs, ⟨⟨rfl, rfl⟩, hS2⟩, hce, hcv, hcl2, hWs, hall, hS.2.2.2⟩⟩
  refine st1 _ ?_
  show Steps p.tables e below (T1.setTop { method := m, pc := pc + 3, locals := ls, stack := [.ref T.heap.size], locked := none }) _
  jvm_step X₁.here [X₁.here.top, B.1, d3', Value.category]
  exact X₁.ldcString B.1 (own := RX11) (text := tx) (index := is) (a := G.2.2.1.1 i) hown' hstr'.1 hstr'.2 (g := { method := m, pc := pc + 4, locals := ls, stack := [.ref T.heap.size, .ref T.heap.size], locked := none }) rfl d4' _ hsteps
theorem zx_throwW (B : zB G p s m args meth c own cc nL ret) (hG : zOK G) (hown9 : own = RX11) (hLf : l.stackTraces = false) (hT9 : ∀ x ∈ c.exceptionTable.toList, False) (hS : zS G n f H locs) (i : Nat) {tx : String} {is : Nat} {lv : List (Nat × Value)} (hi : zStrs[i]? = some (own, is, tx)) (hl : lv_has ls nL lv)
    (d0 : decode cc pc = .ok (.new 137, 3)) (d3 : decode cc (pc + 3) = .ok (.dup, 1)) (d4 : decode cc (pc + 4) = .ok (.ldc_w is, 3)) (d6 : decode cc (pc + 7) = .ok (.invokespecial 141, 3)) (d9 : decode cc (pc + 10) = .ok (.athrow, 1))
    (hR : R.frames = d ∧ R.locals = 64 * d ∧ R.cells = 1 ∧ R.slots = 6) (hd : 6 ≤ d) : W p l e R s m args below meth c H locs 0 0 (zXQ G below n f none args s) (F0 m pc ls []) := by
  subst hown9
  have hX := hG.choose_spec s B.x
  have hb := B.2.1
  intro T hT X
  have htr : e.platform.stackTraces = false := (show e.platform.stackTraces = l.stackTraces by rw [X.admits.platform]).trans hLf
  have Y := vx_rebase X (R' := { frames := R.frames, locals := R.locals, cells := 1, slots := 6 }) (Nat.le_refl _) (Nat.le_refl _) (by rw [hR.2.2.1]; exact Nat.le_refl _) (by rw [hR.2.2.2]; exact Nat.le_refl _)
  obtain ⟨s', hA⟩ : ∃ z, z = (T.setVm s.vm).setFrames (.invoking m args :: below) := ⟨_, rfl⟩
  rw [← hA] at Y
  have hvm : s'.vm = s.vm := by rw [hA]; rfl
  have hhp : s'.heap = H := by rw [hA]; exact hT
  have hW0 : s.WarmedH s'.vm := by rw [hvm]; exact State.WarmedH.refl s
  have hgood : ∀ w ∈ zTT, w.before args s' = true := fun w hw => word_at hW0 (good_of_word (List.mem_filter.mp hw).2) (B.2.2.2.2.1 w hw)
  have hface : ∀ w ∈ zFaceW, w.before args s' = true := fun w hw => va_tabs (zfT hw) hvm.symm (hX.2.1 w hw)
  have hk' := hgood _ zk_1218
  have hini' := hgood _ zk_23
  have hU' : vx_Zq Bundle.tN "UNASSIGNED_STACK" Bundle.steD (zA G) s' s'.heap := by rw [hhp]; exact vx_Zq.moved hW0.alike (hX.2.2.2.2.2.1.kept hS.2.2.1)
  have hN' : vx_Zq Bundle.tN "SUPPRESSED_SENTINEL" Bundle.listD (zA G) s' s'.heap := by rw [hhp]; exact vx_Zq.moved hW0.alike (hX.2.2.2.2.2.2.1.kept hS.2.2.1)
  have h : ∀ w ∈ zNall, w.before args s' = true := zNall_ok hgood hface (vx_isRefq hU'.1) (vx_isRefq hN'.1) hU'.2.word hN'.2.word
  have hown' : s'.vm.findClass RX11 = some m.cls := by rw [hvm]; exact B.2.2.2.1
  have hins : (Cond.instantiable zNSE 6).before args s' = true := hgood _ zk_1219
  obtain ⟨vm₁, cX, kX, hfX, hkX, -, -, X₁, st1⟩ := Y.newCold B.1 (own := RX11) (C := zNSE) (index := 137) (n := 6) hown' hk' hins hini' (g := F0 m pc ls []) rfl (by rw [hb]; exact d0) (Nat.le_refl _) (Nat.le_refl _)
  generalize hT1 : (T.setVm vm₁).pushCell { cls := cX, slots := kX.instanceTypes.map defaultValue, vm := .none } = T1 at X₁ st1
  have hcat : (Value.ref T.heap.size).category = 1 := rfl
  have hcellA : T1.heap[T.heap.size]? = some (freshCell cX kX) := by rw [← hT1]; exact State.heap_pushCell_size _ _
  have d3' : decode c.code (pc + 3) = .ok (.dup, 1) := by rw [hb]; exact d3
  have d4' : decode c.code (pc + 4) = .ok (.ldc_w is, 3) := by rw [hb]; exact d4
  have hstr' : vk_R RX11 is tx (G.2.2.1.1 i) s' := vk_R.warm hW0 (hX.2.2.1 i _ hi)
  obtain ⟨U, hsteps, hrun, hend, hW, hsame, ce, hce, hcv, hcl⟩ := z_ctorThrow X₁ B.1 htr hown' h (fun x hx => nomatch hx) hfX hkX hcellA (by rw [hhp, hT]; exact Nat.le_refl _) (msg := .ref (G.2.2.1.1 i)) rfl
    (g := { method := m, pc := pc + 7, locals := ls, stack := [.ref (G.2.2.1.1 i), .ref T.heap.size, .ref T.heap.size], locked := none }) rfl (hl.1.trans B.2.2.1.symm) rfl rfl (rest := []) rfl
    (by rw [hb]; exact d6) (by rw [hb]; exact d9) (fun x hx => (hT9 x hx).elim) (by simp only [hR.1]; omega) (by simp only [List.map_cons, List.map_nil, List.sum_cons, List.sum_nil, hcat, hR.2.1]; show 0 + _ + 81 ≤ _; omega) B.2.2.2.2.2.2.2
  obtain ⟨f1, f2⟩ := vx_frame hsame
  rw [hhp] at f1 f2
  have hWs : s.WarmedH U.vm := State.WarmedH.trans hW0 hW
  have hcl2 : s.vm.findClass zNSE = some ce.cls := by
    rw [hvm] at hcl
    exact hcl
  have hall : s.sameButNew ({ U with vm := s.vm } : State) locs 1 6 := by
    subst hA
    obtain ⟨e1, e2⟩ := hsame
    rw [State.setFrames_setFrames] at e1
    have h2 : (T.setVm s.vm).sameButNew ({ U with vm := s.vm } : State) [] (0 + 1) (0 + 6) := ⟨e1, e2⟩
    have h3 := X.same.trans h2
    rw [List.append_nil] at h3
    exact h3.mono (Nat.le_refl 1) (Nat.le_refl 6)
  have hS2 : zS G n f U.heap [] := zS.bigger hS f1 (fun q hq => f2 q hq (fun z hz => nomatch hz))
  refine ⟨U, ?_, .threw T.heap.size, hrun, hend, Or.inr ⟨T.heap.size, rfl, zNSE, ce, locs, ⟨⟨rfl, rfl⟩, hS2⟩, hce, hcv, hcl2, hWs, hall, hS.2.2.2⟩⟩
  refine st1 _ ?_
  show Steps p.tables e below (T1.setTop { method := m, pc := pc + 3, locals := ls, stack := [.ref T.heap.size], locked := none }) _
  jvm_step X₁.here [X₁.here.top, B.1, d3', Value.category]
  exact X₁.ldcStringW B.1 (own := RX11) (text := tx) (index := is) (a := G.2.2.1.1 i) hown' hstr'.1 hstr'.2 (g := { method := m, pc := pc + 4, locals := ls, stack := [.ref T.heap.size, .ref T.heap.size], locked := none }) rfl d4' _ hsteps
end ZXR

theorem dX11_figure_0 : decode cX11_figure 0 = .ok (.aload_n 0, 1) := by decide +kernel
theorem dX11_figure_1 : decode cX11_figure 1 = .ok (.getfield 19, 3) := by decide +kernel
theorem dX11_figure_4 : decode cX11_figure 4 = .ok (.iload_n 1, 1) := by decide +kernel
theorem dX11_figure_5 : decode cX11_figure 5 = .ok (.invokevirtual 133, 3) := by decide +kernel
theorem dX11_figure_8 : decode cX11_figure 8 = .ok (.ifCond .eq 13, 3) := by decide +kernel
theorem dX11_figure_11 : decode cX11_figure 11 = .ok (.iload_n 2, 1) := by decide +kernel
theorem dX11_figure_12 : decode cX11_figure 12 = .ok (.ifCond .lt 9, 3) := by decide +kernel
theorem dX11_figure_15 : decode cX11_figure 15 = .ok (.iload_n 2, 1) := by decide +kernel
theorem dX11_figure_16 : decode cX11_figure 16 = .ok (.bipush 7, 2) := by decide +kernel
theorem dX11_figure_18 : decode cX11_figure 18 = .ok (.if_icmp .le 13, 3) := by decide +kernel
theorem dX11_figure_21 : decode cX11_figure 21 = .ok (.new 137, 3) := by decide +kernel
theorem dX11_figure_24 : decode cX11_figure 24 = .ok (.dup, 1) := by decide +kernel
theorem dX11_figure_25 : decode cX11_figure 25 = .ok (.ldc 139, 2) := by decide +kernel
theorem dX11_figure_27 : decode cX11_figure 27 = .ok (.invokespecial 141, 3) := by decide +kernel
theorem dX11_figure_30 : decode cX11_figure 30 = .ok (.athrow, 1) := by decide +kernel
theorem dX11_figure_31 : decode cX11_figure 31 = .ok (.iload_n 2, 1) := by decide +kernel
theorem dX11_figure_32 : decode cX11_figure 32 = .ok (.tableswitch 131 0 6 #[44, 59, 74, 86, 98, 110, 122], 44) := by decide +kernel
theorem dX11_figure_76 : decode cX11_figure 76 = .ok (.aload_n 0, 1) := by decide +kernel
theorem dX11_figure_77 : decode cX11_figure 77 = .ok (.getfield 28, 3) := by decide +kernel
theorem dX11_figure_80 : decode cX11_figure 80 = .ok (.getfield 144, 3) := by decide +kernel
theorem dX11_figure_83 : decode cX11_figure 83 = .ok (.iload_n 1, 1) := by decide +kernel
theorem dX11_figure_84 : decode cX11_figure 84 = .ok (.invokestatic 147, 3) := by decide +kernel
theorem dX11_figure_87 : decode cX11_figure 87 = .ok (.bipush 9, 2) := by decide +kernel
theorem dX11_figure_89 : decode cX11_figure 89 = .ok (.irem, 1) := by decide +kernel
theorem dX11_figure_90 : decode cX11_figure 90 = .ok (.ireturn, 1) := by decide +kernel
theorem dX11_figure_91 : decode cX11_figure 91 = .ok (.aload_n 0, 1) := by decide +kernel
theorem dX11_figure_92 : decode cX11_figure 92 = .ok (.getfield 28, 3) := by decide +kernel
theorem dX11_figure_95 : decode cX11_figure 95 = .ok (.getfield 144, 3) := by decide +kernel
theorem dX11_figure_98 : decode cX11_figure 98 = .ok (.iload_n 1, 1) := by decide +kernel
theorem dX11_figure_99 : decode cX11_figure 99 = .ok (.invokestatic 147, 3) := by decide +kernel
theorem dX11_figure_102 : decode cX11_figure 102 = .ok (.bipush 9, 2) := by decide +kernel
theorem dX11_figure_104 : decode cX11_figure 104 = .ok (.idiv, 1) := by decide +kernel
theorem dX11_figure_105 : decode cX11_figure 105 = .ok (.ireturn, 1) := by decide +kernel
theorem dX11_figure_106 : decode cX11_figure 106 = .ok (.aload_n 0, 1) := by decide +kernel
theorem dX11_figure_107 : decode cX11_figure 107 = .ok (.getfield 28, 3) := by decide +kernel
theorem dX11_figure_110 : decode cX11_figure 110 = .ok (.getfield 151, 3) := by decide +kernel
theorem dX11_figure_113 : decode cX11_figure 113 = .ok (.iload_n 1, 1) := by decide +kernel
theorem dX11_figure_114 : decode cX11_figure 114 = .ok (.invokestatic 147, 3) := by decide +kernel
theorem dX11_figure_117 : decode cX11_figure 117 = .ok (.ireturn, 1) := by decide +kernel
theorem dX11_figure_118 : decode cX11_figure 118 = .ok (.aload_n 0, 1) := by decide +kernel
theorem dX11_figure_119 : decode cX11_figure 119 = .ok (.getfield 19, 3) := by decide +kernel
theorem dX11_figure_122 : decode cX11_figure 122 = .ok (.getfield 154, 3) := by decide +kernel
theorem dX11_figure_125 : decode cX11_figure 125 = .ok (.iload_n 1, 1) := by decide +kernel
theorem dX11_figure_126 : decode cX11_figure 126 = .ok (.invokestatic 147, 3) := by decide +kernel
theorem dX11_figure_129 : decode cX11_figure 129 = .ok (.ireturn, 1) := by decide +kernel
theorem dX11_figure_130 : decode cX11_figure 130 = .ok (.aload_n 0, 1) := by decide +kernel
theorem dX11_figure_131 : decode cX11_figure 131 = .ok (.getfield 19, 3) := by decide +kernel
theorem dX11_figure_134 : decode cX11_figure 134 = .ok (.getfield 157, 3) := by decide +kernel
theorem dX11_figure_137 : decode cX11_figure 137 = .ok (.iload_n 1, 1) := by decide +kernel
theorem dX11_figure_138 : decode cX11_figure 138 = .ok (.invokestatic 147, 3) := by decide +kernel
theorem dX11_figure_141 : decode cX11_figure 141 = .ok (.ireturn, 1) := by decide +kernel
theorem dX11_figure_142 : decode cX11_figure 142 = .ok (.aload_n 0, 1) := by decide +kernel
theorem dX11_figure_143 : decode cX11_figure 143 = .ok (.getfield 28, 3) := by decide +kernel
theorem dX11_figure_146 : decode cX11_figure 146 = .ok (.getfield 160, 3) := by decide +kernel
theorem dX11_figure_149 : decode cX11_figure 149 = .ok (.iload_n 1, 1) := by decide +kernel
theorem dX11_figure_150 : decode cX11_figure 150 = .ok (.invokestatic 147, 3) := by decide +kernel
theorem dX11_figure_153 : decode cX11_figure 153 = .ok (.ireturn, 1) := by decide +kernel
theorem dX11_figure_154 : decode cX11_figure 154 = .ok (.aload_n 0, 1) := by decide +kernel
theorem dX11_figure_155 : decode cX11_figure 155 = .ok (.getfield 28, 3) := by decide +kernel
theorem dX11_figure_158 : decode cX11_figure 158 = .ok (.iload_n 1, 1) := by decide +kernel
theorem dX11_figure_159 : decode cX11_figure 159 = .ok (.invokevirtual 163, 3) := by decide +kernel
theorem dX11_figure_162 : decode cX11_figure 162 = .ok (.ireturn, 1) := by decide +kernel
theorem dX11_figure_163 : decode cX11_figure 163 = .ok (.aload_n 0, 1) := by decide +kernel
theorem dX11_figure_164 : decode cX11_figure 164 = .ok (.getfield 28, 3) := by decide +kernel
theorem dX11_figure_167 : decode cX11_figure 167 = .ok (.iload_n 1, 1) := by decide +kernel
theorem dX11_figure_168 : decode cX11_figure 168 = .ok (.invokevirtual 167, 3) := by decide +kernel
theorem dX11_figure_171 : decode cX11_figure 171 = .ok (.ifCond .eq 7, 3) := by decide +kernel
theorem dX11_figure_174 : decode cX11_figure 174 = .ok (.iconst 1, 1) := by decide +kernel
theorem dX11_figure_175 : decode cX11_figure 175 = .ok (.goto 4, 3) := by decide +kernel
theorem dX11_figure_178 : decode cX11_figure 178 = .ok (.iconst 0, 1) := by decide +kernel
theorem dX11_figure_179 : decode cX11_figure 179 = .ok (.ireturn, 1) := by decide +kernel
def fX11_figure_21 (N n : Nat) (f : zF) : Option (Option Int32) :=
    some none
set_option maxRecDepth 100000 in
set_option maxHeartbeats 4000000 in
theorem gX11_figure_21 (l : Launch) {G : zG} {p : Program} {e : Env} {s : State} {m : MethodId} {args : Array Value} {below : List Frame} {meth : Method} {c : Code} {f : zF} {N n : Nat} {r : Option Int32} (B : zB G p s m args meth c RX11 cX11_figure 3 (some .int)) (hG : zOK G) (hLf : l.stackTraces = false) (hT9 : ∀ x ∈ c.exceptionTable.toList, False) : ∀ (H : Heap) (locs : List Loc) (ls : Array Slot), fX11_figure_21 N n f  = some r → zS G n f H locs → lv_has ls 3 [] → W p l e (zrmA 8 1 6) s m args below meth c H locs 0 0 (zXQ G below n f r args s) (F0 m 21 ls []) := by
  have he := B.1
  have hb := B.2.1
  intro  H locs ls h hS hl
  unfold fX11_figure_21 at h
  obtain rfl := Option.some.inj h
  exact zx_throw B hG rfl hLf hT9 hS 0 rfl hl dX11_figure_21 dX11_figure_24 dX11_figure_25 dX11_figure_27 dX11_figure_30 ⟨rfl, rfl, rfl, rfl⟩ (by decide)
def fX11_figure (N n : Nat) (f : zF) (a0 : Nat) (a1 : Int32) (a2 : Int32) : Option (Option Int32) :=
    ((zgR n f 11 a0 1).bind fun x1 => ((zck n f 2 x1).bind fun _ => ((fX2_hasFigure N n f x1 a1).bind fun x2 => (if x2 = 0 then (fX11_figure_21 N n f ) else (if a2 < 0 then (fX11_figure_21 N n f ) else (if a2 ≤ (7 : Int32) then (if a2 = (0 : Int32) then ((zgR n f 11 a0 2).bind fun x3 => ((zgR n f 8 x3 2).bind fun x4 => ((fX11_at N n f x4 a1).bind fun x5 => some (some (zrem x5 (9 : Int32)))))) else (if a2 = (1 : Int32) then ((zgR n f 11 a0 2).bind fun x6 => ((zgR n f 8 x6 2).bind fun x7 => ((fX11_at N n f x7 a1).bind fun x8 => some (some (x8 / (9 : Int32)))))) else (if a2 = (2 : Int32) then ((zgR n f 11 a0 2).bind fun x9 => ((zgR n f 8 x9 3).bind fun x10 => ((fX11_at N n f x10 a1).bind fun x11 => some (some x11)))) else (if a2 = (3 : Int32) then ((zgR n f 11 a0 1).bind fun x12 => ((zgR n f 2 x12 10).bind fun x13 => ((fX11_at N n f x13 a1).bind fun x14 => some (some x14)))) else (if a2 = (4 : Int32) then ((zgR n f 11 a0 1).bind fun x15 => ((zgR n f 2 x15 11).bind fun x16 => ((fX11_at N n f x16 a1).bind fun x17 => some (some x17)))) else (if a2 = (5 : Int32) then ((zgR n f 11 a0 2).bind fun x18 => ((zgR n f 8 x18 4).bind fun x19 => ((fX11_at N n f x19 a1).bind fun x20 => some (some x20)))) else (if a2 = (6 : Int32) then ((zgR n f 11 a0 2).bind fun x21 => ((zck n f 8 x21).bind fun _ => ((fX8_seers N n f x21 a1).bind fun x22 => some (some x22)))) else ((zgR n f 11 a0 2).bind fun x23 => ((zck n f 8 x23).bind fun _ => ((fX8_canGo N n f x23 a1).bind fun x24 => (if x24 = 0 then some (some (0 : Int32)) else some (some (1 : Int32))))))))))))) else (fX11_figure_21 N n f )))))))
set_option maxRecDepth 100000 in
set_option maxHeartbeats 4000000 in
theorem mX11_figure (l : Launch) (G : zG) {N n : Nat} {f : zF} {r : Option Int32} {a0 : Nat} {a1 : Int32} {a2 : Int32}  (hG : zOK G) (hLf : l.stackTraces = false) (h : fX11_figure N n f a0 a1 a2 = some r) : zMX l G yX11_figure cX11_figure 3 (some .int) 8 n f [zr G a0, .int a1, .int a2] r f := by
  refine zMX.of (by decide) (Nat.le_of_ble_eq_true rfl) ?_
  intro p e s m args below meth c locs ls B hT9 hS hl
  have he := B.1
  have hb := B.2.1
  have hl : lv_has ls 3 [(0, zr G a0), (1, .int a1), (2, .int a2)] := hl
  unfold fX11_figure at h
  generalize s.heap = H at hS ⊢
  refine z_aload_n he hb dX11_figure_0 rfl (lv_at hl 0 rfl) (zref_r _ _) ?_
  obtain ⟨x1, hx, h⟩ := zob h
  refine z_getR (ci := 11) (T := TX11) (N := 14) (j := 1) B hS hx rfl zin_X11 (by decide) zk_509 dX11_figure_1 ?_
  refine lv_iload_n he hb dX11_figure_4 rfl (lv_at hl 1 rfl) ?_
  obtain ⟨_, hc, h⟩ := zob h
  obtain ⟨x2, hx, h⟩ := zob h
  refine zq_callV (ci := 2) (T := TX2) (N := 15) (rest := []) B hS (mX2_hasFigure l G hx) zy_X2_hasFigure zk_872 ⟨by decide, by decide⟩ hc rfl rfl hl rfl (Nat.le_of_ble_eq_true rfl) dX11_figure_5 (kk := (fun H locs hS => ?_)) (hcs := ⟨by decide, by decide⟩)
  refine lv_if_eq (tgt := 21) he hb dX11_figure_8 (by decide) (fun hc => ?_) (fun hc => ?_)
  · rw [if_pos hc] at h
    exact gX11_figure_21 l B hG hLf hT9  _ _ _ h hS (lv_sub hl [] rfl)
  · rw [if_neg hc] at h
    refine lv_iload_n he hb dX11_figure_11 rfl (lv_at hl 2 rfl) ?_
    refine lv_if_lt (tgt := 21) he hb dX11_figure_12 (by decide) (fun hc => ?_) (fun hc => ?_)
    · rw [if_pos hc] at h
      exact gX11_figure_21 l B hG hLf hT9  _ _ _ h hS (lv_sub hl [] rfl)
    · rw [if_neg hc] at h
      refine lv_iload_n he hb dX11_figure_15 rfl (lv_at hl 2 rfl) ?_
      refine lv_bipush (v := (7 : Int32)) he hb dX11_figure_16 (by decide) ?_
      refine lv_icmp_le (tgt := 31) he hb dX11_figure_18 (by decide) (fun hc => ?_) (fun hc => ?_)
      · rw [if_pos hc] at h
        refine lv_iload_n he hb dX11_figure_31 rfl (lv_at hl 2 rfl) ?_
        by_cases hc0 : a2 = (0 : Int32)
        · rw [if_pos hc0] at h
          refine lv_tableIn (tgt := 76) he hb dX11_figure_32 (by rw [hc0]; decide) (by rw [hc0]; decide) (by rw [hc0]; rfl) (by decide) ?_
          refine z_aload_n he hb dX11_figure_76 rfl (lv_at hl 0 rfl) (zref_r _ _) ?_
          obtain ⟨x3, hx, h⟩ := zob h
          refine z_getR (ci := 11) (T := TX11) (N := 14) (j := 2) B hS hx rfl zin_X11 (by decide) zk_510 dX11_figure_77 ?_
          obtain ⟨x4, hx, h⟩ := zob h
          refine z_getR (ci := 8) (T := TX8) (N := 9) (j := 2) B hS hx rfl zin_X8 (by decide) zk_255 dX11_figure_80 ?_
          refine lv_iload_n he hb dX11_figure_83 rfl (lv_at hl 1 rfl) ?_
          obtain ⟨x5, hx, h⟩ := zob h
          refine zq_callS (rest := []) B hS (mX11_at l G hx) zy_X11_at zk_755 ⟨by decide, by decide⟩ rfl hl rfl (Nat.le_of_ble_eq_true rfl) dX11_figure_84 (kk := (fun H locs hS => ?_)) (hcs := ⟨by decide, by decide⟩)
          refine lv_bipush (v := (9 : Int32)) he hb dX11_figure_87 (by decide) ?_
          refine z_irem he hb dX11_figure_89 (by decide) ?_
          obtain rfl := Option.some.inj h
          exact zx_iret B hS dX11_figure_90
        rw [if_neg hc0] at h
        by_cases hc1 : a2 = (1 : Int32)
        · rw [if_pos hc1] at h
          refine lv_tableIn (tgt := 91) he hb dX11_figure_32 (by rw [hc1]; decide) (by rw [hc1]; decide) (by rw [hc1]; rfl) (by decide) ?_
          refine z_aload_n he hb dX11_figure_91 rfl (lv_at hl 0 rfl) (zref_r _ _) ?_
          obtain ⟨x6, hx, h⟩ := zob h
          refine z_getR (ci := 11) (T := TX11) (N := 14) (j := 2) B hS hx rfl zin_X11 (by decide) zk_510 dX11_figure_92 ?_
          obtain ⟨x7, hx, h⟩ := zob h
          refine z_getR (ci := 8) (T := TX8) (N := 9) (j := 2) B hS hx rfl zin_X8 (by decide) zk_255 dX11_figure_95 ?_
          refine lv_iload_n he hb dX11_figure_98 rfl (lv_at hl 1 rfl) ?_
          obtain ⟨x8, hx, h⟩ := zob h
          refine zq_callS (rest := []) B hS (mX11_at l G hx) zy_X11_at zk_755 ⟨by decide, by decide⟩ rfl hl rfl (Nat.le_of_ble_eq_true rfl) dX11_figure_99 (kk := (fun H locs hS => ?_)) (hcs := ⟨by decide, by decide⟩)
          refine lv_bipush (v := (9 : Int32)) he hb dX11_figure_102 (by decide) ?_
          refine lv_idiv he hb dX11_figure_104 (by decide) ?_
          obtain rfl := Option.some.inj h
          exact zx_iret B hS dX11_figure_105
        rw [if_neg hc1] at h
        by_cases hc2 : a2 = (2 : Int32)
        · rw [if_pos hc2] at h
          refine lv_tableIn (tgt := 106) he hb dX11_figure_32 (by rw [hc2]; decide) (by rw [hc2]; decide) (by rw [hc2]; rfl) (by decide) ?_
          refine z_aload_n he hb dX11_figure_106 rfl (lv_at hl 0 rfl) (zref_r _ _) ?_
          obtain ⟨x9, hx, h⟩ := zob h
          refine z_getR (ci := 11) (T := TX11) (N := 14) (j := 2) B hS hx rfl zin_X11 (by decide) zk_510 dX11_figure_107 ?_
          obtain ⟨x10, hx, h⟩ := zob h
          refine z_getR (ci := 8) (T := TX8) (N := 9) (j := 3) B hS hx rfl zin_X8 (by decide) zk_259 dX11_figure_110 ?_
          refine lv_iload_n he hb dX11_figure_113 rfl (lv_at hl 1 rfl) ?_
          obtain ⟨x11, hx, h⟩ := zob h
          refine zq_callS (rest := []) B hS (mX11_at l G hx) zy_X11_at zk_755 ⟨by decide, by decide⟩ rfl hl rfl (Nat.le_of_ble_eq_true rfl) dX11_figure_114 (kk := (fun H locs hS => ?_)) (hcs := ⟨by decide, by decide⟩)
          obtain rfl := Option.some.inj h
          exact zx_iret B hS dX11_figure_117
        rw [if_neg hc2] at h
        by_cases hc3 : a2 = (3 : Int32)
        · rw [if_pos hc3] at h
          refine lv_tableIn (tgt := 118) he hb dX11_figure_32 (by rw [hc3]; decide) (by rw [hc3]; decide) (by rw [hc3]; rfl) (by decide) ?_
          refine z_aload_n he hb dX11_figure_118 rfl (lv_at hl 0 rfl) (zref_r _ _) ?_
          obtain ⟨x12, hx, h⟩ := zob h
          refine z_getR (ci := 11) (T := TX11) (N := 14) (j := 1) B hS hx rfl zin_X11 (by decide) zk_509 dX11_figure_119 ?_
          obtain ⟨x13, hx, h⟩ := zob h
          refine z_getR (ci := 2) (T := TX2) (N := 15) (j := 10) B hS hx rfl zin_X2 (by decide) zk_193 dX11_figure_122 ?_
          refine lv_iload_n he hb dX11_figure_125 rfl (lv_at hl 1 rfl) ?_
          obtain ⟨x14, hx, h⟩ := zob h
          refine zq_callS (rest := []) B hS (mX11_at l G hx) zy_X11_at zk_755 ⟨by decide, by decide⟩ rfl hl rfl (Nat.le_of_ble_eq_true rfl) dX11_figure_126 (kk := (fun H locs hS => ?_)) (hcs := ⟨by decide, by decide⟩)
          obtain rfl := Option.some.inj h
          exact zx_iret B hS dX11_figure_129
        rw [if_neg hc3] at h
        by_cases hc4 : a2 = (4 : Int32)
        · rw [if_pos hc4] at h
          refine lv_tableIn (tgt := 130) he hb dX11_figure_32 (by rw [hc4]; decide) (by rw [hc4]; decide) (by rw [hc4]; rfl) (by decide) ?_
          refine z_aload_n he hb dX11_figure_130 rfl (lv_at hl 0 rfl) (zref_r _ _) ?_
          obtain ⟨x15, hx, h⟩ := zob h
          refine z_getR (ci := 11) (T := TX11) (N := 14) (j := 1) B hS hx rfl zin_X11 (by decide) zk_509 dX11_figure_131 ?_
          obtain ⟨x16, hx, h⟩ := zob h
          refine z_getR (ci := 2) (T := TX2) (N := 15) (j := 11) B hS hx rfl zin_X2 (by decide) zk_197 dX11_figure_134 ?_
          refine lv_iload_n he hb dX11_figure_137 rfl (lv_at hl 1 rfl) ?_
          obtain ⟨x17, hx, h⟩ := zob h
          refine zq_callS (rest := []) B hS (mX11_at l G hx) zy_X11_at zk_755 ⟨by decide, by decide⟩ rfl hl rfl (Nat.le_of_ble_eq_true rfl) dX11_figure_138 (kk := (fun H locs hS => ?_)) (hcs := ⟨by decide, by decide⟩)
          obtain rfl := Option.some.inj h
          exact zx_iret B hS dX11_figure_141
        rw [if_neg hc4] at h
        by_cases hc5 : a2 = (5 : Int32)
        · rw [if_pos hc5] at h
          refine lv_tableIn (tgt := 142) he hb dX11_figure_32 (by rw [hc5]; decide) (by rw [hc5]; decide) (by rw [hc5]; rfl) (by decide) ?_
          refine z_aload_n he hb dX11_figure_142 rfl (lv_at hl 0 rfl) (zref_r _ _) ?_
          obtain ⟨x18, hx, h⟩ := zob h
          refine z_getR (ci := 11) (T := TX11) (N := 14) (j := 2) B hS hx rfl zin_X11 (by decide) zk_510 dX11_figure_143 ?_
          obtain ⟨x19, hx, h⟩ := zob h
          refine z_getR (ci := 8) (T := TX8) (N := 9) (j := 4) B hS hx rfl zin_X8 (by decide) zk_262 dX11_figure_146 ?_
          refine lv_iload_n he hb dX11_figure_149 rfl (lv_at hl 1 rfl) ?_
          obtain ⟨x20, hx, h⟩ := zob h
          refine zq_callS (rest := []) B hS (mX11_at l G hx) zy_X11_at zk_755 ⟨by decide, by decide⟩ rfl hl rfl (Nat.le_of_ble_eq_true rfl) dX11_figure_150 (kk := (fun H locs hS => ?_)) (hcs := ⟨by decide, by decide⟩)
          obtain rfl := Option.some.inj h
          exact zx_iret B hS dX11_figure_153
        rw [if_neg hc5] at h
        by_cases hc6 : a2 = (6 : Int32)
        · rw [if_pos hc6] at h
          refine lv_tableIn (tgt := 154) he hb dX11_figure_32 (by rw [hc6]; decide) (by rw [hc6]; decide) (by rw [hc6]; rfl) (by decide) ?_
          refine z_aload_n he hb dX11_figure_154 rfl (lv_at hl 0 rfl) (zref_r _ _) ?_
          obtain ⟨x21, hx, h⟩ := zob h
          refine z_getR (ci := 11) (T := TX11) (N := 14) (j := 2) B hS hx rfl zin_X11 (by decide) zk_510 dX11_figure_155 ?_
          refine lv_iload_n he hb dX11_figure_158 rfl (lv_at hl 1 rfl) ?_
          obtain ⟨_, hc, h⟩ := zob h
          obtain ⟨x22, hx, h⟩ := zob h
          refine zq_callV (ci := 8) (T := TX8) (N := 9) (rest := []) B hS (mX8_seers l G hx) zy_X8_seers zk_794 ⟨by decide, by decide⟩ hc rfl rfl hl rfl (Nat.le_of_ble_eq_true rfl) dX11_figure_159 (kk := (fun H locs hS => ?_)) (hcs := ⟨by decide, by decide⟩)
          obtain rfl := Option.some.inj h
          exact zx_iret B hS dX11_figure_162
        rw [if_neg hc6] at h
        refine lv_tableOut (tgt := 163) he hb dX11_figure_32 ?_ (by decide) ?_
        · have h0 := lv_neT hc0 (a := 0) rfl; have h1 := lv_neT hc1 (a := 1) rfl; have h2 := lv_neT hc2 (a := 2) rfl; have h3 := lv_neT hc3 (a := 3) rfl; have h4 := lv_neT hc4 (a := 4) rfl; have h5 := lv_neT hc5 (a := 5) rfl; have h6 := lv_neT hc6 (a := 6) rfl; omega
        · skip
          refine z_aload_n he hb dX11_figure_163 rfl (lv_at hl 0 rfl) (zref_r _ _) ?_
          obtain ⟨x23, hx, h⟩ := zob h
          refine z_getR (ci := 11) (T := TX11) (N := 14) (j := 2) B hS hx rfl zin_X11 (by decide) zk_510 dX11_figure_164 ?_
          refine lv_iload_n he hb dX11_figure_167 rfl (lv_at hl 1 rfl) ?_
          obtain ⟨_, hc, h⟩ := zob h
          obtain ⟨x24, hx, h⟩ := zob h
          refine zq_callV (ci := 8) (T := TX8) (N := 9) (rest := []) B hS (mX8_canGo l G hx) zy_X8_canGo zk_803 ⟨by decide, by decide⟩ hc rfl rfl hl rfl (Nat.le_of_ble_eq_true rfl) dX11_figure_168 (kk := (fun H locs hS => ?_)) (hcs := ⟨by decide, by decide⟩)
          refine lv_if_eq (tgt := 178) he hb dX11_figure_171 (by decide) (fun hc => ?_) (fun hc => ?_)
          · rw [if_pos hc] at h
            refine lv_iconst (v := (0 : Int32)) he hb dX11_figure_178 (by decide) ?_
            obtain rfl := Option.some.inj h
            exact zx_iret B hS dX11_figure_179
          · rw [if_neg hc] at h
            refine lv_iconst (v := (1 : Int32)) he hb dX11_figure_174 (by decide) ?_
            refine lv_goto (tgt := 179) he hb dX11_figure_175 (by decide) ?_
            obtain rfl := Option.some.inj h
            exact zx_iret B hS dX11_figure_179
      · rw [if_neg hc] at h
        exact gX11_figure_21 l B hG hLf hT9  _ _ _ h hS (lv_sub hl [] rfl)
theorem dX11_mean_0 : decode cX11_mean 0 = .ok (.aload_n 0, 1) := by decide +kernel
theorem dX11_mean_1 : decode cX11_mean 1 = .ok (.getfield 19, 3) := by decide +kernel
theorem dX11_mean_4 : decode cX11_mean 4 = .ok (.getfield 220, 3) := by decide +kernel
theorem dX11_mean_7 : decode cX11_mean 7 = .ok (.iconst 1, 1) := by decide +kernel
theorem dX11_mean_8 : decode cX11_mean 8 = .ok (.if_icmp .lt 12, 3) := by decide +kernel
theorem dX11_mean_11 : decode cX11_mean 11 = .ok (.iload_n 1, 1) := by decide +kernel
theorem dX11_mean_12 : decode cX11_mean 12 = .ok (.ifCond .lt 8, 3) := by decide +kernel
theorem dX11_mean_15 : decode cX11_mean 15 = .ok (.iload_n 1, 1) := by decide +kernel
theorem dX11_mean_16 : decode cX11_mean 16 = .ok (.iconst 1, 1) := by decide +kernel
theorem dX11_mean_17 : decode cX11_mean 17 = .ok (.if_icmp .le 14, 3) := by decide +kernel
theorem dX11_mean_20 : decode cX11_mean 20 = .ok (.new 137, 3) := by decide +kernel
theorem dX11_mean_23 : decode cX11_mean 23 = .ok (.dup, 1) := by decide +kernel
theorem dX11_mean_24 : decode cX11_mean 24 = .ok (.ldc_w 322, 3) := by decide +kernel
theorem dX11_mean_27 : decode cX11_mean 27 = .ok (.invokespecial 141, 3) := by decide +kernel
theorem dX11_mean_30 : decode cX11_mean 30 = .ok (.athrow, 1) := by decide +kernel
theorem dX11_mean_31 : decode cX11_mean 31 = .ok (.aload_n 0, 1) := by decide +kernel
theorem dX11_mean_32 : decode cX11_mean 32 = .ok (.getfield 28, 3) := by decide +kernel
theorem dX11_mean_35 : decode cX11_mean 35 = .ok (.invokevirtual 217, 3) := by decide +kernel
theorem dX11_mean_38 : decode cX11_mean 38 = .ok (.istore_n 2, 1) := by decide +kernel
theorem dX11_mean_39 : decode cX11_mean 39 = .ok (.iload_n 2, 1) := by decide +kernel
theorem dX11_mean_40 : decode cX11_mean 40 = .ok (.aload_n 0, 1) := by decide +kernel
theorem dX11_mean_41 : decode cX11_mean 41 = .ok (.getfield 19, 3) := by decide +kernel
theorem dX11_mean_44 : decode cX11_mean 44 = .ok (.getfield 220, 3) := by decide +kernel
theorem dX11_mean_47 : decode cX11_mean 47 = .ok (.invokestatic 324, 3) := by decide +kernel
theorem dX11_mean_50 : decode cX11_mean 50 = .ok (.istore_n 3, 1) := by decide +kernel
theorem dX11_mean_51 : decode cX11_mean 51 = .ok (.iload_n 1, 1) := by decide +kernel
theorem dX11_mean_52 : decode cX11_mean 52 = .ok (.ifCond .ne 7, 3) := by decide +kernel
theorem dX11_mean_55 : decode cX11_mean 55 = .ok (.iload_n 2, 1) := by decide +kernel
theorem dX11_mean_56 : decode cX11_mean 56 = .ok (.goto 10, 3) := by decide +kernel
theorem dX11_mean_59 : decode cX11_mean 59 = .ok (.aload_n 0, 1) := by decide +kernel
theorem dX11_mean_60 : decode cX11_mean 60 = .ok (.getfield 19, 3) := by decide +kernel
theorem dX11_mean_63 : decode cX11_mean 63 = .ok (.getfield 220, 3) := by decide +kernel
theorem dX11_mean_66 : decode cX11_mean 66 = .ok (.istore 4, 2) := by decide +kernel
theorem dX11_mean_68 : decode cX11_mean 68 = .ok (.iload_n 3, 1) := by decide +kernel
theorem dX11_mean_69 : decode cX11_mean 69 = .ok (.ifCond .le 10, 3) := by decide +kernel
theorem dX11_mean_72 : decode cX11_mean 72 = .ok (.iload 4, 2) := by decide +kernel
theorem dX11_mean_74 : decode cX11_mean 74 = .ok (.iload_n 3, 1) := by decide +kernel
theorem dX11_mean_75 : decode cX11_mean 75 = .ok (.idiv, 1) := by decide +kernel
theorem dX11_mean_76 : decode cX11_mean 76 = .ok (.goto 5, 3) := by decide +kernel
theorem dX11_mean_79 : decode cX11_mean 79 = .ok (.iload 4, 2) := by decide +kernel
theorem dX11_mean_81 : decode cX11_mean 81 = .ok (.ireturn, 1) := by decide +kernel
def fX11_mean_20 (N n : Nat) (f : zF) : Option (Option Int32) :=
    some none
set_option maxRecDepth 100000 in
set_option maxHeartbeats 4000000 in
theorem gX11_mean_20 (l : Launch) {G : zG} {p : Program} {e : Env} {s : State} {m : MethodId} {args : Array Value} {below : List Frame} {meth : Method} {c : Code} {f : zF} {N n : Nat} {r : Option Int32} (B : zB G p s m args meth c RX11 cX11_mean 5 (some .int)) (hG : zOK G) (hLf : l.stackTraces = false) (hT9 : ∀ x ∈ c.exceptionTable.toList, False) : ∀ (H : Heap) (locs : List Loc) (ls : Array Slot), fX11_mean_20 N n f  = some r → zS G n f H locs → lv_has ls 5 [] → W p l e (zrmA 8 1 6) s m args below meth c H locs 0 0 (zXQ G below n f r args s) (F0 m 20 ls []) := by
  have he := B.1
  have hb := B.2.1
  intro  H locs ls h hS hl
  unfold fX11_mean_20 at h
  obtain rfl := Option.some.inj h
  exact zx_throwW B hG rfl hLf hT9 hS 1 rfl hl dX11_mean_20 dX11_mean_23 dX11_mean_24 dX11_mean_27 dX11_mean_30 ⟨rfl, rfl, rfl, rfl⟩ (by decide)
def fX11_mean_66 (N n : Nat) (f : zF) (a3 : Int32) (t0 : Int32) : Option (Option Int32) :=
    (if a3 ≤ 0 then some (some t0) else ((znz a3).bind fun _ => some (some (t0 / a3))))
set_option maxRecDepth 100000 in
set_option maxHeartbeats 4000000 in
theorem gX11_mean_66 (l : Launch) {G : zG} {p : Program} {e : Env} {s : State} {m : MethodId} {args : Array Value} {below : List Frame} {meth : Method} {c : Code} {f : zF} {N n : Nat} {r : Option Int32} (B : zB G p s m args meth c RX11 cX11_mean 5 (some .int)) (hG : zOK G) (hLf : l.stackTraces = false) (hT9 : ∀ x ∈ c.exceptionTable.toList, False) : ∀ (a3 : Int32) (t0 : Int32) (H : Heap) (locs : List Loc) (ls : Array Slot), fX11_mean_66 N n f a3 t0 = some r → zS G n f H locs → lv_has ls 5 [(3, .int a3)] → W p l e (zrmA 8 1 6) s m args below meth c H locs 0 0 (zXQ G below n f r args s) (F0 m 66 ls [.int t0]) := by
  have he := B.1
  have hb := B.2.1
  intro a3 t0 H locs ls h hS hl
  unfold fX11_mean_66 at h
  refine lv_istore (lv' := [(4, _), (3, _)]) he hb dX11_mean_66 hl (by decide) rfl (fun ls hl => ?_)
  refine lv_iload_n he hb dX11_mean_68 rfl (lv_at hl 1 rfl) ?_
  refine lv_if_le (tgt := 79) he hb dX11_mean_69 (by decide) (fun hc => ?_) (fun hc => ?_)
  · rw [if_pos hc] at h
    refine lv_iload he hb dX11_mean_79 (lv_at hl 0 rfl) ?_
    obtain rfl := Option.some.inj h
    exact zx_iret B hS dX11_mean_81
  · rw [if_neg hc] at h
    refine lv_iload he hb dX11_mean_72 (lv_at hl 0 rfl) ?_
    refine lv_iload_n he hb dX11_mean_74 rfl (lv_at hl 1 rfl) ?_
    obtain ⟨_, hx, h⟩ := zob h
    refine lv_idiv he hb dX11_mean_75 (znz_i hx) ?_
    refine lv_goto (tgt := 81) he hb dX11_mean_76 (by decide) ?_
    obtain rfl := Option.some.inj h
    exact zx_iret B hS dX11_mean_81
def fX11_mean (N n : Nat) (f : zF) (a0 : Nat) (a1 : Int32) : Option (Option Int32) :=
    ((zgR n f 11 a0 1).bind fun x1 => ((zgI n f 2 x1 3).bind fun x2 => (if x2 < (1 : Int32) then (fX11_mean_20 N n f ) else (if a1 < 0 then (fX11_mean_20 N n f ) else (if a1 ≤ (1 : Int32) then ((zgR n f 11 a0 2).bind fun x3 => ((zck n f 8 x3).bind fun _ => ((fX8_goneByAll N n f x3).bind fun x4 => ((zgR n f 11 a0 1).bind fun x5 => ((zgI n f 2 x5 3).bind fun x6 => ((fX11_commonDivisor N n f x4 x6).bind fun x7 => (if a1 = 0 then (fX11_mean_66 N n f x7 x4) else ((zgR n f 11 a0 1).bind fun x8 => ((zgI n f 2 x8 3).bind fun x9 => (fX11_mean_66 N n f x7 x9)))))))))) else (fX11_mean_20 N n f ))))))
set_option maxRecDepth 100000 in
set_option maxHeartbeats 4000000 in
theorem mX11_mean (l : Launch) (G : zG) {N n : Nat} {f : zF} {r : Option Int32} {a0 : Nat} {a1 : Int32}  (hG : zOK G) (hLf : l.stackTraces = false) (h : fX11_mean N n f a0 a1 = some r) : zMX l G yX11_mean cX11_mean 5 (some .int) 8 n f [zr G a0, .int a1] r f := by
  refine zMX.of (by decide) (Nat.le_of_ble_eq_true rfl) ?_
  intro p e s m args below meth c locs ls B hT9 hS hl
  have he := B.1
  have hb := B.2.1
  have hl : lv_has ls 5 [(0, zr G a0), (1, .int a1)] := hl
  unfold fX11_mean at h
  generalize s.heap = H at hS ⊢
  refine z_aload_n he hb dX11_mean_0 rfl (lv_at hl 0 rfl) (zref_r _ _) ?_
  obtain ⟨x1, hx, h⟩ := zob h
  refine z_getR (ci := 11) (T := TX11) (N := 14) (j := 1) B hS hx rfl zin_X11 (by decide) zk_509 dX11_mean_1 ?_
  obtain ⟨x2, hx, h⟩ := zob h
  refine z_getI (ci := 2) (T := TX2) (N := 15) (j := 3) B hS hx rfl zin_X2 (by decide) zk_167 dX11_mean_4 ?_
  refine lv_iconst (v := (1 : Int32)) he hb dX11_mean_7 (by decide) ?_
  refine lv_icmp_lt (tgt := 20) he hb dX11_mean_8 (by decide) (fun hc => ?_) (fun hc => ?_)
  · rw [if_pos hc] at h
    exact gX11_mean_20 l B hG hLf hT9  _ _ _ h hS (lv_sub hl [] rfl)
  · rw [if_neg hc] at h
    refine lv_iload_n he hb dX11_mean_11 rfl (lv_at hl 1 rfl) ?_
    refine lv_if_lt (tgt := 20) he hb dX11_mean_12 (by decide) (fun hc => ?_) (fun hc => ?_)
    · rw [if_pos hc] at h
      exact gX11_mean_20 l B hG hLf hT9  _ _ _ h hS (lv_sub hl [] rfl)
    · rw [if_neg hc] at h
      refine lv_iload_n he hb dX11_mean_15 rfl (lv_at hl 1 rfl) ?_
      refine lv_iconst (v := (1 : Int32)) he hb dX11_mean_16 (by decide) ?_
      refine lv_icmp_le (tgt := 31) he hb dX11_mean_17 (by decide) (fun hc => ?_) (fun hc => ?_)
      · rw [if_pos hc] at h
        refine z_aload_n he hb dX11_mean_31 rfl (lv_at hl 0 rfl) (zref_r _ _) ?_
        obtain ⟨x3, hx, h⟩ := zob h
        refine z_getR (ci := 11) (T := TX11) (N := 14) (j := 2) B hS hx rfl zin_X11 (by decide) zk_510 dX11_mean_32 ?_
        obtain ⟨_, hc, h⟩ := zob h
        obtain ⟨x4, hx, h⟩ := zob h
        refine zq_callV (ci := 8) (T := TX8) (N := 9) (rest := []) B hS (mX8_goneByAll l G hx) zy_X8_goneByAll zk_811 ⟨by decide, by decide⟩ hc rfl rfl hl rfl (Nat.le_of_ble_eq_true rfl) dX11_mean_35 (kk := (fun H locs hS => ?_)) (hcs := ⟨by decide, by decide⟩)
        refine lv_istore_n (lv' := [(2, _), (0, _), (1, _)]) he hb dX11_mean_38 rfl hl (by decide) rfl (fun ls hl => ?_)
        refine lv_iload_n he hb dX11_mean_39 rfl (lv_at hl 0 rfl) ?_
        refine z_aload_n he hb dX11_mean_40 rfl (lv_at hl 1 rfl) (zref_r _ _) ?_
        obtain ⟨x5, hx, h⟩ := zob h
        refine z_getR (ci := 11) (T := TX11) (N := 14) (j := 1) B hS hx rfl zin_X11 (by decide) zk_509 dX11_mean_41 ?_
        obtain ⟨x6, hx, h⟩ := zob h
        refine z_getI (ci := 2) (T := TX2) (N := 15) (j := 3) B hS hx rfl zin_X2 (by decide) zk_167 dX11_mean_44 ?_
        obtain ⟨x7, hx, h⟩ := zob h
        refine zq_callS (rest := []) B hS (mX11_commonDivisor l G hx) zy_X11_commonDivisor zk_1291 ⟨by decide, by decide⟩ rfl hl rfl (Nat.le_of_ble_eq_true rfl) dX11_mean_47 (kk := (fun H locs hS => ?_)) (hcs := ⟨by decide, by decide⟩)
        refine lv_istore_n (lv' := [(3, _), (2, _), (0, _), (1, _)]) he hb dX11_mean_50 rfl hl (by decide) rfl (fun ls hl => ?_)
        refine lv_iload_n he hb dX11_mean_51 rfl (lv_at hl 3 rfl) ?_
        refine lv_if_ne (tgt := 59) he hb dX11_mean_52 (by decide) (fun hc => ?_) (fun hc => ?_)
        · rw [if_neg hc] at h
          refine z_aload_n he hb dX11_mean_59 rfl (lv_at hl 2 rfl) (zref_r _ _) ?_
          obtain ⟨x8, hx, h⟩ := zob h
          refine z_getR (ci := 11) (T := TX11) (N := 14) (j := 1) B hS hx rfl zin_X11 (by decide) zk_509 dX11_mean_60 ?_
          obtain ⟨x9, hx, h⟩ := zob h
          refine z_getI (ci := 2) (T := TX2) (N := 15) (j := 3) B hS hx rfl zin_X2 (by decide) zk_167 dX11_mean_63 ?_
          exact gX11_mean_66 l B hG hLf hT9 _ _ _ _ _ h hS (lv_sub hl [0] rfl)
        · rw [if_pos hc] at h
          refine lv_iload_n he hb dX11_mean_55 rfl (lv_at hl 1 rfl) ?_
          refine lv_goto (tgt := 66) he hb dX11_mean_56 (by decide) ?_
          exact gX11_mean_66 l B hG hLf hT9 _ _ _ _ _ h hS (lv_sub hl [0] rfl)
      · rw [if_neg hc] at h
        exact gX11_mean_20 l B hG hLf hT9  _ _ _ h hS (lv_sub hl [] rfl)
