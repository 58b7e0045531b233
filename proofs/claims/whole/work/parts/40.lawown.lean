/-! the law's own two methods, with their catch -/
theorem zk_1212 : (Jvm.Cond.codeWith ({ cls := "SeenToMoveLaw", name := "figure", desc := "(LSeenToMove;II[J)I" } : Jvm.MethodName) method_3_code (5 : Nat) (Option.some Jvm.ClassFile.FieldType.int) [((0 : Nat), (10 : Nat), (13 : Nat), (13 : Nat))]) ∈ zTT := zTT_in (List.mem_of_getElem? (i := 1212) (by decide +kernel)) rfl
theorem zk_1285 : (Jvm.Cond.codeWith ({ cls := "SeenToMoveLaw", name := "mean", desc := "(LSeenToMove;I[J)I" } : Jvm.MethodName) method_4_code (4 : Nat) (Option.some Jvm.ClassFile.FieldType.int) [((0 : Nat), (9 : Nat), (12 : Nat), (13 : Nat))]) ∈ zTT := zTT_in (List.mem_of_getElem? (i := 1285) (by decide +kernel)) rfl
theorem zk_1214 : (Jvm.Cond.methodLink "SeenToMoveLaw" (7 : Nat) ({ cls := "SeenToMove", name := "figure", desc := "(II)I" } : Jvm.MethodName)) ∈ zTT := zTT_in (List.mem_of_getElem? (i := 1214) (by decide +kernel)) rfl
theorem zk_1286 : (Jvm.Cond.methodLink "SeenToMoveLaw" (15 : Nat) ({ cls := "SeenToMove", name := "mean", desc := "(I)I" } : Jvm.MethodName)) ∈ zTT := zTT_in (List.mem_of_getElem? (i := 1286) (by decide +kernel)) rfl
theorem zk_1210 : (Jvm.Cond.methodLink "SeenToMoveLaw" (42 : Nat) ({ cls := "SeenToMoveLaw", name := "figure", desc := "(LSeenToMove;II[J)I" } : Jvm.MethodName)) ∈ zTT := zTT_in (List.mem_of_getElem? (i := 1210) (by decide +kernel)) rfl
theorem zk_1211 : (Jvm.Cond.static ({ cls := "SeenToMoveLaw", name := "figure", desc := "(LSeenToMove;II[J)I" } : Jvm.MethodName)) ∈ zTT := zTT_in (List.mem_of_getElem? (i := 1211) (by decide +kernel)) rfl
theorem zk_1283 : (Jvm.Cond.methodLink "SeenToMoveLaw" (149 : Nat) ({ cls := "SeenToMoveLaw", name := "mean", desc := "(LSeenToMove;I[J)I" } : Jvm.MethodName)) ∈ zTT := zTT_in (List.mem_of_getElem? (i := 1283) (by decide +kernel)) rfl
theorem zk_1284 : (Jvm.Cond.static ({ cls := "SeenToMoveLaw", name := "mean", desc := "(LSeenToMove;I[J)I" } : Jvm.MethodName)) ∈ zTT := zTT_in (List.mem_of_getElem? (i := 1284) (by decide +kernel)) rfl
theorem zk_0 : (Jvm.Cond.initialized "SeenToMoveLaw") ∈ zTT := zTT_in (List.mem_of_getElem? (i := 0) (by decide +kernel)) rfl
/-- a method with a table of handlers, that may make a cell -/
def zMW (l : Launch) (G : zG) (y : MethodName) (cc : ByteArray) (maxL : Nat) (ret : Option FieldType) (hh : List (Nat × Nat × Nat × Nat)) (d n : Nat) (f : zF) (av : List Value) (ro : Option Value) (f2 : zF) : Prop :=
  Met l y (Cond.codeWith y cc maxL ret hh :: zTT) (zrmA d 1 6) (va_Pc av (fun U => zS G n f U.heap [] ∧ zC G U)) (zQc G n f2 ro) 1 6 (zA G)
theorem zMW.of {l : Launch} {G : zG} {own name desc : String} {cc : ByteArray} {maxL : Nat} {ret : Option FieldType} {hh : List (Nat × Nat × Nat × Nat)} {d n : Nat} {f f2 : zF} {av : List Value} {ro : Option Value} (hy : plainName own = true) (hL : (lg_sl av).length ≤ maxL)
    (body : ∀ p e s m args below meth c locs ls, zB G p s m args meth c own cc maxL ret → c.exceptionTable.toList = tableOf hh → zS G n f s.heap locs → lv_has ls maxL (lv_args 0 av) → W p l e (zrmA d 1 6) s m args below meth c s.heap locs 0 0 (MQ below (zQc G n f2 ro) args s 1 6 (zA G)) (F0 m 0 ls [])) :
    zMW l G ⟨own, name, desc⟩ cc maxL ret hh d n f av ro f2 := by
  refine va_MetW (cc := cc) (maxL := maxL) (ret := ret) (hh := hh) hy rfl ?_
  intro p e s m args below meth c s₁ B hml hv
  obtain ⟨rfl, hP, hC⟩ := hv
  have hl := lv_entry av hL
  rw [lg_entry_eq]
  generalize (lg_sl av ++ List.replicate (maxL - (lg_sl av).length) Slot.unset).toArray = ls at hl ⊢
  have hat := atoms_spec (ws := Cond.codeWith _ cc maxL ret hh :: zTT) B.pre
  exact body p e s m _ below meth c [] ls ⟨B.exec, B.bytes, hml, findClass_of_methodNamed B.named, fun w hw => hat w (List.mem_cons_of_mem _ hw), hC, B.returns, B.notSynchronized⟩ (vx_table (x := ⟨own, name, desc⟩) B (hat _ List.mem_cons_self)) hP hl
section ZLO
variable {G : zG} {p : Program} {l : Launch} {e : Env} {R : Room} {s : State} {m : MethodId} {args : Array Value} {below : List Frame} {meth : Method} {c : Code} {H : Heap} {locs : List Loc} {cells slots : Nat} {Q : State → Prop} {own : String} {cc : ByteArray} {nL : Nat} {ret : Option FieldType} {n : Nat} {f f1 f2 : zF} {pc : Nat} {ls : Array Slot} {rest : List Value}
theorem zS.app {L : List Loc} {H1 : Heap} (hS : zS G n f H locs) (hP : zS G n f2 H1 []) (hL : ∀ z ∈ L, zA G z.base) : zS G n f2 H1 (locs ++ L) := ⟨hP.1, hP.2.1, hP.2.2.1, fun q hq => (List.mem_append.mp hq).elim (hS.2.2.2 q) (hL q)⟩
theorem zS.re {L : List Loc} {H1 : Heap} (hS : zS G n f H locs) (hP : zS G n f2 H1 []) : zS G n f2 H1 locs := ⟨hP.1, hP.2.1, hP.2.2.1, hS.2.2.2⟩
/-- a call that may throw -/
theorem zq_callX (B : zB G p s m args meth c own cc nL ret) (hS : zS G n f H locs) {y : MethodName} {C : String} {T : u_T} {N ci idx a maxL np d : Nat} {bytes : ByteArray} {ret2 : Option FieldType} {ro : Option Int32} {As st : List Value} {lv : List (Nat × Value)} {u : Unit}
    (hM : zMX l G y bytes maxL ret2 d n f (zr G a :: As) ro f) (hY : zYV y C bytes maxL ret2 np) (hlk : Cond.methodLink own idx y ∈ zTT) (hd : d + 1 ≤ R.frames ∧ 64 * (d + 1) ≤ R.locals) (hck : zck n f ci a = some u) (hc : vwCl[ci]? = some (C, T, N)) (hn : As.length = np) (hl : lv_has ls nL lv) (hst : st = As.reverse ++ zr G a :: rest) (hW : (rest.map fun v => v.category).sum ≤ 8) (hdg : decode cc pc = .ok (.invokevirtual idx, 3))
    (hcs : cells + 1 ≤ R.cells ∧ slots + 6 ≤ R.slots)
    (kx : ∀ H1 locs1 ce q, ro = none → zS G n f H1 locs1 → H1[q]? = some ce → ce.vm = .none → s.vm.findClass zNSE = some ce.cls → vx_W p l e R s m args below meth c H1 locs1 (cells + 1) (slots + 6) Q (F0 m pc ls rest) q)
    (kk : ∀ v H1 locs1, ro = some v → zS G n f H1 locs1 → W p l e R s m args below meth c H1 locs1 (cells + 1) (slots + 6) Q (F0 m (pc + 3) ls (.int v :: rest))) : W p l e R s m args below meth c H locs cells slots Q (F0 m pc ls st) := by
  subst hst
  obtain ⟨y1, y2, y3, y4, y5, y6⟩ := hY
  obtain ⟨ha, fs, hf⟩ := zck_i hck
  have hG : GoodIn zTT (wsV own idx C y (zws y bytes maxL ret2)) := zTT_good (by
    intro w hw
    simp only [wsV, zws, List.mem_append, List.mem_cons, List.not_mem_nil, or_false] at hw
    rcases hw with (rfl | rfl | rfl | rfl) | rfl | hw
    · exact hlk
    · exact y2
    · exact y3
    · exact y4
    · exact y1
    · exact hw)
  have hr := vx_runV (l := l) (e := e) (R := R) (below := below) (locs := locs) (cells := cells) (slots := slots) (H := H) (meth := meth) (g := F0 m pc ls (As.reverse ++ zr G a :: rest)) (As := As) (rest := rest) (own := own) (Ts := zTT) ⟨B.1, B.2.1, B.2.2.1, B.2.2.2.1, B.2.2.2.2.1⟩ hM (cwV np B.2.2.2.2.1 hG rfl rfl rfl y5 ⟨hd.1, by show 8 + (maxL + 11) + 64 * d ≤ R.locals; omega⟩) ⟨zPc_blind, va_recv (D := G.1) (cl := vwCl) (tys := zT G) (ws := zw G n f) (q0 := a) B.2.2.2.2.2.1.1 hS.1 hc (fs := fs.map (zv G)) (by rw [zw_at ha, hf]; rfl), fun U hU hW2 => ⟨rfl, by rw [hU]; exact hS.drop, zC_up B hW2⟩⟩ rfl hn hl.1 rfl (lv_room hW) hdg ⟨hcs.1, hcs.2⟩
  intro T9 hT X
  rcases hr T9 hT X with ⟨v, st₀, t, T', L, h0, X', hL, e1, e2, ⟨w, hro, hv, hP⟩, sx⟩ | ⟨q, st₀, t, T', L, E, ce, h0, X', hL, e1, e2, ⟨⟨hro, hE⟩, hP⟩, hce, hcv, hcl, sx⟩
  · cases hv
    obtain ⟨t2, a1, b1⟩ := kk w T'.heap (locs ++ L) hro (by rw [e1]; exact hS.app hP hL) T' rfl X'
    exact ⟨t2, sx t2 a1, b1⟩
  · subst hE
    obtain ⟨t2, a1, b1⟩ := kx T'.heap (locs ++ L) ce q hro (by rw [e1]; exact hS.app hP hL) (by rw [e1]; exact hce) hcv hcl T' rfl X'
    exact ⟨t2, sx.trans a1, b1⟩
end ZLO
theorem dL_figure_0 : decode cL_figure 0 = .ok (.aload_n 3, 1) := by decide +kernel
theorem dL_figure_1 : decode cL_figure 1 = .ok (.iconst 0, 1) := by decide +kernel
theorem dL_figure_2 : decode cL_figure 2 = .ok (.aload_n 0, 1) := by decide +kernel
theorem dL_figure_3 : decode cL_figure 3 = .ok (.iload_n 1, 1) := by decide +kernel
theorem dL_figure_4 : decode cL_figure 4 = .ok (.iload_n 2, 1) := by decide +kernel
theorem dL_figure_5 : decode cL_figure 5 = .ok (.invokevirtual 7, 3) := by decide +kernel
theorem dL_figure_8 : decode cL_figure 8 = .ok (.i2l, 1) := by decide +kernel
theorem dL_figure_9 : decode cL_figure 9 = .ok (.lastore, 1) := by decide +kernel
theorem dL_figure_10 : decode cL_figure 10 = .ok (.goto 7, 3) := by decide +kernel
theorem dL_figure_13 : decode cL_figure 13 = .ok (.astore 4, 2) := by decide +kernel
theorem dL_figure_15 : decode cL_figure 15 = .ok (.iconst 1, 1) := by decide +kernel
theorem dL_figure_16 : decode cL_figure 16 = .ok (.ireturn, 1) := by decide +kernel
theorem dL_figure_17 : decode cL_figure 17 = .ok (.iconst 0, 1) := by decide +kernel
theorem dL_figure_18 : decode cL_figure 18 = .ok (.ireturn, 1) := by decide +kernel
def fL_figure (N n : Nat) (f : zF) (a0 : Nat) (a1 : Int32) (a2 : Int32) (o : Nat) : Option (zF × Int32) :=
    ((zck n f 11 a0).bind fun _ => ((fX11_figure N n f a0 a1 a2).bind fun r => (match r with | none => some (f, 1) | some v => ((zsL n f 1 o 0 (v.toInt64)).bind fun f1 => some (f1, 0)))))
set_option maxRecDepth 100000 in
set_option maxHeartbeats 4000000 in
theorem mL_figure (l : Launch) (G : zG) (hG : zOK G) (hLf : l.stackTraces = false) {N n : Nat} {f f9 : zF} {r : Int32} {a0 o : Nat} {a1 : Int32} {a2 : Int32} (h : fL_figure N n f a0 a1 a2 o = some (f9, r)) : zMW l G yL_figure cL_figure 5 (some .int) [(0, 10, 13, 13)] 9 n f [zr G a0, .int a1, .int a2, zr G o] (some (.int r)) f9 := by
  refine zMW.of (by decide) (Nat.le_of_ble_eq_true rfl) ?_
  intro p e s m args below meth c locs ls B hTb hS hl
  have he := B.1
  have hb := B.2.1
  have hl : lv_has ls 5 [(0, zr G a0), (1, .int a1), (2, .int a2), (3, zr G o)] := hl
  unfold fL_figure at h
  generalize s.heap = H at hS ⊢
  refine z_aload_n he hb dL_figure_0 rfl (lv_at hl 3 rfl) (zref_r _ _) ?_
  refine lv_iconst (v := (0 : Int32)) he hb dL_figure_1 (by decide) ?_
  refine z_aload_n he hb dL_figure_2 rfl (lv_at hl 0 rfl) (zref_r _ _) ?_
  refine lv_iload_n he hb dL_figure_3 rfl (lv_at hl 1 rfl) ?_
  refine lv_iload_n he hb dL_figure_4 rfl (lv_at hl 2 rfl) ?_
  obtain ⟨_, hc, h⟩ := zob h
  obtain ⟨ro, hx, h⟩ := zob h
  refine zq_callX (ci := 11) (T := TX11) (N := 14) (rest := [_, _]) B hS (mX11_figure l G hG hLf hx) zy_X11_figure zk_1214 ⟨by decide, by decide⟩ hc rfl rfl hl rfl (Nat.le_of_ble_eq_true rfl) dL_figure_5 ⟨by decide, by decide⟩ (fun H locs ce q hro hS hce hcv hcl => ?_) (fun v H locs hro hS => ?_)
  · subst hro
    dsimp only at h
    obtain ⟨rfl, rfl⟩ := Prod.mk.inj (Option.some.inj h)
    refine vx_catch (own := RL) (name := zNSE) (E := zNSE) B.2.2.2.1 [] _ [] hTb (fun z hz => nomatch hz) rfl (by decide) (B.2.2.2.2.1 _ zk_1213) (va_Nw.use rfl ((hG.choose_spec s B.x).2.1 _ zf_1220)) hce hcv hcl ?_
    refine z_astore (lv' := [(4, _), (0, _), (1, _), (2, _), (3, _)]) he hb dL_figure_13 hl (by decide) (Or.inr ⟨_, rfl⟩) rfl (fun ls hl => ?_)
    refine lv_iconst (v := (1 : Int32)) he hb dL_figure_15 (by decide) ?_
    exact z_iret B hS dL_figure_16
  · subst hro
    dsimp only at h
    refine lv_i2l (v := v.toInt64) he hb dL_figure_8 rfl ?_
    obtain ⟨f1, hx2, h⟩ := zob h
    obtain ⟨rfl, rfl⟩ := Prod.mk.inj (Option.some.inj h)
    refine z_istL B hS hx2 dL_figure_9 (fun H locs hS => ?_)
    refine lv_goto (tgt := 17) he hb dL_figure_10 (by decide) ?_
    refine lv_iconst (v := (0 : Int32)) he hb dL_figure_17 (by decide) ?_
    exact z_iret B hS dL_figure_18
theorem dL_mean_0 : decode cL_mean 0 = .ok (.aload_n 2, 1) := by decide +kernel
theorem dL_mean_1 : decode cL_mean 1 = .ok (.iconst 0, 1) := by decide +kernel
theorem dL_mean_2 : decode cL_mean 2 = .ok (.aload_n 0, 1) := by decide +kernel
theorem dL_mean_3 : decode cL_mean 3 = .ok (.iload_n 1, 1) := by decide +kernel
theorem dL_mean_4 : decode cL_mean 4 = .ok (.invokevirtual 15, 3) := by decide +kernel
theorem dL_mean_7 : decode cL_mean 7 = .ok (.i2l, 1) := by decide +kernel
theorem dL_mean_8 : decode cL_mean 8 = .ok (.lastore, 1) := by decide +kernel
theorem dL_mean_9 : decode cL_mean 9 = .ok (.goto 6, 3) := by decide +kernel
theorem dL_mean_12 : decode cL_mean 12 = .ok (.astore_n 3, 1) := by decide +kernel
theorem dL_mean_13 : decode cL_mean 13 = .ok (.iconst 1, 1) := by decide +kernel
theorem dL_mean_14 : decode cL_mean 14 = .ok (.ireturn, 1) := by decide +kernel
theorem dL_mean_15 : decode cL_mean 15 = .ok (.iconst 0, 1) := by decide +kernel
theorem dL_mean_16 : decode cL_mean 16 = .ok (.ireturn, 1) := by decide +kernel
def fL_mean (N n : Nat) (f : zF) (a0 : Nat) (a1 : Int32) (o : Nat) : Option (zF × Int32) :=
    ((zck n f 11 a0).bind fun _ => ((fX11_mean N n f a0 a1).bind fun r => (match r with | none => some (f, 1) | some v => ((zsL n f 1 o 0 (v.toInt64)).bind fun f1 => some (f1, 0)))))
set_option maxRecDepth 100000 in
set_option maxHeartbeats 4000000 in
theorem mL_mean (l : Launch) (G : zG) (hG : zOK G) (hLf : l.stackTraces = false) {N n : Nat} {f f9 : zF} {r : Int32} {a0 o : Nat} {a1 : Int32} (h : fL_mean N n f a0 a1 o = some (f9, r)) : zMW l G yL_mean cL_mean 4 (some .int) [(0, 9, 12, 13)] 9 n f [zr G a0, .int a1, zr G o] (some (.int r)) f9 := by
  refine zMW.of (by decide) (Nat.le_of_ble_eq_true rfl) ?_
  intro p e s m args below meth c locs ls B hTb hS hl
  have he := B.1
  have hb := B.2.1
  have hl : lv_has ls 4 [(0, zr G a0), (1, .int a1), (2, zr G o)] := hl
  unfold fL_mean at h
  generalize s.heap = H at hS ⊢
  refine z_aload_n he hb dL_mean_0 rfl (lv_at hl 2 rfl) (zref_r _ _) ?_
  refine lv_iconst (v := (0 : Int32)) he hb dL_mean_1 (by decide) ?_
  refine z_aload_n he hb dL_mean_2 rfl (lv_at hl 0 rfl) (zref_r _ _) ?_
  refine lv_iload_n he hb dL_mean_3 rfl (lv_at hl 1 rfl) ?_
  obtain ⟨_, hc, h⟩ := zob h
  obtain ⟨ro, hx, h⟩ := zob h
  refine zq_callX (ci := 11) (T := TX11) (N := 14) (rest := [_, _]) B hS (mX11_mean l G hG hLf hx) zy_X11_mean zk_1286 ⟨by decide, by decide⟩ hc rfl rfl hl rfl (Nat.le_of_ble_eq_true rfl) dL_mean_4 ⟨by decide, by decide⟩ (fun H locs ce q hro hS hce hcv hcl => ?_) (fun v H locs hro hS => ?_)
  · subst hro
    dsimp only at h
    obtain ⟨rfl, rfl⟩ := Prod.mk.inj (Option.some.inj h)
    refine vx_catch (own := RL) (name := zNSE) (E := zNSE) B.2.2.2.1 [] _ [] hTb (fun z hz => nomatch hz) rfl (by decide) (B.2.2.2.2.1 _ zk_1213) (va_Nw.use rfl ((hG.choose_spec s B.x).2.1 _ zf_1220)) hce hcv hcl ?_
    refine z_astore_n (lv' := [(3, _), (0, _), (1, _), (2, _)]) he hb dL_mean_12 rfl hl (by decide) (Or.inr ⟨_, rfl⟩) rfl (fun ls hl => ?_)
    refine lv_iconst (v := (1 : Int32)) he hb dL_mean_13 (by decide) ?_
    exact z_iret B hS dL_mean_14
  · subst hro
    dsimp only at h
    refine lv_i2l (v := v.toInt64) he hb dL_mean_7 rfl ?_
    obtain ⟨f1, hx2, h⟩ := zob h
    obtain ⟨rfl, rfl⟩ := Prod.mk.inj (Option.some.inj h)
    refine z_istL B hS hx2 dL_mean_8 (fun H locs hS => ?_)
    refine lv_goto (tgt := 15) he hb dL_mean_9 (by decide) ?_
    refine lv_iconst (v := (0 : Int32)) he hb dL_mean_15 (by decide) ?_
    exact z_iret B hS dL_mean_16
