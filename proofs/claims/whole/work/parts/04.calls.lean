/-! ROWS of references in locals, of ends, of calls -/
section ZL
variable {G : zG} {p : Program} {l : Launch} {e : Env} {R : Room} {s : State} {m : MethodId} {args : Array Value} {below : List Frame} {meth : Method} {c : Code} {H : Heap} {locs : List Loc} {cells slots : Nat} {Q : State → Prop} {cc : ByteArray} {pc : Nat} {ls : Array Slot} {rest : List Value}
def zref (v : Value) : Prop := v = .null ∨ ∃ a, v = .ref a
theorem zref_r (G : zG) (a : Nat) : zref (zr G a) := Or.inr ⟨_, rfl⟩
theorem zref_s (G : zG) (a : Nat) : zref (zstr G a) := Or.inr ⟨_, rfl⟩
theorem zref_n (G : zG) (o : Option Nat) : zref (zn G o) := by
  cases o with
  | none => exact Or.inl rfl
  | some k => exact Or.inr ⟨_, rfl⟩
theorem zref_cat {v : Value} (h : zref v) : v.category = 1 := by
  rcases h with rfl | ⟨a, rfl⟩ <;> rfl
theorem z_aload_n (hexec : p.tables.exec = Jvm.exec) (hb : c.code = cc) {k : Fin 4} {i : Nat} {v : Value} (hdg : decode cc pc = .ok (.aload_n k, 1)) (hi : (k : Nat) = i) (hl : ls[i]? = some (.val v)) (hv : zref v)
    (kk : W p l e R s m args below meth c H locs cells slots Q (F0 m (pc + 1) ls (v :: rest))) : W p l e R s m args below meth c H locs cells slots Q (F0 m pc ls rest) := by
  rcases hv with rfl | ⟨a, rfl⟩
  · exact lv_aload_nN hexec hb hdg hi hl kk
  · exact lv_aload_n hexec hb hdg hi hl kk
theorem z_aload (hexec : p.tables.exec = Jvm.exec) (hb : c.code = cc) {i : Nat} {v : Value} (hdg : decode cc pc = .ok (.aload i, 2)) (hl : ls[i]? = some (.val v)) (hv : zref v)
    (kk : W p l e R s m args below meth c H locs cells slots Q (F0 m (pc + 2) ls (v :: rest))) : W p l e R s m args below meth c H locs cells slots Q (F0 m pc ls rest) := by
  rcases hv with rfl | ⟨a, rfl⟩
  · exact lv_aloadN hexec hb hdg hl kk
  · exact lv_aload hexec hb hdg hl kk
theorem z_astore_n (hexec : p.tables.exec = Jvm.exec) (hb : c.code = cc) {k : Fin 4} {i nL : Nat} {v : Value} {lv lv' : List (Nat × Value)} (hdg : decode cc pc = .ok (.astore_n k, 1)) (hi : (k : Nat) = i) (h : lv_has ls nL lv) (hn : i < nL) (hv : zref v) (hl : (i, v) :: lv.filter (fun q => !(q.1 == i) && !(q.1 + 1 == i && q.2.category == 2)) = lv')
    (kk : ∀ ls' : Array Slot, lv_has ls' nL lv' → W p l e R s m args below meth c H locs cells slots Q (F0 m (pc + 1) ls' rest)) : W p l e R s m args below meth c H locs cells slots Q (F0 m pc ls (v :: rest)) := by
  rcases hv with rfl | ⟨a, rfl⟩
  · exact lv_astore_nN hexec hb hdg hi h hn hl kk
  · exact lv_astore_n hexec hb hdg hi h hn hl kk
theorem z_astore (hexec : p.tables.exec = Jvm.exec) (hb : c.code = cc) {i nL : Nat} {v : Value} {lv lv' : List (Nat × Value)} (hdg : decode cc pc = .ok (.astore i, 2)) (h : lv_has ls nL lv) (hn : i < nL) (hv : zref v) (hl : (i, v) :: lv.filter (fun q => !(q.1 == i) && !(q.1 + 1 == i && q.2.category == 2)) = lv')
    (kk : ∀ ls' : Array Slot, lv_has ls' nL lv' → W p l e R s m args below meth c H locs cells slots Q (F0 m (pc + 2) ls' rest)) : W p l e R s m args below meth c H locs cells slots Q (F0 m pc ls (v :: rest)) := by
  rcases hv with rfl | ⟨a, rfl⟩
  · exact lv_astoreN hexec hb hdg h hn hl kk
  · exact lv_astore hexec hb hdg h hn hl kk
theorem z_ifnull (hexec : p.tables.exec = Jvm.exec) (hb : c.code = cc) {o : Option Nat} {off : Int} {tgt : Nat} (hdg : decode cc pc = .ok (.ifnull off, 3)) (ht : (pc : Int) + off = (tgt : Int)) (kt : o = none → W p l e R s m args below meth c H locs cells slots Q (F0 m tgt ls rest)) (kf : ∀ k, o = some k → W p l e R s m args below meth c H locs cells slots Q (F0 m (pc + 3) ls rest)) : W p l e R s m args below meth c H locs cells slots Q (F0 m pc ls (zn G o :: rest)) := by
  cases o with
  | none => exact lv_ifnullN hexec hb hdg ht (kt rfl)
  | some k => exact lv_ifnull hexec hb hdg (kf k rfl)
theorem z_ifnonnull (hexec : p.tables.exec = Jvm.exec) (hb : c.code = cc) {o : Option Nat} {off : Int} {tgt : Nat} (hdg : decode cc pc = .ok (.ifnonnull off, 3)) (ht : (pc : Int) + off = (tgt : Int)) (kt : ∀ k, o = some k → W p l e R s m args below meth c H locs cells slots Q (F0 m tgt ls rest)) (kf : o = none → W p l e R s m args below meth c H locs cells slots Q (F0 m (pc + 3) ls rest)) : W p l e R s m args below meth c H locs cells slots Q (F0 m pc ls (zn G o :: rest)) := by
  cases o with
  | none => exact lv_ifnonnullN hexec hb hdg (kf rfl)
  | some k => exact lv_ifnonnull hexec hb hdg ht (kt k rfl)
end ZL
section ZQ
variable {G : zG} {p : Program} {l : Launch} {e : Env} {R : Room} {s : State} {m : MethodId} {args : Array Value} {below : List Frame} {meth : Method} {c : Code} {H : Heap} {locs : List Loc} {cells slots : Nat} {own : String} {cc : ByteArray} {nL : Nat} {n : Nat} {f : zF} {pc : Nat} {ls : Array Slot}
theorem z_iret (B : zB G p s m args meth c own cc nL (some .int)) (hS : zS G n f H locs) {x : Int32} (hdg : decode cc pc = .ok (.ireturn, 1)) : W p l e R s m args below meth c H locs cells slots (MQ below (zQc G n f (some (.int x))) args s cells slots (zA G)) (F0 m pc ls [.int x]) :=
  W.iret B.1 B.2.1 B.2.2.2.2.2.2.1 (fun t ht _ => ⟨rfl, by rw [ht]; exact hS.drop⟩) hS.2.2.2 hdg B.2.2.2.2.2.2.2
theorem z_zret (B : zB G p s m args meth c own cc nL (some .boolean)) (hS : zS G n f H locs) {x : Int32} (hx : x = 0 ∨ x = 1) (hdg : decode cc pc = .ok (.ireturn, 1)) : W p l e R s m args below meth c H locs cells slots (MQ below (zQc G n f (some (.int x))) args s cells slots (zA G)) (F0 m pc ls [.int x]) :=
  W.zret B.1 B.2.1 B.2.2.2.2.2.2.1 (by rcases hx with rfl | rfl <;> rfl) (fun t ht _ => ⟨rfl, by rw [ht]; exact hS.drop⟩) hS.2.2.2 hdg B.2.2.2.2.2.2.2
theorem z_lret (B : zB G p s m args meth c own cc nL (some .long)) (hS : zS G n f H locs) {x : Int64} (hdg : decode cc pc = .ok (.lreturn, 1)) : W p l e R s m args below meth c H locs cells slots (MQ below (zQc G n f (some (.long x))) args s cells slots (zA G)) (F0 m pc ls [.long x]) :=
  W.lret B.1 B.2.1 B.2.2.2.2.2.2.1 (fun t ht _ => ⟨rfl, by rw [ht]; exact hS.drop⟩) hS.2.2.2 hdg B.2.2.2.2.2.2.2
theorem z_vret (B : zB G p s m args meth c own cc nL none) (hS : zS G n f H locs) (hdg : decode cc pc = .ok (.return_, 1)) : W p l e R s m args below meth c H locs cells slots (MQ below (zQc G n f none) args s cells slots (zA G)) (F0 m pc ls []) :=
  W.vret B.1 B.2.1 B.2.2.2.2.2.2.1 (fun t ht _ => ⟨rfl, by rw [ht]; exact hS.drop⟩) hS.2.2.2 hdg B.2.2.2.2.2.2.2
theorem z_aret {cn : String} (B : zB G p s m args meth c own cc nL (some (.object cn))) (hS : zS G n f H locs) {o : Option Nat} (hdg : decode cc pc = .ok (.areturn, 1)) : W p l e R s m args below meth c H locs cells slots (MQ below (zQc G n f (some (zn G o))) args s cells slots (zA G)) (F0 m pc ls [zn G o]) :=
  W.aret B.1 B.2.1 B.2.2.2.2.2.2.1 (Or.inl ⟨_, rfl⟩) (zref_n G o) (fun t ht _ => ⟨rfl, by rw [ht]; exact hS.drop⟩) hS.2.2.2 hdg B.2.2.2.2.2.2.2
end ZQ
/-- what the words say of a method that is called by a reference (of its own class) -/
def zYV (y : MethodName) (C : String) (cc : ByteArray) (maxL : Nat) (ret : Option FieldType) (np : Nat) : Prop :=
  Cond.code y cc maxL ret ∈ zTT ∧ Cond.instanceMethod y ∈ zTT ∧ Cond.selects C y y ∈ zTT ∧ Cond.initialized C ∈ zTT ∧ (y.cls = C ∧ y.cls ≠ "java/lang/invoke/MethodHandle" ∧ y.cls ≠ "java/lang/invoke/VarHandle" ∧ (parseMethodDescriptor y.desc).map (fun d => d.parameters.length) = some np) ∧ maxL ≤ 40
/-- of a static method -/
def zYS (y : MethodName) (C : String) (cc : ByteArray) (maxL : Nat) (ret : Option FieldType) (np : Nat) : Prop :=
  Cond.code y cc maxL ret ∈ zTT ∧ Cond.static y ∈ zTT ∧ Cond.initialized C ∈ zTT ∧ (y.cls = C ∧ y.cls ≠ "java/lang/invoke/MethodHandle" ∧ y.cls ≠ "java/lang/invoke/VarHandle" ∧ (parseMethodDescriptor y.desc).map (fun d => d.parameters.length) = some np) ∧ maxL ≤ 40
section ZK
variable {G : zG} {p : Program} {l : Launch} {e : Env} {D : Nat} {s : State} {m : MethodId} {args : Array Value} {below : List Frame} {meth : Method} {c : Code} {H : Heap} {locs : List Loc} {cells slots : Nat} {Q : State → Prop} {own : String} {cc : ByteArray} {nL : Nat} {ret : Option FieldType} {n : Nat} {f f2 : zF} {pc : Nat} {ls : Array Slot} {rest : List Value}
theorem zPc_blind {G : zG} {n : Nat} {f : zF} {av : List Value} : FrameBlind (va_Pc av (fun U => zS G n f U.heap [] ∧ zC G U)) := fun a U g mk h => ⟨h.1, h.2.1, zC.same (s := U) (U := U.calling g mk a) rfl h.2.2⟩
/-- behind a call that has run -/
theorem z_back {ro : Option Value} {a : Array Value} {g : JFrame} (hS : zS G n f H locs) (hr : va_Run p l e (zrm D) s m args below meth c H locs cells slots 0 0 g rest (zQc G n f2 ro a) (zA G))
    (kk : ∀ H1 locs1, zS G n f2 H1 locs1 → W p l e (zrm D) s m args below meth c H1 locs1 cells slots Q { g with pc := g.pc + 3, stack := ro.toList ++ rest }) : W p l e (zrm D) s m args below meth c H locs cells slots Q g := by
  intro T hT X
  obtain ⟨v, st₀, t, T', L, h0, X', hL, e1, e2, ⟨hv, hP⟩, st⟩ := hr T hT X
  cases hv
  obtain ⟨t2, a1, b1⟩ := kk T'.heap (locs ++ L) (by
    rw [e1]
    refine ⟨hP.1, hP.2.1, hP.2.2.1, fun q hq => ?_⟩
    rcases List.mem_append.mp hq with h | h
    · exact hS.2.2.2 q h
    · exact hL q h) T' rfl X'
  exact ⟨t2, st t2 a1, b1⟩
theorem zC_up {u : State} (B : zB G p s m args meth c own cc nL ret) (h : s.WarmedH u.vm) : zC G u := B.2.2.2.2.2.1.warm h
theorem z_callV (B : zB G p s m args meth c own cc nL ret) (hS : zS G n f H locs) {y : MethodName} {C : String} {T : u_T} {N ci idx a maxL np d : Nat} {bytes : ByteArray} {ret2 : Option FieldType} {ro : Option Value} {As st : List Value} {lv : List (Nat × Value)} {u : Unit}
    (hM : zM l G y bytes maxL ret2 d n f (zr G a :: As) ro f2) (hY : zYV y C bytes maxL ret2 np) (hlk : Cond.methodLink own idx y ∈ zTT) (hd : d + 1 ≤ D) (hck : zck n f ci a = some u) (hc : vwCl[ci]? = some (C, T, N)) (hn : As.length = np) (hl : lv_has ls nL lv) (hst : st = As.reverse ++ zr G a :: rest) (hW : (rest.map fun v => v.category).sum ≤ 8) (hdg : decode cc pc = .ok (.invokevirtual idx, 3))
    (hcs : cells ≤ 0 ∧ slots ≤ 0 := by exact ⟨Nat.le_refl 0, Nat.le_refl 0⟩)
    (kk : ∀ H1 locs1, zS G n f2 H1 locs1 → W p l e (zrm D) s m args below meth c H1 locs1 cells slots Q (F0 m (pc + 3) ls (ro.toList ++ rest))) : W p l e (zrm D) s m args below meth c H locs cells slots Q (F0 m pc ls st) := by
  subst hst
  obtain ⟨y1, y2, y3, y4, y5, y6⟩ := hY
  obtain ⟨ha, fs, hf⟩ := zck_i hck
  have hG : GoodIn zTT (wsV own idx C y (zws y bytes maxL ret2)) := zTT_good (by
    intro w hw
    simp only [wsV, zws, List.mem_append, List.mem_cons, List.not_mem_nil, or_false] at hw
    rcases hw with (rfl | rfl | rfl | rfl) | rfl | hw
    · exact hlk
    · exact y2
    · exact y3
    · exact y4
    · exact y1
    · exact hw)
  refine z_back hS (va_runV (As := As) (rest := rest) (own := own) (Ts := zTT) ⟨B.1, B.2.1, B.2.2.1, B.2.2.2.1, B.2.2.2.2.1⟩ hM (cwV np B.2.2.2.2.1 hG rfl rfl rfl y5 ⟨hd, ?_⟩) ⟨zPc_blind, va_recv (D := G.1) (cl := vwCl) (tys := zT G) (ws := zw G n f) (q0 := a) B.2.2.2.2.2.1.1 hS.1 hc (fs := fs.map (zv G)) (by rw [zw_at ha, hf]; rfl), fun U hU hW2 => ⟨rfl, by rw [hU]; exact hS.drop, zC_up B hW2⟩⟩ rfl hn hl.1 rfl (lv_room hW) hdg ⟨hcs.1, hcs.2⟩) kk
  show 8 + (maxL + 11) + 64 * d ≤ 64 * D
  omega
theorem z_callS (B : zB G p s m args meth c own cc nL ret) (hS : zS G n f H locs) {y : MethodName} {idx maxL np d : Nat} {bytes : ByteArray} {ret2 : Option FieldType} {ro : Option Value} {As st : List Value} {lv : List (Nat × Value)}
    (hM : zM l G y bytes maxL ret2 d n f As ro f2) (hY : zYS y own bytes maxL ret2 np) (hlk : Cond.methodLink own idx y ∈ zTT) (hd : d + 1 ≤ D) (hn : As.length = np) (hl : lv_has ls nL lv) (hst : st = As.reverse ++ rest) (hW : (rest.map fun v => v.category).sum ≤ 8) (hdg : decode cc pc = .ok (.invokestatic idx, 3))
    (hcs : cells ≤ 0 ∧ slots ≤ 0 := by exact ⟨Nat.le_refl 0, Nat.le_refl 0⟩)
    (kk : ∀ H1 locs1, zS G n f2 H1 locs1 → W p l e (zrm D) s m args below meth c H1 locs1 cells slots Q (F0 m (pc + 3) ls (ro.toList ++ rest))) : W p l e (zrm D) s m args below meth c H locs cells slots Q (F0 m pc ls st) := by
  subst hst
  obtain ⟨y1, y2, y3, y5, y6⟩ := hY
  have hG : GoodIn zTT (wsS own idx y (zws y bytes maxL ret2)) := zTT_good (by
    intro w hw
    simp only [wsS, zws, List.mem_append, List.mem_cons, List.not_mem_nil, or_false] at hw
    rcases hw with (rfl | rfl | rfl) | rfl | hw
    · exact hlk
    · exact y2
    · exact y3
    · exact y1
    · exact hw)
  refine z_back hS (va_runS (As := As) (rest := rest) (own := own) (Ts := zTT) ⟨B.1, B.2.1, B.2.2.1, B.2.2.2.1, B.2.2.2.2.1⟩ hM (cwS np B.2.2.2.2.1 hG rfl rfl rfl y5 ⟨hd, ?_⟩) ⟨zPc_blind, fun U hU hW2 => ⟨rfl, by rw [hU]; exact hS.drop, zC_up B hW2⟩⟩ rfl hn hl.1 rfl (lv_room hW) hdg ⟨hcs.1, hcs.2⟩) kk
  show 8 + (maxL + 11) + 64 * d ≤ 64 * D
  omega
/-- a static method of another class (a JDK's, or one that isn't private) -/
theorem z_callT (B : zB G p s m args meth c own cc nL ret) (hS : zS G n f H locs) {y : MethodName} {C : String} {idx maxL np d : Nat} {bytes : ByteArray} {ret2 : Option FieldType} {ro : Option Value} {As st : List Value} {lv : List (Nat × Value)}
    (hM : zM l G y bytes maxL ret2 d n f As ro f2) (hY : zYS y C bytes maxL ret2 np) (hlk : Cond.methodLink own idx y ∈ zTT) (hd : d + 1 ≤ D) (hn : As.length = np) (hl : lv_has ls nL lv) (hst : st = As.reverse ++ rest) (hW : (rest.map fun v => v.category).sum ≤ 8) (hdg : decode cc pc = .ok (.invokestatic idx, 3))
    (hcs : cells ≤ 0 ∧ slots ≤ 0 := by exact ⟨Nat.le_refl 0, Nat.le_refl 0⟩)
    (kk : ∀ H1 locs1, zS G n f2 H1 locs1 → W p l e (zrm D) s m args below meth c H1 locs1 cells slots Q (F0 m (pc + 3) ls (ro.toList ++ rest))) : W p l e (zrm D) s m args below meth c H locs cells slots Q (F0 m pc ls st) := by
  subst hst
  obtain ⟨y1, y2, y3, y5, y6⟩ := hY
  have hG : GoodIn zTT (va_wsS own idx y (zws y bytes maxL ret2)) := zTT_good (by
    intro w hw
    simp only [va_wsS, zws, List.mem_append, List.mem_cons, List.not_mem_nil, or_false] at hw
    rcases hw with (rfl | rfl | rfl) | rfl | hw
    · exact hlk
    · exact y2
    · rw [y5.1]; exact y3
    · exact y1
    · exact hw)
  refine z_back hS (va_runS (As := As) (rest := rest) (own := own) (Ts := zTT) ⟨B.1, B.2.1, B.2.2.1, B.2.2.2.1, B.2.2.2.2.1⟩ hM (va_cwS np B.2.2.2.2.1 hG rfl rfl rfl y5.2 ⟨hd, ?_⟩) ⟨zPc_blind, fun U hU hW2 => ⟨rfl, by rw [hU]; exact hS.drop, zC_up B hW2⟩⟩ rfl hn hl.1 rfl (lv_room hW) hdg ⟨hcs.1, hcs.2⟩) kk
  show 8 + (maxL + 11) + 64 * d ≤ 64 * D
  omega
/-- a nest mate's private static method -/
theorem z_callN (B : zB G p s m args meth c own cc nL ret) (hS : zS G n f H locs) {y : MethodName} {C host : String} {idx maxL np d : Nat} {bytes : ByteArray} {ret2 : Option FieldType} {ro : Option Value} {As st : List Value} {lv : List (Nat × Value)}
    (hM : zM l G y bytes maxL ret2 d n f As ro f2) (hY : zYS y C bytes maxL ret2 np) (hlk : Cond.methodLinkNest own idx y host ∈ zNest) (hd : d + 1 ≤ D) (hn : As.length = np) (hl : lv_has ls nL lv) (hst : st = As.reverse ++ rest) (hW : (rest.map fun v => v.category).sum ≤ 8) (hdg : decode cc pc = .ok (.invokestatic idx, 3))
    (hcs : cells ≤ 0 ∧ slots ≤ 0 := by exact ⟨Nat.le_refl 0, Nat.le_refl 0⟩)
    (kk : ∀ H1 locs1, zS G n f2 H1 locs1 → W p l e (zrm D) s m args below meth c H1 locs1 cells slots Q (F0 m (pc + 3) ls (ro.toList ++ rest))) : W p l e (zrm D) s m args below meth c H locs cells slots Q (F0 m pc ls st) := by
  subst hst
  obtain ⟨y1, y2, y3, y5, y6⟩ := hY
  have hG : GoodIn zTT (zws y bytes maxL ret2) := zTT_good (by
    intro w hw
    simp only [zws, List.mem_cons] at hw
    rcases hw with rfl | hw
    · exact y1
    · exact hw)
  refine z_back hS (va_runSN (As := As) (rest := rest) (own := own) (host := host) (Ts := zTT) ⟨B.1, B.2.1, B.2.2.1, B.2.2.2.1, B.2.2.2.2.1⟩ hM ⟨va_cnB np B.2.2.2.2.1 hG rfl rfl rfl (B.2.2.2.2.2.1.2.1 _ hlk) (by rw [y5.1]; exact B.2.2.2.2.1 _ y3) y5.2 ⟨hd, ?_⟩, B.2.2.2.2.1 _ y2, trivial⟩ ⟨zPc_blind, fun U hU hW2 => ⟨rfl, by rw [hU]; exact hS.drop, zC_up B hW2⟩⟩ rfl hn hl.1 rfl (lv_room hW) hdg ⟨hcs.1, hcs.2⟩) kk
  show 8 + (maxL + 11) + 64 * d ≤ 64 * D
  omega
end ZK
