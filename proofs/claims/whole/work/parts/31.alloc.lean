/-! making: rooms of any size, new objects and rows, constructors -/
theorem zS.size {G : zG} {n : Nat} {f : zF} {H : Heap} {locs : List Loc} (h : zS G n f H locs) : G.2.2.2.size + n ≤ H.size := by
  cases n with
  | zero => exact h.2.1
  | succ k =>
    have h1 := (h.1 k _ (zw_at (Nat.lt_succ_self k))).lt
    omega
def zrmA (d mc ms : Nat) : Room := { frames := d, cells := mc, slots := ms, locals := 64 * d }
/-- what a constructor owes: it leaves the picture with mc more entries -/
def zQcA (G : zG) (n : Nat) (f : zF) : Array Value → State → Outcome → State → Prop := fun _ _ o t => o = .returned none ∧ zS G n f t.heap [] ∧ t.heap.size = G.2.2.2.size + n
def zMA (l : Launch) (G : zG) (y : MethodName) (cc : ByteArray) (maxL d n : Nat) (f : zF) (av : List Value) (f2 : zF) (mc ms : Nat) : Prop :=
  Met l y (zws y cc maxL none) (zrmA d mc ms) (va_Pc av (fun U => (zS G n f U.heap [] ∧ zC G U) ∧ U.heap.size = G.2.2.2.size + n)) (zQcA G (n + mc) f2) mc ms (zA G)
theorem zMA.of {l : Launch} {G : zG} {own name desc : String} {cc : ByteArray} {maxL : Nat} {d n : Nat} {f f2 : zF} {av : List Value} {mc ms : Nat} (hy : plainName own = true) (hL : (lg_sl av).length ≤ maxL) (hnm : name = "<init>")
    (body : ∀ p e s m args below meth c locs ls, zB G p s m args meth c own cc maxL none → meth.name = "<init>" → zS G n f s.heap locs → s.heap.size = G.2.2.2.size + n → lv_has ls maxL (lv_args 0 av) → W p l e (zrmA d mc ms) s m args below meth c s.heap locs 0 0 (MQ below (zQcA G (n + mc) f2) args s mc ms (zA G)) (F0 m 0 ls [])) :
    zMA l G ⟨own, name, desc⟩ cc maxL d n f av f2 mc ms := by
  refine Met.ofW (cc := cc) (maxL := maxL) (ret := none) hy rfl ?_
  intro p e s m args below meth c s₁ B hml hv
  obtain ⟨rfl, ⟨hP, hC⟩, hz⟩ := hv
  have hl := lv_entry av hL
  rw [lg_entry_eq]
  generalize (lg_sl av ++ List.replicate (maxL - (lg_sl av).length) Slot.unset).toArray = ls at hl ⊢
  exact body p e s m _ below meth c [] ls ⟨B.exec, B.bytes, hml, findClass_of_methodNamed B.named, fun w hw => atoms_spec (ws := zws _ cc maxL none) B.pre w (List.mem_cons_of_mem _ hw), hC, B.returns, B.notSynchronized⟩ ((name_of_methodNamed B.named B.method).1.trans hnm) hP hz hl
/-- what the words say of a constructor -/
def zYI (y : MethodName) (cc : ByteArray) (maxL np : Nat) : Prop :=
  Cond.code y cc maxL none ∈ zTT ∧ Cond.instanceMethod y ∈ zTT ∧ Cond.initialized y.cls ∈ zTT ∧ y.name = "<init>" ∧ (y.cls ≠ "java/lang/invoke/MethodHandle" ∧ y.cls ≠ "java/lang/invoke/VarHandle" ∧ (parseMethodDescriptor y.desc).map (fun d => d.parameters.length) = some np) ∧ maxL ≤ 40
section ZA
variable {G : zG} {p : Program} {l : Launch} {e : Env} {R : Room} {s : State} {m : MethodId} {args : Array Value} {below : List Frame} {meth : Method} {c : Code} {H : Heap} {locs : List Loc} {cells slots : Nat} {Q : State → Prop} {own : String} {cc : ByteArray} {nL : Nat} {ret : Option FieldType} {n : Nat} {f f1 f2 : zF} {pc : Nat} {ls : Array Slot} {rest : List Value}
theorem zPcA_blind {G : zG} {n : Nat} {f : zF} {av : List Value} : FrameBlind (va_Pc av (fun U => (zS G n f U.heap [] ∧ zC G U) ∧ U.heap.size = G.2.2.2.size + n)) := fun a U g mk h => ⟨h.1, ⟨h.2.1.1, zC.same (s := U) (U := U.calling g mk a) rfl h.2.1.2⟩, h.2.2⟩
/-- the heap's size where a walk stands -/
theorem z_size (hS : zS G n f H locs) (hz : G.2.2.2.size + n = s.heap.size + cells) {g : JFrame} (k : H.size = G.2.2.2.size + n → W p l e R s m args below meth c H locs cells slots Q g) : W p l e R s m args below meth c H locs cells slots Q g := by
  intro T hT X
  have h1 : T.heap.size ≤ s.heap.size + cells := X.heapSize
  rw [hT] at h1
  have h2 := hS.size
  exact k (by omega) T hT X
theorem zq_back {ro : Option Value} {a : Array Value} {g : JFrame} (hS : zS G n f H locs) (hr : va_Run p l e R s m args below meth c H locs cells slots 0 0 g rest (zQc G n f2 ro a) (zA G))
    (kk : ∀ H1 locs1, zS G n f2 H1 locs1 → W p l e R s m args below meth c H1 locs1 cells slots Q { g with pc := g.pc + 3, stack := ro.toList ++ rest }) : W p l e R s m args below meth c H locs cells slots Q g := by
  intro T hT X
  obtain ⟨v, st₀, t, T', L, h0, X', hL, e1, e2, ⟨hv, hP⟩, st⟩ := hr T hT X
  cases hv
  obtain ⟨t2, a1, b1⟩ := kk T'.heap (locs ++ L) (by
    rw [e1]
    refine ⟨hP.1, hP.2.1, hP.2.2.1, fun q hq => ?_⟩
    rcases List.mem_append.mp hq with h | h
    · exact hS.2.2.2 q h
    · exact hL q h) T' rfl X'
  exact ⟨t2, st t2 a1, b1⟩
theorem zq_callV (B : zB G p s m args meth c own cc nL ret) (hS : zS G n f H locs) {y : MethodName} {C : String} {T : u_T} {N ci idx a maxL np d : Nat} {bytes : ByteArray} {ret2 : Option FieldType} {ro : Option Value} {As st : List Value} {lv : List (Nat × Value)} {u : Unit}
    (hM : zM l G y bytes maxL ret2 d n f (zr G a :: As) ro f2) (hY : zYV y C bytes maxL ret2 np) (hlk : Cond.methodLink own idx y ∈ zTT) (hd : d + 1 ≤ R.frames ∧ 64 * (d + 1) ≤ R.locals) (hck : zck n f ci a = some u) (hc : vwCl[ci]? = some (C, T, N)) (hn : As.length = np) (hl : lv_has ls nL lv) (hst : st = As.reverse ++ zr G a :: rest) (hW : (rest.map fun v => v.category).sum ≤ 8) (hdg : decode cc pc = .ok (.invokevirtual idx, 3))
    (hcs : cells ≤ R.cells ∧ slots ≤ R.slots)
    (kk : ∀ H1 locs1, zS G n f2 H1 locs1 → W p l e R s m args below meth c H1 locs1 cells slots Q (F0 m (pc + 3) ls (ro.toList ++ rest))) : W p l e R s m args below meth c H locs cells slots Q (F0 m pc ls st) := by
  subst hst
  obtain ⟨y1, y2, y3, y4, y5, y6⟩ := hY
  obtain ⟨ha, fs, hf⟩ := zck_i hck
  have hG : GoodIn zTT (wsV own idx C y (zws y bytes maxL ret2)) := zTT_good (by
    intro w hw
    simp only [wsV, zws, List.mem_append, List.mem_cons, List.not_mem_nil, or_false] at hw
    rcases hw with (rfl | rfl | rfl | rfl) | rfl | hw
    · exact hlk
    · exact y2
    · exact y3
    · exact y4
    · exact y1
    · exact hw)
  refine zq_back hS (va_runV (As := As) (rest := rest) (own := own) (Ts := zTT) ⟨B.1, B.2.1, B.2.2.1, B.2.2.2.1, B.2.2.2.2.1⟩ hM (cwV np B.2.2.2.2.1 hG rfl rfl rfl y5 ⟨hd.1, ?_⟩) ⟨zPc_blind, va_recv (D := G.1) (cl := vwCl) (tys := zT G) (ws := zw G n f) (q0 := a) B.2.2.2.2.2.1.1 hS.1 hc (fs := fs.map (zv G)) (by rw [zw_at ha, hf]; rfl), fun U hU hW2 => ⟨rfl, by rw [hU]; exact hS.drop, zC_up B hW2⟩⟩ rfl hn hl.1 rfl (lv_room hW) hdg ⟨hcs.1, hcs.2⟩) kk
  show 8 + (maxL + 11) + 64 * d ≤ R.locals
  omega
theorem zq_callN (B : zB G p s m args meth c own cc nL ret) (hS : zS G n f H locs) {y : MethodName} {C host : String} {idx maxL np d : Nat} {bytes : ByteArray} {ret2 : Option FieldType} {ro : Option Value} {As st : List Value} {lv : List (Nat × Value)}
    (hM : zM l G y bytes maxL ret2 d n f As ro f2) (hY : zYS y C bytes maxL ret2 np) (hlk : Cond.methodLinkNest own idx y host ∈ zNest) (hd : d + 1 ≤ R.frames ∧ 64 * (d + 1) ≤ R.locals) (hn : As.length = np) (hl : lv_has ls nL lv) (hst : st = As.reverse ++ rest) (hW : (rest.map fun v => v.category).sum ≤ 8) (hdg : decode cc pc = .ok (.invokestatic idx, 3))
    (hcs : cells ≤ R.cells ∧ slots ≤ R.slots)
    (kk : ∀ H1 locs1, zS G n f2 H1 locs1 → W p l e R s m args below meth c H1 locs1 cells slots Q (F0 m (pc + 3) ls (ro.toList ++ rest))) : W p l e R s m args below meth c H locs cells slots Q (F0 m pc ls st) := by
  subst hst
  obtain ⟨y1, y2, y3, y5, y6⟩ := hY
  have hG : GoodIn zTT (zws y bytes maxL ret2) := zTT_good (by
    intro w hw
    simp only [zws, List.mem_cons] at hw
    rcases hw with rfl | hw
    · exact y1
    · exact hw)
  refine zq_back hS (va_runSN (As := As) (rest := rest) (own := own) (host := host) (Ts := zTT) ⟨B.1, B.2.1, B.2.2.1, B.2.2.2.1, B.2.2.2.2.1⟩ hM ⟨va_cnB np B.2.2.2.2.1 hG rfl rfl rfl (B.2.2.2.2.2.1.2.1 _ hlk) (by rw [y5.1]; exact B.2.2.2.2.1 _ y3) y5.2 ⟨hd.1, ?_⟩, B.2.2.2.2.1 _ y2, trivial⟩ ⟨zPc_blind, fun U hU hW2 => ⟨rfl, by rw [hU]; exact hS.drop, zC_up B hW2⟩⟩ rfl hn hl.1 rfl (lv_room hW) hdg ⟨hcs.1, hcs.2⟩) kk
  show 8 + (maxL + 11) + 64 * d ≤ R.locals
  omega
/-- behind a constructor's call -/
theorem zq_backA {mc ms : Nat} {a : Array Value} {g : JFrame} (hS : zS G n f H locs) (hr : va_Run p l e R s m args below meth c H locs cells slots mc ms g rest (zQcA G (n + mc) f2 a) (zA G))
    (kk : ∀ H1 locs1, zS G (n + mc) f2 H1 locs1 → W p l e R s m args below meth c H1 locs1 (cells + mc) (slots + ms) Q { g with pc := g.pc + 3, stack := rest }) : W p l e R s m args below meth c H locs cells slots Q g := by
  intro T hT X
  obtain ⟨v, st₀, t, T', L, h0, X', hL, e1, e2, ⟨hv, hP, -⟩, st⟩ := hr T hT X
  cases hv
  obtain ⟨t2, a1, b1⟩ := kk T'.heap (locs ++ L) (by
    rw [e1]
    refine ⟨hP.1, hP.2.1, hP.2.2.1, fun q hq => ?_⟩
    rcases List.mem_append.mp hq with h | h
    · exact hS.2.2.2 q h
    · exact hL q h) T' rfl X'
  exact ⟨t2, st t2 a1, b1⟩
/-- a constructor -/
theorem zq_callI (B : zB G p s m args meth c own cc nL ret) (hS : zS G n f H locs) (hz : G.2.2.2.size + n = s.heap.size + cells) {y : MethodName} {idx a maxL np d mc ms : Nat} {bytes : ByteArray} {As st : List Value} {lv : List (Nat × Value)}
    (hM : zMA l G y bytes maxL d n f (zr G a :: As) f2 mc ms) (hY : zYI y bytes maxL np) (hlk : Cond.methodLink own idx y ∈ zTT) (hd : d + 1 ≤ R.frames ∧ 64 * (d + 1) ≤ R.locals) (hn : As.length = np) (hl : lv_has ls nL lv) (hst : st = As.reverse ++ zr G a :: rest) (hW : (rest.map fun v => v.category).sum ≤ 8) (hdg : decode cc pc = .ok (.invokespecial idx, 3))
    (hcs : cells + mc ≤ R.cells ∧ slots + ms ≤ R.slots)
    (kk : ∀ H1 locs1, zS G (n + mc) f2 H1 locs1 → W p l e R s m args below meth c H1 locs1 (cells + mc) (slots + ms) Q (F0 m (pc + 3) ls rest)) : W p l e R s m args below meth c H locs cells slots Q (F0 m pc ls st) := by
  subst hst
  refine z_size hS hz (fun hsz => ?_)
  obtain ⟨y1, y2, y3, y4, y5, y6⟩ := hY
  have hG : GoodIn zTT (zws y bytes maxL none) := zTT_good (by
    intro w hw
    simp only [zws, List.mem_cons] at hw
    rcases hw with rfl | hw
    · exact y1
    · exact hw)
  refine zq_backA hS (va_runI (As := As) (rest := rest) (own := own) (Ts := zTT) ⟨B.1, B.2.1, B.2.2.1, B.2.2.2.1, B.2.2.2.2.1⟩ hM (cwI np B.2.2.2.2.1 hG rfl rfl rfl (B.2.2.2.2.1 _ y3) (B.2.2.2.2.1 _ hlk) (B.2.2.2.2.1 _ y2) y4 y5 ⟨hd.1, ?_⟩) ⟨zPcA_blind, fun U hU hW2 => ⟨rfl, ⟨by rw [hU]; exact hS.drop, zC_up B hW2⟩, by rw [hU]; exact hsz⟩⟩ rfl hn hl.1 rfl (lv_room hW) hdg hcs) kk
  show 8 + (maxL + 11) + 64 * d ≤ R.locals
  omega
/-- a nest mate's private constructor -/
theorem zq_callIN (B : zB G p s m args meth c own cc nL ret) (hS : zS G n f H locs) (hz : G.2.2.2.size + n = s.heap.size + cells) {y : MethodName} {host : String} {idx a maxL np d mc ms : Nat} {bytes : ByteArray} {As st : List Value} {lv : List (Nat × Value)}
    (hM : zMA l G y bytes maxL d n f (zr G a :: As) f2 mc ms) (hY : zYI y bytes maxL np) (hlk : Cond.methodLinkNest own idx y host ∈ zNest) (hd : d + 1 ≤ R.frames ∧ 64 * (d + 1) ≤ R.locals) (hn : As.length = np) (hl : lv_has ls nL lv) (hst : st = As.reverse ++ zr G a :: rest) (hW : (rest.map fun v => v.category).sum ≤ 8) (hdg : decode cc pc = .ok (.invokespecial idx, 3))
    (hcs : cells + mc ≤ R.cells ∧ slots + ms ≤ R.slots)
    (kk : ∀ H1 locs1, zS G (n + mc) f2 H1 locs1 → W p l e R s m args below meth c H1 locs1 (cells + mc) (slots + ms) Q (F0 m (pc + 3) ls rest)) : W p l e R s m args below meth c H locs cells slots Q (F0 m pc ls st) := by
  subst hst
  refine z_size hS hz (fun hsz => ?_)
  obtain ⟨y1, y2, y3, y4, y5, y6⟩ := hY
  have hG : GoodIn zTT (zws y bytes maxL none) := zTT_good (by
    intro w hw
    simp only [zws, List.mem_cons] at hw
    rcases hw with rfl | hw
    · exact y1
    · exact hw)
  refine zq_backA hS (va_runIN (As := As) (rest := rest) (own := own) (host := host) (Ts := zTT) ⟨B.1, B.2.1, B.2.2.1, B.2.2.2.1, B.2.2.2.2.1⟩ hM ⟨va_cnB np B.2.2.2.2.1 hG rfl rfl rfl (B.2.2.2.2.2.1.2.1 _ hlk) (B.2.2.2.2.1 _ y3) y5 ⟨hd.1, ?_⟩, y4, B.2.2.2.2.1 _ y2⟩ ⟨zPcA_blind, fun U hU hW2 => ⟨rfl, ⟨by rw [hU]; exact hS.drop, zC_up B hW2⟩, by rw [hU]; exact hsz⟩⟩ rfl hn hl.1 rfl (lv_room hW) hdg hcs) kk
  show 8 + (maxL + 11) + 64 * d ≤ R.locals
  omega
theorem zS.grown {x : zE} {H1 : Heap} (hS : zS G n f H locs) (hsz : H.size = G.2.2.2.size + n) (z1 : H1.size = H.size + 1) (o1 : ∀ q, q < H.size → H1[q]? = H[q]?) (h : va_at G.1 vwCl (G.2.2.2.size + n, ze G x) H1) : zS G (n + 1) (zu f n x) H1 locs := by
  have hk : ∀ (k : Nat) (q : Nat × va_E), (zw G n f)[k]? = some q → H1[q.1]? = H[q.1]? := fun k q hq => o1 q.1 ((hS.1 k q hq).lt)
  refine ⟨?_, Nat.le_trans hS.2.1 (by omega), fun q h1 h2 => (o1 q (Nat.lt_of_lt_of_le h1 hS.2.1)).trans (hS.2.2.1 q h1 h2), hS.2.2.2⟩
  rw [← zw_push]
  refine (hS.1.kept hk).app (fun k q hq => ?_)
  have hz : k < 1 := (List.getElem?_eq_some_iff.mp hq).1
  rw [show k = 0 by omega] at hq
  cases hq
  exact h
theorem z_new (B : zB G p s m args meth c own cc nL ret) (hS : zS G n f H locs) (hz : G.2.2.2.size + n = s.heap.size + cells) {ci idx N : Nat} {C : String} {T : u_T} {fs : List Value} (hc : vwCl[ci]? = some (C, T, N)) (hin : ∀ w ∈ u_ws C T N, w ∈ zTT) (ty0 : Nat → FieldType) (hty : ∀ k, k < N → parseFieldDescriptor (T k).2.2.1 = some (ty0 k)) (hcl : Cond.classLink own idx C ∈ zTT) (hinst : Cond.instantiable C N ∈ zTT) (hini : Cond.initialized C ∈ zTT)
    (hfs : ∀ j, j < N → defaultValue (ty0 j) = vp_V (fs.map (zv G)) j) (hcells : cells + 1 ≤ R.cells) (hslots : slots + N ≤ R.slots) (hdg : decode cc pc = .ok (.new idx, 3))
    (kk : ∀ H1, zS G (n + 1) (zu f n (.inr (ci, fs))) H1 locs → W p l e R s m args below meth c H1 locs (cells + 1) (slots + N) Q (F0 m (pc + 3) ls (zr G n :: rest))) : W p l e R s m args below meth c H locs cells slots Q (F0 m pc ls rest) := by
  refine z_size hS hz (fun hsz => ?_)
  have hKn := B.2.2.2.2.2.1.1.1 ci _ hc
  refine W.newcK B.1 B.2.1 B.2.2.2.1 (B.2.2.2.2.1 _ hcl) (B.2.2.2.2.1 _ hinst) (B.2.2.2.2.1 _ hini) rfl hdg hcells hslots hKn.2.1 hsz fun H1 kC hkC e1 z1 o1 => ?_
  exact kk H1 (hS.grown hsz (by omega) (fun q hq => o1 q (by omega)) ⟨_, hc, (u_born ty0 B.2.2.2.2.1 hin hKn hkC e1 hty).to hfs⟩)
theorem z_newa (B : zB G p s m args meth c own cc nL ret) (hS : zS G n f H locs) (hz : G.2.2.2.size + n = s.heap.size + cells) {t : Nat} {at9 : ArrayType} {k : Int32} {len : Nat} {x : vp_A} {cA : ClassId} (harr : Cond.arrayClass (newarray.typeOf at9) ∈ zTT) (hnm : s.vm.findClass ("[" ++ (newarray.typeOf at9).toString) = some (G.2.1 t)) (hx : ∀ cA : ClassId, vp_cell cA (za G x) = arrV cA len (fun _ => defaultValue (newarray.typeOf at9))) (hk : ¬ k < 0) (hlen : k.toNatClampNeg = len) (hb : len * componentBytes (newarray.typeOf at9) ≤ 536870912) (hcells : cells + 1 ≤ R.cells) (hslots : slots + len ≤ R.slots) (hdg : decode cc pc = .ok (.newarray at9, 2))
    (kk : ∀ H1, zS G (n + 1) (zu f n (.inl (t, x))) H1 locs → W p l e R s m args below meth c H1 locs (cells + 1) (slots + len) Q (F0 m (pc + 2) ls (zr G n :: rest))) : W p l e R s m args below meth c H locs cells slots Q (F0 m pc ls (.int k :: rest)) := by
  refine z_size hS hz (fun hsz => ?_)
  refine va_newaK B.1 B.2.1 (B.2.2.2.2.1 _ harr) rfl hdg rfl hk hlen hb hcells hslots hsz fun H1 cA e1 z1 o1 _ hN => ?_
  rw [hnm] at hN
  cases hN
  refine kk H1 (hS.grown hsz (by omega) (fun q hq => o1 q (by omega)) ?_)
  show H1[G.2.2.2.size + n]? = some (vp_cell (G.2.1 t) (za G x))
  rw [hx]
  exact e1
theorem z_nmI (B : zB G p s m args meth c own cc nL ret) : s.vm.findClass ("[" ++ (FieldType.int).toString) = some (G.2.1 0) := (B.2.2.2.2.2.1.1.2 0 _ rfl).2
theorem z_nmL (B : zB G p s m args meth c own cc nL ret) : s.vm.findClass ("[" ++ (FieldType.long).toString) = some (G.2.1 1) := (B.2.2.2.2.2.1.1.2 1 _ rfl).2
theorem z_nmB (B : zB G p s m args meth c own cc nL ret) : s.vm.findClass ("[" ++ (FieldType.byte).toString) = some (G.2.1 2) := (B.2.2.2.2.2.1.1.2 2 _ rfl).2
theorem z_nmZ (B : zB G p s m args meth c own cc nL ret) : s.vm.findClass ("[" ++ (FieldType.boolean).toString) = some (G.2.1 3) := (B.2.2.2.2.2.1.1.2 3 _ rfl).2
theorem z_newI (B : zB G p s m args meth c own cc nL ret) (hS : zS G n f H locs) (hz : G.2.2.2.size + n = s.heap.size + cells) {k : Int32} {len : Nat} (harr : Cond.arrayClass .int ∈ zTT) (hk : ¬ k < 0) (hlen : k.toNatClampNeg = len) (hb : len * 4 ≤ 536870912) (hcells : cells + 1 ≤ R.cells) (hslots : slots + len ≤ R.slots) (hdg : decode cc pc = .ok (.newarray .int, 2))
    (kk : ∀ H1, zS G (n + 1) (zu f n (.inl (0, len, .inl (fun _ => 0)))) H1 locs → W p l e R s m args below meth c H1 locs (cells + 1) (slots + len) Q (F0 m (pc + 2) ls (zr G n :: rest))) : W p l e R s m args below meth c H locs cells slots Q (F0 m pc ls (.int k :: rest)) :=
  z_newa (t := 0) (cA := 0) (at9 := .int) B hS hz harr (z_nmI B) (fun _ => rfl) hk hlen hb hcells hslots hdg kk
theorem z_newL (B : zB G p s m args meth c own cc nL ret) (hS : zS G n f H locs) (hz : G.2.2.2.size + n = s.heap.size + cells) {k : Int32} {len : Nat} (harr : Cond.arrayClass .long ∈ zTT) (hk : ¬ k < 0) (hlen : k.toNatClampNeg = len) (hb : len * 8 ≤ 536870912) (hcells : cells + 1 ≤ R.cells) (hslots : slots + len ≤ R.slots) (hdg : decode cc pc = .ok (.newarray .long, 2))
    (kk : ∀ H1, zS G (n + 1) (zu f n (.inl (1, len, .inr (.inl (fun _ => 0))))) H1 locs → W p l e R s m args below meth c H1 locs (cells + 1) (slots + len) Q (F0 m (pc + 2) ls (zr G n :: rest))) : W p l e R s m args below meth c H locs cells slots Q (F0 m pc ls (.int k :: rest)) :=
  z_newa (t := 1) (cA := 0) (at9 := .long) B hS hz harr (z_nmL B) (fun _ => rfl) hk hlen hb hcells hslots hdg kk
theorem z_newB (B : zB G p s m args meth c own cc nL ret) (hS : zS G n f H locs) (hz : G.2.2.2.size + n = s.heap.size + cells) {k : Int32} {len : Nat} (harr : Cond.arrayClass .byte ∈ zTT) (hk : ¬ k < 0) (hlen : k.toNatClampNeg = len) (hb : len * 1 ≤ 536870912) (hcells : cells + 1 ≤ R.cells) (hslots : slots + len ≤ R.slots) (hdg : decode cc pc = .ok (.newarray .byte, 2))
    (kk : ∀ H1, zS G (n + 1) (zu f n (.inl (2, len, .inl (fun _ => 0)))) H1 locs → W p l e R s m args below meth c H1 locs (cells + 1) (slots + len) Q (F0 m (pc + 2) ls (zr G n :: rest))) : W p l e R s m args below meth c H locs cells slots Q (F0 m pc ls (.int k :: rest)) :=
  z_newa (t := 2) (cA := 0) (at9 := .byte) B hS hz harr (z_nmB B) (fun _ => rfl) hk hlen hb hcells hslots hdg kk
theorem z_newZ (B : zB G p s m args meth c own cc nL ret) (hS : zS G n f H locs) (hz : G.2.2.2.size + n = s.heap.size + cells) {k : Int32} {len : Nat} (harr : Cond.arrayClass .boolean ∈ zTT) (hk : ¬ k < 0) (hlen : k.toNatClampNeg = len) (hb : len * 1 ≤ 536870912) (hcells : cells + 1 ≤ R.cells) (hslots : slots + len ≤ R.slots) (hdg : decode cc pc = .ok (.newarray .boolean, 2))
    (kk : ∀ H1, zS G (n + 1) (zu f n (.inl (3, len, .inl (fun _ => 0)))) H1 locs → W p l e R s m args below meth c H1 locs (cells + 1) (slots + len) Q (F0 m (pc + 2) ls (zr G n :: rest))) : W p l e R s m args below meth c H locs cells slots Q (F0 m pc ls (.int k :: rest)) :=
  z_newa (t := 3) (cA := 0) (at9 := .boolean) B hS hz harr (z_nmZ B) (fun _ => rfl) hk hlen hb hcells hslots hdg kk
theorem z_newQ (B : zB G p s m args meth c own cc nL ret) (hS : zS G n f H locs) (hz : G.2.2.2.size + n = s.heap.size + cells) {idx : Nat} {k : Int32} {len : Nat} (hcl : Cond.classLink own idx "SeenToMove$State" ∈ zTT) (hov : va_AO "SeenToMove$State" s) (hk : ¬ k < 0) (hlen : k.toNatClampNeg = len) (hb : len * 4 ≤ 536870912) (hcells : cells + 1 ≤ R.cells) (hslots : slots + len ≤ R.slots) (hdg : decode cc pc = .ok (.anewarray idx, 3))
    (kk : ∀ H1, zS G (n + 1) (zu f n (.inl (4, len, .inr (.inr (.inr (.inr (fun _ => none))))))) H1 locs → W p l e R s m args below meth c H1 locs (cells + 1) (slots + len) Q (F0 m (pc + 3) ls (zr G n :: rest))) : W p l e R s m args below meth c H locs cells slots Q (F0 m pc ls (.int k :: rest)) := by
  subst hlen
  refine z_size hS hz (fun hsz => ?_)
  refine W.anew B.1 B.2.1 B.2.2.2.1 (B.2.2.2.2.1 _ hcl) (va_AO.use hov) rfl hdg rfl hk hb hcells hslots fun cA kA comp g1 g2 g3 g4 => ?_
  obtain ⟨kA9, comp9, -, -, -, hN⟩ := (B.2.2.2.2.2.1.1.2 4 _ rfl).2
  rw [hN] at g1
  cases g1
  generalize hH1 : H.push ({ cls := G.2.1 4, slots := Array.replicate k.toNatClampNeg .null, vm := .none } : Cell) = H1
  have z1 : H1.size = H.size + 1 := by rw [← hH1, Array.size_push]
  have e1 : H1[H.size]? = some (arrV (G.2.1 4) k.toNatClampNeg (fun _ => .null)) := by rw [← hH1, Array.getElem?_push_size, ← arrV_new]
  have o1 : ∀ q : Nat, q < H.size → H1[q]? = H[q]? := fun q hq => by rw [← hH1, Array.getElem?_push, if_neg (Nat.ne_of_lt hq)]
  rw [hsz] at e1
  have key := kk H1 (hS.grown hsz z1 o1 e1)
  have e3 : zr G n = .ref H.size := by rw [hsz]; rfl
  rw [e3] at key
  exact key
theorem z_istQ (B : zB G p s m args meth c own cc nL ret) (hS : zS G n f H locs) {a v len : Nat} {i : Int32} {g : Nat → Option Nat} {fs : List Value} (ha : a < n) (hf : f a = .inl (4, len, .inr (.inr (.inr (.inr g))))) (hvn : v < n) (hv : f v = .inr (8, fs)) (hi : ¬ i < 0 ∧ i.toNatClampNeg < len) (hdg : decode cc pc = .ok (.aastore, 1))
    (kk : ∀ H1 locs1, zS G n (zu f a (.inl (4, len, .inr (.inr (.inr (.inr (va_up g i.toNatClampNeg (some v)))))))) H1 locs1 → W p l e R s m args below meth c H1 locs1 cells slots Q (F0 m (pc + 1) ls rest)) : W p l e R s m args below meth c H locs cells slots Q (F0 m pc ls (zr G v :: .int i :: zr G a :: rest)) := by
  refine va_astq (D := G.1) (cl := vwCl) (tys := zT G) (ws := zw G n f) (A := zA G) (H0 := G.2.2.2) (a := G.2.2.2.size + a) (v := G.2.2.2.size + v) B.1 B.2.1 B.2.2.2.2.2.1.1 hS.1 zw_D hS.2 a 4 v 8 (cA := G.2.1 4) (r := (RX8, TX8, 9)) (n := len) (vs := fs.map (zv G)) (f := fun j => (g j).map (fun k => G.2.2.2.size + k)) (by rw [zw_at ha, hf]; rfl) rfl (by rw [zw_at hvn, hv]; rfl) rfl (zin_i hi) hdg (fun H1 locs1 q1 _ q2 => kk H1 locs1 (zS.of ha ?_ q2))
  have e1 : ze G (.inl (4, len, .inr (.inr (.inr (.inr (va_up g i.toNatClampNeg (some v))))))) = .inl (G.2.1 4, len, .inr (.inr (.inr (.inr (va_up (fun j => (g j).map (fun k => G.2.2.2.size + k)) i.toNatClampNeg (some (G.2.2.2.size + v))))))) := by
    show Sum.inl (G.2.1 4, len, Sum.inr (Sum.inr (Sum.inr (Sum.inr _)))) = _
    congr 7
    funext j
    by_cases h : j = i.toNatClampNeg
    · simp [va_up, h]
    · simp [va_up, h]
  rw [e1]
  exact q1
theorem z_putF (B : zB G p s m args meth c own cc nL ret) (hni : meth.name = "<init>") (hS : zS G n f H locs) {ci a j index N : Nat} {C : String} {T : u_T} {x : Nat} (hv : zpR n f ci a j x = some f1) (hc : vwCl[ci]? = some (C, T, N)) (hin : ∀ w ∈ u_ws C T N, w ∈ zTT) (ty0 : Nat → FieldType) (hty : ∀ k, k < N → parseFieldDescriptor (T k).2.2.1 = some (ty0 k)) (hnm : ∀ a, a < N → ∀ b, b < N → a ≠ b → (T a).2.1 ≠ (T b).2.1) (hj : j < N) (hlk : Cond.fieldLink own index (T j).1 (T j).2.1 (T j).2.2.1 ∈ zTT) (hfin : (T j).2.2.2 = true) (hdecl : (T j).1 = own) (hn : narrow (ty0 j) (zr G x) = zr G x) (hfit : fits (ty0 j) (zr G x) = true) (hdg : decode cc pc = .ok (.putfield index, 3))
    (kk : ∀ H1 locs1, zS G n f1 H1 locs1 → W p l e R s m args below meth c H1 locs1 cells slots Q (F0 m (pc + 3) ls rest)) : W p l e R s m args below meth c H locs cells slots Q (F0 m pc ls (zr G x :: zr G a :: rest)) := by
  obtain ⟨ha, fs, hf, hl, rfl⟩ := zpV_i hv
  refine va_putF (D := G.1) (cl := vwCl) (tys := zT G) (ws := zw G n f) (A := zA G) (H0 := G.2.2.2) (C := C) (T := T) (N := N) (ci := ci) (ref := (T j).1) (fs := fs.map (zv G)) (a := G.2.2.2.size + a) (ty := ty0 j) B.1 B.2.1 B.2.2.2.2.1 hin ty0 hty hnm B.2.2.2.1 B.2.2.2.2.2.1.1 hS.1 zw_D hS.2 a ?_ hc j hj (B.2.2.2.2.1 _ hlk) (fun _ h => h) hfin hni hdecl (v := zr G x) (hty j hj) hn hfit (by rw [List.length_map]; exact hl) hdg (fun H1 locs1 q1 _ q2 => kk H1 locs1 (zS.of ha ?_ q2))
  · rw [zw_at ha, hf]; rfl
  · have e1 : ze G (.inr (ci, fs.set j (.ref x))) = .inr (ci, (fs.map (zv G)).set j (zr G x)) := by
      show Sum.inr (ci, (fs.set j (.ref x)).map (zv G)) = _
      rw [List.map_set]
      rfl
    rw [e1]
    exact q1
/-- what the words say of Object's constructor -/
def zObj : Prop := Cond.instanceMethod Lib.objectInit ∈ zTT ∧ Cond.code Lib.objectInit ⟨#[0xb1]⟩ 1 none ∈ zTT
theorem z_objInit (B : zB G p s m args meth c own cc nL ret) {idx a : Nat} {lv : List (Nat × Value)} (hlk : Cond.methodLink own idx Lib.objectInit ∈ zTT) (ho : zObj) (hl : lv_has ls nL lv) (hd : 1 ≤ R.frames ∧ 64 ≤ R.locals) (hW : (rest.map fun v => v.category).sum ≤ 8) (hdg : decode cc pc = .ok (.invokespecial idx, 3))
    (kk : W p l e R s m args below meth c H locs cells slots Q (F0 m (pc + 3) ls rest)) : W p l e R s m args below meth c H locs cells slots Q (F0 m pc ls (zr G a :: rest)) := by
  refine W.objInit B.1 B.2.1 B.2.2.2.1 (B.2.2.2.2.1 _ hlk) (B.2.2.2.2.1 _ ho.1) (B.2.2.2.2.1 _ ho.2) rfl (by rw [B.2.2.1]; exact hl.1) rfl hdg hd.1 ?_ kk
  show 2 * 0 + _ + 12 ≤ R.locals
  omega
theorem z_vretA (B : zB G p s m args meth c own cc nL none) (hS : zS G n f H locs) (hz : G.2.2.2.size + n = s.heap.size + cells) (hdg : decode cc pc = .ok (.return_, 1)) : W p l e R s m args below meth c H locs cells slots (MQ below (zQcA G n f) args s cells slots (zA G)) (F0 m pc ls []) :=
  z_size hS hz (fun hsz => W.vret B.1 B.2.1 B.2.2.2.2.2.2.1 (fun t ht _ => ⟨rfl, by rw [ht]; exact hS.drop, by rw [ht]; exact hsz⟩) hS.2.2.2 hdg B.2.2.2.2.2.2.2)
end ZA
