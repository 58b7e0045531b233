/-! THE BASE: a small heap of entries by number (object: class number and fields; array: kind, length, contents), its picture in the machine's heap at 'base + number', and the rows of the machine over that picture. -/
abbrev zE : Type := (Nat × vp_A) ⊕ (Nat × List Value)
abbrev zF : Type := Nat → zE
/-- the ground of a run: the classes' numbers, the array classes, the addresses of String constants, what else holds of the tables, the heap below -/
abbrev zG : Type := va_G × (Nat → ClassId) × ((Nat → Nat) × (State → Prop)) × Heap
def zv (G : zG) (v : Value) : Value := match v with
  | .ref k => .ref (G.2.2.2.size + k)
  | .retAddr k => .ref (G.2.2.1.1 k)
  | w => w
def zr (G : zG) (k : Nat) : Value := .ref (G.2.2.2.size + k)
def zn (G : zG) (o : Option Nat) : Value := match o with
  | none => .null
  | some k => .ref (G.2.2.2.size + k)
def zstr (G : zG) (k : Nat) : Value := .ref (G.2.2.1.1 k)
def za (G : zG) (x : vp_A) : vp_A := match x with
  | (n, .inr (.inr (.inr (.inr g)))) => (n, .inr (.inr (.inr (.inr (fun j => (g j).map (fun k => G.2.2.2.size + k))))))
  | y => y
def ze (G : zG) (e : zE) : va_E := match e with
  | .inl (t, x) => .inl (G.2.1 t, za G x)
  | .inr (c, fs) => .inr (c, fs.map (zv G))
def zw (G : zG) (n : Nat) (f : zF) : va_W := (List.range n).map (fun k => (G.2.2.2.size + k, ze G (f k)))
def zu (f : zF) (k : Nat) (e : zE) : zF := fun j => if j = k then e else f j
def zA (G : zG) : Nat → Prop := fun q => G.2.2.2.size ≤ q
theorem zw_at {G : zG} {n k : Nat} {f : zF} (h : k < n) : (zw G n f)[k]? = some (G.2.2.2.size + k, ze G (f k)) := by
  simp [zw, h]
theorem zw_set {G : zG} {n k : Nat} {f : zF} (h : k < n) (e : zE) : (zw G n f).set k (G.2.2.2.size + k, ze G e) = zw G n (zu f k e) := by
  apply List.ext_getElem?
  intro j
  by_cases hj : j = k
  · subst hj
    rw [List.getElem?_set_self (by simp [zw, h]), zw_at h]
    simp [zu]
  · rw [List.getElem?_set_ne (Ne.symm hj)]
    by_cases hn : j < n
    · rw [zw_at hn, zw_at hn]
      simp [zu, hj]
    · simp [zw, hn]
theorem zw_push {G : zG} {n : Nat} {f : zF} (e : zE) : zw G n f ++ [(G.2.2.2.size + n, ze G e)] = zw G (n + 1) (zu f n e) := by
  unfold zw
  rw [List.range_succ, List.map_append]
  congr 1
  · apply List.map_congr_left
    intro j hj
    have : j ≠ n := Nat.ne_of_lt (List.mem_range.mp hj)
    simp [zu, this]
  · simp [zu]
theorem zw_D {G : zG} {n : Nat} {f : zF} : va_D (zA G) (zw G n f) := by
  have key : ∀ (k : Nat) (q : Nat × va_E), (zw G n f)[k]? = some q → q.1 = G.2.2.2.size + k := by
    intro k q h
    by_cases hk : k < n
    · rw [zw_at hk] at h
      cases h
      rfl
    · simp [zw, hk] at h
  refine ⟨fun i j p q hi hj hpq => ?_, fun k q hq => ?_⟩
  · have h1 := key i p hi
    have h2 := key j q hj
    omega
  · have h1 := key k q hq
    show G.2.2.2.size ≤ q.1
    omega
/-- the arrays' classes by their kinds -/
def zT (G : zG) : List (ClassId × FieldType) := [(G.2.1 0, .int), (G.2.1 1, .long), (G.2.1 2, .byte), (G.2.1 3, .boolean), (G.2.1 4, .object "SeenToMove$State")]
/-- calls of nest mates' private methods: the tables' words that a warm run keeps -/
def zNest : List Cond := tables_1.filter (fun w => match w with | .methodLinkNest .. => true | _ => false)
/-- what the tables hold for a whole run -/
def zC (G : zG) (U : State) : Prop := va_K G.1 vwCl (zT G) U ∧ (∀ w ∈ zNest, va_Nw w U) ∧ ∀ V : State, U.WarmedH V.vm → G.2.2.1.2 V
theorem zNest_w {w : Cond} (h : w ∈ zNest) : ∃ a i x b, w = .methodLinkNest a i x b := by
  have h1 := (List.mem_filter.mp h).2
  cases w <;> first | exact ⟨_, _, _, _, rfl⟩ | cases h1
theorem zC.warm {G : zG} {s U : State} (hW : s.WarmedH U.vm) (h : zC G s) : zC G U := by
  refine ⟨va_K.moved hW.alike h.1, fun w hw => ?_, fun V hV => h.2.2 V (State.WarmedH.trans hW hV)⟩
  obtain ⟨a, i, x, b, rfl⟩ := zNest_w hw
  exact va_Nw.warmM hW (h.2.1 _ hw)
theorem zC.same {G : zG} {s U : State} (hv : s.vm = U.vm) (h : zC G s) : zC G U := by
  refine ⟨va_K.moved (by rw [hv]; exact Vm.Alike.refl U.vm) h.1, fun w hw => ?_, fun V hV => h.2.2 V (State.WarmedH.of_rootvm hv hV)⟩
  obtain ⟨a, i, x, b, rfl⟩ := zNest_w hw
  exact va_Nw.same rfl hv (h.2.1 _ hw)
/-- the heap's picture -/
def zS (G : zG) (n : Nat) (f : zF) (H : Heap) (locs : List Loc) : Prop := va_P G.1 vwCl (zw G n f) H ∧ va_S (zA G) G.2.2.2 H locs
/-- the words of which all methods make use -/
def zTT : List Cond := lw_tbl.filter goodWord
theorem zTT_good {ws : List Cond} (h : ∀ w ∈ ws, w ∈ zTT) : GoodIn zTT ws := fun w hw => ⟨h w hw, good_of_word (List.mem_filter.mp (h w hw)).2⟩
theorem zTT_in {w : Cond} (h : w ∈ tables_1) (hg : goodWord w = true) : w ∈ zTT := List.mem_filter.mpr ⟨List.mem_append_right _ h, hg⟩
theorem zTT_sel {q : MethodName × Nat} (h : q ∈ lw_privs) (hg : goodWord (Cond.selects q.1.cls q.1 q.1) = true) : Cond.selects q.1.cls q.1 q.1 ∈ zTT := List.mem_filter.mpr ⟨List.mem_append_left _ (List.mem_map.mpr ⟨q, h, rfl⟩), hg⟩
def zws (y : MethodName) (cc : ByteArray) (maxL : Nat) (ret : Option FieldType) : List Cond := Cond.code y cc maxL ret :: zTT
def zrm (d : Nat) : Room := { frames := d, cells := 0, slots := 0, locals := 64 * d }
def zQc (G : zG) (n : Nat) (f : zF) (ro : Option Value) : Array Value → State → Outcome → State → Prop := fun _ _ o t => o = .returned ro ∧ zS G n f t.heap []
/-- A METHOD's CONTRACT: from the picture (n, f), called with av, it answers ro and leaves the picture (n, f2); it makes nothing; d frames below it are enough -/
def zM (l : Launch) (G : zG) (y : MethodName) (cc : ByteArray) (maxL : Nat) (ret : Option FieldType) (d n : Nat) (f : zF) (av : List Value) (ro : Option Value) (f2 : zF) : Prop :=
  Met l y (zws y cc maxL ret) (zrm d) (va_Pc av (fun U => zS G n f U.heap [] ∧ zC G U)) (zQc G n f2 ro) 0 0 (zA G)
/-- what stays while a method's body is walked -/
def zB (G : zG) (p : Program) (s : State) (m : MethodId) (args : Array Value) (meth : Method) (c : Code) (own : String) (cc : ByteArray) (nL : Nat) (ret : Option FieldType) : Prop :=
  p.tables.exec = Jvm.exec ∧ c.code = cc ∧ c.maxLocals = nL ∧ s.vm.findClass own = some m.cls ∧ (∀ w ∈ zTT, w.before args s = true) ∧ zC G s ∧ meth.sig.returnType = ret ∧ meth.locks = false
theorem zB.x {G : zG} {p : Program} {s : State} {m : MethodId} {args : Array Value} {meth : Method} {c : Code} {own : String} {cc : ByteArray} {nL : Nat} {ret : Option FieldType} (B : zB G p s m args meth c own cc nL ret) : G.2.2.1.2 s := B.2.2.2.2.2.1.2.2 s (State.WarmedH.refl s)
theorem zS.drop {G : zG} {n : Nat} {f : zF} {H : Heap} {locs : List Loc} (h : zS G n f H locs) : zS G n f H [] := ⟨h.1, h.2.1, h.2.2.1, fun _ q => by cases q⟩
theorem zM.of {l : Launch} {G : zG} {own name desc : String} {cc : ByteArray} {maxL : Nat} {ret : Option FieldType} {d n : Nat} {f f2 : zF} {av : List Value} {ro : Option Value} (hy : plainName own = true) (hL : (lg_sl av).length ≤ maxL)
    (body : ∀ p e s m args below meth c locs ls, zB G p s m args meth c own cc maxL ret → zS G n f s.heap locs → lv_has ls maxL (lv_args 0 av) → W p l e (zrm d) s m args below meth c s.heap locs 0 0 (MQ below (zQc G n f2 ro) args s 0 0 (zA G)) (F0 m 0 ls [])) :
    zM l G ⟨own, name, desc⟩ cc maxL ret d n f av ro f2 := by
  refine Met.ofW (cc := cc) (maxL := maxL) (ret := ret) hy rfl ?_
  intro p e s m args below meth c s₁ B hml hv
  obtain ⟨rfl, hP, hC⟩ := hv
  have hl := lv_entry av hL
  rw [lg_entry_eq]
  generalize (lg_sl av ++ List.replicate (maxL - (lg_sl av).length) Slot.unset).toArray = ls at hl ⊢
  exact body p e s m _ below meth c [] ls ⟨B.exec, B.bytes, hml, findClass_of_methodNamed B.named, fun w hw => atoms_spec (ws := zws _ cc maxL ret) B.pre w (List.mem_cons_of_mem _ hw), hC, B.returns, B.notSynchronized⟩ hP hl
