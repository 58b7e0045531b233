/-! THE CLAIM OUT OF ONE WALK OF THE LAW'S BODY. Your part is whole_start (and what it stands on); all else here is the same for every law, but numbers. -/
def R_law : String := "SeenToMoveLaw"
def lw_P (b : Addr) (xs : List Int32) (args : Array Value) (s : State) : Prop := args = #[.ref b] ∧ s.IntsAt b xs ∧ xs.length ≤ 3072 ∧ (Jvm.Cond.and given_1 narrow_1).before args s = true
def lw_Q (_ : Array Value) (s : State) (o : Outcome) (t : State) : Prop := o = .returned (some (.int 1)) ∧ Framed s o t [] 601024 7293034
def lw_Z (below : List Frame) (a : Array Value) (s : State) : State → Prop := fun t => ∃ o, t.status = .running ∧ Ended t below o ∧ lw_Q a s o t
/-- the law's own end, with 1 on the stack, nothing written that was there before, its room as the claim has it -/
theorem lw_ret {p : Program} {l : Launch} {e : Env} {s : State} {m : MethodId} {below : List Frame} {meth : Method} {c : Code} {b : Nat} (hx : p.tables.exec = Jvm.exec) (hb : c.code = code) (hr : meth.sig.returnType = ret) (hlocks : meth.locks = false) {pc : Nat} {H : Heap} {ls : Array Slot} (hdg : decode code pc = .ok (.ireturn, 1)) : W p l e room_1 s m #[Value.ref b] below meth c H [] 601024 7293034 (lw_Z below #[Value.ref b] s) (F0 m pc ls [.int 1]) := by
  intro T hT X
  obtain ⟨fs, hret, hrun, hended, hW, hframe⟩ := X.leave (v := some (.int 1)) (hlocks := hlocks) (fun h => by rw [hr] at h; cases h)
  have hmeth' : T.vm.method? m = some meth := X.method'
  refine ⟨T.setFrames fs, ?_, .returned (some (.int 1)), hrun, hended, rfl, ⟨_, rfl⟩, hW, hframe⟩
  jvm_step X.here [X.here.top, hx, hb, hdg, hmeth', hr, ret, narrow_b1]
  (try refine ⟨rfl, ?_⟩); (try refine ⟨rfl, ?_⟩)
  first | (intro acts; rw [hret _ acts rfl rfl rfl]) | rw [hret _ _ rfl rfl rfl]
  exact Steps.refl _
/-- what holds at the law's entry: the machine, the code, the tables' words (any of lw_tbl by 'hts w (by decide +kernel)'), the script of L ints xs at the cell b, what the Statement gives of the start (any of its parts by flat_of_before) -/
def lw_At (p : Program) (s : State) (m : MethodId) (meth : Method) (c : Code) (b L : Nat) (xs : Nat → Int32) : Prop :=
  p.tables.exec = Jvm.exec ∧ c.code = code ∧ meth.sig.returnType = ret ∧ c.maxLocals = 7 ∧ s.vm.findClass R_law = some m.cls ∧ (∀ w ∈ lw_tbl, w.before #[Value.ref b] s = true) ∧ va_X b L xs s s.heap ∧ b < s.heap.size ∧ meth.locks = false ∧ (Jvm.Cond.and given_1 narrow_1).before #[Value.ref b] s = true
/-! the ground out of the Statement's own start -/
def zFl : List Cond := flatC (Jvm.Cond.and given_1 narrow_1)
def zPos (i : Nat) : Nat := [205, 260, 174, 183, 193, 24].getD i 0
def zTm (i : Nat) : Term := match zStrs[i]? with
  | some q => .string q.1 q.2.1
  | none => .arg 0
def zVal (i : Nat) : Term := .field (zTm i) "java/lang/String" "value" "[B"
theorem zfl_ex : ∀ i, i < 6 → zFl[zPos i + 0]? = some (Cond.exactly (zTm i) "java/lang/String") := by decide +kernel
theorem zfl_co : ∀ i, i < 6 → zFl[zPos i + 1]? = some (Cond.eq (.field (zTm i) "java/lang/String" "coder" "B") (.int 0)) := by decide +kernel
theorem zfl_ar : ∀ i, i < 6 → zFl[zPos i + 2]? = some (Cond.arrayOf (zVal i) .byte) := by decide +kernel
theorem zfl_le : ∀ i, i < 6 → zFl[zPos i + 3]? = some (Cond.eq (.length (zVal i)) (.int (Int32.ofNat (zLen.getD i 0)))) := by decide +kernel
theorem zfl_el : ∀ i, i < 6 → ∀ j, j < zLen.getD i 0 → zFl[zPos i + 4 + j]? = some (Cond.eq (.elem (zVal i) (.int (Int32.ofNat j))) (.int ((zByt.getD i []).getD j 0))) := by decide +kernel
def zNe (i j : Nat) : Nat := [0, 311, 257, 258, 259, 256, 311, 0, 308, 309, 310, 307, 257, 308, 0, 192, 203, 182, 258, 309, 192, 0, 204, 191, 259, 310, 203, 204, 0, 202, 256, 307, 182, 191, 202, 0].getD (6 * i + j) 0
theorem zfl_ne : ∀ i, i < 6 → ∀ j, j < 6 → i ≠ j → (zFl[zNe i j]? = some (Cond.not (Cond.eq (zTm i) (zTm j))) ∨ zFl[zNe i j]? = some (Cond.not (Cond.eq (zTm j) (zTm i)))) := by decide +kernel
def zSp (i : Nat) : Nat := [1257, 1290, 1038, 1046, 1047, 39].getD i 0
theorem zsp_in : ∀ i, i < 6 → ∃ q, zStrs[i]? = some q ∧ tables_1[zSp i]? = some (Cond.stringRef q.1 q.2.1 q.2.2) := by
  intro i hi
  match i, hi with
  | 0, _ => exact ⟨_, rfl, by decide +kernel⟩
  | 1, _ => exact ⟨_, rfl, by decide +kernel⟩
  | 2, _ => exact ⟨_, rfl, by decide +kernel⟩
  | 3, _ => exact ⟨_, rfl, by decide +kernel⟩
  | 4, _ => exact ⟨_, rfl, by decide +kernel⟩
  | 5, _ => exact ⟨_, rfl, by decide +kernel⟩
  | k + 6, h => omega
theorem zt_399 : Cond.arrayOver (.object "SeenToMove$State") ∈ tables_1 := List.mem_of_getElem? (i := 399) (by decide +kernel)
theorem zt_49 : Cond.laysStatic "java/lang/String" "COMPACT_STRINGS" "Z" ∈ tables_1 := List.mem_of_getElem? (i := 49) (by decide +kernel)
theorem zt_65 : Cond.laysStatic "jdk/internal/util/Preconditions" "SIOOBE_FORMATTER" "Ljava/util/function/BiFunction;" ∈ tables_1 := List.mem_of_getElem? (i := 65) (by decide +kernel)
theorem zt_1245 : Cond.laysStatic Bundle.tN "UNASSIGNED_STACK" Bundle.steD ∈ tables_1 := List.mem_of_getElem? (i := 1245) (by decide +kernel)
theorem zt_1247 : Cond.laysStatic Bundle.tN "SUPPRESSED_SENTINEL" Bundle.listD ∈ tables_1 := List.mem_of_getElem? (i := 1247) (by decide +kernel)
theorem zt_241 : Cond.arrayClass .int ∈ tables_1 := List.mem_of_getElem? (i := 241) (by decide +kernel)
theorem zt_143 : Cond.arrayClass .long ∈ tables_1 := List.mem_of_getElem? (i := 143) (by decide +kernel)
theorem zt_142 : Cond.arrayClass .byte ∈ tables_1 := List.mem_of_getElem? (i := 142) (by decide +kernel)
theorem zt_1498 : Cond.arrayClass .boolean ∈ tables_1 := List.mem_of_getElem? (i := 1498) (by decide +kernel)
theorem zfl_c4 : zFl[4]? = some (Cond.eq (.static "java/lang/String" "COMPACT_STRINGS" "Z") (.int 1)) := by decide +kernel
theorem zfl_c5 : zFl[5]? = some (Cond.isRef (.static "jdk/internal/util/Preconditions" "SIOOBE_FORMATTER" "Ljava/util/function/BiFunction;")) := by decide +kernel
theorem zfl_c9 : zFl[9]? = some (Cond.isRef (.static Bundle.tN "UNASSIGNED_STACK" Bundle.steD)) := by decide +kernel
theorem zfl_c10 : zFl[10]? = some (Cond.isRef (.static Bundle.tN "SUPPRESSED_SENTINEL" Bundle.listD)) := by decide +kernel
theorem zarrOf {s : State} {args : Array Value} {ty : FieldType} (hty : ∀ C, ty ≠ .object C) (h : (Cond.arrayClass ty).before args s = true) : ∃ cA : ClassId, ArrOfT s cA ty ∧ va_RA s cA ty := by
  obtain ⟨cA, kA, comp, h1, h2, h3⟩ := Cond.arrayClass_spec h
  refine ⟨cA, fun n z => ⟨fun k h => (by cases h), kA, h2, comp, h3⟩, ?_⟩
  cases ty <;> first | exact h1 | exact absurd rfl (hty _)
theorem zarrOver {s : State} {args : Array Value} {C : String} (h : (Cond.arrayOver (.object C)).before args s = true) : ∃ cA : ClassId, ArrOfT s cA (.object C) ∧ va_RA s cA (.object C) := by
  obtain ⟨comp, cA, kA, h1, h2, h3, h4, h5⟩ := Cond.arrayOver_spec h
  exact ⟨cA, fun n z => ⟨fun k h => (by cases h), kA, h3, comp, h4⟩, kA, comp, h3, h4, h1, h5⟩
theorem zk_26 : (Jvm.Cond.instantiable "SeenToMove" (14 : Nat)) ∈ zTT := zTT_in (List.mem_of_getElem? (i := 26) (by decide +kernel)) rfl
theorem zk_1305 : (Jvm.Cond.instantiable "SeenToMoveModel" (50 : Nat)) ∈ zTT := zTT_in (List.mem_of_getElem? (i := 1305) (by decide +kernel)) rfl
theorem z_ground {p : Program} {s : State} {m : MethodId} {meth : Method} {c : Code} {b L : Nat} {xs : Nat → Int32} (C0 : lw_At p s m meth c b L xs) : ∃ G : zG, G.2.2.2 = s.heap ∧ zOK G ∧ zB G p s m #[Value.ref b] meth c RL cL_law 7 (some .boolean) := by
  obtain ⟨hx, hb, hr, hml, hown, hts, hX, hbl, hlocks, hgv⟩ := C0
  have hz : ∀ w ∈ zTT, w.before #[Value.ref b] s = true := fun w hw => hts w (List.mem_filter.mp hw).1
  have ht1 : ∀ w ∈ tables_1, w.before #[Value.ref b] s = true := fun w hw => hts w (List.mem_append_right _ hw)
  have hfl : ∀ (i : Nat) (w : Cond), zFl[i]? = some w → w.before #[Value.ref b] s = true := fun i w hi => flat_of_before _ hgv w (List.mem_of_getElem? hi)
  have hA : ∀ a : Nat, a < s.heap.size → ¬ s.heap.size ≤ a := fun a h => Nat.not_le.mpr h
  obtain ⟨c0, i0, hKn0⟩ := u_known (C := RX0) (T := TX0) (N := 9) hz zin_X0 (hz _ zk_468)
  obtain ⟨c1, i1, hKn1⟩ := u_known (C := RX1) (T := TX1) (N := 6) hz zin_X1 (hz _ zk_345)
  obtain ⟨c2, i2, hKn2⟩ := u_known (C := RX2) (T := TX2) (N := 15) hz zin_X2 (hz _ zk_145)
  obtain ⟨c3, i3, hKn3⟩ := u_known (C := RX3) (T := TX3) (N := 6) hz zin_X3 (hz _ zk_314)
  obtain ⟨c4, i4, hKn4⟩ := u_known (C := RX4) (T := TX4) (N := 6) hz zin_X4 (hz _ zk_440)
  obtain ⟨c5, i5, hKn5⟩ := u_known (C := RX5) (T := TX5) (N := 4) hz zin_X5 (hz _ zk_412)
  obtain ⟨c6, i6, hKn6⟩ := u_known (C := RX6) (T := TX6) (N := 4) hz zin_X6 (hz _ zk_294)
  obtain ⟨c7, i7, hKn7⟩ := u_known (C := RX7) (T := TX7) (N := 4) hz zin_X7 (hz _ zk_371)
  obtain ⟨c8, i8, hKn8⟩ := u_known (C := RX8) (T := TX8) (N := 9) hz zin_X8 (hz _ zk_243)
  obtain ⟨c9, i9, hKn9⟩ := u_known (C := RX9) (T := TX9) (N := 12) hz zin_X9 (hz _ zk_34)
  obtain ⟨c10, i10, hKn10⟩ := u_known (C := RX10) (T := TX10) (N := 3) hz zin_X10 (hz _ zk_393)
  obtain ⟨c11, i11, hKn11⟩ := u_known (C := RX11) (T := TX11) (N := 14) hz zin_X11 (hz _ zk_26)
  obtain ⟨c12, i12, hKn12⟩ := u_known (C := RX12) (T := TX12) (N := 50) hz zin_X12 (hz _ zk_1305)
  obtain ⟨a0, hA0⟩ := zarrOf (ty := .int) (fun C h => by cases h) (ht1 _ zt_241)
  obtain ⟨a1, hA1⟩ := zarrOf (ty := .long) (fun C h => by cases h) (ht1 _ zt_143)
  obtain ⟨a2, hA2⟩ := zarrOf (ty := .byte) (fun C h => by cases h) (ht1 _ zt_142)
  obtain ⟨a3, hA3⟩ := zarrOf (ty := .boolean) (fun C h => by cases h) (ht1 _ zt_1498)
  obtain ⟨a4, hA4⟩ := zarrOver (C := "SeenToMove$State") (ht1 _ zt_399)
  obtain ⟨adK, adV, hSt, hTm⟩ := vk_Sof (args := #[Value.ref b]) (s := s) (N := 6) (tm := zTm) (len := zLen) (byt := zByt) (A := fun q => s.heap.size ≤ q)
    (fun i hi => Nat.lt_of_lt_of_le (zByt_ok i hi).2.1 (Nat.le_of_ble_eq_true rfl)) (fun i hi => hfl _ _ (zfl_ex i hi)) (fun i hi => hfl _ _ (zfl_co i hi)) (fun i hi => hfl _ _ (zfl_ar i hi)) (fun i hi => hfl _ _ (zfl_le i hi))
    (fun i hi j hj => hfl _ _ (zfl_el i hi j hj)) (fun i j hi hj hij => (zfl_ne i hi j hj hij).elim (fun h => Or.inl (hfl _ _ h)) (fun h => Or.inr (hfl _ _ h))) hA
  obtain ⟨dC, dI, hKc⟩ : ∃ (dC : Nat → ClassId) (dI : Nat → Nat → Nat), ∀ (k : Nat) (q : vw_C), vwCl[k]? = some q → u_Kn s q.1 q.2.1 q.2.2 (dC k) (dI k) := by
    refine ⟨fun k => match k with | 0 => c0 | 1 => c1 | 2 => c2 | 3 => c3 | 4 => c4 | 5 => c5 | 6 => c6 | 7 => c7 | 8 => c8 | 9 => c9 | 10 => c10 | 11 => c11 | _ => c12, fun k => match k with | 0 => i0 | 1 => i1 | 2 => i2 | 3 => i3 | 4 => i4 | 5 => i5 | 6 => i6 | 7 => i7 | 8 => i8 | 9 => i9 | 10 => i10 | 11 => i11 | _ => i12, ?_⟩
    intro k q hq
    match k, hq with
    | 0, hq => cases hq; exact hKn0
    | 1, hq => cases hq; exact hKn1
    | 2, hq => cases hq; exact hKn2
    | 3, hq => cases hq; exact hKn3
    | 4, hq => cases hq; exact hKn4
    | 5, hq => cases hq; exact hKn5
    | 6, hq => cases hq; exact hKn6
    | 7, hq => cases hq; exact hKn7
    | 8, hq => cases hq; exact hKn8
    | 9, hq => cases hq; exact hKn9
    | 10, hq => cases hq; exact hKn10
    | 11, hq => cases hq; exact hKn11
    | 12, hq => cases hq; exact hKn12
    | k + 13, hq => simp [vwCl] at hq
  obtain ⟨cA, hTy⟩ : ∃ cA : Nat → ClassId, ∀ (k : Nat) (q : ClassId × FieldType), ([(cA 0, .int), (cA 1, .long), (cA 2, .byte), (cA 3, .boolean), (cA 4, .object "SeenToMove$State")] : List (ClassId × FieldType))[k]? = some q → ArrOfT s q.1 q.2 ∧ va_RA s q.1 q.2 := by
    refine ⟨fun k => match k with | 0 => a0 | 1 => a1 | 2 => a2 | 3 => a3 | _ => a4, ?_⟩
    intro k q hq
    match k, hq with
    | 0, hq => cases hq; exact hA0
    | 1, hq => cases hq; exact hA1
    | 2, hq => cases hq; exact hA2
    | 3, hq => cases hq; exact hA3
    | 4, hq => cases hq; exact hA4
    | k + 5, hq => simp at hq
  let G0 : zG := ((dC, dI), cA, (adK, fun _ => True), s.heap)
  let G : zG := (G0.1, G0.2.1, (adK, fun V => zXp G0 adV V), s.heap)
  have hXs : zXp G0 adV s := by
    refine ⟨va_AO.of (ht1 _ zt_399), fun w hw => va_Nw.of (zfT hw) (ht1 w (List.mem_filter.mp hw).1), ?_, hSt, va_Zof (ht1 _ zt_49) (hz _ zk_3) (va_eqi (hfl _ _ zfl_c4)) hA, vx_Zqof (ht1 _ zt_1245) (hz _ zk_20) (hfl _ _ zfl_c9) hA, vx_Zqof (ht1 _ zt_1247) (hz _ zk_20) (hfl _ _ zfl_c10) hA, va_Zqof (ht1 _ zt_65) (hz _ zk_5) (hfl _ _ zfl_c5) hA⟩
    intro i q hq
    have hi : i < 6 := (List.getElem?_eq_some_iff.mp hq).1
    obtain ⟨q2, h1, h2⟩ := zsp_in i hi
    rw [hq] at h1
    cases h1
    have h3 := hTm i hi
    unfold zTm at h3
    rw [hq] at h3
    exact vk_R.of (ht1 _ (List.mem_of_getElem? h2)) h3
  have hXm : ∀ V : State, s.WarmedH V.vm → zXp G0 adV V := by
    intro V hW
    obtain ⟨h1, h2, h3, h4, h5, h6, h7, h8⟩ := hXs
    exact ⟨va_AO.moved hW.alike h1, fun w hw => va_tabs (zfT hw) (rfl : (s.setVm V.vm).vm = V.vm) (Cond.faceAtom_setVm hW.alike w (List.mem_filter.mp hw).2 (h2 w hw)), fun i q hq => vk_R.warm hW (h3 i q hq), vk_S.moved hW.alike h4, va_Z.moved hW.alike h5, vx_Zq.moved hW.alike h6, vx_Zq.moved hW.alike h7, va_Zq.moved hW.alike h8⟩
  refine ⟨G, rfl, ⟨adV, fun V h => h⟩, hx, hb, hml, hown, hz, ⟨⟨hKc, hTy⟩, ?_, hXm⟩, hr, hlocks⟩
  · intro w hw
    obtain ⟨a, i, x, bb, rfl⟩ := zNest_w hw
    exact va_Nw.of rfl (ht1 _ (List.mem_filter.mp hw).1)
