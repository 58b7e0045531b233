theorem zk_3 : (Jvm.Cond.initialized "java/lang/String") ∈ zTT := zTT_in (List.mem_of_getElem? (i := 3) (by decide +kernel)) rfl
theorem zk_4 : (Jvm.Cond.initialized "java/lang/StringLatin1") ∈ zTT := zTT_in (List.mem_of_getElem? (i := 4) (by decide +kernel)) rfl
theorem zk_5 : (Jvm.Cond.initialized "jdk/internal/util/Preconditions") ∈ zTT := zTT_in (List.mem_of_getElem? (i := 5) (by decide +kernel)) rfl
theorem zk_41 : (Jvm.Cond.instanceMethod ({ cls := "java/lang/String", name := "length", desc := "()I" } : Jvm.MethodName)) ∈ zTT := zTT_in (List.mem_of_getElem? (i := 41) (by decide +kernel)) rfl
theorem zk_42 : (Jvm.Cond.selects "java/lang/String" ({ cls := "java/lang/String", name := "length", desc := "()I" } : Jvm.MethodName) ({ cls := "java/lang/String", name := "length", desc := "()I" } : Jvm.MethodName)) ∈ zTT := zTT_in (List.mem_of_getElem? (i := 42) (by decide +kernel)) rfl
theorem zk_43 : (Jvm.Cond.code ({ cls := "java/lang/String", name := "length", desc := "()I" } : Jvm.MethodName) prog_22_method_54_code (1 : Nat) (Option.some Jvm.ClassFile.FieldType.int)) ∈ zTT := zTT_in (List.mem_of_getElem? (i := 43) (by decide +kernel)) rfl
theorem zk_44 : (Jvm.Cond.methodLink "java/lang/String" (335 : Nat) ({ cls := "java/lang/String", name := "coder", desc := "()B" } : Jvm.MethodName)) ∈ zTT := zTT_in (List.mem_of_getElem? (i := 44) (by decide +kernel)) rfl
theorem zk_45 : (Jvm.Cond.instanceMethod ({ cls := "java/lang/String", name := "coder", desc := "()B" } : Jvm.MethodName)) ∈ zTT := zTT_in (List.mem_of_getElem? (i := 45) (by decide +kernel)) rfl
theorem zk_46 : (Jvm.Cond.selects "java/lang/String" ({ cls := "java/lang/String", name := "coder", desc := "()B" } : Jvm.MethodName) ({ cls := "java/lang/String", name := "coder", desc := "()B" } : Jvm.MethodName)) ∈ zTT := zTT_in (List.mem_of_getElem? (i := 46) (by decide +kernel)) rfl
theorem zk_47 : (Jvm.Cond.code ({ cls := "java/lang/String", name := "coder", desc := "()B" } : Jvm.MethodName) prog_22_method_152_code (1 : Nat) (Option.some Jvm.ClassFile.FieldType.byte)) ∈ zTT := zTT_in (List.mem_of_getElem? (i := 47) (by decide +kernel)) rfl
theorem zk_48 : (Jvm.Cond.fieldLink "java/lang/String" (38 : Nat) "java/lang/String" "COMPACT_STRINGS" "Z") ∈ zTT := zTT_in (List.mem_of_getElem? (i := 48) (by decide +kernel)) rfl
theorem zk_51 : (Jvm.Cond.instanceMethod ({ cls := "java/lang/String", name := "charAt", desc := "(I)C" } : Jvm.MethodName)) ∈ zTT := zTT_in (List.mem_of_getElem? (i := 51) (by decide +kernel)) rfl
theorem zk_52 : (Jvm.Cond.selects "java/lang/String" ({ cls := "java/lang/String", name := "charAt", desc := "(I)C" } : Jvm.MethodName) ({ cls := "java/lang/String", name := "charAt", desc := "(I)C" } : Jvm.MethodName)) ∈ zTT := zTT_in (List.mem_of_getElem? (i := 52) (by decide +kernel)) rfl
theorem zk_53 : (Jvm.Cond.code ({ cls := "java/lang/String", name := "charAt", desc := "(I)C" } : Jvm.MethodName) prog_22_method_56_code (2 : Nat) (Option.some Jvm.ClassFile.FieldType.char)) ∈ zTT := zTT_in (List.mem_of_getElem? (i := 53) (by decide +kernel)) rfl
theorem zk_54 : (Jvm.Cond.methodLink "java/lang/String" (492 : Nat) ({ cls := "java/lang/String", name := "isLatin1", desc := "()Z" } : Jvm.MethodName)) ∈ zTT := zTT_in (List.mem_of_getElem? (i := 54) (by decide +kernel)) rfl
theorem zk_55 : (Jvm.Cond.instanceMethod ({ cls := "java/lang/String", name := "isLatin1", desc := "()Z" } : Jvm.MethodName)) ∈ zTT := zTT_in (List.mem_of_getElem? (i := 55) (by decide +kernel)) rfl
theorem zk_56 : (Jvm.Cond.selects "java/lang/String" ({ cls := "java/lang/String", name := "isLatin1", desc := "()Z" } : Jvm.MethodName) ({ cls := "java/lang/String", name := "isLatin1", desc := "()Z" } : Jvm.MethodName)) ∈ zTT := zTT_in (List.mem_of_getElem? (i := 56) (by decide +kernel)) rfl
theorem zk_57 : (Jvm.Cond.code ({ cls := "java/lang/String", name := "isLatin1", desc := "()Z" } : Jvm.MethodName) prog_22_method_154_code (1 : Nat) (Option.some Jvm.ClassFile.FieldType.boolean)) ∈ zTT := zTT_in (List.mem_of_getElem? (i := 57) (by decide +kernel)) rfl
theorem zk_58 : (Jvm.Cond.methodLink "java/lang/String" (495 : Nat) ({ cls := "java/lang/StringLatin1", name := "charAt", desc := "([BI)C" } : Jvm.MethodName)) ∈ zTT := zTT_in (List.mem_of_getElem? (i := 58) (by decide +kernel)) rfl
theorem zk_59 : (Jvm.Cond.static ({ cls := "java/lang/StringLatin1", name := "charAt", desc := "([BI)C" } : Jvm.MethodName)) ∈ zTT := zTT_in (List.mem_of_getElem? (i := 59) (by decide +kernel)) rfl
theorem zk_60 : (Jvm.Cond.code ({ cls := "java/lang/StringLatin1", name := "charAt", desc := "([BI)C" } : Jvm.MethodName) prog_23_method_2_code (2 : Nat) (Option.some Jvm.ClassFile.FieldType.char)) ∈ zTT := zTT_in (List.mem_of_getElem? (i := 60) (by decide +kernel)) rfl
theorem zk_61 : (Jvm.Cond.methodLink "java/lang/StringLatin1" (9 : Nat) ({ cls := "java/lang/String", name := "checkIndex", desc := "(II)V" } : Jvm.MethodName)) ∈ zTT := zTT_in (List.mem_of_getElem? (i := 61) (by decide +kernel)) rfl
theorem zk_62 : (Jvm.Cond.static ({ cls := "java/lang/String", name := "checkIndex", desc := "(II)V" } : Jvm.MethodName)) ∈ zTT := zTT_in (List.mem_of_getElem? (i := 62) (by decide +kernel)) rfl
theorem zk_63 : (Jvm.Cond.code ({ cls := "java/lang/String", name := "checkIndex", desc := "(II)V" } : Jvm.MethodName) prog_22_method_155_code (2 : Nat) (Option.none : Option Jvm.ClassFile.FieldType)) ∈ zTT := zTT_in (List.mem_of_getElem? (i := 63) (by decide +kernel)) rfl
theorem zk_64 : (Jvm.Cond.fieldLink "java/lang/String" (1053 : Nat) "jdk/internal/util/Preconditions" "SIOOBE_FORMATTER" "Ljava/util/function/BiFunction;") ∈ zTT := zTT_in (List.mem_of_getElem? (i := 64) (by decide +kernel)) rfl
theorem zk_66 : (Jvm.Cond.methodLink "java/lang/String" (1059 : Nat) ({ cls := "jdk/internal/util/Preconditions", name := "checkIndex", desc := "(IILjava/util/function/BiFunction;)I" } : Jvm.MethodName)) ∈ zTT := zTT_in (List.mem_of_getElem? (i := 66) (by decide +kernel)) rfl
theorem zk_67 : (Jvm.Cond.static ({ cls := "jdk/internal/util/Preconditions", name := "checkIndex", desc := "(IILjava/util/function/BiFunction;)I" } : Jvm.MethodName)) ∈ zTT := zTT_in (List.mem_of_getElem? (i := 67) (by decide +kernel)) rfl
theorem zk_68 : (Jvm.Cond.code ({ cls := "jdk/internal/util/Preconditions", name := "checkIndex", desc := "(IILjava/util/function/BiFunction;)I" } : Jvm.MethodName) prog_30_method_11_code (3 : Nat) (Option.some Jvm.ClassFile.FieldType.int)) ∈ zTT := zTT_in (List.mem_of_getElem? (i := 68) (by decide +kernel)) rfl
theorem zk_1994 : (Jvm.Cond.fieldLink "java/lang/String" (9 : Nat) "java/lang/String" "value" "[B") ∈ zTT := zTT_in (List.mem_of_getElem? (i := 1994) (by decide +kernel)) rfl
theorem zk_1995 : (Jvm.Cond.fieldLink "java/lang/String" (15 : Nat) "java/lang/String" "coder" "B") ∈ zTT := zTT_in (List.mem_of_getElem? (i := 1995) (by decide +kernel)) rfl
/-! String constants: what holds of the tables beside the words, and String's own methods at a constant -/
def zStrs : List (String × Nat × String) := [("SeenToMove", 139, "no such figure, or nothing of it by that number"), ("SeenToMove", 322, "no figures, or no such number of a fraction"), ("SeenToMove", 342, " at "), ("SeenToMove", 350, " to "), ("SeenToMove", 355, " seen"), ("SeenToMove$Tape", 19, "east south west north field hedge owner land figure looker turns walks shuts opens faces hour or and not seen stuck moved of by gone every number ")]
def zLen : List Nat := [47, 43, 4, 4, 5, 146]
def zByt : List (List Int32) := [[110, 111, 32, 115, 117, 99, 104, 32, 102, 105, 103, 117, 114, 101, 44, 32, 111, 114, 32, 110, 111, 116, 104, 105, 110, 103, 32, 111, 102, 32, 105, 116, 32, 98, 121, 32, 116, 104, 97, 116, 32, 110, 117, 109, 98, 101, 114], [110, 111, 32, 102, 105, 103, 117, 114, 101, 115, 44, 32, 111, 114, 32, 110, 111, 32, 115, 117, 99, 104, 32, 110, 117, 109, 98, 101, 114, 32, 111, 102, 32, 97, 32, 102, 114, 97, 99, 116, 105, 111, 110], [32, 97, 116, 32], [32, 116, 111, 32], [32, 115, 101, 101, 110], [101, 97, 115, 116, 32, 115, 111, 117, 116, 104, 32, 119, 101, 115, 116, 32, 110, 111, 114, 116, 104, 32, 102, 105, 101, 108, 100, 32, 104, 101, 100, 103, 101, 32, 111, 119, 110, 101, 114, 32, 108, 97, 110, 100, 32, 102, 105, 103, 117, 114, 101, 32, 108, 111, 111, 107, 101, 114, 32, 116, 117, 114, 110, 115, 32, 119, 97, 108, 107, 115, 32, 115, 104, 117, 116, 115, 32, 111, 112, 101, 110, 115, 32, 102, 97, 99, 101, 115, 32, 104, 111, 117, 114, 32, 111, 114, 32, 97, 110, 100, 32, 110, 111, 116, 32, 115, 101, 101, 110, 32, 115, 116, 117, 99, 107, 32, 109, 111, 118, 101, 100, 32, 111, 102, 32, 98, 121, 32, 103, 111, 110, 101, 32, 101, 118, 101, 114, 121, 32, 110, 117, 109, 98, 101, 114, 32]]
theorem zByt_ok : ∀ i, i < 6 → ((zByt.getD i []).length = zLen.getD i 0 ∧ zLen.getD i 0 < 1000 ∧ ∀ b ∈ zByt.getD i [], 0 < b ∧ b < 128) := by decide +kernel
/-- the face's words (castable, declares ..) -/
def zFaceW : List Cond := tables_1.filter Cond.faceAtom
/-- what else holds of the tables for a whole run -/
def zXp (G : zG) (adV : Nat → Nat) (V : State) : Prop :=
  va_AO "SeenToMove$State" V ∧ (∀ w ∈ zFaceW, va_Nw w V) ∧ (∀ (i : Nat) (q : String × Nat × String), zStrs[i]? = some q → vk_R q.1 q.2.1 q.2.2 (G.2.2.1.1 i) V) ∧
  vk_S 6 zLen zByt G.2.2.1.1 adV (zA G) V G.2.2.2 ∧
  va_Z "java/lang/String" "COMPACT_STRINGS" "Z" (.int 1) (zA G) V G.2.2.2 ∧
  vx_Zq Bundle.tN "UNASSIGNED_STACK" Bundle.steD (zA G) V G.2.2.2 ∧ vx_Zq Bundle.tN "SUPPRESSED_SENTINEL" Bundle.listD (zA G) V G.2.2.2 ∧
  va_Zq "jdk/internal/util/Preconditions" "SIOOBE_FORMATTER" "Ljava/util/function/BiFunction;" (zA G) V G.2.2.2
def zOK (G : zG) : Prop := ∃ adV : Nat → Nat, ∀ V : State, G.2.2.1.2 V → zXp G adV V
section ZST
variable {G : zG} {p : Program} {l : Launch} {e : Env} {R : Room} {s : State} {m : MethodId} {args : Array Value} {below : List Frame} {meth : Method} {c : Code} {H : Heap} {locs : List Loc} {cells slots : Nat} {Q : State → Prop} {own : String} {cc : ByteArray} {nL : Nat} {ret : Option FieldType} {n : Nat} {f f2 : zF} {pc : Nat} {ls : Array Slot} {rest : List Value}
theorem z_old (hS : zS G n f H locs) {a : Nat} (h1 : a < G.2.2.2.size) (h2 : ¬ zA G a) : H[a]? = G.2.2.2[a]? := hS.2.2.1 a h1 h2
theorem z_ldcS (B : zB G p s m args meth c own cc nL ret) (hG : zOK G) (i : Nat) {tx : String} {index : Nat} (hi : zStrs[i]? = some (own, index, tx)) (hdg : decode cc pc = .ok (.ldc index, 2))
    (k : W p l e R s m args below meth c H locs cells slots Q (F0 m (pc + 2) ls (zstr G i :: rest))) : W p l e R s m args below meth c H locs cells slots Q (F0 m pc ls rest) :=
  va_ldcS B.1 B.2.1 B.2.2.2.1 ((hG.choose_spec s B.x).2.2.1 i _ hi) hdg k
theorem z_gets (B : zB G p s m args meth c own cc nL ret) (hS : zS G n f H locs) {C nm d : String} {v : Value} {index : Nat} (hZ : va_Z C nm d v (zA G) s G.2.2.2) (hlk : Cond.fieldLink own index C nm d ∈ zTT) (hdg : decode cc pc = .ok (.getstatic index, 3))
    (kk : W p l e R s m args below meth c H locs cells slots Q (F0 m (pc + 3) ls (v :: rest))) : W p l e R s m args below meth c H locs cells slots Q (F0 m pc ls rest) := by
  obtain ⟨cf, kf, fi, fd, a, cell, h1, h2, h3, h4, h5, h6, h7, h8⟩ := hZ
  exact W.gets B.1 B.2.1 B.2.2.2.1 (B.2.2.2.2.1 _ hlk) h1 h2 h3 h4 (by rw [z_old hS (Array.getElem?_eq_some_iff.mp h5).1 h8]; exact h5) (fun e => by rw [e] at h6; cases h6) h7 rfl hdg kk
theorem z_getOF (B : zB G p s m args meth c own cc nL ret) (hS : zS G n f H locs) {o nm d : String} {v : Value} {q index : Nat} (hE : va_OF o nm d v q (zA G) s G.2.2.2) (hlk : Cond.fieldLink own index o nm d ∈ zTT) (hdg : decode cc pc = .ok (.getfield index, 3))
    (kk : W p l e R s m args below meth c H locs cells slots Q (F0 m (pc + 3) ls (v :: rest))) : W p l e R s m args below meth c H locs cells slots Q (F0 m pc ls (.ref q :: rest)) := by
  obtain ⟨cf, k, fi, fd, cell, h1, h2, h3, h4, h5, h6⟩ := hE
  exact W.getf B.1 B.2.1 B.2.2.2.1 (B.2.2.2.2.1 _ hlk) h1 h2 (by rw [z_old hS (Array.getElem?_eq_some_iff.mp h3).1 h6]; exact h3) h4 (v := v) h5 rfl rfl hdg kk
theorem z_tlen (B : zB G p s m args meth c own cc nL ret) (hS : zS G n f H locs) {ty : FieldType} {t N : Nat} {g : Nat → Value} (hT : va_T ty t N g (zA G) s G.2.2.2) (hdg : decode cc pc = .ok (.arraylength, 1))
    (kk : W p l e R s m args below meth c H locs cells slots Q (F0 m (pc + 1) ls (.int (Int32.ofNat N) :: rest))) : W p l e R s m args below meth c H locs cells slots Q (F0 m pc ls (.ref t :: rest)) := by
  obtain ⟨cell, h1, h2, h3, h4, h5, h6, h7⟩ := hT
  exact W.alen (n := Int32.ofNat N) B.1 B.2.1 (by rw [z_old hS (Array.getElem?_eq_some_iff.mp h1).1 h7]; exact h1) h2 h5 rfl rfl hdg kk
theorem z_tb (B : zB G p s m args meth c own cc nL ret) (hS : zS G n f H locs) {t N : Nat} {g : Nat → Value} (hT : va_T .byte t N g (zA G) s G.2.2.2) {i : Int32} (hin : vp_in i N) {v : Value} (hv : g i.toNatClampNeg = v) (hdg : decode cc pc = .ok (.baload, 1))
    (kk : W p l e R s m args below meth c H locs cells slots Q (F0 m (pc + 1) ls (v :: rest))) : W p l e R s m args below meth c H locs cells slots Q (F0 m pc ls (.int i :: .ref t :: rest)) := by
  obtain ⟨cell, h1, h2, h3, h4, h5, h6, h7⟩ := hT
  have hlt : i.toNatClampNeg < N := Nat.not_le.mp fun q => hin (Or.inr q)
  have hin' : ¬ (i < 0 ∨ cell.slots.size ≤ i.toNatClampNeg) := by
    intro q
    rcases q with q | q
    · exact hin (Or.inl q)
    · omega
  exact W.bald (v := v) B.1 B.2.1 (by rw [z_old hS (Array.getElem?_eq_some_iff.mp h1).1 h7]; exact h1) h2 h3 hin' (by rw [h6 _ hlt, hv]) rfl rfl hdg kk
theorem z_oRecv (hS : zS G n f H locs) {E : String} {t : Nat} (hO : va_O E t (zA G) s G.2.2.2) : ∃ cell : Cell, H[t]? = some cell ∧ cell.vm.isStatics = false ∧ s.vm.findClass E = some cell.cls := by
  obtain ⟨cell, h1, h2, h3, h4⟩ := hO
  exact ⟨cell, by rw [z_old hS (Array.getElem?_eq_some_iff.mp h1).1 h4]; exact h1, h2, h3⟩
/-- a call by a reference to something outside of the picture -/
theorem zq_callR (B : zB G p s m args meth c own cc nL ret) (hS : zS G n f H locs) {y : MethodName} {C : String} {idx a maxL np d : Nat} {bytes : ByteArray} {ret2 : Option FieldType} {ro : Option Value} {As st : List Value} {lv : List (Nat × Value)}
    (hM : zM l G y bytes maxL ret2 d n f (.ref a :: As) ro f2) (hY : zYV y C bytes maxL ret2 np) (hlk : Cond.methodLink own idx y ∈ zTT) (hd : d + 1 ≤ R.frames ∧ 64 * (d + 1) ≤ R.locals) (hr : ∃ cell : Cell, H[a]? = some cell ∧ cell.vm.isStatics = false ∧ s.vm.findClass C = some cell.cls) (hn : As.length = np) (hl : lv_has ls nL lv) (hst : st = As.reverse ++ .ref a :: rest) (hW : (rest.map fun v => v.category).sum ≤ 8) (hdg : decode cc pc = .ok (.invokevirtual idx, 3))
    (hcs : cells ≤ R.cells ∧ slots ≤ R.slots)
    (kk : ∀ H1 locs1, zS G n f2 H1 locs1 → W p l e R s m args below meth c H1 locs1 cells slots Q (F0 m (pc + 3) ls (ro.toList ++ rest))) : W p l e R s m args below meth c H locs cells slots Q (F0 m pc ls st) := by
  subst hst
  obtain ⟨y1, y2, y3, y4, y5, y6⟩ := hY
  have hG : GoodIn zTT (wsV own idx C y (zws y bytes maxL ret2)) := zTT_good (by
    intro w hw
    simp only [wsV, zws, List.mem_append, List.mem_cons, List.not_mem_nil, or_false] at hw
    rcases hw with (rfl | rfl | rfl | rfl) | rfl | hw
    · exact hlk
    · exact y2
    · exact y3
    · exact y4
    · exact y1
    · exact hw)
  refine zq_back hS (va_runV (As := As) (rest := rest) (own := own) (Ts := zTT) ⟨B.1, B.2.1, B.2.2.1, B.2.2.2.1, B.2.2.2.2.1⟩ hM (cwV np B.2.2.2.2.1 hG rfl rfl rfl y5 ⟨hd.1, ?_⟩) ⟨zPc_blind, hr, fun U hU hW2 => ⟨rfl, by rw [hU]; exact hS.drop, zC_up B hW2⟩⟩ rfl hn hl.1 rfl (lv_room hW) hdg ⟨hcs.1, hcs.2⟩) kk
  show 8 + (maxL + 11) + 64 * d ≤ R.locals
  omega
theorem z_bret (B : zB G p s m args meth c own cc nL (some .byte)) (hS : zS G n f H locs) (hdg : decode cc pc = .ok (.ireturn, 1)) : W p l e R s m args below meth c H locs cells slots (MQ below (zQc G n f (some (.int 0))) args s cells slots (zA G)) (F0 m pc ls [.int 0]) :=
  W.zret B.1 B.2.1 B.2.2.2.2.2.2.1 rfl (fun t ht _ => ⟨rfl, by rw [ht]; exact hS.drop⟩) hS.2.2.2 hdg B.2.2.2.2.2.2.2
theorem z_cret (B : zB G p s m args meth c own cc nL (some .char)) (hS : zS G n f H locs) {x : Int32} (hx : narrow .char (.int x) = .int x) (hdg : decode cc pc = .ok (.ireturn, 1)) : W p l e R s m args below meth c H locs cells slots (MQ below (zQc G n f (some (.int x))) args s cells slots (zA G)) (F0 m pc ls [.int x]) :=
  W.zret B.1 B.2.1 B.2.2.2.2.2.2.1 hx (fun t ht _ => ⟨rfl, by rw [ht]; exact hS.drop⟩) hS.2.2.2 hdg B.2.2.2.2.2.2.2
end ZST
theorem dJ0_coder_7d493_0 : decode cJ0_coder_7d493 0 = .ok (.getstatic 38, 3) := by decide +kernel
theorem dJ0_coder_7d493_3 : decode cJ0_coder_7d493 3 = .ok (.ifCond .eq 10, 3) := by decide +kernel
theorem dJ0_coder_7d493_6 : decode cJ0_coder_7d493 6 = .ok (.aload_n 0, 1) := by decide +kernel
theorem dJ0_coder_7d493_7 : decode cJ0_coder_7d493 7 = .ok (.getfield 15, 3) := by decide +kernel
theorem dJ0_coder_7d493_10 : decode cJ0_coder_7d493 10 = .ok (.goto 4, 3) := by decide +kernel
theorem dJ0_coder_7d493_13 : decode cJ0_coder_7d493 13 = .ok (.iconst 1, 1) := by decide +kernel
theorem dJ0_coder_7d493_14 : decode cJ0_coder_7d493 14 = .ok (.ireturn, 1) := by decide +kernel
theorem dJ0_length_8abf5_0 : decode cJ0_length_8abf5 0 = .ok (.aload_n 0, 1) := by decide +kernel
theorem dJ0_length_8abf5_1 : decode cJ0_length_8abf5 1 = .ok (.getfield 9, 3) := by decide +kernel
theorem dJ0_length_8abf5_4 : decode cJ0_length_8abf5 4 = .ok (.arraylength, 1) := by decide +kernel
theorem dJ0_length_8abf5_5 : decode cJ0_length_8abf5 5 = .ok (.aload_n 0, 1) := by decide +kernel
theorem dJ0_length_8abf5_6 : decode cJ0_length_8abf5 6 = .ok (.invokevirtual 335, 3) := by decide +kernel
theorem dJ0_length_8abf5_9 : decode cJ0_length_8abf5 9 = .ok (.ishr, 1) := by decide +kernel
theorem dJ0_length_8abf5_10 : decode cJ0_length_8abf5 10 = .ok (.ireturn, 1) := by decide +kernel
theorem dJ0_isLatin1_aae02_0 : decode cJ0_isLatin1_aae02 0 = .ok (.getstatic 38, 3) := by decide +kernel
theorem dJ0_isLatin1_aae02_3 : decode cJ0_isLatin1_aae02 3 = .ok (.ifCond .eq 14, 3) := by decide +kernel
theorem dJ0_isLatin1_aae02_6 : decode cJ0_isLatin1_aae02 6 = .ok (.aload_n 0, 1) := by decide +kernel
theorem dJ0_isLatin1_aae02_7 : decode cJ0_isLatin1_aae02 7 = .ok (.getfield 15, 3) := by decide +kernel
theorem dJ0_isLatin1_aae02_10 : decode cJ0_isLatin1_aae02 10 = .ok (.ifCond .ne 7, 3) := by decide +kernel
theorem dJ0_isLatin1_aae02_13 : decode cJ0_isLatin1_aae02 13 = .ok (.iconst 1, 1) := by decide +kernel
theorem dJ0_isLatin1_aae02_14 : decode cJ0_isLatin1_aae02 14 = .ok (.goto 4, 3) := by decide +kernel
theorem dJ0_isLatin1_aae02_17 : decode cJ0_isLatin1_aae02 17 = .ok (.iconst 0, 1) := by decide +kernel
theorem dJ0_isLatin1_aae02_18 : decode cJ0_isLatin1_aae02 18 = .ok (.ireturn, 1) := by decide +kernel
theorem dJ0_charAt_5068e_0 : decode cJ0_charAt_5068e 0 = .ok (.aload_n 0, 1) := by decide +kernel
theorem dJ0_charAt_5068e_1 : decode cJ0_charAt_5068e 1 = .ok (.invokevirtual 492, 3) := by decide +kernel
theorem dJ0_charAt_5068e_4 : decode cJ0_charAt_5068e 4 = .ok (.ifCond .eq 12, 3) := by decide +kernel
theorem dJ0_charAt_5068e_7 : decode cJ0_charAt_5068e 7 = .ok (.aload_n 0, 1) := by decide +kernel
theorem dJ0_charAt_5068e_8 : decode cJ0_charAt_5068e 8 = .ok (.getfield 9, 3) := by decide +kernel
theorem dJ0_charAt_5068e_11 : decode cJ0_charAt_5068e 11 = .ok (.iload_n 1, 1) := by decide +kernel
theorem dJ0_charAt_5068e_12 : decode cJ0_charAt_5068e 12 = .ok (.invokestatic 495, 3) := by decide +kernel
theorem dJ0_charAt_5068e_15 : decode cJ0_charAt_5068e 15 = .ok (.ireturn, 1) := by decide +kernel
theorem dJ0_charAt_5068e_16 : decode cJ0_charAt_5068e 16 = .ok (.aload_n 0, 1) := by decide +kernel
theorem dJ0_charAt_5068e_17 : decode cJ0_charAt_5068e 17 = .ok (.getfield 9, 3) := by decide +kernel
theorem dJ0_charAt_5068e_20 : decode cJ0_charAt_5068e 20 = .ok (.iload_n 1, 1) := by decide +kernel
theorem dJ0_charAt_5068e_21 : decode cJ0_charAt_5068e 21 = .ok (.invokestatic 498, 3) := by decide +kernel
theorem dJ0_charAt_5068e_24 : decode cJ0_charAt_5068e 24 = .ok (.ireturn, 1) := by decide +kernel
theorem dJ0_checkIndex_df160_0 : decode cJ0_checkIndex_df160 0 = .ok (.iload_n 0, 1) := by decide +kernel
theorem dJ0_checkIndex_df160_1 : decode cJ0_checkIndex_df160 1 = .ok (.iload_n 1, 1) := by decide +kernel
theorem dJ0_checkIndex_df160_2 : decode cJ0_checkIndex_df160 2 = .ok (.getstatic 1053, 3) := by decide +kernel
theorem dJ0_checkIndex_df160_5 : decode cJ0_checkIndex_df160 5 = .ok (.invokestatic 1059, 3) := by decide +kernel
theorem dJ0_checkIndex_df160_8 : decode cJ0_checkIndex_df160 8 = .ok (.pop, 1) := by decide +kernel
theorem dJ0_checkIndex_df160_9 : decode cJ0_checkIndex_df160 9 = .ok (.return_, 1) := by decide +kernel
theorem dJ1_charAt_3b067_0 : decode cJ1_charAt_3b067 0 = .ok (.iload_n 1, 1) := by decide +kernel
theorem dJ1_charAt_3b067_1 : decode cJ1_charAt_3b067 1 = .ok (.aload_n 0, 1) := by decide +kernel
theorem dJ1_charAt_3b067_2 : decode cJ1_charAt_3b067 2 = .ok (.arraylength, 1) := by decide +kernel
theorem dJ1_charAt_3b067_3 : decode cJ1_charAt_3b067 3 = .ok (.invokestatic 9, 3) := by decide +kernel
theorem dJ1_charAt_3b067_6 : decode cJ1_charAt_3b067 6 = .ok (.aload_n 0, 1) := by decide +kernel
theorem dJ1_charAt_3b067_7 : decode cJ1_charAt_3b067 7 = .ok (.iload_n 1, 1) := by decide +kernel
theorem dJ1_charAt_3b067_8 : decode cJ1_charAt_3b067 8 = .ok (.baload, 1) := by decide +kernel
theorem dJ1_charAt_3b067_9 : decode cJ1_charAt_3b067 9 = .ok (.sipush 255, 3) := by decide +kernel
theorem dJ1_charAt_3b067_12 : decode cJ1_charAt_3b067 12 = .ok (.iand, 1) := by decide +kernel
theorem dJ1_charAt_3b067_13 : decode cJ1_charAt_3b067 13 = .ok (.i2c, 1) := by decide +kernel
theorem dJ1_charAt_3b067_14 : decode cJ1_charAt_3b067 14 = .ok (.ireturn, 1) := by decide +kernel
theorem dJ3_checkIndex_8e157_0 : decode cJ3_checkIndex_8e157 0 = .ok (.iload_n 0, 1) := by decide +kernel
theorem dJ3_checkIndex_8e157_1 : decode cJ3_checkIndex_8e157 1 = .ok (.ifCond .lt 8, 3) := by decide +kernel
theorem dJ3_checkIndex_8e157_4 : decode cJ3_checkIndex_8e157 4 = .ok (.iload_n 0, 1) := by decide +kernel
theorem dJ3_checkIndex_8e157_5 : decode cJ3_checkIndex_8e157 5 = .ok (.iload_n 1, 1) := by decide +kernel
theorem dJ3_checkIndex_8e157_6 : decode cJ3_checkIndex_8e157 6 = .ok (.if_icmp .lt 10, 3) := by decide +kernel
theorem dJ3_checkIndex_8e157_9 : decode cJ3_checkIndex_8e157 9 = .ok (.aload_n 2, 1) := by decide +kernel
theorem dJ3_checkIndex_8e157_10 : decode cJ3_checkIndex_8e157 10 = .ok (.iload_n 0, 1) := by decide +kernel
theorem dJ3_checkIndex_8e157_11 : decode cJ3_checkIndex_8e157 11 = .ok (.iload_n 1, 1) := by decide +kernel
theorem dJ3_checkIndex_8e157_12 : decode cJ3_checkIndex_8e157 12 = .ok (.invokestatic 95, 3) := by decide +kernel
theorem dJ3_checkIndex_8e157_15 : decode cJ3_checkIndex_8e157 15 = .ok (.athrow, 1) := by decide +kernel
theorem dJ3_checkIndex_8e157_16 : decode cJ3_checkIndex_8e157 16 = .ok (.iload_n 0, 1) := by decide +kernel
theorem dJ3_checkIndex_8e157_17 : decode cJ3_checkIndex_8e157 17 = .ok (.ireturn, 1) := by decide +kernel
theorem zy_coder : zYV yJ0_coder_7d493 RJ0 cJ0_coder_7d493 1 (some .byte) 0 := ⟨zk_47, zk_45, zk_46, zk_3, ⟨rfl, by decide +kernel, by decide +kernel, by decide +kernel⟩, by decide⟩
theorem zy_length : zYV yJ0_length_8abf5 RJ0 cJ0_length_8abf5 1 (some .int) 0 := ⟨zk_43, zk_41, zk_42, zk_3, ⟨rfl, by decide +kernel, by decide +kernel, by decide +kernel⟩, by decide⟩
theorem zy_isLatin1 : zYV yJ0_isLatin1_aae02 RJ0 cJ0_isLatin1_aae02 1 (some .boolean) 0 := ⟨zk_57, zk_55, zk_56, zk_3, ⟨rfl, by decide +kernel, by decide +kernel, by decide +kernel⟩, by decide⟩
theorem zy_charAt : zYV yJ0_charAt_5068e RJ0 cJ0_charAt_5068e 2 (some .char) 1 := ⟨zk_53, zk_51, zk_52, zk_3, ⟨rfl, by decide +kernel, by decide +kernel, by decide +kernel⟩, by decide⟩
theorem zy_checkIndexS : zYS yJ0_checkIndex_df160 RJ0 cJ0_checkIndex_df160 2 none 2 := ⟨zk_63, zk_62, zk_3, ⟨rfl, by decide +kernel, by decide +kernel, by decide +kernel⟩, by decide⟩
theorem zy_checkIndexP : zYS yJ3_checkIndex_8e157 RJ3 cJ3_checkIndex_8e157 3 (some .int) 3 := ⟨zk_68, zk_67, zk_5, ⟨rfl, by decide +kernel, by decide +kernel, by decide +kernel⟩, by decide⟩
theorem zy_charAtL : zYS yJ1_charAt_3b067 RJ1 cJ1_charAt_3b067 2 (some .char) 2 := ⟨zk_60, zk_59, zk_4, ⟨rfl, by decide +kernel, by decide +kernel, by decide +kernel⟩, by decide⟩
set_option maxRecDepth 100000 in
set_option maxHeartbeats 4000000 in
theorem m_coder (l : Launch) (G : zG) (hG : zOK G) {n : Nat} {f : zF} {i : Nat} (hi : i < 6) : zM l G yJ0_coder_7d493 cJ0_coder_7d493 1 (some .byte) 0 n f [zstr G i] (some (.int 0)) f := by
  refine zM.of (by decide) (Nat.le_of_ble_eq_true rfl) ?_
  intro p e s m args below meth c locs ls B hS hl
  have he := B.1
  have hb := B.2.1
  have hl : lv_has ls 1 [(0, zstr G i)] := hl
  generalize s.heap = H at hS ⊢
  obtain ⟨adV, hX⟩ := id hG
  obtain ⟨-, -, -, ⟨hE, -⟩, hZ, -⟩ := hX s B.x
  refine z_gets B hS hZ zk_48 dJ0_coder_7d493_0 ?_
  refine lv_if_eq (tgt := 13) he hb dJ0_coder_7d493_3 (by decide) (fun hc => absurd hc (by decide)) (fun hc => ?_)
  refine z_aload_n he hb dJ0_coder_7d493_6 rfl (lv_at hl 0 rfl) (zref_s _ _) ?_
  refine z_getOF B hS (hE i hi).2.1 zk_1995 dJ0_coder_7d493_7 ?_
  refine lv_goto (tgt := 14) he hb dJ0_coder_7d493_10 (by decide) ?_
  exact z_bret B hS dJ0_coder_7d493_14
/-- the length of a constant -/
def zslen (i : Nat) : Option Int32 := if i < 6 then some (Int32.ofNat (zLen.getD i 0)) else none
theorem zLen_shr : ∀ i, i < 6 → Int32.ofNat (zLen.getD i 0) >>> ((0 : Int32) &&& 31) = Int32.ofNat (zLen.getD i 0) := by decide +kernel
set_option maxRecDepth 100000 in
set_option maxHeartbeats 4000000 in
theorem m_length (l : Launch) (G : zG) (hG : zOK G) {n : Nat} {f : zF} {i : Nat} {x : Int32} (hx : zslen i = some x) : zM l G yJ0_length_8abf5 cJ0_length_8abf5 1 (some .int) 1 n f [zstr G i] (some (.int x)) f := by
  unfold zslen at hx
  split at hx
  · rename_i hi
    cases hx
    refine zM.of (by decide) (Nat.le_of_ble_eq_true rfl) ?_
    intro p e s m args below meth c locs ls B hS hl
    have he := B.1
    have hb := B.2.1
    have hl : lv_has ls 1 [(0, zstr G i)] := hl
    generalize s.heap = H at hS ⊢
    obtain ⟨adV, hX⟩ := id hG
    obtain ⟨-, -, -, ⟨hE, -⟩, hZ, -⟩ := hX s B.x
    refine z_aload_n he hb dJ0_length_8abf5_0 rfl (lv_at hl 0 rfl) (zref_s _ _) ?_
    refine z_getOF B hS (hE i hi).2.2.1 zk_1994 dJ0_length_8abf5_1 ?_
    refine z_tlen B hS (hE i hi).2.2.2 dJ0_length_8abf5_4 ?_
    refine z_aload_n he hb dJ0_length_8abf5_5 rfl (lv_at hl 0 rfl) (zref_s _ _) ?_
    refine zq_callR (rest := [_]) B hS (m_coder l G hG hi) zy_coder zk_44 ⟨by decide, by decide⟩ (z_oRecv hS (hE i hi).1) rfl hl rfl (Nat.le_of_ble_eq_true rfl) dJ0_length_8abf5_6 ⟨by decide, by decide⟩ (fun H locs hS => ?_)
    refine lv_ishr he hb dJ0_length_8abf5_9 ?_
    rw [zLen_shr i hi]
    exact z_iret B hS dJ0_length_8abf5_10
  · cases hx
set_option maxRecDepth 100000 in
set_option maxHeartbeats 4000000 in
theorem m_isLatin1 (l : Launch) (G : zG) (hG : zOK G) {n : Nat} {f : zF} {i : Nat} (hi : i < 6) : zM l G yJ0_isLatin1_aae02 cJ0_isLatin1_aae02 1 (some .boolean) 0 n f [zstr G i] (some (.int 1)) f := by
  refine zM.of (by decide) (Nat.le_of_ble_eq_true rfl) ?_
  intro p e s m args below meth c locs ls B hS hl
  have he := B.1
  have hb := B.2.1
  have hl : lv_has ls 1 [(0, zstr G i)] := hl
  generalize s.heap = H at hS ⊢
  obtain ⟨adV, hX⟩ := id hG
  obtain ⟨-, -, -, ⟨hE, -⟩, hZ, -⟩ := hX s B.x
  refine z_gets B hS hZ zk_48 dJ0_isLatin1_aae02_0 ?_
  refine lv_if_eq (tgt := 17) he hb dJ0_isLatin1_aae02_3 (by decide) (fun hc => absurd hc (by decide)) (fun hc => ?_)
  refine z_aload_n he hb dJ0_isLatin1_aae02_6 rfl (lv_at hl 0 rfl) (zref_s _ _) ?_
  refine z_getOF B hS (hE i hi).2.1 zk_1995 dJ0_isLatin1_aae02_7 ?_
  refine lv_if_ne (tgt := 17) he hb dJ0_isLatin1_aae02_10 (by decide) (fun hc => absurd rfl hc) (fun hc => ?_)
  refine lv_iconst (v := 1) he hb dJ0_isLatin1_aae02_13 (by decide) ?_
  refine lv_goto (tgt := 18) he hb dJ0_isLatin1_aae02_14 (by decide) ?_
  exact z_zret B hS (Or.inr rfl) dJ0_isLatin1_aae02_18
set_option maxRecDepth 100000 in
set_option maxHeartbeats 4000000 in
theorem m_checkIndexP (l : Launch) (G : zG) {n : Nat} {f : zF} {k N : Int32} {v : Value} (h0 : ¬ k < 0) (h1 : k < N) (hv : zref v) : zM l G yJ3_checkIndex_8e157 cJ3_checkIndex_8e157 3 (some .int) 0 n f [.int k, .int N, v] (some (.int k)) f := by
  refine zM.of (by decide) ?_ ?_
  · rcases hv with rfl | ⟨a, rfl⟩ <;> exact Nat.le_of_ble_eq_true rfl
  intro p e s m args below meth c locs ls B hS hl
  have he := B.1
  have hb := B.2.1
  have hl : lv_has ls 3 [(0, .int k), (1, .int N), (2, v)] := hl
  generalize s.heap = H at hS ⊢
  refine lv_iload_n he hb dJ3_checkIndex_8e157_0 rfl (lv_at hl 0 rfl) ?_
  refine lv_if_lt (tgt := 9) he hb dJ3_checkIndex_8e157_1 (by decide) (fun hc => absurd hc h0) (fun hc => ?_)
  refine lv_iload_n he hb dJ3_checkIndex_8e157_4 rfl (lv_at hl 0 rfl) ?_
  refine lv_iload_n he hb dJ3_checkIndex_8e157_5 rfl (lv_at hl 1 rfl) ?_
  refine lv_icmp_lt (tgt := 16) he hb dJ3_checkIndex_8e157_6 (by decide) (fun hc => ?_) (fun hc => absurd h1 hc)
  refine lv_iload_n he hb dJ3_checkIndex_8e157_16 rfl (lv_at hl 0 rfl) ?_
  exact z_iret B hS dJ3_checkIndex_8e157_17
set_option maxRecDepth 100000 in
set_option maxHeartbeats 4000000 in
theorem m_checkIndexS (l : Launch) (G : zG) (hG : zOK G) {n : Nat} {f : zF} {k N : Int32} (h0 : ¬ k < 0) (h1 : k < N) : zM l G yJ0_checkIndex_df160 cJ0_checkIndex_df160 2 none 1 n f [.int k, .int N] none f := by
  refine zM.of (by decide) (Nat.le_of_ble_eq_true rfl) ?_
  intro p e s m args below meth c locs ls B hS hl
  have he := B.1
  have hb := B.2.1
  have hl : lv_has ls 2 [(0, .int k), (1, .int N)] := hl
  generalize s.heap = H at hS ⊢
  obtain ⟨adV, hX⟩ := id hG
  obtain ⟨-, -, -, -, -, -, -, hZq⟩ := hX s B.x
  refine lv_iload_n he hb dJ0_checkIndex_df160_0 rfl (lv_at hl 0 rfl) ?_
  refine lv_iload_n he hb dJ0_checkIndex_df160_1 rfl (lv_at hl 1 rfl) ?_
  have main : ∀ v : Value, zref v → W p l e (zrm 1) s m args below meth c H locs 0 0 (MQ below (zQc G n f none) args s 0 0 (zA G)) (F0 m 5 ls [v, .int N, .int k]) := by
    intro v hv
    refine z_callT (rest := []) B hS (m_checkIndexP l G h0 h1 hv) zy_checkIndexP zk_66 (by decide) rfl hl rfl (Nat.le_of_ble_eq_true rfl) dJ0_checkIndex_df160_5 (kk := (fun H locs hS => ?_))
    refine lv_pop he hb dJ0_checkIndex_df160_8 rfl ?_
    exact z_vret B hS dJ0_checkIndex_df160_9
  rcases hZq with hZ | ⟨t, hZ⟩
  · exact z_gets B hS hZ zk_64 dJ0_checkIndex_df160_2 (main _ (Or.inl rfl))
  · exact z_gets B hS hZ zk_64 dJ0_checkIndex_df160_2 (main _ (Or.inr ⟨t, rfl⟩))
/-- a constant's sign -/
def zschar (i : Nat) (k : Int32) : Option Int32 := if i < 6 ∧ ¬ k < 0 ∧ k < Int32.ofNat (zLen.getD i 0) then some ((zByt.getD i []).getD k.toNatClampNeg 0) else none
theorem zByt_c : ∀ i, i < 6 → ∀ j, j < 200 → ((((zByt.getD i []).getD j 0) &&& 255).toUInt32 % 65536).toInt32 = (zByt.getD i []).getD j 0 ∧ narrow .char (.int ((zByt.getD i []).getD j 0)) = .int ((zByt.getD i []).getD j 0) := by decide +kernel
theorem zLen_200 : ∀ i, i < 6 → zLen.getD i 0 < 200 := by decide
theorem zk_clamp {k : Int32} {N : Nat} (hN : N < 200) (h0 : ¬ k < 0) (h1 : k < Int32.ofNat N) : k.toNatClampNeg < N := by
  obtain ⟨j, hj, rfl⟩ := nI_of h0
  rw [nI_clamp hj]
  exact (nI_ltI hj (by omega)).mp h1
set_option maxRecDepth 100000 in
set_option maxHeartbeats 4000000 in
theorem m_charAtL (l : Launch) (G : zG) (hG : zOK G) {n : Nat} {f : zF} {i t : Nat} {k : Int32} (hi : i < 6) (hT : ∀ V : State, G.2.2.1.2 V → va_T .byte t (zLen.getD i 0) (fun j => .int ((zByt.getD i []).getD j 0)) (zA G) V G.2.2.2) (h0 : ¬ k < 0) (h1 : k < Int32.ofNat (zLen.getD i 0)) : zM l G yJ1_charAt_3b067 cJ1_charAt_3b067 2 (some .char) 2 n f [.ref t, .int k] (some (.int ((zByt.getD i []).getD k.toNatClampNeg 0))) f := by
  refine zM.of (by decide) (Nat.le_of_ble_eq_true rfl) ?_
  intro p e s m args below meth c locs ls B hS hl
  have he := B.1
  have hb := B.2.1
  have hl : lv_has ls 2 [(0, .ref t), (1, .int k)] := hl
  generalize s.heap = H at hS ⊢
  have hlt := zk_clamp (zLen_200 i hi) h0 h1
  have hT1 := hT s B.x
  refine lv_iload_n he hb dJ1_charAt_3b067_0 rfl (lv_at hl 1 rfl) ?_
  refine lv_aload_n he hb dJ1_charAt_3b067_1 rfl (lv_at hl 0 rfl) ?_
  refine z_tlen B hS hT1 dJ1_charAt_3b067_2 ?_
  refine z_callT (rest := []) B hS (m_checkIndexS l G hG h0 h1) zy_checkIndexS zk_61 (by decide) rfl hl rfl (Nat.le_of_ble_eq_true rfl) dJ1_charAt_3b067_3 (kk := (fun H locs hS => ?_))
  refine lv_aload_n he hb dJ1_charAt_3b067_6 rfl (lv_at hl 0 rfl) ?_
  refine lv_iload_n he hb dJ1_charAt_3b067_7 rfl (lv_at hl 1 rfl) ?_
  refine z_tb B hS hT1 (zin_i ⟨h0, hlt⟩) (v := .int ((zByt.getD i []).getD k.toNatClampNeg 0)) rfl dJ1_charAt_3b067_8 ?_
  refine lv_sipush (v := 255) he hb dJ1_charAt_3b067_9 (by decide) ?_
  refine lv_iand he hb dJ1_charAt_3b067_12 ?_
  have h2 := zByt_c i hi k.toNatClampNeg (by have := zLen_200 i hi; omega)
  refine lv_i2c (v := (zByt.getD i []).getD k.toNatClampNeg 0) he hb dJ1_charAt_3b067_13 h2.1 ?_
  exact z_cret B hS h2.2 dJ1_charAt_3b067_14
set_option maxRecDepth 100000 in
set_option maxHeartbeats 4000000 in
theorem m_charAt (l : Launch) (G : zG) (hG : zOK G) {n : Nat} {f : zF} {i : Nat} {k x : Int32} (hx : zschar i k = some x) : zM l G yJ0_charAt_5068e cJ0_charAt_5068e 2 (some .char) 3 n f [zstr G i, .int k] (some (.int x)) f := by
  unfold zschar at hx
  split at hx
  · rename_i hh
    obtain ⟨hi, h0, h1⟩ := hh
    cases hx
    refine zM.of (by decide) (Nat.le_of_ble_eq_true rfl) ?_
    intro p e s m args below meth c locs ls B hS hl
    have he := B.1
    have hb := B.2.1
    have hl : lv_has ls 2 [(0, zstr G i), (1, .int k)] := hl
    generalize s.heap = H at hS ⊢
    obtain ⟨adV, hX⟩ := id hG
    obtain ⟨-, -, -, ⟨hE, -⟩, hZ, -⟩ := hX s B.x
    refine z_aload_n he hb dJ0_charAt_5068e_0 rfl (lv_at hl 0 rfl) (zref_s _ _) ?_
    refine zq_callR (rest := []) B hS (m_isLatin1 l G hG hi) zy_isLatin1 zk_54 ⟨by decide, by decide⟩ (z_oRecv hS (hE i hi).1) rfl hl rfl (Nat.le_of_ble_eq_true rfl) dJ0_charAt_5068e_1 ⟨by decide, by decide⟩ (fun H locs hS => ?_)
    refine lv_if_eq (tgt := 16) he hb dJ0_charAt_5068e_4 (by decide) (fun hc => absurd hc (by decide)) (fun hc => ?_)
    refine z_aload_n he hb dJ0_charAt_5068e_7 rfl (lv_at hl 0 rfl) (zref_s _ _) ?_
    refine z_getOF B hS (hE i hi).2.2.1 zk_1994 dJ0_charAt_5068e_8 ?_
    refine lv_iload_n he hb dJ0_charAt_5068e_11 rfl (lv_at hl 1 rfl) ?_
    refine z_callT (rest := []) B hS (m_charAtL l G hG (t := adV i) hi (fun V hV => ((hX V hV).2.2.2.1.1 i hi).2.2.2) h0 h1) zy_charAtL zk_58 (by decide) rfl hl rfl (Nat.le_of_ble_eq_true rfl) dJ0_charAt_5068e_12 (kk := (fun H locs hS => ?_))
    exact z_cret B hS (zByt_c i hi k.toNatClampNeg (by have := zLen_200 i hi; have := zk_clamp this h0 h1; omega)).2 dJ0_charAt_5068e_15
  · cases hx
section ZSR
variable {G : zG} {p : Program} {l : Launch} {e : Env} {R : Room} {s : State} {m : MethodId} {args : Array Value} {below : List Frame} {meth : Method} {c : Code} {H : Heap} {locs : List Loc} {cells slots : Nat} {Q : State → Prop} {own : String} {cc : ByteArray} {nL : Nat} {ret : Option FieldType} {n : Nat} {f : zF} {pc : Nat} {ls : Array Slot} {rest : List Value}
theorem z_slen (B : zB G p s m args meth c own cc nL ret) (hG : zOK G) (hS : zS G n f H locs) {i idx : Nat} {x : Int32} {lv : List (Nat × Value)} (hx : zslen i = some x) (hlk : Cond.methodLink own idx yJ0_length_8abf5 ∈ zTT) (hd : 2 ≤ R.frames ∧ 128 ≤ R.locals) (hl : lv_has ls nL lv) (hW : (rest.map fun v => v.category).sum ≤ 8) (hdg : decode cc pc = .ok (.invokevirtual idx, 3)) (hcs : cells ≤ R.cells ∧ slots ≤ R.slots)
    (kk : ∀ H1 locs1, zS G n f H1 locs1 → W p l e R s m args below meth c H1 locs1 cells slots Q (F0 m (pc + 3) ls (.int x :: rest))) : W p l e R s m args below meth c H locs cells slots Q (F0 m pc ls (zstr G i :: rest)) := by
  have hi : i < 6 := by
    unfold zslen at hx
    split at hx
    · assumption
    · cases hx
  obtain ⟨adV, hX⟩ := id hG
  obtain ⟨-, -, -, ⟨hE, -⟩, -⟩ := hX s B.x
  exact zq_callR (As := []) (rest := rest) B hS (m_length l G hG hx) zy_length hlk hd (z_oRecv hS (hE i hi).1) rfl hl rfl hW hdg hcs kk
theorem z_schar (B : zB G p s m args meth c own cc nL ret) (hG : zOK G) (hS : zS G n f H locs) {i idx : Nat} {k x : Int32} {lv : List (Nat × Value)} (hx : zschar i k = some x) (hlk : Cond.methodLink own idx yJ0_charAt_5068e ∈ zTT) (hd : 4 ≤ R.frames ∧ 256 ≤ R.locals) (hl : lv_has ls nL lv) (hW : (rest.map fun v => v.category).sum ≤ 8) (hdg : decode cc pc = .ok (.invokevirtual idx, 3)) (hcs : cells ≤ R.cells ∧ slots ≤ R.slots)
    (kk : ∀ H1 locs1, zS G n f H1 locs1 → W p l e R s m args below meth c H1 locs1 cells slots Q (F0 m (pc + 3) ls (.int x :: rest))) : W p l e R s m args below meth c H locs cells slots Q (F0 m pc ls (.int k :: zstr G i :: rest)) := by
  have hi : i < 6 := by
    unfold zschar at hx
    split at hx
    · rename_i hh; exact hh.1
    · cases hx
  obtain ⟨adV, hX⟩ := id hG
  obtain ⟨-, -, -, ⟨hE, -⟩, -⟩ := hX s B.x
  exact zq_callR (As := [.int k]) (rest := rest) B hS (m_charAt l G hG hx) zy_charAt hlk hd (z_oRecv hS (hE i hi).1) rfl hl rfl hW hdg hcs kk
end ZSR

