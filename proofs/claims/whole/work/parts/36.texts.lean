theorem zk_38 : (Jvm.Cond.methodLink "SeenToMove$Tape" (3 : Nat) ({ cls := "java/lang/Object", name := "<init>", desc := "()V" } : Jvm.MethodName)) ∈ zTT := zTT_in (List.mem_of_getElem? (i := 38) (by decide +kernel)) rfl
theorem zk_40 : (Jvm.Cond.methodLink "SeenToMove$Tape" (21 : Nat) ({ cls := "java/lang/String", name := "length", desc := "()I" } : Jvm.MethodName)) ∈ zTT := zTT_in (List.mem_of_getElem? (i := 40) (by decide +kernel)) rfl
theorem zk_50 : (Jvm.Cond.methodLink "SeenToMove$Tape" (27 : Nat) ({ cls := "java/lang/String", name := "charAt", desc := "(I)C" } : Jvm.MethodName)) ∈ zTT := zTT_in (List.mem_of_getElem? (i := 50) (by decide +kernel)) rfl
theorem zkn_88 : (Jvm.Cond.methodLinkNest "SeenToMove$Tape" (31 : Nat) ({ cls := "SeenToMove", name := "putName", desc := "([JIJ)V" } : Jvm.MethodName) "SeenToMove") ∈ zNest := List.mem_filter.mpr ⟨List.mem_of_getElem? (i := 88) (by decide +kernel), rfl⟩
theorem zk_93 : (Jvm.Cond.fieldLink "SeenToMove" (352 : Nat) "SeenToMove$Tape" "words" "[J") ∈ zTT := zTT_in (List.mem_of_getElem? (i := 93) (by decide +kernel)) rfl
theorem zk_180 : (Jvm.Cond.fieldLink "SeenToMove" (330 : Nat) "SeenToMove$Field" "figureNames" "[J") ∈ zTT := zTT_in (List.mem_of_getElem? (i := 180) (by decide +kernel)) rfl
theorem zk_259 : (Jvm.Cond.fieldLink "SeenToMove" (151 : Nat) "SeenToMove$State" "faces" "[I") ∈ zTT := zTT_in (List.mem_of_getElem? (i := 259) (by decide +kernel)) rfl
theorem zk_1023 : (Jvm.Cond.instanceMethod ({ cls := "SeenToMove", name := "line", desc := "(I)I" } : Jvm.MethodName)) ∈ zTT := zTT_in (List.mem_of_getElem? (i := 1023) (by decide +kernel)) rfl
theorem zk_1024 : (Jvm.Cond.selects "SeenToMove" ({ cls := "SeenToMove", name := "line", desc := "(I)I" } : Jvm.MethodName) ({ cls := "SeenToMove", name := "line", desc := "(I)I" } : Jvm.MethodName)) ∈ zTT := zTT_in (List.mem_of_getElem? (i := 1024) (by decide +kernel)) rfl
theorem zk_1025 : (Jvm.Cond.code ({ cls := "SeenToMove", name := "line", desc := "(I)I" } : Jvm.MethodName) prog_1_method_43_code (3 : Nat) (Option.some Jvm.ClassFile.FieldType.int)) ∈ zTT := zTT_in (List.mem_of_getElem? (i := 1025) (by decide +kernel)) rfl
theorem zk_1026 : (Jvm.Cond.methodLink "SeenToMove" (334 : Nat) ({ cls := "SeenToMove", name := "nameAt", desc := "([JI)J" } : Jvm.MethodName)) ∈ zTT := zTT_in (List.mem_of_getElem? (i := 1026) (by decide +kernel)) rfl
theorem zk_1029 : (Jvm.Cond.methodLink "SeenToMove" (338 : Nat) ({ cls := "SeenToMove$Answers", name := "addName", desc := "(J)V" } : Jvm.MethodName)) ∈ zTT := zTT_in (List.mem_of_getElem? (i := 1029) (by decide +kernel)) rfl
theorem zk_1039 : (Jvm.Cond.methodLink "SeenToMove" (344 : Nat) ({ cls := "SeenToMove$Answers", name := "addText", desc := "(Ljava/lang/String;)V" } : Jvm.MethodName)) ∈ zTT := zTT_in (List.mem_of_getElem? (i := 1039) (by decide +kernel)) rfl
theorem zk_1040 : (Jvm.Cond.instanceMethod ({ cls := "SeenToMove$Answers", name := "addText", desc := "(Ljava/lang/String;)V" } : Jvm.MethodName)) ∈ zTT := zTT_in (List.mem_of_getElem? (i := 1040) (by decide +kernel)) rfl
theorem zk_1041 : (Jvm.Cond.selects "SeenToMove$Answers" ({ cls := "SeenToMove$Answers", name := "addText", desc := "(Ljava/lang/String;)V" } : Jvm.MethodName) ({ cls := "SeenToMove$Answers", name := "addText", desc := "(Ljava/lang/String;)V" } : Jvm.MethodName)) ∈ zTT := zTT_in (List.mem_of_getElem? (i := 1041) (by decide +kernel)) rfl
theorem zk_1042 : (Jvm.Cond.code ({ cls := "SeenToMove$Answers", name := "addText", desc := "(Ljava/lang/String;)V" } : Jvm.MethodName) prog_2_method_4_code (3 : Nat) (Option.none : Option Jvm.ClassFile.FieldType)) ∈ zTT := zTT_in (List.mem_of_getElem? (i := 1042) (by decide +kernel)) rfl
theorem zk_1043 : (Jvm.Cond.methodLink "SeenToMove$Answers" (48 : Nat) ({ cls := "java/lang/String", name := "length", desc := "()I" } : Jvm.MethodName)) ∈ zTT := zTT_in (List.mem_of_getElem? (i := 1043) (by decide +kernel)) rfl
theorem zk_1044 : (Jvm.Cond.methodLink "SeenToMove$Answers" (53 : Nat) ({ cls := "java/lang/String", name := "charAt", desc := "(I)C" } : Jvm.MethodName)) ∈ zTT := zTT_in (List.mem_of_getElem? (i := 1044) (by decide +kernel)) rfl
theorem zk_1045 : (Jvm.Cond.methodLink "SeenToMove" (347 : Nat) ({ cls := "SeenToMove$Answers", name := "addSign", desc := "(I)V" } : Jvm.MethodName)) ∈ zTT := zTT_in (List.mem_of_getElem? (i := 1045) (by decide +kernel)) rfl
theorem zy_X0_addText : zYV yX0_addText RX0 cX0_addText 3 (none) 1 := ⟨zk_1042, zk_1040, zk_1041, zk_16, ⟨rfl, by decide +kernel, by decide +kernel, by decide +kernel⟩, by decide⟩
theorem zy_X11_line : zYV yX11_line RX11 cX11_line 3 (some .int) 1 := ⟨zk_1025, zk_1023, zk_1024, zk_1, ⟨rfl, by decide +kernel, by decide +kernel, by decide +kernel⟩, by decide⟩
/-! methods that use String constants -/
section ZLW
variable {G : zG} {p : Program} {l : Launch} {e : Env} {R : Room} {s : State} {m : MethodId} {args : Array Value} {below : List Frame} {meth : Method} {c : Code} {H : Heap} {locs : List Loc} {cells slots : Nat} {Q : State → Prop} {own : String} {cc : ByteArray} {nL : Nat} {ret : Option FieldType} {pc : Nat} {ls : Array Slot} {rest : List Value}
theorem z_ldcSW (B : zB G p s m args meth c own cc nL ret) (hG : zOK G) (i : Nat) {tx : String} {index : Nat} (hi : zStrs[i]? = some (own, index, tx)) (hdg : decode cc pc = .ok (.ldc_w index, 3))
    (k : W p l e R s m args below meth c H locs cells slots Q (F0 m (pc + 3) ls (zstr G i :: rest))) : W p l e R s m args below meth c H locs cells slots Q (F0 m pc ls rest) := by
  obtain ⟨h1, h2⟩ := (hG.choose_spec s B.x).2.2.1 i _ hi
  intro T hT X
  obtain ⟨t, a1, b1⟩ := k T hT X
  exact ⟨t, X.ldcStringW B.1 B.2.2.2.1 (text := tx) (a := G.2.2.1.1 i) h1 h2 (g := F0 m pc ls rest) rfl (by rw [B.2.1]; exact hdg) t a1, b1⟩
end ZLW
theorem dX0_addText_0 : decode cX0_addText 0 = .ok (.iconst 0, 1) := by decide +kernel
theorem dX0_addText_1 : decode cX0_addText 1 = .ok (.istore_n 2, 1) := by decide +kernel
theorem dX0_addText_2 : decode cX0_addText 2 = .ok (.iload_n 2, 1) := by decide +kernel
theorem dX0_addText_3 : decode cX0_addText 3 = .ok (.aload_n 1, 1) := by decide +kernel
theorem dX0_addText_4 : decode cX0_addText 4 = .ok (.invokevirtual 48, 3) := by decide +kernel
theorem dX0_addText_7 : decode cX0_addText 7 = .ok (.if_icmp .ge 18, 3) := by decide +kernel
theorem dX0_addText_10 : decode cX0_addText 10 = .ok (.aload_n 0, 1) := by decide +kernel
theorem dX0_addText_11 : decode cX0_addText 11 = .ok (.aload_n 1, 1) := by decide +kernel
theorem dX0_addText_12 : decode cX0_addText 12 = .ok (.iload_n 2, 1) := by decide +kernel
theorem dX0_addText_13 : decode cX0_addText 13 = .ok (.invokevirtual 53, 3) := by decide +kernel
theorem dX0_addText_16 : decode cX0_addText 16 = .ok (.invokevirtual 57, 3) := by decide +kernel
theorem dX0_addText_19 : decode cX0_addText 19 = .ok (.iinc 2 1, 3) := by decide +kernel
theorem dX0_addText_22 : decode cX0_addText 22 = .ok (.goto (-20), 3) := by decide +kernel
theorem dX0_addText_25 : decode cX0_addText 25 = .ok (.return_, 1) := by decide +kernel
def fX0_addText_2 (N n : Nat) : Nat → zF → Nat → Nat → Int32 → Option zF
  | 0, _, _, _, _ => none
  | k + 1, f, a0, a1, a2 =>
    ((zslen a1).bind fun x1 => (if x1 ≤ a2 then some f else ((zschar a1 a2).bind fun x2 => ((zck n f 0 a0).bind fun _ => ((fX0_addSign N n f a0 x2).bind fun f3 => (fX0_addText_2 N n k f3 a0 a1 (a2 + 1)))))))
set_option maxRecDepth 100000 in
set_option maxHeartbeats 4000000 in
theorem gX0_addText_2 (l : Launch) {G : zG} {p : Program} {e : Env} {s : State} {m : MethodId} {args : Array Value} {below : List Frame} {meth : Method} {c : Code} {N n : Nat} {f9 : zF} (B : zB G p s m args meth c RX0 cX0_addText 3 (none)) (hG : zOK G) : ∀ (k : Nat), ∀ (f : zF) (a0 : Nat) (a1 : Nat) (a2 : Int32) (H : Heap) (locs : List Loc) (ls : Array Slot), fX0_addText_2 N n k f a0 a1 a2 = some f9 → zS G n f H locs → lv_has ls 3 [(0, zr G a0), (1, zstr G a1), (2, .int a2)] → W p l e (zrm 9) s m args below meth c H locs 0 0 (MQ below (zQc G n f9 (none)) args s 0 0 (zA G)) (F0 m 2 ls []) := by
  have he := B.1
  have hb := B.2.1
  intro k
  induction k with
  | zero =>
    intro f a0 a1 a2 H locs ls h
    unfold fX0_addText_2 at h
    cases h
  | succ k ih =>
    intro f a0 a1 a2 H locs ls h hS hl
    unfold fX0_addText_2 at h
    refine lv_iload_n he hb dX0_addText_2 rfl (lv_at hl 2 rfl) ?_
    refine z_aload_n he hb dX0_addText_3 rfl (lv_at hl 1 rfl) (zref_s _ _) ?_
    obtain ⟨x1, hx, h⟩ := zob h
    refine z_slen (rest := [_]) B hG hS hx zk_1043 ⟨by decide, by decide⟩ hl (Nat.le_of_ble_eq_true rfl) dX0_addText_4 ⟨by decide, by decide⟩ (fun H locs hS => ?_)
    refine lv_icmp_ge (tgt := 25) he hb dX0_addText_7 (by decide) (fun hc => ?_) (fun hc => ?_)
    · rw [if_pos hc] at h
      obtain rfl := Option.some.inj h
      exact z_vret B hS dX0_addText_25
    · rw [if_neg hc] at h
      refine z_aload_n he hb dX0_addText_10 rfl (lv_at hl 0 rfl) (zref_r _ _) ?_
      refine z_aload_n he hb dX0_addText_11 rfl (lv_at hl 1 rfl) (zref_s _ _) ?_
      refine lv_iload_n he hb dX0_addText_12 rfl (lv_at hl 2 rfl) ?_
      obtain ⟨x2, hx, h⟩ := zob h
      refine z_schar (rest := [_]) B hG hS hx zk_1044 ⟨by decide, by decide⟩ hl (Nat.le_of_ble_eq_true rfl) dX0_addText_13 ⟨by decide, by decide⟩ (fun H locs hS => ?_)
      obtain ⟨_, hc, h⟩ := zob h
      obtain ⟨f3, hx, h⟩ := zob h
      refine z_callV (ci := 0) (T := TX0) (N := 9) (rest := []) B hS (mX0_addSign l G hx) zy_X0_addSign zk_1033 (by decide) hc rfl rfl hl rfl (Nat.le_of_ble_eq_true rfl) dX0_addText_16 (kk := (fun H locs hS => ?_))
      refine lv_iinc (v := (a2 + 1)) (lv' := [(2, _), (0, _), (1, _)]) he hb dX0_addText_19 hl (k := 2) rfl rfl (by decide) rfl (fun ls hl => ?_)
      refine lv_goto (tgt := 2) he hb dX0_addText_22 (by decide) ?_
      exact ih _ _ _ _ _ _ _ h hS (lv_sub hl [1, 2, 0] rfl)
def fX0_addText (N n : Nat) (f : zF) (a0 : Nat) (a1 : Nat) : Option zF :=
    (fX0_addText_2 N n N f a0 a1 (0 : Int32))
set_option maxRecDepth 100000 in
set_option maxHeartbeats 4000000 in
theorem mX0_addText (l : Launch) (G : zG) {N n : Nat} {f : zF} {f9 : zF} {a0 : Nat} {a1 : Nat}  (hG : zOK G) (h : fX0_addText N n f a0 a1 = some f9) : zM l G yX0_addText cX0_addText 3 (none) 9 n f [zr G a0, zstr G a1] (none) f9 := by
  refine zM.of (by decide) (Nat.le_of_ble_eq_true rfl) ?_
  intro p e s m args below meth c locs ls B hS hl
  have he := B.1
  have hb := B.2.1
  have hl : lv_has ls 3 [(0, zr G a0), (1, zstr G a1)] := hl
  unfold fX0_addText at h
  generalize s.heap = H at hS ⊢
  refine lv_iconst (v := (0 : Int32)) he hb dX0_addText_0 (by decide) ?_
  refine lv_istore_n (lv' := [(2, _), (0, _), (1, _)]) he hb dX0_addText_1 rfl hl (by decide) rfl (fun ls hl => ?_)
  exact gX0_addText_2 l B hG N _ _ _ _ _ _ _ h hS (lv_sub hl [1, 2, 0] rfl)
theorem dX11_line_0 : decode cX11_line 0 = .ok (.aload_n 0, 1) := by decide +kernel
theorem dX11_line_1 : decode cX11_line 1 = .ok (.getfield 19, 3) := by decide +kernel
theorem dX11_line_4 : decode cX11_line 4 = .ok (.iload_n 1, 1) := by decide +kernel
theorem dX11_line_5 : decode cX11_line 5 = .ok (.invokevirtual 133, 3) := by decide +kernel
theorem dX11_line_8 : decode cX11_line 8 = .ok (.ifCond .ne 5, 3) := by decide +kernel
theorem dX11_line_11 : decode cX11_line 11 = .ok (.iconst (-1), 1) := by decide +kernel
theorem dX11_line_12 : decode cX11_line 12 = .ok (.ireturn, 1) := by decide +kernel
theorem dX11_line_13 : decode cX11_line 13 = .ok (.aload_n 0, 1) := by decide +kernel
theorem dX11_line_14 : decode cX11_line 14 = .ok (.getfield 28, 3) := by decide +kernel
theorem dX11_line_17 : decode cX11_line 17 = .ok (.getfield 144, 3) := by decide +kernel
theorem dX11_line_20 : decode cX11_line 20 = .ok (.iload_n 1, 1) := by decide +kernel
theorem dX11_line_21 : decode cX11_line 21 = .ok (.invokestatic 147, 3) := by decide +kernel
theorem dX11_line_24 : decode cX11_line 24 = .ok (.istore_n 2, 1) := by decide +kernel
theorem dX11_line_25 : decode cX11_line 25 = .ok (.aload_n 0, 1) := by decide +kernel
theorem dX11_line_26 : decode cX11_line 26 = .ok (.getfield 94, 3) := by decide +kernel
theorem dX11_line_29 : decode cX11_line 29 = .ok (.iconst 0, 1) := by decide +kernel
theorem dX11_line_30 : decode cX11_line 30 = .ok (.putfield 327, 3) := by decide +kernel
theorem dX11_line_33 : decode cX11_line 33 = .ok (.aload_n 0, 1) := by decide +kernel
theorem dX11_line_34 : decode cX11_line 34 = .ok (.getfield 94, 3) := by decide +kernel
theorem dX11_line_37 : decode cX11_line 37 = .ok (.aload_n 0, 1) := by decide +kernel
theorem dX11_line_38 : decode cX11_line 38 = .ok (.getfield 19, 3) := by decide +kernel
theorem dX11_line_41 : decode cX11_line 41 = .ok (.getfield 330, 3) := by decide +kernel
theorem dX11_line_44 : decode cX11_line 44 = .ok (.iload_n 1, 1) := by decide +kernel
theorem dX11_line_45 : decode cX11_line 45 = .ok (.invokestatic 334, 3) := by decide +kernel
theorem dX11_line_48 : decode cX11_line 48 = .ok (.invokevirtual 338, 3) := by decide +kernel
theorem dX11_line_51 : decode cX11_line 51 = .ok (.aload_n 0, 1) := by decide +kernel
theorem dX11_line_52 : decode cX11_line 52 = .ok (.getfield 94, 3) := by decide +kernel
theorem dX11_line_55 : decode cX11_line 55 = .ok (.ldc_w 342, 3) := by decide +kernel
theorem dX11_line_58 : decode cX11_line 58 = .ok (.invokevirtual 344, 3) := by decide +kernel
theorem dX11_line_61 : decode cX11_line 61 = .ok (.aload_n 0, 1) := by decide +kernel
theorem dX11_line_62 : decode cX11_line 62 = .ok (.getfield 94, 3) := by decide +kernel
theorem dX11_line_65 : decode cX11_line 65 = .ok (.bipush 48, 2) := by decide +kernel
theorem dX11_line_67 : decode cX11_line 67 = .ok (.iload_n 2, 1) := by decide +kernel
theorem dX11_line_68 : decode cX11_line 68 = .ok (.bipush 9, 2) := by decide +kernel
theorem dX11_line_70 : decode cX11_line 70 = .ok (.irem, 1) := by decide +kernel
theorem dX11_line_71 : decode cX11_line 71 = .ok (.iadd, 1) := by decide +kernel
theorem dX11_line_72 : decode cX11_line 72 = .ok (.invokevirtual 347, 3) := by decide +kernel
theorem dX11_line_75 : decode cX11_line 75 = .ok (.aload_n 0, 1) := by decide +kernel
theorem dX11_line_76 : decode cX11_line 76 = .ok (.getfield 94, 3) := by decide +kernel
theorem dX11_line_79 : decode cX11_line 79 = .ok (.bipush 32, 2) := by decide +kernel
theorem dX11_line_81 : decode cX11_line 81 = .ok (.invokevirtual 347, 3) := by decide +kernel
theorem dX11_line_84 : decode cX11_line 84 = .ok (.aload_n 0, 1) := by decide +kernel
theorem dX11_line_85 : decode cX11_line 85 = .ok (.getfield 94, 3) := by decide +kernel
theorem dX11_line_88 : decode cX11_line 88 = .ok (.bipush 48, 2) := by decide +kernel
theorem dX11_line_90 : decode cX11_line 90 = .ok (.iload_n 2, 1) := by decide +kernel
theorem dX11_line_91 : decode cX11_line 91 = .ok (.bipush 9, 2) := by decide +kernel
theorem dX11_line_93 : decode cX11_line 93 = .ok (.idiv, 1) := by decide +kernel
theorem dX11_line_94 : decode cX11_line 94 = .ok (.iadd, 1) := by decide +kernel
theorem dX11_line_95 : decode cX11_line 95 = .ok (.invokevirtual 347, 3) := by decide +kernel
theorem dX11_line_98 : decode cX11_line 98 = .ok (.aload_n 0, 1) := by decide +kernel
theorem dX11_line_99 : decode cX11_line 99 = .ok (.getfield 94, 3) := by decide +kernel
theorem dX11_line_102 : decode cX11_line 102 = .ok (.ldc_w 350, 3) := by decide +kernel
theorem dX11_line_105 : decode cX11_line 105 = .ok (.invokevirtual 344, 3) := by decide +kernel
theorem dX11_line_108 : decode cX11_line 108 = .ok (.aload_n 0, 1) := by decide +kernel
theorem dX11_line_109 : decode cX11_line 109 = .ok (.getfield 94, 3) := by decide +kernel
theorem dX11_line_112 : decode cX11_line 112 = .ok (.aload_n 0, 1) := by decide +kernel
theorem dX11_line_113 : decode cX11_line 113 = .ok (.getfield 10, 3) := by decide +kernel
theorem dX11_line_116 : decode cX11_line 116 = .ok (.getfield 352, 3) := by decide +kernel
theorem dX11_line_119 : decode cX11_line 119 = .ok (.aload_n 0, 1) := by decide +kernel
theorem dX11_line_120 : decode cX11_line 120 = .ok (.getfield 28, 3) := by decide +kernel
theorem dX11_line_123 : decode cX11_line 123 = .ok (.getfield 151, 3) := by decide +kernel
theorem dX11_line_126 : decode cX11_line 126 = .ok (.iload_n 1, 1) := by decide +kernel
theorem dX11_line_127 : decode cX11_line 127 = .ok (.invokestatic 147, 3) := by decide +kernel
theorem dX11_line_130 : decode cX11_line 130 = .ok (.invokestatic 334, 3) := by decide +kernel
theorem dX11_line_133 : decode cX11_line 133 = .ok (.invokevirtual 338, 3) := by decide +kernel
theorem dX11_line_136 : decode cX11_line 136 = .ok (.aload_n 0, 1) := by decide +kernel
theorem dX11_line_137 : decode cX11_line 137 = .ok (.getfield 28, 3) := by decide +kernel
theorem dX11_line_140 : decode cX11_line 140 = .ok (.iload_n 1, 1) := by decide +kernel
theorem dX11_line_141 : decode cX11_line 141 = .ok (.invokevirtual 163, 3) := by decide +kernel
theorem dX11_line_144 : decode cX11_line 144 = .ok (.ifCond .eq 13, 3) := by decide +kernel
theorem dX11_line_147 : decode cX11_line 147 = .ok (.aload_n 0, 1) := by decide +kernel
theorem dX11_line_148 : decode cX11_line 148 = .ok (.getfield 94, 3) := by decide +kernel
theorem dX11_line_151 : decode cX11_line 151 = .ok (.ldc_w 355, 3) := by decide +kernel
theorem dX11_line_154 : decode cX11_line 154 = .ok (.invokevirtual 344, 3) := by decide +kernel
theorem dX11_line_157 : decode cX11_line 157 = .ok (.aload_n 0, 1) := by decide +kernel
theorem dX11_line_158 : decode cX11_line 158 = .ok (.getfield 94, 3) := by decide +kernel
theorem dX11_line_161 : decode cX11_line 161 = .ok (.getfield 327, 3) := by decide +kernel
theorem dX11_line_164 : decode cX11_line 164 = .ok (.ireturn, 1) := by decide +kernel
def fX11_line_157 (N n : Nat) (f : zF) (a0 : Nat) : Option (zF × Int32) :=
    ((zgR n f 11 a0 12).bind fun x33 => ((zgI n f 0 x33 6).bind fun x34 => some (f, x34)))
set_option maxRecDepth 100000 in
set_option maxHeartbeats 4000000 in
theorem gX11_line_157 (l : Launch) {G : zG} {p : Program} {e : Env} {s : State} {m : MethodId} {args : Array Value} {below : List Frame} {meth : Method} {c : Code} {N n : Nat} {f9 : zF} {r : Int32} (B : zB G p s m args meth c RX11 cX11_line 3 (some .int)) (hG : zOK G) : ∀ (f : zF) (a0 : Nat) (H : Heap) (locs : List Loc) (ls : Array Slot), fX11_line_157 N n f a0 = some (f9, r) → zS G n f H locs → lv_has ls 3 [(0, zr G a0)] → W p l e (zrm 10) s m args below meth c H locs 0 0 (MQ below (zQc G n f9 (some (.int r))) args s 0 0 (zA G)) (F0 m 157 ls []) := by
  have he := B.1
  have hb := B.2.1
  intro f a0 H locs ls h hS hl
  unfold fX11_line_157 at h
  refine z_aload_n he hb dX11_line_157 rfl (lv_at hl 0 rfl) (zref_r _ _) ?_
  obtain ⟨x33, hx, h⟩ := zob h
  refine z_getR (ci := 11) (T := TX11) (N := 14) (j := 12) B hS hx rfl zin_X11 (by decide) zk_520 dX11_line_158 ?_
  obtain ⟨x34, hx, h⟩ := zob h
  refine z_getI (ci := 0) (T := TX0) (N := 9) (j := 6) B hS hx rfl zin_X0 (by decide) zk_484 dX11_line_161 ?_
  obtain ⟨rfl, rfl⟩ := Prod.mk.inj (Option.some.inj h)
  exact z_iret B hS dX11_line_164
def fX11_line (N n : Nat) (f : zF) (a0 : Nat) (a1 : Int32) : Option (zF × Int32) :=
    ((zgR n f 11 a0 1).bind fun x1 => ((zck n f 2 x1).bind fun _ => ((fX2_hasFigure N n f x1 a1).bind fun x2 => (if x2 = 0 then some (f, (-1 : Int32)) else ((zgR n f 11 a0 2).bind fun x3 => ((zgR n f 8 x3 2).bind fun x4 => ((fX11_at N n f x4 a1).bind fun x5 => ((zgR n f 11 a0 12).bind fun x6 => ((zpI n f 0 x6 6 (0 : Int32)).bind fun f7 => ((zgR n f7 11 a0 12).bind fun x8 => ((zgR n f7 11 a0 1).bind fun x9 => ((zgR n f7 2 x9 6).bind fun x10 => ((fX11_nameAt N n f7 x10 a1).bind fun x11 => ((zck n f7 0 x8).bind fun _ => ((fX0_addName N n f7 x8 x11).bind fun f12 => ((zgR n f12 11 a0 12).bind fun x13 => ((zck n f12 0 x13).bind fun _ => ((fX0_addText N n f12 x13 2).bind fun f14 => ((zgR n f14 11 a0 12).bind fun x15 => ((zck n f14 0 x15).bind fun _ => ((fX0_addSign N n f14 x15 ((48 : Int32) + (zrem x5 (9 : Int32)))).bind fun f16 => ((zgR n f16 11 a0 12).bind fun x17 => ((zck n f16 0 x17).bind fun _ => ((fX0_addSign N n f16 x17 (32 : Int32)).bind fun f18 => ((zgR n f18 11 a0 12).bind fun x19 => ((zck n f18 0 x19).bind fun _ => ((fX0_addSign N n f18 x19 ((48 : Int32) + (x5 / (9 : Int32)))).bind fun f20 => ((zgR n f20 11 a0 12).bind fun x21 => ((zck n f20 0 x21).bind fun _ => ((fX0_addText N n f20 x21 3).bind fun f22 => ((zgR n f22 11 a0 12).bind fun x23 => ((zgR n f22 11 a0 0).bind fun x24 => ((zgR n f22 9 x24 1).bind fun x25 => ((zgR n f22 11 a0 2).bind fun x26 => ((zgR n f22 8 x26 3).bind fun x27 => ((fX11_at N n f22 x27 a1).bind fun x28 => ((fX11_nameAt N n f22 x25 x28).bind fun x29 => ((zck n f22 0 x23).bind fun _ => ((fX0_addName N n f22 x23 x29).bind fun f30 => ((zgR n f30 11 a0 2).bind fun x31 => ((zck n f30 8 x31).bind fun _ => ((fX8_seers N n f30 x31 a1).bind fun x32 => (if x32 = 0 then (fX11_line_157 N n f30 a0) else ((zgR n f30 11 a0 12).bind fun x35 => ((zck n f30 0 x35).bind fun _ => ((fX0_addText N n f30 x35 4).bind fun f36 => (fX11_line_157 N n f36 a0)))))))))))))))))))))))))))))))))))))))))))))))
set_option maxRecDepth 100000 in
set_option maxHeartbeats 4000000 in
theorem mX11_line (l : Launch) (G : zG) {N n : Nat} {f : zF} {f9 : zF} {r : Int32} {a0 : Nat} {a1 : Int32}  (hG : zOK G) (h : fX11_line N n f a0 a1 = some (f9, r)) : zM l G yX11_line cX11_line 3 (some .int) 10 n f [zr G a0, .int a1] (some (.int r)) f9 := by
  refine zM.of (by decide) (Nat.le_of_ble_eq_true rfl) ?_
  intro p e s m args below meth c locs ls B hS hl
  have he := B.1
  have hb := B.2.1
  have hl : lv_has ls 3 [(0, zr G a0), (1, .int a1)] := hl
  unfold fX11_line at h
  generalize s.heap = H at hS ⊢
  refine z_aload_n he hb dX11_line_0 rfl (lv_at hl 0 rfl) (zref_r _ _) ?_
  obtain ⟨x1, hx, h⟩ := zob h
  refine z_getR (ci := 11) (T := TX11) (N := 14) (j := 1) B hS hx rfl zin_X11 (by decide) zk_509 dX11_line_1 ?_
  refine lv_iload_n he hb dX11_line_4 rfl (lv_at hl 1 rfl) ?_
  obtain ⟨_, hc, h⟩ := zob h
  obtain ⟨x2, hx, h⟩ := zob h
  refine z_callV (ci := 2) (T := TX2) (N := 15) (rest := []) B hS (mX2_hasFigure l G hx) zy_X2_hasFigure zk_872 (by decide) hc rfl rfl hl rfl (Nat.le_of_ble_eq_true rfl) dX11_line_5 (kk := (fun H locs hS => ?_))
  refine lv_if_ne (tgt := 13) he hb dX11_line_8 (by decide) (fun hc => ?_) (fun hc => ?_)
  · rw [if_neg hc] at h
    refine z_aload_n he hb dX11_line_13 rfl (lv_at hl 0 rfl) (zref_r _ _) ?_
    obtain ⟨x3, hx, h⟩ := zob h
    refine z_getR (ci := 11) (T := TX11) (N := 14) (j := 2) B hS hx rfl zin_X11 (by decide) zk_510 dX11_line_14 ?_
    obtain ⟨x4, hx, h⟩ := zob h
    refine z_getR (ci := 8) (T := TX8) (N := 9) (j := 2) B hS hx rfl zin_X8 (by decide) zk_255 dX11_line_17 ?_
    refine lv_iload_n he hb dX11_line_20 rfl (lv_at hl 1 rfl) ?_
    obtain ⟨x5, hx, h⟩ := zob h
    refine z_callS (rest := []) B hS (mX11_at l G hx) zy_X11_at zk_755 (by decide) rfl hl rfl (Nat.le_of_ble_eq_true rfl) dX11_line_21 (kk := (fun H locs hS => ?_))
    refine lv_istore_n (lv' := [(2, _), (0, _), (1, _)]) he hb dX11_line_24 rfl hl (by decide) rfl (fun ls hl => ?_)
    refine z_aload_n he hb dX11_line_25 rfl (lv_at hl 1 rfl) (zref_r _ _) ?_
    obtain ⟨x6, hx, h⟩ := zob h
    refine z_getR (ci := 11) (T := TX11) (N := 14) (j := 12) B hS hx rfl zin_X11 (by decide) zk_520 dX11_line_26 ?_
    refine lv_iconst (v := (0 : Int32)) he hb dX11_line_29 (by decide) ?_
    obtain ⟨f7, hx, h⟩ := zob h
    refine z_putI (ci := 0) (T := TX0) (N := 9) (j := 6) B hS hx rfl zin_X0 tyX0 tyX0_ok nmX0 (by decide) zk_484 rfl rfl dX11_line_30 (fun H locs hS => ?_)
    refine z_aload_n he hb dX11_line_33 rfl (lv_at hl 1 rfl) (zref_r _ _) ?_
    obtain ⟨x8, hx, h⟩ := zob h
    refine z_getR (ci := 11) (T := TX11) (N := 14) (j := 12) B hS hx rfl zin_X11 (by decide) zk_520 dX11_line_34 ?_
    refine z_aload_n he hb dX11_line_37 rfl (lv_at hl 1 rfl) (zref_r _ _) ?_
    obtain ⟨x9, hx, h⟩ := zob h
    refine z_getR (ci := 11) (T := TX11) (N := 14) (j := 1) B hS hx rfl zin_X11 (by decide) zk_509 dX11_line_38 ?_
    obtain ⟨x10, hx, h⟩ := zob h
    refine z_getR (ci := 2) (T := TX2) (N := 15) (j := 6) B hS hx rfl zin_X2 (by decide) zk_180 dX11_line_41 ?_
    refine lv_iload_n he hb dX11_line_44 rfl (lv_at hl 2 rfl) ?_
    obtain ⟨x11, hx, h⟩ := zob h
    refine z_callS (rest := [_]) B hS (mX11_nameAt l G hx) zy_X11_nameAt zk_1026 (by decide) rfl hl rfl (Nat.le_of_ble_eq_true rfl) dX11_line_45 (kk := (fun H locs hS => ?_))
    obtain ⟨_, hc, h⟩ := zob h
    obtain ⟨f12, hx, h⟩ := zob h
    refine z_callV (ci := 0) (T := TX0) (N := 9) (rest := []) B hS (mX0_addName l G hx) zy_X0_addName zk_1029 (by decide) hc rfl rfl hl rfl (Nat.le_of_ble_eq_true rfl) dX11_line_48 (kk := (fun H locs hS => ?_))
    refine z_aload_n he hb dX11_line_51 rfl (lv_at hl 1 rfl) (zref_r _ _) ?_
    obtain ⟨x13, hx, h⟩ := zob h
    refine z_getR (ci := 11) (T := TX11) (N := 14) (j := 12) B hS hx rfl zin_X11 (by decide) zk_520 dX11_line_52 ?_
    refine z_ldcSW B hG 2 rfl dX11_line_55 ?_
    obtain ⟨_, hc, h⟩ := zob h
    obtain ⟨f14, hx, h⟩ := zob h
    refine z_callV (ci := 0) (T := TX0) (N := 9) (rest := []) B hS (mX0_addText l G hG hx) zy_X0_addText zk_1039 (by decide) hc rfl rfl hl rfl (Nat.le_of_ble_eq_true rfl) dX11_line_58 (kk := (fun H locs hS => ?_))
    refine z_aload_n he hb dX11_line_61 rfl (lv_at hl 1 rfl) (zref_r _ _) ?_
    obtain ⟨x15, hx, h⟩ := zob h
    refine z_getR (ci := 11) (T := TX11) (N := 14) (j := 12) B hS hx rfl zin_X11 (by decide) zk_520 dX11_line_62 ?_
    refine lv_bipush (v := (48 : Int32)) he hb dX11_line_65 (by decide) ?_
    refine lv_iload_n he hb dX11_line_67 rfl (lv_at hl 0 rfl) ?_
    refine lv_bipush (v := (9 : Int32)) he hb dX11_line_68 (by decide) ?_
    refine z_irem he hb dX11_line_70 (by decide) ?_
    refine lv_iadd he hb dX11_line_71 ?_
    obtain ⟨_, hc, h⟩ := zob h
    obtain ⟨f16, hx, h⟩ := zob h
    refine z_callV (ci := 0) (T := TX0) (N := 9) (rest := []) B hS (mX0_addSign l G hx) zy_X0_addSign zk_1045 (by decide) hc rfl rfl hl rfl (Nat.le_of_ble_eq_true rfl) dX11_line_72 (kk := (fun H locs hS => ?_))
    refine z_aload_n he hb dX11_line_75 rfl (lv_at hl 1 rfl) (zref_r _ _) ?_
    obtain ⟨x17, hx, h⟩ := zob h
    refine z_getR (ci := 11) (T := TX11) (N := 14) (j := 12) B hS hx rfl zin_X11 (by decide) zk_520 dX11_line_76 ?_
    refine lv_bipush (v := (32 : Int32)) he hb dX11_line_79 (by decide) ?_
    obtain ⟨_, hc, h⟩ := zob h
    obtain ⟨f18, hx, h⟩ := zob h
    refine z_callV (ci := 0) (T := TX0) (N := 9) (rest := []) B hS (mX0_addSign l G hx) zy_X0_addSign zk_1045 (by decide) hc rfl rfl hl rfl (Nat.le_of_ble_eq_true rfl) dX11_line_81 (kk := (fun H locs hS => ?_))
    refine z_aload_n he hb dX11_line_84 rfl (lv_at hl 1 rfl) (zref_r _ _) ?_
    obtain ⟨x19, hx, h⟩ := zob h
    refine z_getR (ci := 11) (T := TX11) (N := 14) (j := 12) B hS hx rfl zin_X11 (by decide) zk_520 dX11_line_85 ?_
    refine lv_bipush (v := (48 : Int32)) he hb dX11_line_88 (by decide) ?_
    refine lv_iload_n he hb dX11_line_90 rfl (lv_at hl 0 rfl) ?_
    refine lv_bipush (v := (9 : Int32)) he hb dX11_line_91 (by decide) ?_
    refine lv_idiv he hb dX11_line_93 (by decide) ?_
    refine lv_iadd he hb dX11_line_94 ?_
    obtain ⟨_, hc, h⟩ := zob h
    obtain ⟨f20, hx, h⟩ := zob h
    refine z_callV (ci := 0) (T := TX0) (N := 9) (rest := []) B hS (mX0_addSign l G hx) zy_X0_addSign zk_1045 (by decide) hc rfl rfl hl rfl (Nat.le_of_ble_eq_true rfl) dX11_line_95 (kk := (fun H locs hS => ?_))
    refine z_aload_n he hb dX11_line_98 rfl (lv_at hl 1 rfl) (zref_r _ _) ?_
    obtain ⟨x21, hx, h⟩ := zob h
    refine z_getR (ci := 11) (T := TX11) (N := 14) (j := 12) B hS hx rfl zin_X11 (by decide) zk_520 dX11_line_99 ?_
    refine z_ldcSW B hG 3 rfl dX11_line_102 ?_
    obtain ⟨_, hc, h⟩ := zob h
    obtain ⟨f22, hx, h⟩ := zob h
    refine z_callV (ci := 0) (T := TX0) (N := 9) (rest := []) B hS (mX0_addText l G hG hx) zy_X0_addText zk_1039 (by decide) hc rfl rfl hl rfl (Nat.le_of_ble_eq_true rfl) dX11_line_105 (kk := (fun H locs hS => ?_))
    refine z_aload_n he hb dX11_line_108 rfl (lv_at hl 1 rfl) (zref_r _ _) ?_
    obtain ⟨x23, hx, h⟩ := zob h
    refine z_getR (ci := 11) (T := TX11) (N := 14) (j := 12) B hS hx rfl zin_X11 (by decide) zk_520 dX11_line_109 ?_
    refine z_aload_n he hb dX11_line_112 rfl (lv_at hl 1 rfl) (zref_r _ _) ?_
    obtain ⟨x24, hx, h⟩ := zob h
    refine z_getR (ci := 11) (T := TX11) (N := 14) (j := 0) B hS hx rfl zin_X11 (by decide) zk_508 dX11_line_113 ?_
    obtain ⟨x25, hx, h⟩ := zob h
    refine z_getR (ci := 9) (T := TX9) (N := 12) (j := 1) B hS hx rfl zin_X9 (by decide) zk_93 dX11_line_116 ?_
    refine z_aload_n he hb dX11_line_119 rfl (lv_at hl 1 rfl) (zref_r _ _) ?_
    obtain ⟨x26, hx, h⟩ := zob h
    refine z_getR (ci := 11) (T := TX11) (N := 14) (j := 2) B hS hx rfl zin_X11 (by decide) zk_510 dX11_line_120 ?_
    obtain ⟨x27, hx, h⟩ := zob h
    refine z_getR (ci := 8) (T := TX8) (N := 9) (j := 3) B hS hx rfl zin_X8 (by decide) zk_259 dX11_line_123 ?_
    refine lv_iload_n he hb dX11_line_126 rfl (lv_at hl 2 rfl) ?_
    obtain ⟨x28, hx, h⟩ := zob h
    refine z_callS (rest := [_, _]) B hS (mX11_at l G hx) zy_X11_at zk_755 (by decide) rfl hl rfl (Nat.le_of_ble_eq_true rfl) dX11_line_127 (kk := (fun H locs hS => ?_))
    obtain ⟨x29, hx, h⟩ := zob h
    refine z_callS (rest := [_]) B hS (mX11_nameAt l G hx) zy_X11_nameAt zk_1026 (by decide) rfl hl rfl (Nat.le_of_ble_eq_true rfl) dX11_line_130 (kk := (fun H locs hS => ?_))
    obtain ⟨_, hc, h⟩ := zob h
    obtain ⟨f30, hx, h⟩ := zob h
    refine z_callV (ci := 0) (T := TX0) (N := 9) (rest := []) B hS (mX0_addName l G hx) zy_X0_addName zk_1029 (by decide) hc rfl rfl hl rfl (Nat.le_of_ble_eq_true rfl) dX11_line_133 (kk := (fun H locs hS => ?_))
    refine z_aload_n he hb dX11_line_136 rfl (lv_at hl 1 rfl) (zref_r _ _) ?_
    obtain ⟨x31, hx, h⟩ := zob h
    refine z_getR (ci := 11) (T := TX11) (N := 14) (j := 2) B hS hx rfl zin_X11 (by decide) zk_510 dX11_line_137 ?_
    refine lv_iload_n he hb dX11_line_140 rfl (lv_at hl 2 rfl) ?_
    obtain ⟨_, hc, h⟩ := zob h
    obtain ⟨x32, hx, h⟩ := zob h
    refine z_callV (ci := 8) (T := TX8) (N := 9) (rest := []) B hS (mX8_seers l G hx) zy_X8_seers zk_794 (by decide) hc rfl rfl hl rfl (Nat.le_of_ble_eq_true rfl) dX11_line_141 (kk := (fun H locs hS => ?_))
    refine lv_if_eq (tgt := 157) he hb dX11_line_144 (by decide) (fun hc => ?_) (fun hc => ?_)
    · rw [if_pos hc] at h
      exact gX11_line_157 l B hG _ _ _ _ _ h hS (lv_sub hl [1] rfl)
    · rw [if_neg hc] at h
      refine z_aload_n he hb dX11_line_147 rfl (lv_at hl 1 rfl) (zref_r _ _) ?_
      obtain ⟨x35, hx, h⟩ := zob h
      refine z_getR (ci := 11) (T := TX11) (N := 14) (j := 12) B hS hx rfl zin_X11 (by decide) zk_520 dX11_line_148 ?_
      refine z_ldcSW B hG 4 rfl dX11_line_151 ?_
      obtain ⟨_, hc, h⟩ := zob h
      obtain ⟨f36, hx, h⟩ := zob h
      refine z_callV (ci := 0) (T := TX0) (N := 9) (rest := []) B hS (mX0_addText l G hG hx) zy_X0_addText zk_1039 (by decide) hc rfl rfl hl rfl (Nat.le_of_ble_eq_true rfl) dX11_line_154 (kk := (fun H locs hS => ?_))
      exact gX11_line_157 l B hG _ _ _ _ _ h hS (lv_sub hl [1] rfl)
  · rw [if_pos hc] at h
    refine lv_iconst (v := (-1 : Int32)) he hb dX11_line_11 (by decide) ?_
    obtain ⟨rfl, rfl⟩ := Prod.mk.inj (Option.some.inj h)
    exact z_iret B hS dX11_line_12
theorem dX9_init_0 : decode cX9_init 0 = .ok (.aload_n 0, 1) := by decide +kernel
theorem dX9_init_1 : decode cX9_init 1 = .ok (.invokespecial 3, 3) := by decide +kernel
theorem dX9_init_4 : decode cX9_init 4 = .ok (.aload_n 0, 1) := by decide +kernel
theorem dX9_init_5 : decode cX9_init 5 = .ok (.sipush 940, 3) := by decide +kernel
theorem dX9_init_8 : decode cX9_init 8 = .ok (.newarray .byte, 2) := by decide +kernel
theorem dX9_init_10 : decode cX9_init 10 = .ok (.putfield 9, 3) := by decide +kernel
theorem dX9_init_13 : decode cX9_init 13 = .ok (.aload_n 0, 1) := by decide +kernel
theorem dX9_init_14 : decode cX9_init 14 = .ok (.bipush 27, 2) := by decide +kernel
theorem dX9_init_16 : decode cX9_init 16 = .ok (.newarray .long, 2) := by decide +kernel
theorem dX9_init_18 : decode cX9_init 18 = .ok (.putfield 15, 3) := by decide +kernel
theorem dX9_init_21 : decode cX9_init 21 = .ok (.iconst 0, 1) := by decide +kernel
theorem dX9_init_22 : decode cX9_init 22 = .ok (.istore_n 1, 1) := by decide +kernel
theorem dX9_init_23 : decode cX9_init 23 = .ok (.lconst 0, 1) := by decide +kernel
theorem dX9_init_24 : decode cX9_init 24 = .ok (.lstore_n 2, 1) := by decide +kernel
theorem dX9_init_25 : decode cX9_init 25 = .ok (.iconst 0, 1) := by decide +kernel
theorem dX9_init_26 : decode cX9_init 26 = .ok (.istore 4, 2) := by decide +kernel
theorem dX9_init_28 : decode cX9_init 28 = .ok (.iload 4, 2) := by decide +kernel
theorem dX9_init_30 : decode cX9_init 30 = .ok (.ldc 19, 2) := by decide +kernel
theorem dX9_init_32 : decode cX9_init 32 = .ok (.invokevirtual 21, 3) := by decide +kernel
theorem dX9_init_35 : decode cX9_init 35 = .ok (.if_icmp .ge 55, 3) := by decide +kernel
theorem dX9_init_38 : decode cX9_init 38 = .ok (.ldc 19, 2) := by decide +kernel
theorem dX9_init_40 : decode cX9_init 40 = .ok (.iload 4, 2) := by decide +kernel
theorem dX9_init_42 : decode cX9_init 42 = .ok (.invokevirtual 27, 3) := by decide +kernel
theorem dX9_init_45 : decode cX9_init 45 = .ok (.istore 5, 2) := by decide +kernel
theorem dX9_init_47 : decode cX9_init 47 = .ok (.iload 5, 2) := by decide +kernel
theorem dX9_init_49 : decode cX9_init 49 = .ok (.bipush 32, 2) := by decide +kernel
theorem dX9_init_51 : decode cX9_init 51 = .ok (.if_icmp .ne 20, 3) := by decide +kernel
theorem dX9_init_54 : decode cX9_init 54 = .ok (.aload_n 0, 1) := by decide +kernel
theorem dX9_init_55 : decode cX9_init 55 = .ok (.getfield 15, 3) := by decide +kernel
theorem dX9_init_58 : decode cX9_init 58 = .ok (.iload_n 1, 1) := by decide +kernel
theorem dX9_init_59 : decode cX9_init 59 = .ok (.lload_n 2, 1) := by decide +kernel
theorem dX9_init_60 : decode cX9_init 60 = .ok (.invokestatic 31, 3) := by decide +kernel
theorem dX9_init_63 : decode cX9_init 63 = .ok (.iinc 1 1, 3) := by decide +kernel
theorem dX9_init_66 : decode cX9_init 66 = .ok (.lconst 0, 1) := by decide +kernel
theorem dX9_init_67 : decode cX9_init 67 = .ok (.lstore_n 2, 1) := by decide +kernel
theorem dX9_init_68 : decode cX9_init 68 = .ok (.goto 16, 3) := by decide +kernel
theorem dX9_init_71 : decode cX9_init 71 = .ok (.lload_n 2, 1) := by decide +kernel
theorem dX9_init_72 : decode cX9_init 72 = .ok (.iconst 5, 1) := by decide +kernel
theorem dX9_init_73 : decode cX9_init 73 = .ok (.lshl, 1) := by decide +kernel
theorem dX9_init_74 : decode cX9_init 74 = .ok (.iload 5, 2) := by decide +kernel
theorem dX9_init_76 : decode cX9_init 76 = .ok (.bipush 97, 2) := by decide +kernel
theorem dX9_init_78 : decode cX9_init 78 = .ok (.isub, 1) := by decide +kernel
theorem dX9_init_79 : decode cX9_init 79 = .ok (.iconst 1, 1) := by decide +kernel
theorem dX9_init_80 : decode cX9_init 80 = .ok (.iadd, 1) := by decide +kernel
theorem dX9_init_81 : decode cX9_init 81 = .ok (.i2l, 1) := by decide +kernel
theorem dX9_init_82 : decode cX9_init 82 = .ok (.lor, 1) := by decide +kernel
theorem dX9_init_83 : decode cX9_init 83 = .ok (.lstore_n 2, 1) := by decide +kernel
theorem dX9_init_84 : decode cX9_init 84 = .ok (.iinc 4 1, 3) := by decide +kernel
theorem dX9_init_87 : decode cX9_init 87 = .ok (.goto (-59), 3) := by decide +kernel
theorem dX9_init_90 : decode cX9_init 90 = .ok (.return_, 1) := by decide +kernel
def fX9_init_84 (r28 : zF → Nat → Int32 → Int64 → Int32 → Option zF) (N n : Nat) (f : zF) (a0 : Nat) (a1 : Int32) (a2 : Int64) (a4 : Int32) : Option zF :=
    (r28 f a0 a1 a2 (a4 + 1))
set_option maxRecDepth 100000 in
set_option maxHeartbeats 4000000 in
theorem gX9_init_84 (l : Launch) {G : zG} {p : Program} {e : Env} {s : State} {m : MethodId} {args : Array Value} {below : List Frame} {meth : Method} {c : Code} {N n : Nat} {f9 : zF} {r28 : zF → Nat → Int32 → Int64 → Int32 → Option zF} (B : zB G p s m args meth c RX9 cX9_init 6 (none)) (hG : zOK G) (hz0 : s.heap.size = G.2.2.2.size + n) (hr28 : ∀ (f : zF) (a0 : Nat) (a1 : Int32) (a2 : Int64) (a4 : Int32) (H : Heap) (locs : List Loc) (ls : Array Slot), r28 f a0 a1 a2 a4 = some f9 → zS G (n + 2) f H locs → lv_has ls 6 [(0, zr G a0), (1, .int a1), (2, .long a2), (4, .int a4)] → W p l e (zrmA 8 2 967) s m args below meth c H locs 2 967 (MQ below (zQcA G (n + 2) f9) args s 2 967 (zA G)) (F0 m 28 ls [])) : ∀ (f : zF) (a0 : Nat) (a1 : Int32) (a2 : Int64) (a4 : Int32) (H : Heap) (locs : List Loc) (ls : Array Slot), fX9_init_84 r28 N n f a0 a1 a2 a4 = some f9 → zS G (n + 2) f H locs → lv_has ls 6 [(0, zr G a0), (1, .int a1), (2, .long a2), (4, .int a4)] → W p l e (zrmA 8 2 967) s m args below meth c H locs 2 967 (MQ below (zQcA G (n + 2) f9) args s 2 967 (zA G)) (F0 m 84 ls []) := by
  have he := B.1
  have hb := B.2.1
  intro f a0 a1 a2 a4 H locs ls h hS hl
  unfold fX9_init_84 at h
  refine lv_iinc (v := (a4 + 1)) (lv' := [(4, _), (0, _), (1, _), (2, _)]) he hb dX9_init_84 hl (k := 3) rfl rfl (by decide) rfl (fun ls hl => ?_)
  refine lv_goto (tgt := 28) he hb dX9_init_87 (by decide) ?_
  exact hr28 _ _ _ _ _ _ _ _ h hS (lv_sub hl [1, 2, 3, 0] rfl)
def fX9_init_28 (N n : Nat) : Nat → zF → Nat → Int32 → Int64 → Int32 → Option zF
  | 0, _, _, _, _, _ => none
  | k + 1, f, a0, a1, a2, a4 =>
    ((zslen 5).bind fun x5 => (if x5 ≤ a4 then some f else ((zschar 5 a4).bind fun x6 => (if x6 = (32 : Int32) then ((zgR (n + 2) f 9 a0 1).bind fun x7 => ((fX11_putName N (n + 2) f x7 a1 a2).bind fun f8 => (fX9_init_84 (fX9_init_28 N n k) N n f8 a0 (a1 + 1) (0 : Int64) a4))) else (fX9_init_84 (fX9_init_28 N n k) N n f a0 a1 ((zlshl a2 (5 : Int32)) ||| (((x6 - (97 : Int32)) + (1 : Int32)).toInt64)) a4)))))
set_option maxRecDepth 100000 in
set_option maxHeartbeats 4000000 in
theorem gX9_init_28 (l : Launch) {G : zG} {p : Program} {e : Env} {s : State} {m : MethodId} {args : Array Value} {below : List Frame} {meth : Method} {c : Code} {N n : Nat} {f9 : zF} (B : zB G p s m args meth c RX9 cX9_init 6 (none)) (hG : zOK G) (hz0 : s.heap.size = G.2.2.2.size + n) : ∀ (k : Nat), ∀ (f : zF) (a0 : Nat) (a1 : Int32) (a2 : Int64) (a4 : Int32) (H : Heap) (locs : List Loc) (ls : Array Slot), fX9_init_28 N n k f a0 a1 a2 a4 = some f9 → zS G (n + 2) f H locs → lv_has ls 6 [(0, zr G a0), (1, .int a1), (2, .long a2), (4, .int a4)] → W p l e (zrmA 8 2 967) s m args below meth c H locs 2 967 (MQ below (zQcA G (n + 2) f9) args s 2 967 (zA G)) (F0 m 28 ls []) := by
  have he := B.1
  have hb := B.2.1
  intro k
  induction k with
  | zero =>
    intro f a0 a1 a2 a4 H locs ls h
    unfold fX9_init_28 at h
    cases h
  | succ k ih =>
    intro f a0 a1 a2 a4 H locs ls h hS hl
    unfold fX9_init_28 at h
    refine lv_iload he hb dX9_init_28 (lv_at hl 3 rfl) ?_
    refine z_ldcS B hG 5 rfl dX9_init_30 ?_
    obtain ⟨x5, hx, h⟩ := zob h
    refine z_slen (rest := [_]) B hG hS hx zk_40 ⟨by decide, by decide⟩ hl (Nat.le_of_ble_eq_true rfl) dX9_init_32 ⟨by decide, by decide⟩ (fun H locs hS => ?_)
    refine lv_icmp_ge (tgt := 90) he hb dX9_init_35 (by decide) (fun hc => ?_) (fun hc => ?_)
    · rw [if_pos hc] at h
      obtain rfl := Option.some.inj h
      exact z_vretA B hS (by omega) dX9_init_90
    · rw [if_neg hc] at h
      refine z_ldcS B hG 5 rfl dX9_init_38 ?_
      refine lv_iload he hb dX9_init_40 (lv_at hl 3 rfl) ?_
      obtain ⟨x6, hx, h⟩ := zob h
      refine z_schar (rest := []) B hG hS hx zk_50 ⟨by decide, by decide⟩ hl (Nat.le_of_ble_eq_true rfl) dX9_init_42 ⟨by decide, by decide⟩ (fun H locs hS => ?_)
      refine lv_istore (lv' := [(5, _), (0, _), (1, _), (2, _), (4, _)]) he hb dX9_init_45 hl (by decide) rfl (fun ls hl => ?_)
      refine lv_iload he hb dX9_init_47 (lv_at hl 0 rfl) ?_
      refine lv_bipush (v := (32 : Int32)) he hb dX9_init_49 (by decide) ?_
      refine lv_icmp_ne (tgt := 71) he hb dX9_init_51 (by decide) (fun hc => ?_) (fun hc => ?_)
      · rw [if_neg hc] at h
        refine lv_lload_n he hb dX9_init_71 rfl (lv_at hl 3 rfl) ?_
        refine lv_iconst (v := (5 : Int32)) he hb dX9_init_72 (by decide) ?_
        refine z_lshl he hb dX9_init_73 ?_
        refine lv_iload he hb dX9_init_74 (lv_at hl 0 rfl) ?_
        refine lv_bipush (v := (97 : Int32)) he hb dX9_init_76 (by decide) ?_
        refine lv_isub he hb dX9_init_78 ?_
        refine lv_iconst (v := (1 : Int32)) he hb dX9_init_79 (by decide) ?_
        refine lv_iadd he hb dX9_init_80 ?_
        refine lv_i2l (v := (((x6 - (97 : Int32)) + (1 : Int32)).toInt64)) he hb dX9_init_81 rfl ?_
        refine lv_lor he hb dX9_init_82 ?_
        refine lv_lstore_n (lv' := [(2, _), (5, _), (0, _), (1, _), (4, _)]) he hb dX9_init_83 rfl hl (by decide) rfl (fun ls hl => ?_)
        exact gX9_init_84 l B hG hz0 ih _ _ _ _ _ _ _ _ h hS (lv_sub hl [2, 3, 0, 4] rfl)
      · rw [if_pos hc] at h
        refine z_aload_n he hb dX9_init_54 rfl (lv_at hl 1 rfl) (zref_r _ _) ?_
        obtain ⟨x7, hx, h⟩ := zob h
        refine z_getR (ci := 9) (T := TX9) (N := 12) (j := 1) B hS hx rfl zin_X9 (by decide) zk_92 dX9_init_55 ?_
        refine lv_iload_n he hb dX9_init_58 rfl (lv_at hl 2 rfl) ?_
        refine lv_lload_n he hb dX9_init_59 rfl (lv_at hl 3 rfl) ?_
        obtain ⟨f8, hx, h⟩ := zob h
        refine zq_callN (rest := []) B hS (mX11_putName l G hx) zy_X11_putName zkn_88 ⟨by decide, by decide⟩ rfl hl rfl (Nat.le_of_ble_eq_true rfl) dX9_init_60 (kk := (fun H locs hS => ?_)) (hcs := ⟨by decide, by decide⟩)
        refine lv_iinc (v := (a1 + 1)) (lv' := [(1, _), (5, _), (0, _), (2, _), (4, _)]) he hb dX9_init_63 hl (k := 2) rfl rfl (by decide) rfl (fun ls hl => ?_)
        refine lv_lconst (v := (0 : Int64)) he hb dX9_init_66 (by decide) ?_
        refine lv_lstore_n (lv' := [(2, _), (1, _), (5, _), (0, _), (4, _)]) he hb dX9_init_67 rfl hl (by decide) rfl (fun ls hl => ?_)
        refine lv_goto (tgt := 84) he hb dX9_init_68 (by decide) ?_
        exact gX9_init_84 l B hG hz0 ih _ _ _ _ _ _ _ _ h hS (lv_sub hl [3, 1, 0, 4] rfl)
def fX9_init (N n : Nat) (f : zF) (a0 : Nat) : Option zF :=
    ((zmk f n (.inl (2, 940, .inl (fun _ => 0)))).bind fun f1 => ((zpR (n + 1) f1 9 a0 0 n).bind fun f2 => ((zmk f2 (n + 1) (.inl (1, 27, .inr (.inl (fun _ => 0))))).bind fun f3 => ((zpR (n + 2) f3 9 a0 1 (n + 1)).bind fun f4 => (fX9_init_28 N n N f4 a0 (0 : Int32) (0 : Int64) (0 : Int32))))))
set_option maxRecDepth 100000 in
set_option maxHeartbeats 4000000 in
theorem mX9_init (l : Launch) (G : zG) (hG : zOK G) {N n : Nat} {f f9 : zF} {a0 : Nat} (h : fX9_init N n f a0 = some f9) : zMA l G yX9_init cX9_init 6 8 n f [zr G a0] f9 2 967 := by
  refine zMA.of (by decide) (Nat.le_of_ble_eq_true rfl) rfl ?_
  intro p e s m args below meth c locs ls B hni hS hz0 hl
  have he := B.1
  have hb := B.2.1
  have hl : lv_has ls 6 [(0, zr G a0)] := hl
  unfold fX9_init at h
  generalize hHs : s.heap = H at hS ⊢
  refine z_aload_n he hb dX9_init_0 rfl (lv_at hl 0 rfl) (zref_r _ _) ?_
  refine z_objInit (rest := []) B zk_38 zobj hl ⟨by decide, by decide⟩ (Nat.le_of_ble_eq_true rfl) dX9_init_1 ?_
  refine z_aload_n he hb dX9_init_4 rfl (lv_at hl 0 rfl) (zref_r _ _) ?_
  refine lv_sipush (v := (940 : Int32)) he hb dX9_init_5 (by decide) ?_
  obtain ⟨f1, hx, h⟩ := zob h
  refine z_newB (len := 940) B hS (by omega) zk_142 (by decide) (by decide) (by decide) (by decide) (by decide) dX9_init_8 (fun H hS => ?_)
  rw [Option.some.inj hx] at hS
  obtain ⟨f2, hx, h⟩ := zob h
  refine z_putF (ci := 9) (T := TX9) (N := 12) (j := 0) B hni hS hx rfl zin_X9 tyX9 tyX9_ok nmX9 (by decide) zk_91 rfl rfl rfl rfl dX9_init_10 (fun H locs hS => ?_)
  refine z_aload_n he hb dX9_init_13 rfl (lv_at hl 0 rfl) (zref_r _ _) ?_
  refine lv_bipush (v := (27 : Int32)) he hb dX9_init_14 (by decide) ?_
  obtain ⟨f3, hx, h⟩ := zob h
  refine z_newL (len := 27) B hS (by omega) zk_143 (by decide) (by decide) (by decide) (by decide) (by decide) dX9_init_16 (fun H hS => ?_)
  rw [Option.some.inj hx] at hS
  obtain ⟨f4, hx, h⟩ := zob h
  refine z_putF (ci := 9) (T := TX9) (N := 12) (j := 1) B hni hS hx rfl zin_X9 tyX9 tyX9_ok nmX9 (by decide) zk_92 rfl rfl rfl rfl dX9_init_18 (fun H locs hS => ?_)
  refine lv_iconst (v := (0 : Int32)) he hb dX9_init_21 (by decide) ?_
  refine lv_istore_n (lv' := [(1, _), (0, _)]) he hb dX9_init_22 rfl hl (by decide) rfl (fun ls hl => ?_)
  refine lv_lconst (v := (0 : Int64)) he hb dX9_init_23 (by decide) ?_
  refine lv_lstore_n (lv' := [(2, _), (1, _), (0, _)]) he hb dX9_init_24 rfl hl (by decide) rfl (fun ls hl => ?_)
  refine lv_iconst (v := (0 : Int32)) he hb dX9_init_25 (by decide) ?_
  refine lv_istore (lv' := [(4, _), (2, _), (1, _), (0, _)]) he hb dX9_init_26 hl (by decide) rfl (fun ls hl => ?_)
  exact gX9_init_28 l B hG hz0 N _ _ _ _ _ _ _ _ h hS (lv_sub hl [3, 2, 1, 0] rfl)
