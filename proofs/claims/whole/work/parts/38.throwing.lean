/-! the two calls that may throw, and the law's own catching of them: a throw of the class that links its super by its 13th constant -/
theorem zk_20 : (Jvm.Cond.initialized "java/lang/Throwable") ∈ zTT := zTT_in (List.mem_of_getElem? (i := 20) (by decide +kernel)) rfl
theorem zk_23 : (Jvm.Cond.initialized "java/util/NoSuchElementException") ∈ zTT := zTT_in (List.mem_of_getElem? (i := 23) (by decide +kernel)) rfl
theorem zk_1213 : (Jvm.Cond.classLink "SeenToMoveLaw" (13 : Nat) "java/util/NoSuchElementException") ∈ zTT := zTT_in (List.mem_of_getElem? (i := 1213) (by decide +kernel)) rfl
theorem zk_1218 : (Jvm.Cond.classLink "SeenToMove" (137 : Nat) "java/util/NoSuchElementException") ∈ zTT := zTT_in (List.mem_of_getElem? (i := 1218) (by decide +kernel)) rfl
theorem zk_1219 : (Jvm.Cond.instantiable "java/util/NoSuchElementException" (6 : Nat)) ∈ zTT := zTT_in (List.mem_of_getElem? (i := 1219) (by decide +kernel)) rfl
theorem zf_1220 : (Jvm.Cond.castable "java/util/NoSuchElementException" "java/util/NoSuchElementException") ∈ zFaceW := List.mem_filter.mpr ⟨List.mem_of_getElem? (i := 1220) (by decide +kernel), rfl⟩
theorem zf_1222 : (Jvm.Cond.declares ({ cls := "java/lang/RuntimeException", name := "<init>", desc := "(Ljava/lang/String;)V" } : Jvm.MethodName)) ∈ zFaceW := List.mem_filter.mpr ⟨List.mem_of_getElem? (i := 1222) (by decide +kernel), rfl⟩
theorem zf_1224 : (Jvm.Cond.declares ({ cls := "java/lang/Exception", name := "<init>", desc := "(Ljava/lang/String;)V" } : Jvm.MethodName)) ∈ zFaceW := List.mem_filter.mpr ⟨List.mem_of_getElem? (i := 1224) (by decide +kernel), rfl⟩
theorem zf_1226 : (Jvm.Cond.declares ({ cls := "java/lang/Throwable", name := "<init>", desc := "(Ljava/lang/String;)V" } : Jvm.MethodName)) ∈ zFaceW := List.mem_filter.mpr ⟨List.mem_of_getElem? (i := 1226) (by decide +kernel), rfl⟩
theorem zk_1227 : (Jvm.Cond.selects "java/util/NoSuchElementException" ({ cls := "java/lang/Throwable", name := "fillInStackTrace", desc := "(I)Ljava/lang/Throwable;" } : Jvm.MethodName) ({ cls := "java/lang/Throwable", name := "fillInStackTrace", desc := "(I)Ljava/lang/Throwable;" } : Jvm.MethodName)) ∈ zTT := zTT_in (List.mem_of_getElem? (i := 1227) (by decide +kernel)) rfl
theorem zk_1228 : (Jvm.Cond.selects "java/util/NoSuchElementException" ({ cls := "java/lang/Throwable", name := "fillInStackTrace", desc := "()Ljava/lang/Throwable;" } : Jvm.MethodName) ({ cls := "java/lang/Throwable", name := "fillInStackTrace", desc := "()Ljava/lang/Throwable;" } : Jvm.MethodName)) ∈ zTT := zTT_in (List.mem_of_getElem? (i := 1228) (by decide +kernel)) rfl
theorem zk_1229 : (Jvm.Cond.lays "java/util/NoSuchElementException" "java/lang/Throwable" "cause" "Ljava/lang/Throwable;") ∈ zTT := zTT_in (List.mem_of_getElem? (i := 1229) (by decide +kernel)) rfl
theorem zk_1230 : (Jvm.Cond.lays "java/lang/Throwable" "java/lang/Throwable" "cause" "Ljava/lang/Throwable;") ∈ zTT := zTT_in (List.mem_of_getElem? (i := 1230) (by decide +kernel)) rfl
theorem zk_1231 : (Jvm.Cond.lays "java/util/NoSuchElementException" "java/lang/Throwable" "stackTrace" "[Ljava/lang/StackTraceElement;") ∈ zTT := zTT_in (List.mem_of_getElem? (i := 1231) (by decide +kernel)) rfl
theorem zk_1232 : (Jvm.Cond.lays "java/lang/Throwable" "java/lang/Throwable" "stackTrace" "[Ljava/lang/StackTraceElement;") ∈ zTT := zTT_in (List.mem_of_getElem? (i := 1232) (by decide +kernel)) rfl
theorem zk_1233 : (Jvm.Cond.lays "java/util/NoSuchElementException" "java/lang/Throwable" "suppressedExceptions" "Ljava/util/List;") ∈ zTT := zTT_in (List.mem_of_getElem? (i := 1233) (by decide +kernel)) rfl
theorem zk_1234 : (Jvm.Cond.lays "java/lang/Throwable" "java/lang/Throwable" "suppressedExceptions" "Ljava/util/List;") ∈ zTT := zTT_in (List.mem_of_getElem? (i := 1234) (by decide +kernel)) rfl
theorem zk_1235 : (Jvm.Cond.lays "java/util/NoSuchElementException" "java/lang/Throwable" "detailMessage" "Ljava/lang/String;") ∈ zTT := zTT_in (List.mem_of_getElem? (i := 1235) (by decide +kernel)) rfl
theorem zk_1236 : (Jvm.Cond.lays "java/lang/Throwable" "java/lang/Throwable" "detailMessage" "Ljava/lang/String;") ∈ zTT := zTT_in (List.mem_of_getElem? (i := 1236) (by decide +kernel)) rfl
theorem zk_1237 : (Jvm.Cond.lays "java/util/NoSuchElementException" "java/lang/Throwable" "backtrace" "Ljava/lang/Object;") ∈ zTT := zTT_in (List.mem_of_getElem? (i := 1237) (by decide +kernel)) rfl
theorem zk_1238 : (Jvm.Cond.lays "java/lang/Throwable" "java/lang/Throwable" "backtrace" "Ljava/lang/Object;") ∈ zTT := zTT_in (List.mem_of_getElem? (i := 1238) (by decide +kernel)) rfl
theorem zk_1239 : (Jvm.Cond.fieldLink "java/lang/Throwable" (198 : Nat) "java/lang/Throwable" "backtrace" "Ljava/lang/Object;") ∈ zTT := zTT_in (List.mem_of_getElem? (i := 1239) (by decide +kernel)) rfl
theorem zk_1240 : (Jvm.Cond.superclass "java/lang/Throwable" "java/lang/Object") ∈ zTT := zTT_in (List.mem_of_getElem? (i := 1240) (by decide +kernel)) rfl
theorem zk_1241 : (Jvm.Cond.instanceMethod ({ cls := "java/lang/Throwable", name := "<init>", desc := "()V" } : Jvm.MethodName)) ∈ zTT := zTT_in (List.mem_of_getElem? (i := 1241) (by decide +kernel)) rfl
theorem zk_1242 : (Jvm.Cond.code ({ cls := "java/lang/Throwable", name := "<init>", desc := "()V" } : Jvm.MethodName) prog_26_method_1_code (1 : Nat) (Option.none : Option Jvm.ClassFile.FieldType)) ∈ zTT := zTT_in (List.mem_of_getElem? (i := 1242) (by decide +kernel)) rfl
theorem zk_1243 : (Jvm.Cond.methodLink "java/lang/Throwable" (1 : Nat) ({ cls := "java/lang/Object", name := "<init>", desc := "()V" } : Jvm.MethodName)) ∈ zTT := zTT_in (List.mem_of_getElem? (i := 1243) (by decide +kernel)) rfl
theorem zk_1244 : (Jvm.Cond.fieldLink "java/lang/Throwable" (13 : Nat) "java/lang/Throwable" "UNASSIGNED_STACK" "[Ljava/lang/StackTraceElement;") ∈ zTT := zTT_in (List.mem_of_getElem? (i := 1244) (by decide +kernel)) rfl
theorem zk_1246 : (Jvm.Cond.fieldLink "java/lang/Throwable" (20 : Nat) "java/lang/Throwable" "SUPPRESSED_SENTINEL" "Ljava/util/List;") ∈ zTT := zTT_in (List.mem_of_getElem? (i := 1246) (by decide +kernel)) rfl
theorem zk_1248 : (Jvm.Cond.methodLink "java/lang/Throwable" (27 : Nat) ({ cls := "java/lang/Throwable", name := "fillInStackTrace", desc := "()Ljava/lang/Throwable;" } : Jvm.MethodName)) ∈ zTT := zTT_in (List.mem_of_getElem? (i := 1248) (by decide +kernel)) rfl
theorem zk_1249 : (Jvm.Cond.instanceMethod ({ cls := "java/lang/Throwable", name := "fillInStackTrace", desc := "()Ljava/lang/Throwable;" } : Jvm.MethodName)) ∈ zTT := zTT_in (List.mem_of_getElem? (i := 1249) (by decide +kernel)) rfl
theorem zk_1251 : (Jvm.Cond.codeSync ({ cls := "java/lang/Throwable", name := "fillInStackTrace", desc := "()Ljava/lang/Throwable;" } : Jvm.MethodName) prog_26_method_18_code (1 : Nat) (Option.some (Jvm.ClassFile.FieldType.object "java/lang/Throwable"))) ∈ zTT := zTT_in (List.mem_of_getElem? (i := 1251) (by decide +kernel)) rfl
theorem zk_1252 : (Jvm.Cond.methodLink "java/lang/Throwable" (202 : Nat) ({ cls := "java/lang/Throwable", name := "fillInStackTrace", desc := "(I)Ljava/lang/Throwable;" } : Jvm.MethodName)) ∈ zTT := zTT_in (List.mem_of_getElem? (i := 1252) (by decide +kernel)) rfl
theorem zk_1254 : (Jvm.Cond.instanceMethod ({ cls := "java/lang/Throwable", name := "fillInStackTrace", desc := "(I)Ljava/lang/Throwable;" } : Jvm.MethodName)) ∈ zTT := zTT_in (List.mem_of_getElem? (i := 1254) (by decide +kernel)) rfl
theorem zk_1256 : (Jvm.Cond.native ({ cls := "java/lang/Throwable", name := "fillInStackTrace", desc := "(I)Ljava/lang/Throwable;" } : Jvm.MethodName)) ∈ zTT := zTT_in (List.mem_of_getElem? (i := 1256) (by decide +kernel)) rfl
theorem zk_1258 : (Jvm.Cond.methodLink "SeenToMove" (141 : Nat) ({ cls := "java/util/NoSuchElementException", name := "<init>", desc := "(Ljava/lang/String;)V" } : Jvm.MethodName)) ∈ zTT := zTT_in (List.mem_of_getElem? (i := 1258) (by decide +kernel)) rfl
theorem zk_1259 : (Jvm.Cond.instanceMethod ({ cls := "java/util/NoSuchElementException", name := "<init>", desc := "(Ljava/lang/String;)V" } : Jvm.MethodName)) ∈ zTT := zTT_in (List.mem_of_getElem? (i := 1259) (by decide +kernel)) rfl
theorem zk_1260 : (Jvm.Cond.code ({ cls := "java/util/NoSuchElementException", name := "<init>", desc := "(Ljava/lang/String;)V" } : Jvm.MethodName) prog_29_method_4_code (2 : Nat) (Option.none : Option Jvm.ClassFile.FieldType)) ∈ zTT := zTT_in (List.mem_of_getElem? (i := 1260) (by decide +kernel)) rfl
theorem zk_1261 : (Jvm.Cond.methodLink "java/util/NoSuchElementException" (13 : Nat) ({ cls := "java/lang/RuntimeException", name := "<init>", desc := "(Ljava/lang/String;)V" } : Jvm.MethodName)) ∈ zTT := zTT_in (List.mem_of_getElem? (i := 1261) (by decide +kernel)) rfl
theorem zk_1262 : (Jvm.Cond.instanceMethod ({ cls := "java/lang/RuntimeException", name := "<init>", desc := "(Ljava/lang/String;)V" } : Jvm.MethodName)) ∈ zTT := zTT_in (List.mem_of_getElem? (i := 1262) (by decide +kernel)) rfl
theorem zk_1263 : (Jvm.Cond.code ({ cls := "java/lang/RuntimeException", name := "<init>", desc := "(Ljava/lang/String;)V" } : Jvm.MethodName) prog_21_method_2_code (2 : Nat) (Option.none : Option Jvm.ClassFile.FieldType)) ∈ zTT := zTT_in (List.mem_of_getElem? (i := 1263) (by decide +kernel)) rfl
theorem zk_1264 : (Jvm.Cond.methodLink "java/lang/RuntimeException" (7 : Nat) ({ cls := "java/lang/Exception", name := "<init>", desc := "(Ljava/lang/String;)V" } : Jvm.MethodName)) ∈ zTT := zTT_in (List.mem_of_getElem? (i := 1264) (by decide +kernel)) rfl
theorem zk_1265 : (Jvm.Cond.instanceMethod ({ cls := "java/lang/Exception", name := "<init>", desc := "(Ljava/lang/String;)V" } : Jvm.MethodName)) ∈ zTT := zTT_in (List.mem_of_getElem? (i := 1265) (by decide +kernel)) rfl
theorem zk_1266 : (Jvm.Cond.code ({ cls := "java/lang/Exception", name := "<init>", desc := "(Ljava/lang/String;)V" } : Jvm.MethodName) prog_18_method_2_code (2 : Nat) (Option.none : Option Jvm.ClassFile.FieldType)) ∈ zTT := zTT_in (List.mem_of_getElem? (i := 1266) (by decide +kernel)) rfl
theorem zk_1267 : (Jvm.Cond.methodLink "java/lang/Exception" (7 : Nat) ({ cls := "java/lang/Throwable", name := "<init>", desc := "(Ljava/lang/String;)V" } : Jvm.MethodName)) ∈ zTT := zTT_in (List.mem_of_getElem? (i := 1267) (by decide +kernel)) rfl
theorem zk_1268 : (Jvm.Cond.instanceMethod ({ cls := "java/lang/Throwable", name := "<init>", desc := "(Ljava/lang/String;)V" } : Jvm.MethodName)) ∈ zTT := zTT_in (List.mem_of_getElem? (i := 1268) (by decide +kernel)) rfl
theorem zk_1269 : (Jvm.Cond.code ({ cls := "java/lang/Throwable", name := "<init>", desc := "(Ljava/lang/String;)V" } : Jvm.MethodName) prog_26_method_2_code (2 : Nat) (Option.none : Option Jvm.ClassFile.FieldType)) ∈ zTT := zTT_in (List.mem_of_getElem? (i := 1269) (by decide +kernel)) rfl
theorem zk_1271 : (Jvm.Cond.fieldLink "java/lang/Throwable" (31 : Nat) "java/lang/Throwable" "detailMessage" "Ljava/lang/String;") ∈ zTT := zTT_in (List.mem_of_getElem? (i := 1271) (by decide +kernel)) rfl
theorem zk_1272 : (Jvm.Cond.fieldLink "java/lang/Throwable" (7 : Nat) "java/lang/Throwable" "cause" "Ljava/lang/Throwable;") ∈ zTT := zTT_in (List.mem_of_getElem? (i := 1272) (by decide +kernel)) rfl
theorem zk_1273 : (Jvm.Cond.fieldLink "java/lang/Throwable" (17 : Nat) "java/lang/Throwable" "stackTrace" "[Ljava/lang/StackTraceElement;") ∈ zTT := zTT_in (List.mem_of_getElem? (i := 1273) (by decide +kernel)) rfl
theorem zk_1274 : (Jvm.Cond.fieldLink "java/lang/Throwable" (24 : Nat) "java/lang/Throwable" "suppressedExceptions" "Ljava/util/List;") ∈ zTT := zTT_in (List.mem_of_getElem? (i := 1274) (by decide +kernel)) rfl
def zNSE : String := "java/util/NoSuchElementException"
def zRTE : String := "java/lang/RuntimeException"
def zSix : ByteArray := ⟨#[0x2a, 0x2b, 0xb7, 0x00, 0x0d, 0xb1]⟩
theorem zSix_0 : decode zSix 0 = .ok (.aload_n 0, 1) := by decide +kernel
theorem zSix_1 : decode zSix 1 = .ok (.aload_n 1, 1) := by decide +kernel
theorem zSix_2 : decode zSix 2 = .ok (.invokespecial 13, 3) := by decide +kernel
theorem zSix_5 : decode zSix 5 = .ok (.return_, 1) := by decide +kernel
def zNch : List Cond := Bundle.passSAtoms zNSE zRTE 13 zSix ++ Bundle.chainSAtoms zRTE ["java/lang/Exception"]
def zNow : List Cond := [.methodLink RX11 141 (Bundle.initS zNSE), .instantiable zNSE 6, .castable zNSE zNSE, .selects zNSE Bundle.tFill0 Bundle.tFill0, .selects zNSE Bundle.tFill Bundle.tFill, .lays zNSE Bundle.tN "cause" "Ljava/lang/Throwable;", .lays zNSE Bundle.tN "stackTrace" Bundle.steD, .lays zNSE Bundle.tN "suppressedExceptions" Bundle.listD, .lays zNSE Bundle.tN "detailMessage" "Ljava/lang/String;", .isRef (.static Bundle.tN "UNASSIGNED_STACK" Bundle.steD), .isRef (.static Bundle.tN "SUPPRESSED_SENTINEL" Bundle.listD), .fieldLink Bundle.tN 198 Bundle.tN "backtrace" "Ljava/lang/Object;", .lays Bundle.tN Bundle.tN "backtrace" "Ljava/lang/Object;", .lays zNSE Bundle.tN "backtrace" "Ljava/lang/Object;"]
def zNall : List Cond := Bundle.throwableAtoms ++ (Bundle.throwableSAtoms ++ (zNch ++ zNow))
theorem zNall_ok {args : Array Value} {s : State} (hg : ∀ w ∈ zTT, w.before args s = true) (hf : ∀ w ∈ zFaceW, w.before args s = true)
    (hU : (Cond.isRef (.static Bundle.tN "UNASSIGNED_STACK" Bundle.steD)).before args s = true) (hN : (Cond.isRef (.static Bundle.tN "SUPPRESSED_SENTINEL" Bundle.listD)).before args s = true)
    (lU : (Cond.laysStatic Bundle.tN "UNASSIGNED_STACK" Bundle.steD).before args s = true) (lN : (Cond.laysStatic Bundle.tN "SUPPRESSED_SENTINEL" Bundle.listD).before args s = true) : ∀ w ∈ zNall, w.before args s = true := by
  unfold zNall Bundle.throwableAtoms Bundle.throwableSAtoms zNch Bundle.chainSAtoms Bundle.chainSAtoms Bundle.passSAtoms zNow
  simp only [List.cons_append, List.nil_append]
  refine vx_c (hg _ zk_20) ?_
  refine vx_c (hg _ zk_1240) ?_
  refine vx_c (hg _ zk_1249) ?_
  refine vx_c (hg _ zk_1251) ?_
  refine vx_c (hg _ zk_1254) ?_
  refine vx_c (hg _ zk_1256) ?_
  refine vx_c (hg _ zk_1241) ?_
  refine vx_c (hg _ zk_1242) ?_
  refine vx_c (hg _ zk_31) ?_
  refine vx_c (hg _ zk_32) ?_
  refine vx_c (hg _ zk_1243) ?_
  refine vx_c (hg _ zk_1248) ?_
  refine vx_c (hg _ zk_1252) ?_
  refine vx_c (hg _ zk_1272) ?_
  refine vx_c (hg _ zk_1230) ?_
  refine vx_c (hg _ zk_1273) ?_
  refine vx_c (hg _ zk_1232) ?_
  refine vx_c (hg _ zk_1274) ?_
  refine vx_c (hg _ zk_1234) ?_
  refine vx_c (hg _ zk_1244) ?_
  refine vx_c lU ?_
  refine vx_c (hg _ zk_1246) ?_
  refine vx_c lN ?_
  refine vx_c (hg _ zk_1236) ?_
  refine vx_c (hg _ zk_1268) ?_
  refine vx_c (hg _ zk_1269) ?_
  refine vx_c (hg _ zk_1271) ?_
  refine vx_c (hg _ zk_1236) ?_
  refine vx_c (hg _ zk_1259) ?_
  refine vx_c (hg _ zk_1260) ?_
  refine vx_c (hg _ zk_1261) ?_
  refine vx_c (hg _ zk_1262) ?_
  refine vx_c (hf _ zf_1222) ?_
  refine vx_c (hg _ zk_1262) ?_
  refine vx_c (hg _ zk_1263) ?_
  refine vx_c (hg _ zk_1264) ?_
  refine vx_c (hg _ zk_1265) ?_
  refine vx_c (hf _ zf_1224) ?_
  refine vx_c (hg _ zk_1265) ?_
  refine vx_c (hg _ zk_1266) ?_
  refine vx_c (hg _ zk_1267) ?_
  refine vx_c (hg _ zk_1268) ?_
  refine vx_c (hf _ zf_1226) ?_
  refine vx_c (hg _ zk_1258) ?_
  refine vx_c (hg _ zk_1219) ?_
  refine vx_c (hf _ zf_1220) ?_
  refine vx_c (hg _ zk_1227) ?_
  refine vx_c (hg _ zk_1228) ?_
  refine vx_c (hg _ zk_1229) ?_
  refine vx_c (hg _ zk_1231) ?_
  refine vx_c (hg _ zk_1233) ?_
  refine vx_c (hg _ zk_1235) ?_
  refine vx_c hU ?_
  refine vx_c hN ?_
  refine vx_c (hg _ zk_1239) ?_
  refine vx_c (hg _ zk_1238) ?_
  refine vx_c (hg _ zk_1237) ?_
  exact vx_n
theorem zchain {args : Array Value} {s : State} {pl : Platform} (hpl : pl.magicAccessors = ({} : Platform).magicAccessors) {top : MethodId} (htop : s.methodNamed? (Bundle.initS Bundle.tN) = some top) (h : ∀ c ∈ zNch, c.before args s = true) :
    ∃ (P1 : PassC) (Ps : List PassC), Ps.length = 2 ∧ P1.LinksS pl s ∧ (∀ P, P ∈ Ps → P.LinksS pl s) ∧ s.methodNamed? (Bundle.initS zNSE) = some P1.m ∧ P1.sup = firstOf top (Ps.map (·.toPassT)) ∧ PassesOn top (Ps.map (·.toPassT)) := by
  obtain ⟨P, L, hm, hs⟩ := PassC.ofS_atoms (args := args) (s := s) hpl (X := zNSE) (Y := zRTE) (index := 13) (bytes := zSix) (by decide) (by decide) zSix_0 zSix_1 zSix_2 zSix_5 (fun c hc => h c (List.mem_append_left _ hc))
  obtain ⟨P', Ps, hlen, L', hL, hm', hsup, hpass⟩ := Bundle.chainS (args := args) (s := s) hpl htop ["java/lang/Exception"] zRTE (by decide) (by decide) (fun c hc => h c (List.mem_append_right _ hc))
  refine ⟨P, P' :: Ps, by rw [List.length_cons, hlen]; rfl, L, fun Q hQ => ?_, hm, Option.some.inj (hs.symm.trans hm'), hsup, hpass⟩
  rcases List.mem_cons.mp hQ with rfl | hQ
  · exact L'
  · exact hL Q hQ
section ZTH
variable {p : Program} {l : Launch} {e : Env} {R : Room} {s : State} {m₀ : MethodId} {args : Array Value} {below : List Frame} {meth : Method} {c : Code} {W : State} {locs : List Loc} {cells slots : Nat}
theorem z_ctorThrow (X : Stand p l e R s m₀ args below meth c W locs cells slots) (hexec : p.tables.exec = Jvm.exec) (htr : e.platform.stackTraces = false) (hown : s.vm.findClass RX11 = some m₀.cls)
    (h : ∀ a ∈ zNall, a.before args s = true) (hlocs : ∀ x ∈ locs, ∀ cell, s.heap[x.base]? = some cell → cell.vm.isStatics = false)
    {a : Addr} {cX : ClassId} {kX : Class} (hfoundX : s.vm.findClass zNSE = some cX) (hkX : s.vm.classes[cX]? = some kX) (hcell : W.heap[a]? = some (freshCell cX kX)) (hnew : s.heap.size ≤ a)
    {msg : Value} (hmsg : msg.isRef = true) {g : JFrame} (hgm : g.method = m₀) (hsize : g.locals.size = c.maxLocals) (hlocked : g.locked = none) (hentered : g.entered = []) {rest : List Value} (hstack : g.stack = msg :: .ref a :: .ref a :: rest)
    (hd6 : decode c.code g.pc = .ok (.invokespecial 141, 3)) (hd9 : decode c.code (g.pc + 3) = .ok (.athrow, 1)) (hout : ∀ x ∈ c.exceptionTable.toList, covers x (g.pc + 3) = false)
    (hRframes : 5 < R.frames) (hRlocals : 2 * g.monitorRoom + ((Value.ref a :: rest).map fun v => v.category).sum + 81 ≤ R.locals) (hlocks : meth.locks = false) :
    ∃ U : State, Steps p.tables e below (W.setTop g) U ∧ U.status = .running ∧ Ended U below (.threw a) ∧ s.WarmedH U.vm ∧ s.sameButNew ({ U with vm := s.vm } : State) locs cells slots ∧
      ∃ ce, U.heap[a]? = some ce ∧ ce.vm = .none ∧ s.vm.findClass zNSE = some ce.cls := by
  have howns : e.platform.frameOwnsMonitors = true := by rw [X.admits.platform]
  have hfin : e.platform.finalization = false := by rw [X.admits.platform]
  have hpl : e.platform.magicAccessors = ({} : Platform).magicAccessors := by rw [X.admits.platform]
  have a1 : ∀ x ∈ Bundle.throwableAtoms, x.before args s = true := fun x hx => h x (List.mem_append_left _ hx)
  have a2 : ∀ x ∈ Bundle.throwableSAtoms, x.before args s = true := fun x hx => h x (List.mem_append_right _ (List.mem_append_left _ hx))
  have a3 : ∀ x ∈ zNch, x.before args s = true := fun x hx => h x (List.mem_append_right _ (List.mem_append_right _ (List.mem_append_left _ hx)))
  have a4 : ∀ x ∈ zNow, x.holds args s none s [] = true := fun x hx => h x (List.mem_append_right _ (List.mem_append_right _ (List.mem_append_right _ hx)))
  obtain ⟨T, Z0, L, -, Y⟩ := ThrowableC.of_atoms (args := args) howns hfin hpl a1
  obtain ⟨Z, M, LZ, LM, hnZ⟩ := Init0T.ofS_atoms (args := args) hpl L Y a2
  obtain ⟨P1, Ps, hlen, L1, hL, hP1m, hlink1, hlink⟩ := zchain (args := args) hpl hnZ a3
  have hfound : s.vm.findClass zNSE = some P1.m.cls := findClass_of_methodNamed hP1m
  cases Option.some.inj (hfoundX.symm.trans hfound)
  obtain ⟨c1, kX', hc1, hk, hord, -, -, hn6⟩ := Cond.instantiable_spec (a4 (.instantiable zNSE 6) (by simp [zNow]))
  cases Option.some.inj (hc1.symm.trans hfound)
  cases Option.some.inj (hkX.symm.trans hk)
  have hsel0 : selectMethod e.platform s.vm P1.m.cls T.fill0 = .method T.fill0 := by
    obtain ⟨c2, r2, m2, q1, q2, q3, q4, -⟩ := Cond.selects_spec (a4 (.selects zNSE Bundle.tFill0 Bundle.tFill0) (by simp [zNow]))
    cases Option.some.inj (q1.symm.trans hfound)
    cases Option.some.inj (q2.symm.trans (State.methodFound?_of_named Y.fill0 (by decide)))
    cases Option.some.inj (q3.symm.trans Y.fill0)
    rw [Launch.admits_selectMethod X.admits]; exact q4
  have hselF : selectMethod e.platform s.vm P1.m.cls T.fill = .method T.fill := by
    obtain ⟨c2, r2, m2, q1, q2, q3, q4, -⟩ := Cond.selects_spec (a4 (.selects zNSE Bundle.tFill Bundle.tFill) (by simp [zNow]))
    cases Option.some.inj (q1.symm.trans hfound)
    cases Option.some.inj (q2.symm.trans (State.methodFound?_of_named Y.fill (by decide)))
    cases Option.some.inj (q3.symm.trans Y.fill)
    rw [Launch.admits_selectMethod X.admits]; exact q4
  obtain ⟨cellS0, hcS0, hiss⟩ := Y.statics
  obtain ⟨u0, hu0⟩ := Cond.staticRefV Y.unassigned L.unassignedStatic L.statics hcS0 hiss (a4 (.isRef (.static Bundle.tN "UNASSIGNED_STACK" Bundle.steD)) (by simp [zNow]))
  obtain ⟨sen, hsen⟩ := Cond.staticRefV Y.sentinel L.sentinelStatic L.statics hcS0 hiss (a4 (.isRef (.static Bundle.tN "SUPPRESSED_SENTINEL" Bundle.listD)) (by simp [zNow]))
  obtain ⟨ci198, i198, fB, hk198, hg198, ha198, hsB, -, hnB, htB, hffB⟩ := Cond.ownField (t := .object "java/lang/Object") Y.found L.cls (by decide +kernel) (a4 (.fieldLink Bundle.tN 198 Bundle.tN "backtrace" "Ljava/lang/Object;") (by simp [zNow])) (a4 (.lays Bundle.tN Bundle.tN "backtrace" "Ljava/lang/Object;") (by simp [zNow])) e.platform hpl
  obtain ⟨cellS, hcS', heS, -, hkeep⟩ := X.same.2.2.2.2.2 T.aS cellS0 hcS0
  have hcellS : W.heap[T.aS]? = some cellS := hcS'
  have hout' : ∀ i, (⟨T.aS, i⟩ : Loc) ∉ locs := fun i hmem => by
    have := hlocs _ hmem cellS0 hcS0
    rw [hiss] at this; cases this
  have hknownS : cellS.vm ≠ .unknown := by
    rw [heS]; intro hu
    rw [show cellS0.vm = .unknown from hu] at hiss
    cases hiss
  have hneS : T.aS ≠ a := Nat.ne_of_lt (Nat.lt_of_lt_of_le (Array.getElem?_eq_some_iff.mp hcS0).1 hnew)
  obtain ⟨iM, hffM⟩ := Y.msg
  obtain ⟨tyC, dC, hdC, hdnC⟩ := Cond.laysAt hfound hk Y.cause (a4 (.lays zNSE Bundle.tN "cause" "Ljava/lang/Throwable;") (by simp [zNow]))
  obtain ⟨tyS, dS, hdS, hdnS⟩ := Cond.laysAt hfound hk Y.stack (a4 (.lays zNSE Bundle.tN "stackTrace" Bundle.steD) (by simp [zNow]))
  obtain ⟨tyP, dP, hdP, hdnP⟩ := Cond.laysAt hfound hk Y.supp (a4 (.lays zNSE Bundle.tN "suppressedExceptions" Bundle.listD) (by simp [zNow]))
  obtain ⟨tyM, dM, hdM, hdnM⟩ := Cond.laysAt hfound hk hffM (a4 (.lays zNSE Bundle.tN "detailMessage" "Ljava/lang/String;") (by simp [zNow]))
  obtain ⟨tyB, dB, hdB, hdnB⟩ := Cond.laysAt hfound hk hffB (a4 (.lays zNSE Bundle.tN "backtrace" "Ljava/lang/Object;") (by simp [zNow]))
  have bC := Cond.laysApart hdB hdC hdnB hdnC (by rw [hnB, Y.causeName]; decide)
  have bS := Cond.laysApart hdB hdS hdnB hdnS (by rw [hnB, Y.stackName]; decide)
  have bP := Cond.laysApart hdB hdP hdnB hdnP (by rw [hnB, Y.suppName]; decide)
  have hskip : SkipFacts T e.platform s (fun u => u) u0 ((preparedCellV T.toThrowableT (freshCell P1.m.cls kX) a u0 sen).withEntry W.cur) :=
    ⟨{ ci198 := ci198, i198 := i198, fBack := fB }, ⟨hk198, hg198, ha198, hsB⟩, by
      have := fresh_default (c := P1.m.cls) tyB
      rw [htB] at this
      simpa [preparedCellV, Cell.setSlot, Cell.withEntry, Array.getElem?_setIfInBounds, bC, bS, bP, bC.symm, bS.symm, bP.symm, defaultValue] using this, fun _ _ => rfl⟩
  obtain ⟨tm, methC, cdC, kC, vm₁, hnC, -, -, -, -, -, -, -, hW₁, st1⟩ := Steps.initColdS (tb := p.tables) (e := e) (below := below) (s := s) (U := W) X.here hexec X.warmed hpl hown (t := Bundle.initS zNSE) rfl rfl ⟨by decide, by decide⟩
    (a4 (.methodLink RX11 141 (Bundle.initS zNSE)) (by simp [zNow])) (a3 (.instanceMethod (Bundle.initS zNSE)) (by simp [zNch, Bundle.passSAtoms])) (bytes := zSix) (maxL := 2) (a3 (.code (Bundle.initS zNSE) zSix 2 none) (by simp [zNch, Bundle.passSAtoms]))
    (f := g) hgm (a := a) (msg := msg) (rest := .ref a :: rest) hstack hd6
  cases Option.some.inj (hnC.symm.trans hP1m)
  have X₁ := X.noted hW₁
  obtain ⟨vm₂, X₂, st2⟩ := X₁.ctorMessageOffV hexec (g := { g with stack := .ref a :: rest }) hgm hsize T L Z LZ M LM (P1 :: Ps)
    (fun P hP => by rcases List.mem_cons.mp hP with rfl | hP; exact L1; exact hL P hP) ⟨hlink1, hlink⟩ (u0 := u0) (sen := sen) (self := a) hmsg (cell := freshCell P1.m.cls kX) (cellS := cellS)
    hcell (fun _ => by simp) (by simp) rfl rfl hsel0 hselF hcellS hneS hknownS (by rw [hkeep _ (hout' _)]; exact hu0) (by rw [hkeep _ (hout' _)]; exact hsen)
    (Takes.of_laid hk hord tyC (by rw [Y.causeType]; rfl)) (Takes.of_laid hk hord tyS (by rw [Y.stackType]; exact fits_refV_array _ u0)) (Takes.of_laid hk hord tyP (by rw [Y.suppType]; exact fits_refV_object _ sen))
    (Takes.of_laid hk hord tyM (by rw [Y.msgType]; exact fits_refV_object _ ⟨msg, hmsg⟩)) Y.objLocals hskip htr [] hd6
    (by simp only [List.length_cons, hlen]; omega) (by simp only [List.length_cons, hlen]; exact hRlocals)
  obtain ⟨hwalk, hrun, hended, hWU, hsame⟩ := X₂.athrowLeaves hexec (g := { g with stack := .ref a :: rest, pc := g.pc + 3 }) hgm hlocked hentered hout (a := a) (rest := rest) rfl hd9
  have hlt : a < ((W.setVm vm₁).setVm vm₂).heap.size := (Array.getElem?_eq_some_iff.mp hcell).1
  have hU := heapAt_setCell_self (s := (W.setVm vm₁).setVm vm₂) (plainBareV T.toThrowableT (freshCell P1.m.cls kX) a u0 sen msg) hlt
  refine ⟨_, st1 _ (fun acts => ?_), hrun, hended, hWU, hsame.weaken (fun y hy hlt' => ?_) (Nat.le_refl _) (Nat.le_refl _), _, hU, rfl, hfound⟩
  · rw [doInvoke_state]
    exact st2 _ hwalk
  · rcases List.mem_append.mp hy with h1 | h1
    · exact h1
    · exfalso
      have hb : y.base = a := by
        simp only [List.mem_cons, List.not_mem_nil, or_false] at h1
        rcases h1 with rfl | rfl | rfl | rfl | rfl <;> rfl
      rw [hb] at hlt'
      exact Nat.not_lt.mpr hnew hlt'
end ZTH
