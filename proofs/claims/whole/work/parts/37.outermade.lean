theorem zk_30 : (Jvm.Cond.methodLink "SeenToMove" (1 : Nat) ({ cls := "java/lang/Object", name := "<init>", desc := "()V" } : Jvm.MethodName)) ∈ zTT := zTT_in (List.mem_of_getElem? (i := 30) (by decide +kernel)) rfl
theorem zk_33 : (Jvm.Cond.classLink "SeenToMove" (7 : Nat) "SeenToMove$Tape") ∈ zTT := zTT_in (List.mem_of_getElem? (i := 33) (by decide +kernel)) rfl
theorem zk_34 : (Jvm.Cond.instantiable "SeenToMove$Tape" (12 : Nat)) ∈ zTT := zTT_in (List.mem_of_getElem? (i := 34) (by decide +kernel)) rfl
theorem zk_35 : (Jvm.Cond.methodLink "SeenToMove" (9 : Nat) ({ cls := "SeenToMove$Tape", name := "<init>", desc := "()V" } : Jvm.MethodName)) ∈ zTT := zTT_in (List.mem_of_getElem? (i := 35) (by decide +kernel)) rfl
theorem zk_144 : (Jvm.Cond.classLink "SeenToMove" (16 : Nat) "SeenToMove$Field") ∈ zTT := zTT_in (List.mem_of_getElem? (i := 144) (by decide +kernel)) rfl
theorem zkn_146 : (Jvm.Cond.methodLinkNest "SeenToMove" (18 : Nat) ({ cls := "SeenToMove$Field", name := "<init>", desc := "()V" } : Jvm.MethodName) "SeenToMove") ∈ zNest := List.mem_filter.mpr ⟨List.mem_of_getElem? (i := 146) (by decide +kernel), rfl⟩
theorem zk_242 : (Jvm.Cond.classLink "SeenToMove" (23 : Nat) "SeenToMove$State") ∈ zTT := zTT_in (List.mem_of_getElem? (i := 242) (by decide +kernel)) rfl
theorem zk_244 : (Jvm.Cond.methodLink "SeenToMove" (25 : Nat) ({ cls := "SeenToMove$State", name := "<init>", desc := "(LSeenToMove$Field;)V" } : Jvm.MethodName)) ∈ zTT := zTT_in (List.mem_of_getElem? (i := 244) (by decide +kernel)) rfl
theorem zk_293 : (Jvm.Cond.classLink "SeenToMove" (35 : Nat) "SeenToMove$Sentence") ∈ zTT := zTT_in (List.mem_of_getElem? (i := 293) (by decide +kernel)) rfl
theorem zkn_295 : (Jvm.Cond.methodLinkNest "SeenToMove" (37 : Nat) ({ cls := "SeenToMove$Sentence", name := "<init>", desc := "()V" } : Jvm.MethodName) "SeenToMove") ∈ zNest := List.mem_filter.mpr ⟨List.mem_of_getElem? (i := 295) (by decide +kernel), rfl⟩
theorem zk_313 : (Jvm.Cond.classLink "SeenToMove" (42 : Nat) "SeenToMove$FieldText") ∈ zTT := zTT_in (List.mem_of_getElem? (i := 313) (by decide +kernel)) rfl
theorem zk_314 : (Jvm.Cond.instantiable "SeenToMove$FieldText" (6 : Nat)) ∈ zTT := zTT_in (List.mem_of_getElem? (i := 314) (by decide +kernel)) rfl
theorem zk_315 : (Jvm.Cond.methodLink "SeenToMove" (44 : Nat) ({ cls := "SeenToMove$FieldText", name := "<init>", desc := "(LSeenToMove$Tape;)V" } : Jvm.MethodName)) ∈ zTT := zTT_in (List.mem_of_getElem? (i := 315) (by decide +kernel)) rfl
theorem zk_344 : (Jvm.Cond.classLink "SeenToMove" (51 : Nat) "SeenToMove$BookText") ∈ zTT := zTT_in (List.mem_of_getElem? (i := 344) (by decide +kernel)) rfl
theorem zk_345 : (Jvm.Cond.instantiable "SeenToMove$BookText" (6 : Nat)) ∈ zTT := zTT_in (List.mem_of_getElem? (i := 345) (by decide +kernel)) rfl
theorem zk_346 : (Jvm.Cond.methodLink "SeenToMove" (53 : Nat) ({ cls := "SeenToMove$BookText", name := "<init>", desc := "(LSeenToMove$Tape;LSeenToMove$Field;)V" } : Jvm.MethodName)) ∈ zTT := zTT_in (List.mem_of_getElem? (i := 346) (by decide +kernel)) rfl
theorem zk_370 : (Jvm.Cond.classLink "SeenToMove" (60 : Nat) "SeenToMove$SentenceText") ∈ zTT := zTT_in (List.mem_of_getElem? (i := 370) (by decide +kernel)) rfl
theorem zk_371 : (Jvm.Cond.instantiable "SeenToMove$SentenceText" (4 : Nat)) ∈ zTT := zTT_in (List.mem_of_getElem? (i := 371) (by decide +kernel)) rfl
theorem zk_372 : (Jvm.Cond.methodLink "SeenToMove" (62 : Nat) ({ cls := "SeenToMove$SentenceText", name := "<init>", desc := "(LSeenToMove$Tape;LSeenToMove$Field;)V" } : Jvm.MethodName)) ∈ zTT := zTT_in (List.mem_of_getElem? (i := 372) (by decide +kernel)) rfl
theorem zk_392 : (Jvm.Cond.classLink "SeenToMove" (67 : Nat) "SeenToMove$Undos") ∈ zTT := zTT_in (List.mem_of_getElem? (i := 392) (by decide +kernel)) rfl
theorem zk_393 : (Jvm.Cond.instantiable "SeenToMove$Undos" (3 : Nat)) ∈ zTT := zTT_in (List.mem_of_getElem? (i := 393) (by decide +kernel)) rfl
theorem zk_394 : (Jvm.Cond.methodLink "SeenToMove" (69 : Nat) ({ cls := "SeenToMove$Undos", name := "<init>", desc := "(LSeenToMove$Field;)V" } : Jvm.MethodName)) ∈ zTT := zTT_in (List.mem_of_getElem? (i := 394) (by decide +kernel)) rfl
theorem zk_397 : (Jvm.Cond.methodLink "SeenToMove$Undos" (3 : Nat) ({ cls := "java/lang/Object", name := "<init>", desc := "()V" } : Jvm.MethodName)) ∈ zTT := zTT_in (List.mem_of_getElem? (i := 397) (by decide +kernel)) rfl
theorem zk_398 : (Jvm.Cond.classLink "SeenToMove$Undos" (9 : Nat) "SeenToMove$State") ∈ zTT := zTT_in (List.mem_of_getElem? (i := 398) (by decide +kernel)) rfl
theorem zk_400 : (Jvm.Cond.methodLink "SeenToMove$Undos" (17 : Nat) ({ cls := "SeenToMove$State", name := "<init>", desc := "(LSeenToMove$Field;)V" } : Jvm.MethodName)) ∈ zTT := zTT_in (List.mem_of_getElem? (i := 400) (by decide +kernel)) rfl
theorem zk_411 : (Jvm.Cond.classLink "SeenToMove" (74 : Nat) "SeenToMove$Image") ∈ zTT := zTT_in (List.mem_of_getElem? (i := 411) (by decide +kernel)) rfl
theorem zk_412 : (Jvm.Cond.instantiable "SeenToMove$Image" (4 : Nat)) ∈ zTT := zTT_in (List.mem_of_getElem? (i := 412) (by decide +kernel)) rfl
theorem zkn_413 : (Jvm.Cond.methodLinkNest "SeenToMove" (76 : Nat) ({ cls := "SeenToMove$Image", name := "<init>", desc := "()V" } : Jvm.MethodName) "SeenToMove") ∈ zNest := List.mem_filter.mpr ⟨List.mem_of_getElem? (i := 413) (by decide +kernel), rfl⟩
theorem zk_439 : (Jvm.Cond.classLink "SeenToMove" (84 : Nat) "SeenToMove$Fits") ∈ zTT := zTT_in (List.mem_of_getElem? (i := 439) (by decide +kernel)) rfl
theorem zk_440 : (Jvm.Cond.instantiable "SeenToMove$Fits" (6 : Nat)) ∈ zTT := zTT_in (List.mem_of_getElem? (i := 440) (by decide +kernel)) rfl
theorem zkn_441 : (Jvm.Cond.methodLinkNest "SeenToMove" (86 : Nat) ({ cls := "SeenToMove$Fits", name := "<init>", desc := "()V" } : Jvm.MethodName) "SeenToMove") ∈ zNest := List.mem_filter.mpr ⟨List.mem_of_getElem? (i := 441) (by decide +kernel), rfl⟩
theorem zk_467 : (Jvm.Cond.classLink "SeenToMove" (91 : Nat) "SeenToMove$Answers") ∈ zTT := zTT_in (List.mem_of_getElem? (i := 467) (by decide +kernel)) rfl
theorem zk_468 : (Jvm.Cond.instantiable "SeenToMove$Answers" (9 : Nat)) ∈ zTT := zTT_in (List.mem_of_getElem? (i := 468) (by decide +kernel)) rfl
theorem zkn_469 : (Jvm.Cond.methodLinkNest "SeenToMove" (93 : Nat) ({ cls := "SeenToMove$Answers", name := "<init>", desc := "()V" } : Jvm.MethodName) "SeenToMove") ∈ zNest := List.mem_filter.mpr ⟨List.mem_of_getElem? (i := 469) (by decide +kernel), rfl⟩
/-! the ring of states: made in a loop -/
def zsQ (n : Nat) (f : zF) (a : Nat) (i : Int32) (v : Nat) : Option zF := match zarr n f 4 a, zck n f 8 v with
  | some (len, .inr (.inr (.inr (.inr g)))), some _ => if ¬ i < 0 ∧ i.toNatClampNeg < len then some (zu f a (.inl (4, len, .inr (.inr (.inr (.inr (va_up g i.toNatClampNeg (some v)))))))) else none
  | _, _ => none
theorem zsQ_i {n : Nat} {f f1 : zF} {a : Nat} {i : Int32} {v : Nat} (h : zsQ n f a i v = some f1) : ∃ len g fs, a < n ∧ f a = .inl (4, len, .inr (.inr (.inr (.inr g)))) ∧ v < n ∧ f v = .inr (8, fs) ∧ (¬ i < 0 ∧ i.toNatClampNeg < len) ∧ f1 = zu f a (.inl (4, len, .inr (.inr (.inr (.inr (va_up g i.toNatClampNeg (some v))))))) := by
  unfold zsQ at h
  split at h
  · rename_i len g u h0 h1
    split at h
    · rename_i hh
      cases h
      obtain ⟨b0, e0⟩ := zarr_i h0
      obtain ⟨b1, fs, e1⟩ := zck_i h1
      exact ⟨len, g, fs, b0, e0, b1, e1, hh, rfl⟩
    · cases h
  · cases h
theorem dX10_init_0 : decode cX10_init 0 = .ok (.aload_n 0, 1) := by decide +kernel
theorem dX10_init_1 : decode cX10_init 1 = .ok (.invokespecial 3, 3) := by decide +kernel
theorem dX10_init_4 : decode cX10_init 4 = .ok (.aload_n 0, 1) := by decide +kernel
theorem dX10_init_5 : decode cX10_init 5 = .ok (.bipush 9, 2) := by decide +kernel
theorem dX10_init_7 : decode cX10_init 7 = .ok (.anewarray 9, 3) := by decide +kernel
theorem dX10_init_10 : decode cX10_init 10 = .ok (.putfield 11, 3) := by decide +kernel
theorem dX10_init_13 : decode cX10_init 13 = .ok (.iconst 0, 1) := by decide +kernel
theorem dX10_init_14 : decode cX10_init 14 = .ok (.istore_n 2, 1) := by decide +kernel
theorem dX10_init_15 : decode cX10_init 15 = .ok (.iload_n 2, 1) := by decide +kernel
theorem dX10_init_16 : decode cX10_init 16 = .ok (.aload_n 0, 1) := by decide +kernel
theorem dX10_init_17 : decode cX10_init 17 = .ok (.getfield 11, 3) := by decide +kernel
theorem dX10_init_20 : decode cX10_init 20 = .ok (.arraylength, 1) := by decide +kernel
theorem dX10_init_21 : decode cX10_init 21 = .ok (.if_icmp .ge 23, 3) := by decide +kernel
theorem dX10_init_24 : decode cX10_init 24 = .ok (.aload_n 0, 1) := by decide +kernel
theorem dX10_init_25 : decode cX10_init 25 = .ok (.getfield 11, 3) := by decide +kernel
theorem dX10_init_28 : decode cX10_init 28 = .ok (.iload_n 2, 1) := by decide +kernel
theorem dX10_init_29 : decode cX10_init 29 = .ok (.new 9, 3) := by decide +kernel
theorem dX10_init_32 : decode cX10_init 32 = .ok (.dup, 1) := by decide +kernel
theorem dX10_init_33 : decode cX10_init 33 = .ok (.aload_n 1, 1) := by decide +kernel
theorem dX10_init_34 : decode cX10_init 34 = .ok (.invokespecial 17, 3) := by decide +kernel
theorem dX10_init_37 : decode cX10_init 37 = .ok (.aastore, 1) := by decide +kernel
theorem dX10_init_38 : decode cX10_init 38 = .ok (.iinc 2 1, 3) := by decide +kernel
theorem dX10_init_41 : decode cX10_init 41 = .ok (.goto (-26), 3) := by decide +kernel
theorem dX10_init_44 : decode cX10_init 44 = .ok (.return_, 1) := by decide +kernel
/-- one state more in the ring, at place j -/
def fX10_one (N n j : Nat) (f : zF) (a0 a1 : Nat) : Option zF :=
  ((zgR (n + 1 + 8 * j) f 10 a0 0).bind fun x1 => ((zlen (n + 1 + 8 * j) f 4 x1).bind fun x2 => (if x2 ≤ nI j then none else ((zgR (n + 1 + 8 * j) f 10 a0 0).bind fun x3 => ((zmk f (n + 1 + 8 * j) (.inr (8, [.null, .int 0, .null, .null, .null, .null, .null, .null, .null]))).bind fun f4 => ((fX8_init N (n + 1 + 8 * j + 1) f4 (n + 1 + 8 * j) a1).bind fun f5 => zsQ (n + 1 + 8 * (j + 1)) f5 x3 (nI j) (n + 1 + 8 * j)))))))
def fX10_ring (N n : Nat) : Nat → zF → Nat → Nat → Option zF
  | 0, f, a0, _ => ((zgR (n + 73) f 10 a0 0).bind fun x1 => ((zlen (n + 73) f 4 x1).bind fun x2 => (if x2 ≤ nI 9 then some f else none)))
  | c + 1, f, a0, a1 => (fX10_one N n (8 - c) f a0 a1).bind fun f2 => fX10_ring N n c f2 a0 a1
def fX10_init (N n : Nat) (f : zF) (a0 a1 : Nat) : Option zF :=
  ((zmk f n (.inl (4, 9, .inr (.inr (.inr (.inr (fun _ => none))))))).bind fun f1 => ((zpR (n + 1) f1 10 a0 0 n).bind fun f2 => fX10_ring N n 9 f2 a0 a1))
set_option maxRecDepth 100000 in
set_option maxHeartbeats 4000000 in
theorem gX10_ring (l : Launch) {G : zG} {p : Program} {e : Env} {s : State} {m : MethodId} {args : Array Value} {below : List Frame} {meth : Method} {c : Code} {N n : Nat} {f9 : zF} {a0 a1 : Nat} (B : zB G p s m args meth c RX10 cX10_init 3 none) (hz0 : s.heap.size = G.2.2.2.size + n) : ∀ (k : Nat), k ≤ 9 → ∀ (f : zF) (H : Heap) (locs : List Loc) (ls : Array Slot) (cells slots : Nat), fX10_ring N n k f a0 a1 = some f9 → zS G (n + 1 + 8 * (9 - k)) f H locs → cells = 1 + 8 * (9 - k) → slots = 9 + 123 * (9 - k) → lv_has ls 3 [(0, zr G a0), (1, zr G a1), (2, .int (nI (9 - k)))] → W p l e (zrmA 2 73 1116) s m args below meth c H locs cells slots (MQ below (zQcA G (n + 73) f9) args s 73 1116 (zA G)) (F0 m 15 ls []) := by
  have he := B.1
  have hb := B.2.1
  intro k
  induction k with
  | zero =>
    intro _ f H locs ls cells slots h hS hcl hsl hl
    subst hcl
    subst hsl
    unfold fX10_ring at h
    obtain ⟨x1, hx, h⟩ := zob h
    refine lv_iload_n he hb dX10_init_15 rfl (lv_at hl 2 rfl) ?_
    refine z_aload_n he hb dX10_init_16 rfl (lv_at hl 0 rfl) (zref_r _ _) ?_
    refine z_getR (ci := 10) (T := TX10) (N := 3) (j := 0) B hS hx rfl zin_X10 (by decide) zk_401 dX10_init_17 ?_
    obtain ⟨x2, hx, h⟩ := zob h
    refine z_len B hS hx rfl dX10_init_20 ?_
    by_cases hc : x2 ≤ nI 9
    · rw [if_pos hc] at h
      obtain rfl := Option.some.inj h
      refine lv_icmp_ge (tgt := 44) he hb dX10_init_21 (by decide) (fun _ => ?_) (fun q => absurd hc q)
      exact z_vretA B hS (by omega) dX10_init_44
    · rw [if_neg hc] at h
      cases h
  | succ k ih =>
    intro hk f H locs ls cells slots h hS hcl hsl hl
    unfold fX10_ring at h
    obtain ⟨f2, hone, h⟩ := zob h
    have e9 : 9 - (k + 1) = 8 - k := by omega
    rw [e9] at hS hcl hsl hl
    generalize hj : 8 - k = j at hS hcl hsl hl hone
    have hj8 : j ≤ 8 := by omega
    unfold fX10_one at hone
    obtain ⟨x1, hx, hone⟩ := zob hone
    refine lv_iload_n he hb dX10_init_15 rfl (lv_at hl 2 rfl) ?_
    refine z_aload_n he hb dX10_init_16 rfl (lv_at hl 0 rfl) (zref_r _ _) ?_
    refine z_getR (ci := 10) (T := TX10) (N := 3) (j := 0) B hS hx rfl zin_X10 (by decide) zk_401 dX10_init_17 ?_
    obtain ⟨x2, hx, hone⟩ := zob hone
    refine z_len B hS hx rfl dX10_init_20 ?_
    by_cases hc : x2 ≤ nI j
    · rw [if_pos hc] at hone
      cases hone
    rw [if_neg hc] at hone
    refine lv_icmp_ge (tgt := 44) he hb dX10_init_21 (by decide) (fun q => absurd q hc) (fun _ => ?_)
    refine z_aload_n he hb dX10_init_24 rfl (lv_at hl 0 rfl) (zref_r _ _) ?_
    obtain ⟨x3, hx, hone⟩ := zob hone
    refine z_getR (ci := 10) (T := TX10) (N := 3) (j := 0) B hS hx rfl zin_X10 (by decide) zk_401 dX10_init_25 ?_
    refine lv_iload_n he hb dX10_init_28 rfl (lv_at hl 2 rfl) ?_
    obtain ⟨f4, hx, hone⟩ := zob hone
    have hcells : cells + 1 + 7 ≤ 73 := by omega
    have hslots : slots + 9 + 114 ≤ 1116 := by omega
    refine z_new (ci := 8) (T := TX8) (N := 9) (fs := [.null, .int 0, .null, .null, .null, .null, .null, .null, .null]) B hS (by omega) rfl zin_X8 tyX8 tyX8_ok zk_398 zk_243 zk_8 (fun j hj => by rcases (show j = 0 ∨ j = 1 ∨ j = 2 ∨ j = 3 ∨ j = 4 ∨ j = 5 ∨ j = 6 ∨ j = 7 ∨ j = 8 by omega) with rfl | rfl | rfl | rfl | rfl | rfl | rfl | rfl | rfl <;> rfl) (by show cells + 1 ≤ 73; omega) (by show slots + 9 ≤ 1116; omega) dX10_init_29 (fun H hS => ?_)
    rw [Option.some.inj hx] at hS
    refine lv_dup he hb dX10_init_32 rfl ?_
    refine z_aload_n he hb dX10_init_33 rfl (lv_at hl 1 rfl) (zref_r _ _) ?_
    obtain ⟨f5, hx, hone⟩ := zob hone
    refine zq_callI (rest := [_, _, _]) B hS (by omega) (mX8_init l G hx) zyi_X8_init zk_400 ⟨by decide, by decide⟩ rfl hl rfl (Nat.le_of_ble_eq_true rfl) dX10_init_34 ⟨hcells, hslots⟩ (fun H locs hS => ?_)
    obtain ⟨len, g, fs, q1, q2, q3, q4, q5, rfl⟩ := zsQ_i hone
    have e8 : n + 1 + 8 * j + 1 + 7 = n + 1 + 8 * (j + 1) := by omega
    rw [e8] at hS
    refine z_istQ B hS q1 q2 q3 q4 q5 dX10_init_37 (fun H locs hS => ?_)
    refine lv_iinc (v := nI (j + 1)) (lv' := [(2, _), (0, _), (1, _)]) he hb dX10_init_38 hl (k := 2) rfl (by rw [nI_succ]; rfl) (by decide) rfl (fun ls hl => ?_)
    refine lv_goto (tgt := 15) he hb dX10_init_41 (by decide) ?_
    have ej : j + 1 = 9 - k := by omega
    rw [ej] at hS hl
    exact ih (by omega) _ _ _ _ _ _ h hS (by omega) (by omega) (lv_sub hl [1, 2, 0] rfl)
set_option maxRecDepth 100000 in
set_option maxHeartbeats 4000000 in
theorem mX10_init (l : Launch) (G : zG) (hG : zOK G) {N n : Nat} {f f9 : zF} {a0 a1 : Nat} (h : fX10_init N n f a0 a1 = some f9) : zMA l G yX10_init cX10_init 3 2 n f [zr G a0, zr G a1] f9 73 1116 := by
  refine zMA.of (by decide) (Nat.le_of_ble_eq_true rfl) rfl ?_
  intro p e s m args below meth c locs ls B hni hS hz0 hl
  have he := B.1
  have hb := B.2.1
  have hl : lv_has ls 3 [(0, zr G a0), (1, zr G a1)] := hl
  unfold fX10_init at h
  generalize hHs : s.heap = H at hS ⊢
  refine z_aload_n he hb dX10_init_0 rfl (lv_at hl 0 rfl) (zref_r _ _) ?_
  refine z_objInit (rest := []) B zk_397 zobj hl ⟨by decide, by decide⟩ (Nat.le_of_ble_eq_true rfl) dX10_init_1 ?_
  refine z_aload_n he hb dX10_init_4 rfl (lv_at hl 0 rfl) (zref_r _ _) ?_
  refine lv_bipush (v := (9 : Int32)) he hb dX10_init_5 (by decide) ?_
  obtain ⟨f1, hx, h⟩ := zob h
  refine z_newQ (len := 9) B hS (by omega) zk_398 (hG.choose_spec s B.x).1 (by decide) (by decide) (by decide) (by decide) (by decide) dX10_init_7 (fun H hS => ?_)
  rw [Option.some.inj hx] at hS
  obtain ⟨f2, hx, h⟩ := zob h
  refine z_putF (ci := 10) (T := TX10) (N := 3) (j := 0) B hni hS hx rfl zin_X10 tyX10 tyX10_ok nmX10 (by decide) zk_401 rfl rfl rfl rfl dX10_init_10 (fun H locs hS => ?_)
  refine lv_iconst (v := (0 : Int32)) he hb dX10_init_13 (by decide) ?_
  refine lv_istore_n (lv' := [(2, _), (0, _), (1, _)]) he hb dX10_init_14 rfl hl (by decide) rfl (fun ls hl => ?_)
  exact gX10_ring l B hz0 9 (Nat.le_refl 9) _ _ _ _ _ _ h hS rfl rfl (lv_sub hl [1, 2, 0] rfl)

theorem dX11_init_0 : decode cX11_init 0 = .ok (.aload_n 0, 1) := by decide +kernel
theorem dX11_init_1 : decode cX11_init 1 = .ok (.invokespecial 1, 3) := by decide +kernel
theorem dX11_init_4 : decode cX11_init 4 = .ok (.aload_n 0, 1) := by decide +kernel
theorem dX11_init_5 : decode cX11_init 5 = .ok (.new 7, 3) := by decide +kernel
theorem dX11_init_8 : decode cX11_init 8 = .ok (.dup, 1) := by decide +kernel
theorem dX11_init_9 : decode cX11_init 9 = .ok (.invokespecial 9, 3) := by decide +kernel
theorem dX11_init_12 : decode cX11_init 12 = .ok (.putfield 10, 3) := by decide +kernel
theorem dX11_init_15 : decode cX11_init 15 = .ok (.aload_n 0, 1) := by decide +kernel
theorem dX11_init_16 : decode cX11_init 16 = .ok (.new 16, 3) := by decide +kernel
theorem dX11_init_19 : decode cX11_init 19 = .ok (.dup, 1) := by decide +kernel
theorem dX11_init_20 : decode cX11_init 20 = .ok (.invokespecial 18, 3) := by decide +kernel
theorem dX11_init_23 : decode cX11_init 23 = .ok (.putfield 19, 3) := by decide +kernel
theorem dX11_init_26 : decode cX11_init 26 = .ok (.aload_n 0, 1) := by decide +kernel
theorem dX11_init_27 : decode cX11_init 27 = .ok (.new 23, 3) := by decide +kernel
theorem dX11_init_30 : decode cX11_init 30 = .ok (.dup, 1) := by decide +kernel
theorem dX11_init_31 : decode cX11_init 31 = .ok (.aload_n 0, 1) := by decide +kernel
theorem dX11_init_32 : decode cX11_init 32 = .ok (.getfield 19, 3) := by decide +kernel
theorem dX11_init_35 : decode cX11_init 35 = .ok (.invokespecial 25, 3) := by decide +kernel
theorem dX11_init_38 : decode cX11_init 38 = .ok (.putfield 28, 3) := by decide +kernel
theorem dX11_init_41 : decode cX11_init 41 = .ok (.aload_n 0, 1) := by decide +kernel
theorem dX11_init_42 : decode cX11_init 42 = .ok (.new 23, 3) := by decide +kernel
theorem dX11_init_45 : decode cX11_init 45 = .ok (.dup, 1) := by decide +kernel
theorem dX11_init_46 : decode cX11_init 46 = .ok (.aload_n 0, 1) := by decide +kernel
theorem dX11_init_47 : decode cX11_init 47 = .ok (.getfield 19, 3) := by decide +kernel
theorem dX11_init_50 : decode cX11_init 50 = .ok (.invokespecial 25, 3) := by decide +kernel
theorem dX11_init_53 : decode cX11_init 53 = .ok (.putfield 32, 3) := by decide +kernel
theorem dX11_init_56 : decode cX11_init 56 = .ok (.aload_n 0, 1) := by decide +kernel
theorem dX11_init_57 : decode cX11_init 57 = .ok (.new 35, 3) := by decide +kernel
theorem dX11_init_60 : decode cX11_init 60 = .ok (.dup, 1) := by decide +kernel
theorem dX11_init_61 : decode cX11_init 61 = .ok (.invokespecial 37, 3) := by decide +kernel
theorem dX11_init_64 : decode cX11_init 64 = .ok (.putfield 38, 3) := by decide +kernel
theorem dX11_init_67 : decode cX11_init 67 = .ok (.aload_n 0, 1) := by decide +kernel
theorem dX11_init_68 : decode cX11_init 68 = .ok (.new 42, 3) := by decide +kernel
theorem dX11_init_71 : decode cX11_init 71 = .ok (.dup, 1) := by decide +kernel
theorem dX11_init_72 : decode cX11_init 72 = .ok (.aload_n 0, 1) := by decide +kernel
theorem dX11_init_73 : decode cX11_init 73 = .ok (.getfield 10, 3) := by decide +kernel
theorem dX11_init_76 : decode cX11_init 76 = .ok (.invokespecial 44, 3) := by decide +kernel
theorem dX11_init_79 : decode cX11_init 79 = .ok (.putfield 47, 3) := by decide +kernel
theorem dX11_init_82 : decode cX11_init 82 = .ok (.aload_n 0, 1) := by decide +kernel
theorem dX11_init_83 : decode cX11_init 83 = .ok (.new 51, 3) := by decide +kernel
theorem dX11_init_86 : decode cX11_init 86 = .ok (.dup, 1) := by decide +kernel
theorem dX11_init_87 : decode cX11_init 87 = .ok (.aload_n 0, 1) := by decide +kernel
theorem dX11_init_88 : decode cX11_init 88 = .ok (.getfield 10, 3) := by decide +kernel
theorem dX11_init_91 : decode cX11_init 91 = .ok (.aload_n 0, 1) := by decide +kernel
theorem dX11_init_92 : decode cX11_init 92 = .ok (.getfield 19, 3) := by decide +kernel
theorem dX11_init_95 : decode cX11_init 95 = .ok (.invokespecial 53, 3) := by decide +kernel
theorem dX11_init_98 : decode cX11_init 98 = .ok (.putfield 56, 3) := by decide +kernel
theorem dX11_init_101 : decode cX11_init 101 = .ok (.aload_n 0, 1) := by decide +kernel
theorem dX11_init_102 : decode cX11_init 102 = .ok (.new 60, 3) := by decide +kernel
theorem dX11_init_105 : decode cX11_init 105 = .ok (.dup, 1) := by decide +kernel
theorem dX11_init_106 : decode cX11_init 106 = .ok (.aload_n 0, 1) := by decide +kernel
theorem dX11_init_107 : decode cX11_init 107 = .ok (.getfield 10, 3) := by decide +kernel
theorem dX11_init_110 : decode cX11_init 110 = .ok (.aload_n 0, 1) := by decide +kernel
theorem dX11_init_111 : decode cX11_init 111 = .ok (.getfield 19, 3) := by decide +kernel
theorem dX11_init_114 : decode cX11_init 114 = .ok (.invokespecial 62, 3) := by decide +kernel
theorem dX11_init_117 : decode cX11_init 117 = .ok (.putfield 63, 3) := by decide +kernel
theorem dX11_init_120 : decode cX11_init 120 = .ok (.aload_n 0, 1) := by decide +kernel
theorem dX11_init_121 : decode cX11_init 121 = .ok (.new 67, 3) := by decide +kernel
theorem dX11_init_124 : decode cX11_init 124 = .ok (.dup, 1) := by decide +kernel
theorem dX11_init_125 : decode cX11_init 125 = .ok (.aload_n 0, 1) := by decide +kernel
theorem dX11_init_126 : decode cX11_init 126 = .ok (.getfield 19, 3) := by decide +kernel
theorem dX11_init_129 : decode cX11_init 129 = .ok (.invokespecial 69, 3) := by decide +kernel
theorem dX11_init_132 : decode cX11_init 132 = .ok (.putfield 70, 3) := by decide +kernel
theorem dX11_init_135 : decode cX11_init 135 = .ok (.aload_n 0, 1) := by decide +kernel
theorem dX11_init_136 : decode cX11_init 136 = .ok (.new 74, 3) := by decide +kernel
theorem dX11_init_139 : decode cX11_init 139 = .ok (.dup, 1) := by decide +kernel
theorem dX11_init_140 : decode cX11_init 140 = .ok (.invokespecial 76, 3) := by decide +kernel
theorem dX11_init_143 : decode cX11_init 143 = .ok (.putfield 77, 3) := by decide +kernel
theorem dX11_init_146 : decode cX11_init 146 = .ok (.aload_n 0, 1) := by decide +kernel
theorem dX11_init_147 : decode cX11_init 147 = .ok (.new 74, 3) := by decide +kernel
theorem dX11_init_150 : decode cX11_init 150 = .ok (.dup, 1) := by decide +kernel
theorem dX11_init_151 : decode cX11_init 151 = .ok (.invokespecial 76, 3) := by decide +kernel
theorem dX11_init_154 : decode cX11_init 154 = .ok (.putfield 81, 3) := by decide +kernel
theorem dX11_init_157 : decode cX11_init 157 = .ok (.aload_n 0, 1) := by decide +kernel
theorem dX11_init_158 : decode cX11_init 158 = .ok (.new 84, 3) := by decide +kernel
theorem dX11_init_161 : decode cX11_init 161 = .ok (.dup, 1) := by decide +kernel
theorem dX11_init_162 : decode cX11_init 162 = .ok (.invokespecial 86, 3) := by decide +kernel
theorem dX11_init_165 : decode cX11_init 165 = .ok (.putfield 87, 3) := by decide +kernel
theorem dX11_init_168 : decode cX11_init 168 = .ok (.aload_n 0, 1) := by decide +kernel
theorem dX11_init_169 : decode cX11_init 169 = .ok (.new 91, 3) := by decide +kernel
theorem dX11_init_172 : decode cX11_init 172 = .ok (.dup, 1) := by decide +kernel
theorem dX11_init_173 : decode cX11_init 173 = .ok (.invokespecial 93, 3) := by decide +kernel
theorem dX11_init_176 : decode cX11_init 176 = .ok (.putfield 94, 3) := by decide +kernel
theorem dX11_init_179 : decode cX11_init 179 = .ok (.aload_n 0, 1) := by decide +kernel
theorem dX11_init_180 : decode cX11_init 180 = .ok (.bipush 20, 2) := by decide +kernel
theorem dX11_init_182 : decode cX11_init 182 = .ok (.newarray .int, 2) := by decide +kernel
theorem dX11_init_184 : decode cX11_init 184 = .ok (.putfield 98, 3) := by decide +kernel
theorem dX11_init_187 : decode cX11_init 187 = .ok (.return_, 1) := by decide +kernel
def fX11_init (N n : Nat) (f : zF) (a0 : Nat) : Option zF :=
    ((zmk f n (.inr (9, [.null, .null, .int 0, .int 0, .int 0, .int 0, .int 0, .int 0, .int 0, .long 0, .int 0, .int 0]))).bind fun f1 => ((fX9_init N (n + 1) f1 n).bind fun f2 => ((zpR (n + 3) f2 11 a0 0 n).bind fun f3 => ((zmk f3 (n + 3) (.inr (2, [.int 0, .int 0, .int 0, .int 0, .int 0, .null, .null, .null, .null, .null, .null, .null, .null, .null, .null]))).bind fun f4 => ((fX2_init N (n + 4) f4 (n + 3)).bind fun f5 => ((zpR (n + 14) f5 11 a0 1 (n + 3)).bind fun f6 => ((zmk f6 (n + 14) (.inr (8, [.null, .int 0, .null, .null, .null, .null, .null, .null, .null]))).bind fun f7 => ((zgR (n + 15) f7 11 a0 1).bind fun x8 => ((fX8_init N (n + 15) f7 (n + 14) x8).bind fun f9 => ((zpR (n + 22) f9 11 a0 2 (n + 14)).bind fun f10 => ((zmk f10 (n + 22) (.inr (8, [.null, .int 0, .null, .null, .null, .null, .null, .null, .null]))).bind fun f11 => ((zgR (n + 23) f11 11 a0 1).bind fun x12 => ((fX8_init N (n + 23) f11 (n + 22) x12).bind fun f13 => ((zpR (n + 30) f13 11 a0 3 (n + 22)).bind fun f14 => ((zmk f14 (n + 30) (.inr (6, [.int 0, .null, .null, .null]))).bind fun f15 => ((fX6_init N (n + 31) f15 (n + 30)).bind fun f16 => ((zpR (n + 34) f16 11 a0 4 (n + 30)).bind fun f17 => ((zmk f17 (n + 34) (.inr (3, [.null, .null, .null, .null, .int 0, .int 0]))).bind fun f18 => ((zgR (n + 35) f18 11 a0 0).bind fun x19 => ((fX3_init N (n + 35) f18 (n + 34) x19).bind fun f20 => ((zpR (n + 55) f20 11 a0 5 (n + 34)).bind fun f21 => ((zmk f21 (n + 55) (.inr (1, [.null, .null, .int 0, .null, .null, .null]))).bind fun f22 => ((zgR (n + 56) f22 11 a0 0).bind fun x23 => ((zgR (n + 56) f22 11 a0 1).bind fun x24 => ((fX1_init N (n + 56) f22 (n + 55) x23 x24).bind fun f25 => ((zpR (n + 59) f25 11 a0 6 (n + 55)).bind fun f26 => ((zmk f26 (n + 59) (.inr (7, [.null, .null, .null, .int 0]))).bind fun f27 => ((zgR (n + 60) f27 11 a0 0).bind fun x28 => ((zgR (n + 60) f27 11 a0 1).bind fun x29 => ((fX7_init N (n + 60) f27 (n + 59) x28 x29).bind fun f30 => ((zpR (n + 64) f30 11 a0 7 (n + 59)).bind fun f31 => ((zmk f31 (n + 64) (.inr (10, [.null, .int 0, .int 0]))).bind fun f32 => ((zgR (n + 65) f32 11 a0 1).bind fun x33 => ((fX10_init N (n + 65) f32 (n + 64) x33).bind fun f34 => ((zpR (n + 138) f34 11 a0 8 (n + 64)).bind fun f35 => ((zmk f35 (n + 138) (.inr (5, [.null, .null, .null, .int 0]))).bind fun f36 => ((fX5_init N (n + 139) f36 (n + 138)).bind fun f37 => ((zpR (n + 162) f37 11 a0 9 (n + 138)).bind fun f38 => ((zmk f38 (n + 162) (.inr (5, [.null, .null, .null, .int 0]))).bind fun f39 => ((fX5_init N (n + 163) f39 (n + 162)).bind fun f40 => ((zpR (n + 186) f40 11 a0 10 (n + 162)).bind fun f41 => ((zmk f41 (n + 186) (.inr (4, [.null, .int 0, .int 0, .null, .int 0, .null]))).bind fun f42 => ((fX4_init N (n + 187) f42 (n + 186)).bind fun f43 => ((zpR (n + 190) f43 11 a0 11 (n + 186)).bind fun f44 => ((zmk f44 (n + 190) (.inr (0, [.int 0, .null, .int 0, .int 0, .int 0, .null, .int 0, .null, .int 0]))).bind fun f45 => ((fX0_init N (n + 191) f45 (n + 190)).bind fun f46 => ((zpR (n + 194) f46 11 a0 12 (n + 190)).bind fun f47 => ((zmk f47 (n + 194) (.inl (0, 20, .inl (fun _ => 0)))).bind fun f48 => ((zpR (n + 195) f48 11 a0 13 (n + 194)).bind fun f49 => some f49)))))))))))))))))))))))))))))))))))))))))))))))))
set_option maxRecDepth 100000 in
set_option maxHeartbeats 4000000 in
theorem mX11_init (l : Launch) (G : zG) (hG : zOK G) {N n : Nat} {f f9 : zF} {a0 : Nat} (h : fX11_init N n f a0 = some f9) : zMA l G yX11_init cX11_init 1 9 n f [zr G a0] f9 195 4530 := by
  refine zMA.of (by decide) (Nat.le_of_ble_eq_true rfl) rfl ?_
  intro p e s m args below meth c locs ls B hni hS hz0 hl
  have he := B.1
  have hb := B.2.1
  have hl : lv_has ls 1 [(0, zr G a0)] := hl
  unfold fX11_init at h
  generalize hHs : s.heap = H at hS ⊢
  refine z_aload_n he hb dX11_init_0 rfl (lv_at hl 0 rfl) (zref_r _ _) ?_
  refine z_objInit (rest := []) B zk_30 zobj hl ⟨by decide, by decide⟩ (Nat.le_of_ble_eq_true rfl) dX11_init_1 ?_
  refine z_aload_n he hb dX11_init_4 rfl (lv_at hl 0 rfl) (zref_r _ _) ?_
  obtain ⟨f1, hx, h⟩ := zob h
  refine z_new (ci := 9) (T := TX9) (N := 12) (fs := [.null, .null, .int 0, .int 0, .int 0, .int 0, .int 0, .int 0, .int 0, .long 0, .int 0, .int 0]) B hS (by omega) rfl zin_X9 tyX9 tyX9_ok zk_33 zk_34 zk_2 (fun j hj => by rcases (show j = 0 ∨ j = 1 ∨ j = 2 ∨ j = 3 ∨ j = 4 ∨ j = 5 ∨ j = 6 ∨ j = 7 ∨ j = 8 ∨ j = 9 ∨ j = 10 ∨ j = 11 by omega) with rfl | rfl | rfl | rfl | rfl | rfl | rfl | rfl | rfl | rfl | rfl | rfl <;> rfl) (by decide) (by decide) dX11_init_5 (fun H hS => ?_)
  rw [Option.some.inj hx] at hS
  refine lv_dup he hb dX11_init_8 rfl ?_
  obtain ⟨f2, hx, h⟩ := zob h
  refine zq_callI (rest := [_, _]) B hS (by omega) (mX9_init l G hG hx) zyi_X9_init zk_35 ⟨by decide, by decide⟩ rfl hl rfl (Nat.le_of_ble_eq_true rfl) dX11_init_9 ⟨by decide, by decide⟩ (fun H locs hS => ?_)
  obtain ⟨f3, hx, h⟩ := zob h
  refine z_putF (ci := 11) (T := TX11) (N := 14) (j := 0) B hni hS hx rfl zin_X11 tyX11 tyX11_ok nmX11 (by decide) zk_508 rfl rfl rfl rfl dX11_init_12 (fun H locs hS => ?_)
  refine z_aload_n he hb dX11_init_15 rfl (lv_at hl 0 rfl) (zref_r _ _) ?_
  obtain ⟨f4, hx, h⟩ := zob h
  refine z_new (ci := 2) (T := TX2) (N := 15) (fs := [.int 0, .int 0, .int 0, .int 0, .int 0, .null, .null, .null, .null, .null, .null, .null, .null, .null, .null]) B hS (by omega) rfl zin_X2 tyX2 tyX2_ok zk_144 zk_145 zk_7 (fun j hj => by rcases (show j = 0 ∨ j = 1 ∨ j = 2 ∨ j = 3 ∨ j = 4 ∨ j = 5 ∨ j = 6 ∨ j = 7 ∨ j = 8 ∨ j = 9 ∨ j = 10 ∨ j = 11 ∨ j = 12 ∨ j = 13 ∨ j = 14 by omega) with rfl | rfl | rfl | rfl | rfl | rfl | rfl | rfl | rfl | rfl | rfl | rfl | rfl | rfl | rfl <;> rfl) (by decide) (by decide) dX11_init_16 (fun H hS => ?_)
  rw [Option.some.inj hx] at hS
  refine lv_dup he hb dX11_init_19 rfl ?_
  obtain ⟨f5, hx, h⟩ := zob h
  refine zq_callIN (rest := [_, _]) B hS (by omega) (mX2_init l G hx) zyi_X2_init zkn_146 ⟨by decide, by decide⟩ rfl hl rfl (Nat.le_of_ble_eq_true rfl) dX11_init_20 ⟨by decide, by decide⟩ (fun H locs hS => ?_)
  obtain ⟨f6, hx, h⟩ := zob h
  refine z_putF (ci := 11) (T := TX11) (N := 14) (j := 1) B hni hS hx rfl zin_X11 tyX11 tyX11_ok nmX11 (by decide) zk_509 rfl rfl rfl rfl dX11_init_23 (fun H locs hS => ?_)
  refine z_aload_n he hb dX11_init_26 rfl (lv_at hl 0 rfl) (zref_r _ _) ?_
  obtain ⟨f7, hx, h⟩ := zob h
  refine z_new (ci := 8) (T := TX8) (N := 9) (fs := [.null, .int 0, .null, .null, .null, .null, .null, .null, .null]) B hS (by omega) rfl zin_X8 tyX8 tyX8_ok zk_242 zk_243 zk_8 (fun j hj => by rcases (show j = 0 ∨ j = 1 ∨ j = 2 ∨ j = 3 ∨ j = 4 ∨ j = 5 ∨ j = 6 ∨ j = 7 ∨ j = 8 by omega) with rfl | rfl | rfl | rfl | rfl | rfl | rfl | rfl | rfl <;> rfl) (by decide) (by decide) dX11_init_27 (fun H hS => ?_)
  rw [Option.some.inj hx] at hS
  refine lv_dup he hb dX11_init_30 rfl ?_
  refine z_aload_n he hb dX11_init_31 rfl (lv_at hl 0 rfl) (zref_r _ _) ?_
  obtain ⟨x8, hx, h⟩ := zob h
  refine z_getR (ci := 11) (T := TX11) (N := 14) (j := 1) B hS hx rfl zin_X11 (by decide) zk_509 dX11_init_32 ?_
  obtain ⟨f9, hx, h⟩ := zob h
  refine zq_callI (rest := [_, _]) B hS (by omega) (mX8_init l G hx) zyi_X8_init zk_244 ⟨by decide, by decide⟩ rfl hl rfl (Nat.le_of_ble_eq_true rfl) dX11_init_35 ⟨by decide, by decide⟩ (fun H locs hS => ?_)
  obtain ⟨f10, hx, h⟩ := zob h
  refine z_putF (ci := 11) (T := TX11) (N := 14) (j := 2) B hni hS hx rfl zin_X11 tyX11 tyX11_ok nmX11 (by decide) zk_510 rfl rfl rfl rfl dX11_init_38 (fun H locs hS => ?_)
  refine z_aload_n he hb dX11_init_41 rfl (lv_at hl 0 rfl) (zref_r _ _) ?_
  obtain ⟨f11, hx, h⟩ := zob h
  refine z_new (ci := 8) (T := TX8) (N := 9) (fs := [.null, .int 0, .null, .null, .null, .null, .null, .null, .null]) B hS (by omega) rfl zin_X8 tyX8 tyX8_ok zk_242 zk_243 zk_8 (fun j hj => by rcases (show j = 0 ∨ j = 1 ∨ j = 2 ∨ j = 3 ∨ j = 4 ∨ j = 5 ∨ j = 6 ∨ j = 7 ∨ j = 8 by omega) with rfl | rfl | rfl | rfl | rfl | rfl | rfl | rfl | rfl <;> rfl) (by decide) (by decide) dX11_init_42 (fun H hS => ?_)
  rw [Option.some.inj hx] at hS
  refine lv_dup he hb dX11_init_45 rfl ?_
  refine z_aload_n he hb dX11_init_46 rfl (lv_at hl 0 rfl) (zref_r _ _) ?_
  obtain ⟨x12, hx, h⟩ := zob h
  refine z_getR (ci := 11) (T := TX11) (N := 14) (j := 1) B hS hx rfl zin_X11 (by decide) zk_509 dX11_init_47 ?_
  obtain ⟨f13, hx, h⟩ := zob h
  refine zq_callI (rest := [_, _]) B hS (by omega) (mX8_init l G hx) zyi_X8_init zk_244 ⟨by decide, by decide⟩ rfl hl rfl (Nat.le_of_ble_eq_true rfl) dX11_init_50 ⟨by decide, by decide⟩ (fun H locs hS => ?_)
  obtain ⟨f14, hx, h⟩ := zob h
  refine z_putF (ci := 11) (T := TX11) (N := 14) (j := 3) B hni hS hx rfl zin_X11 tyX11 tyX11_ok nmX11 (by decide) zk_511 rfl rfl rfl rfl dX11_init_53 (fun H locs hS => ?_)
  refine z_aload_n he hb dX11_init_56 rfl (lv_at hl 0 rfl) (zref_r _ _) ?_
  obtain ⟨f15, hx, h⟩ := zob h
  refine z_new (ci := 6) (T := TX6) (N := 4) (fs := [.int 0, .null, .null, .null]) B hS (by omega) rfl zin_X6 tyX6 tyX6_ok zk_293 zk_294 zk_9 (fun j hj => by rcases (show j = 0 ∨ j = 1 ∨ j = 2 ∨ j = 3 by omega) with rfl | rfl | rfl | rfl <;> rfl) (by decide) (by decide) dX11_init_57 (fun H hS => ?_)
  rw [Option.some.inj hx] at hS
  refine lv_dup he hb dX11_init_60 rfl ?_
  obtain ⟨f16, hx, h⟩ := zob h
  refine zq_callIN (rest := [_, _]) B hS (by omega) (mX6_init l G hx) zyi_X6_init zkn_295 ⟨by decide, by decide⟩ rfl hl rfl (Nat.le_of_ble_eq_true rfl) dX11_init_61 ⟨by decide, by decide⟩ (fun H locs hS => ?_)
  obtain ⟨f17, hx, h⟩ := zob h
  refine z_putF (ci := 11) (T := TX11) (N := 14) (j := 4) B hni hS hx rfl zin_X11 tyX11 tyX11_ok nmX11 (by decide) zk_512 rfl rfl rfl rfl dX11_init_64 (fun H locs hS => ?_)
  refine z_aload_n he hb dX11_init_67 rfl (lv_at hl 0 rfl) (zref_r _ _) ?_
  obtain ⟨f18, hx, h⟩ := zob h
  refine z_new (ci := 3) (T := TX3) (N := 6) (fs := [.null, .null, .null, .null, .int 0, .int 0]) B hS (by omega) rfl zin_X3 tyX3 tyX3_ok zk_313 zk_314 zk_10 (fun j hj => by rcases (show j = 0 ∨ j = 1 ∨ j = 2 ∨ j = 3 ∨ j = 4 ∨ j = 5 by omega) with rfl | rfl | rfl | rfl | rfl | rfl <;> rfl) (by decide) (by decide) dX11_init_68 (fun H hS => ?_)
  rw [Option.some.inj hx] at hS
  refine lv_dup he hb dX11_init_71 rfl ?_
  refine z_aload_n he hb dX11_init_72 rfl (lv_at hl 0 rfl) (zref_r _ _) ?_
  obtain ⟨x19, hx, h⟩ := zob h
  refine z_getR (ci := 11) (T := TX11) (N := 14) (j := 0) B hS hx rfl zin_X11 (by decide) zk_508 dX11_init_73 ?_
  obtain ⟨f20, hx, h⟩ := zob h
  refine zq_callI (rest := [_, _]) B hS (by omega) (mX3_init l G hx) zyi_X3_init zk_315 ⟨by decide, by decide⟩ rfl hl rfl (Nat.le_of_ble_eq_true rfl) dX11_init_76 ⟨by decide, by decide⟩ (fun H locs hS => ?_)
  obtain ⟨f21, hx, h⟩ := zob h
  refine z_putF (ci := 11) (T := TX11) (N := 14) (j := 5) B hni hS hx rfl zin_X11 tyX11 tyX11_ok nmX11 (by decide) zk_513 rfl rfl rfl rfl dX11_init_79 (fun H locs hS => ?_)
  refine z_aload_n he hb dX11_init_82 rfl (lv_at hl 0 rfl) (zref_r _ _) ?_
  obtain ⟨f22, hx, h⟩ := zob h
  refine z_new (ci := 1) (T := TX1) (N := 6) (fs := [.null, .null, .int 0, .null, .null, .null]) B hS (by omega) rfl zin_X1 tyX1 tyX1_ok zk_344 zk_345 zk_11 (fun j hj => by rcases (show j = 0 ∨ j = 1 ∨ j = 2 ∨ j = 3 ∨ j = 4 ∨ j = 5 by omega) with rfl | rfl | rfl | rfl | rfl | rfl <;> rfl) (by decide) (by decide) dX11_init_83 (fun H hS => ?_)
  rw [Option.some.inj hx] at hS
  refine lv_dup he hb dX11_init_86 rfl ?_
  refine z_aload_n he hb dX11_init_87 rfl (lv_at hl 0 rfl) (zref_r _ _) ?_
  obtain ⟨x23, hx, h⟩ := zob h
  refine z_getR (ci := 11) (T := TX11) (N := 14) (j := 0) B hS hx rfl zin_X11 (by decide) zk_508 dX11_init_88 ?_
  refine z_aload_n he hb dX11_init_91 rfl (lv_at hl 0 rfl) (zref_r _ _) ?_
  obtain ⟨x24, hx, h⟩ := zob h
  refine z_getR (ci := 11) (T := TX11) (N := 14) (j := 1) B hS hx rfl zin_X11 (by decide) zk_509 dX11_init_92 ?_
  obtain ⟨f25, hx, h⟩ := zob h
  refine zq_callI (rest := [_, _]) B hS (by omega) (mX1_init l G hx) zyi_X1_init zk_346 ⟨by decide, by decide⟩ rfl hl rfl (Nat.le_of_ble_eq_true rfl) dX11_init_95 ⟨by decide, by decide⟩ (fun H locs hS => ?_)
  obtain ⟨f26, hx, h⟩ := zob h
  refine z_putF (ci := 11) (T := TX11) (N := 14) (j := 6) B hni hS hx rfl zin_X11 tyX11 tyX11_ok nmX11 (by decide) zk_514 rfl rfl rfl rfl dX11_init_98 (fun H locs hS => ?_)
  refine z_aload_n he hb dX11_init_101 rfl (lv_at hl 0 rfl) (zref_r _ _) ?_
  obtain ⟨f27, hx, h⟩ := zob h
  refine z_new (ci := 7) (T := TX7) (N := 4) (fs := [.null, .null, .null, .int 0]) B hS (by omega) rfl zin_X7 tyX7 tyX7_ok zk_370 zk_371 zk_12 (fun j hj => by rcases (show j = 0 ∨ j = 1 ∨ j = 2 ∨ j = 3 by omega) with rfl | rfl | rfl | rfl <;> rfl) (by decide) (by decide) dX11_init_102 (fun H hS => ?_)
  rw [Option.some.inj hx] at hS
  refine lv_dup he hb dX11_init_105 rfl ?_
  refine z_aload_n he hb dX11_init_106 rfl (lv_at hl 0 rfl) (zref_r _ _) ?_
  obtain ⟨x28, hx, h⟩ := zob h
  refine z_getR (ci := 11) (T := TX11) (N := 14) (j := 0) B hS hx rfl zin_X11 (by decide) zk_508 dX11_init_107 ?_
  refine z_aload_n he hb dX11_init_110 rfl (lv_at hl 0 rfl) (zref_r _ _) ?_
  obtain ⟨x29, hx, h⟩ := zob h
  refine z_getR (ci := 11) (T := TX11) (N := 14) (j := 1) B hS hx rfl zin_X11 (by decide) zk_509 dX11_init_111 ?_
  obtain ⟨f30, hx, h⟩ := zob h
  refine zq_callI (rest := [_, _]) B hS (by omega) (mX7_init l G hx) zyi_X7_init zk_372 ⟨by decide, by decide⟩ rfl hl rfl (Nat.le_of_ble_eq_true rfl) dX11_init_114 ⟨by decide, by decide⟩ (fun H locs hS => ?_)
  obtain ⟨f31, hx, h⟩ := zob h
  refine z_putF (ci := 11) (T := TX11) (N := 14) (j := 7) B hni hS hx rfl zin_X11 tyX11 tyX11_ok nmX11 (by decide) zk_515 rfl rfl rfl rfl dX11_init_117 (fun H locs hS => ?_)
  refine z_aload_n he hb dX11_init_120 rfl (lv_at hl 0 rfl) (zref_r _ _) ?_
  obtain ⟨f32, hx, h⟩ := zob h
  refine z_new (ci := 10) (T := TX10) (N := 3) (fs := [.null, .int 0, .int 0]) B hS (by omega) rfl zin_X10 tyX10 tyX10_ok zk_392 zk_393 zk_13 (fun j hj => by rcases (show j = 0 ∨ j = 1 ∨ j = 2 by omega) with rfl | rfl | rfl <;> rfl) (by decide) (by decide) dX11_init_121 (fun H hS => ?_)
  rw [Option.some.inj hx] at hS
  refine lv_dup he hb dX11_init_124 rfl ?_
  refine z_aload_n he hb dX11_init_125 rfl (lv_at hl 0 rfl) (zref_r _ _) ?_
  obtain ⟨x33, hx, h⟩ := zob h
  refine z_getR (ci := 11) (T := TX11) (N := 14) (j := 1) B hS hx rfl zin_X11 (by decide) zk_509 dX11_init_126 ?_
  obtain ⟨f34, hx, h⟩ := zob h
  refine zq_callI (rest := [_, _]) B hS (by omega) (mX10_init l G hG hx) zyi_X10_init zk_394 ⟨by decide, by decide⟩ rfl hl rfl (Nat.le_of_ble_eq_true rfl) dX11_init_129 ⟨by decide, by decide⟩ (fun H locs hS => ?_)
  obtain ⟨f35, hx, h⟩ := zob h
  refine z_putF (ci := 11) (T := TX11) (N := 14) (j := 8) B hni hS hx rfl zin_X11 tyX11 tyX11_ok nmX11 (by decide) zk_516 rfl rfl rfl rfl dX11_init_132 (fun H locs hS => ?_)
  refine z_aload_n he hb dX11_init_135 rfl (lv_at hl 0 rfl) (zref_r _ _) ?_
  obtain ⟨f36, hx, h⟩ := zob h
  refine z_new (ci := 5) (T := TX5) (N := 4) (fs := [.null, .null, .null, .int 0]) B hS (by omega) rfl zin_X5 tyX5 tyX5_ok zk_411 zk_412 zk_14 (fun j hj => by rcases (show j = 0 ∨ j = 1 ∨ j = 2 ∨ j = 3 by omega) with rfl | rfl | rfl | rfl <;> rfl) (by decide) (by decide) dX11_init_136 (fun H hS => ?_)
  rw [Option.some.inj hx] at hS
  refine lv_dup he hb dX11_init_139 rfl ?_
  obtain ⟨f37, hx, h⟩ := zob h
  refine zq_callIN (rest := [_, _]) B hS (by omega) (mX5_init l G hx) zyi_X5_init zkn_413 ⟨by decide, by decide⟩ rfl hl rfl (Nat.le_of_ble_eq_true rfl) dX11_init_140 ⟨by decide, by decide⟩ (fun H locs hS => ?_)
  obtain ⟨f38, hx, h⟩ := zob h
  refine z_putF (ci := 11) (T := TX11) (N := 14) (j := 9) B hni hS hx rfl zin_X11 tyX11 tyX11_ok nmX11 (by decide) zk_517 rfl rfl rfl rfl dX11_init_143 (fun H locs hS => ?_)
  refine z_aload_n he hb dX11_init_146 rfl (lv_at hl 0 rfl) (zref_r _ _) ?_
  obtain ⟨f39, hx, h⟩ := zob h
  refine z_new (ci := 5) (T := TX5) (N := 4) (fs := [.null, .null, .null, .int 0]) B hS (by omega) rfl zin_X5 tyX5 tyX5_ok zk_411 zk_412 zk_14 (fun j hj => by rcases (show j = 0 ∨ j = 1 ∨ j = 2 ∨ j = 3 by omega) with rfl | rfl | rfl | rfl <;> rfl) (by decide) (by decide) dX11_init_147 (fun H hS => ?_)
  rw [Option.some.inj hx] at hS
  refine lv_dup he hb dX11_init_150 rfl ?_
  obtain ⟨f40, hx, h⟩ := zob h
  refine zq_callIN (rest := [_, _]) B hS (by omega) (mX5_init l G hx) zyi_X5_init zkn_413 ⟨by decide, by decide⟩ rfl hl rfl (Nat.le_of_ble_eq_true rfl) dX11_init_151 ⟨by decide, by decide⟩ (fun H locs hS => ?_)
  obtain ⟨f41, hx, h⟩ := zob h
  refine z_putF (ci := 11) (T := TX11) (N := 14) (j := 10) B hni hS hx rfl zin_X11 tyX11 tyX11_ok nmX11 (by decide) zk_518 rfl rfl rfl rfl dX11_init_154 (fun H locs hS => ?_)
  refine z_aload_n he hb dX11_init_157 rfl (lv_at hl 0 rfl) (zref_r _ _) ?_
  obtain ⟨f42, hx, h⟩ := zob h
  refine z_new (ci := 4) (T := TX4) (N := 6) (fs := [.null, .int 0, .int 0, .null, .int 0, .null]) B hS (by omega) rfl zin_X4 tyX4 tyX4_ok zk_439 zk_440 zk_15 (fun j hj => by rcases (show j = 0 ∨ j = 1 ∨ j = 2 ∨ j = 3 ∨ j = 4 ∨ j = 5 by omega) with rfl | rfl | rfl | rfl | rfl | rfl <;> rfl) (by decide) (by decide) dX11_init_158 (fun H hS => ?_)
  rw [Option.some.inj hx] at hS
  refine lv_dup he hb dX11_init_161 rfl ?_
  obtain ⟨f43, hx, h⟩ := zob h
  refine zq_callIN (rest := [_, _]) B hS (by omega) (mX4_init l G hx) zyi_X4_init zkn_441 ⟨by decide, by decide⟩ rfl hl rfl (Nat.le_of_ble_eq_true rfl) dX11_init_162 ⟨by decide, by decide⟩ (fun H locs hS => ?_)
  obtain ⟨f44, hx, h⟩ := zob h
  refine z_putF (ci := 11) (T := TX11) (N := 14) (j := 11) B hni hS hx rfl zin_X11 tyX11 tyX11_ok nmX11 (by decide) zk_519 rfl rfl rfl rfl dX11_init_165 (fun H locs hS => ?_)
  refine z_aload_n he hb dX11_init_168 rfl (lv_at hl 0 rfl) (zref_r _ _) ?_
  obtain ⟨f45, hx, h⟩ := zob h
  refine z_new (ci := 0) (T := TX0) (N := 9) (fs := [.int 0, .null, .int 0, .int 0, .int 0, .null, .int 0, .null, .int 0]) B hS (by omega) rfl zin_X0 tyX0 tyX0_ok zk_467 zk_468 zk_16 (fun j hj => by rcases (show j = 0 ∨ j = 1 ∨ j = 2 ∨ j = 3 ∨ j = 4 ∨ j = 5 ∨ j = 6 ∨ j = 7 ∨ j = 8 by omega) with rfl | rfl | rfl | rfl | rfl | rfl | rfl | rfl | rfl <;> rfl) (by decide) (by decide) dX11_init_169 (fun H hS => ?_)
  rw [Option.some.inj hx] at hS
  refine lv_dup he hb dX11_init_172 rfl ?_
  obtain ⟨f46, hx, h⟩ := zob h
  refine zq_callIN (rest := [_, _]) B hS (by omega) (mX0_init l G hx) zyi_X0_init zkn_469 ⟨by decide, by decide⟩ rfl hl rfl (Nat.le_of_ble_eq_true rfl) dX11_init_173 ⟨by decide, by decide⟩ (fun H locs hS => ?_)
  obtain ⟨f47, hx, h⟩ := zob h
  refine z_putF (ci := 11) (T := TX11) (N := 14) (j := 12) B hni hS hx rfl zin_X11 tyX11 tyX11_ok nmX11 (by decide) zk_520 rfl rfl rfl rfl dX11_init_176 (fun H locs hS => ?_)
  refine z_aload_n he hb dX11_init_179 rfl (lv_at hl 0 rfl) (zref_r _ _) ?_
  refine lv_bipush (v := (20 : Int32)) he hb dX11_init_180 (by decide) ?_
  obtain ⟨f48, hx, h⟩ := zob h
  refine z_newI (len := 20) B hS (by omega) zk_241 (by decide) (by decide) (by decide) (by decide) (by decide) dX11_init_182 (fun H hS => ?_)
  rw [Option.some.inj hx] at hS
  obtain ⟨f49, hx, h⟩ := zob h
  refine z_putF (ci := 11) (T := TX11) (N := 14) (j := 13) B hni hS hx rfl zin_X11 tyX11 tyX11_ok nmX11 (by decide) zk_521 rfl rfl rfl rfl dX11_init_184 (fun H locs hS => ?_)
  obtain rfl := Option.some.inj h
  exact z_vretA B hS (by omega) dX11_init_187
