/-! methods: what they do to the small heap, and that their bytecode does it -/
theorem dX12_fewest_0 : decode cX12_fewest 0 = .ok (.aload_n 0, 1) := by decide +kernel
theorem dX12_fewest_1 : decode cX12_fewest 1 = .ok (.iconst 0, 1) := by decide +kernel
theorem dX12_fewest_2 : decode cX12_fewest 2 = .ok (.putfield 1, 3) := by decide +kernel
theorem dX12_fewest_5 : decode cX12_fewest 5 = .ok (.aload_n 0, 1) := by decide +kernel
theorem dX12_fewest_6 : decode cX12_fewest 6 = .ok (.getfield 376, 3) := by decide +kernel
theorem dX12_fewest_9 : decode cX12_fewest 9 = .ok (.ifCond .eq 10, 3) := by decide +kernel
theorem dX12_fewest_12 : decode cX12_fewest 12 = .ok (.aload_n 0, 1) := by decide +kernel
theorem dX12_fewest_13 : decode cX12_fewest 13 = .ok (.getfield 379, 3) := by decide +kernel
theorem dX12_fewest_16 : decode cX12_fewest 16 = .ok (.goto 4, 3) := by decide +kernel
theorem dX12_fewest_19 : decode cX12_fewest 19 = .ok (.iconst (-1), 1) := by decide +kernel
theorem dX12_fewest_20 : decode cX12_fewest 20 = .ok (.ireturn, 1) := by decide +kernel
def fX12_fewest (N n : Nat) (f : zF) (a0 : Nat) : Option (zF × Int32) :=
    ((zpI n f 12 a0 0 (0 : Int32)).bind fun f1 => ((zgI n f1 12 a0 29).bind fun x2 => (if x2 = 0 then some (f1, (-1 : Int32)) else ((zgI n f1 12 a0 28).bind fun x3 => some (f1, x3)))))
set_option maxRecDepth 100000 in
set_option maxHeartbeats 4000000 in
theorem mX12_fewest (l : Launch) (G : zG) {N n : Nat} {f : zF} {f9 : zF} {r : Int32} {a0 : Nat} (h : fX12_fewest N n f a0 = some (f9, r)) : zM l G yX12_fewest cX12_fewest 1 (some .int) 0 n f [zr G a0] (some (.int r)) f9 := by
  refine zM.of (by decide) (Nat.le_of_ble_eq_true rfl) ?_
  intro p e s m args below meth c locs ls B hS hl
  have he := B.1
  have hb := B.2.1
  have hl : lv_has ls 1 [(0, zr G a0)] := hl
  unfold fX12_fewest at h
  generalize s.heap = H at hS ⊢
  refine z_aload_n he hb dX12_fewest_0 rfl (lv_at hl 0 rfl) (zref_r _ _) ?_
  refine lv_iconst (v := (0 : Int32)) he hb dX12_fewest_1 (by decide) ?_
  obtain ⟨f1, hx, h⟩ := zob h
  refine z_putI (ci := 12) (T := TX12) (N := 50) (j := 0) B hS hx rfl zin_X12 tyX12 tyX12_ok nmX12 (by decide) zk_1347 rfl rfl dX12_fewest_2 (fun H locs hS => ?_)
  refine z_aload_n he hb dX12_fewest_5 rfl (lv_at hl 0 rfl) (zref_r _ _) ?_
  obtain ⟨x2, hx, h⟩ := zob h
  refine z_getI (ci := 12) (T := TX12) (N := 50) (j := 29) B hS hx rfl zin_X12 (by decide) zk_1376 dX12_fewest_6 ?_
  refine lv_if_eq (tgt := 19) he hb dX12_fewest_9 (by decide) (fun hc => ?_) (fun hc => ?_)
  · rw [if_pos hc] at h
    refine lv_iconst (v := (-1 : Int32)) he hb dX12_fewest_19 (by decide) ?_
    obtain ⟨rfl, rfl⟩ := Prod.mk.inj (Option.some.inj h)
    exact z_iret B hS dX12_fewest_20
  · rw [if_neg hc] at h
    refine z_aload_n he hb dX12_fewest_12 rfl (lv_at hl 0 rfl) (zref_r _ _) ?_
    obtain ⟨x3, hx, h⟩ := zob h
    refine z_getI (ci := 12) (T := TX12) (N := 50) (j := 28) B hS hx rfl zin_X12 (by decide) zk_1375 dX12_fewest_13 ?_
    refine lv_goto (tgt := 20) he hb dX12_fewest_16 (by decide) ?_
    obtain ⟨rfl, rfl⟩ := Prod.mk.inj (Option.some.inj h)
    exact z_iret B hS dX12_fewest_20
theorem dX12_laysTrail_0 : decode cX12_laysTrail 0 = .ok (.iload_n 1, 1) := by decide +kernel
theorem dX12_laysTrail_1 : decode cX12_laysTrail 1 = .ok (.bipush 9, 2) := by decide +kernel
theorem dX12_laysTrail_3 : decode cX12_laysTrail 3 = .ok (.idiv, 1) := by decide +kernel
theorem dX12_laysTrail_4 : decode cX12_laysTrail 4 = .ok (.istore_n 3, 1) := by decide +kernel
theorem dX12_laysTrail_5 : decode cX12_laysTrail 5 = .ok (.iload_n 2, 1) := by decide +kernel
theorem dX12_laysTrail_6 : decode cX12_laysTrail 6 = .ok (.istore 4, 2) := by decide +kernel
theorem dX12_laysTrail_8 : decode cX12_laysTrail 8 = .ok (.iconst 0, 1) := by decide +kernel
theorem dX12_laysTrail_9 : decode cX12_laysTrail 9 = .ok (.istore 5, 2) := by decide +kernel
theorem dX12_laysTrail_11 : decode cX12_laysTrail 11 = .ok (.iload 5, 2) := by decide +kernel
theorem dX12_laysTrail_13 : decode cX12_laysTrail 13 = .ok (.bipush 13, 2) := by decide +kernel
theorem dX12_laysTrail_15 : decode cX12_laysTrail 15 = .ok (.if_icmp .ge 91, 3) := by decide +kernel
theorem dX12_laysTrail_18 : decode cX12_laysTrail 18 = .ok (.iload 5, 2) := by decide +kernel
theorem dX12_laysTrail_20 : decode cX12_laysTrail 20 = .ok (.ifCond .le 66, 3) := by decide +kernel
theorem dX12_laysTrail_23 : decode cX12_laysTrail 23 = .ok (.iload 5, 2) := by decide +kernel
theorem dX12_laysTrail_25 : decode cX12_laysTrail 25 = .ok (.iload_n 1, 1) := by decide +kernel
theorem dX12_laysTrail_26 : decode cX12_laysTrail 26 = .ok (.bipush 9, 2) := by decide +kernel
theorem dX12_laysTrail_28 : decode cX12_laysTrail 28 = .ok (.irem, 1) := by decide +kernel
theorem dX12_laysTrail_29 : decode cX12_laysTrail 29 = .ok (.iconst 1, 1) := by decide +kernel
theorem dX12_laysTrail_30 : decode cX12_laysTrail 30 = .ok (.iadd, 1) := by decide +kernel
theorem dX12_laysTrail_31 : decode cX12_laysTrail 31 = .ok (.irem, 1) := by decide +kernel
theorem dX12_laysTrail_32 : decode cX12_laysTrail 32 = .ok (.ifCond .ne 54, 3) := by decide +kernel
theorem dX12_laysTrail_35 : decode cX12_laysTrail 35 = .ok (.aload_n 0, 1) := by decide +kernel
theorem dX12_laysTrail_36 : decode cX12_laysTrail 36 = .ok (.iload 4, 2) := by decide +kernel
theorem dX12_laysTrail_38 : decode cX12_laysTrail 38 = .ok (.iload_n 3, 1) := by decide +kernel
theorem dX12_laysTrail_39 : decode cX12_laysTrail 39 = .ok (.invokevirtual 280, 3) := by decide +kernel
theorem dX12_laysTrail_42 : decode cX12_laysTrail 42 = .ok (.istore 6, 2) := by decide +kernel
theorem dX12_laysTrail_44 : decode cX12_laysTrail 44 = .ok (.iload 6, 2) := by decide +kernel
theorem dX12_laysTrail_46 : decode cX12_laysTrail 46 = .ok (.ifCond .lt 19, 3) := by decide +kernel
theorem dX12_laysTrail_49 : decode cX12_laysTrail 49 = .ok (.aload_n 0, 1) := by decide +kernel
theorem dX12_laysTrail_50 : decode cX12_laysTrail 50 = .ok (.getfield 33, 3) := by decide +kernel
theorem dX12_laysTrail_53 : decode cX12_laysTrail 53 = .ok (.iconst 5, 1) := by decide +kernel
theorem dX12_laysTrail_54 : decode cX12_laysTrail 54 = .ok (.iload 6, 2) := by decide +kernel
theorem dX12_laysTrail_56 : decode cX12_laysTrail 56 = .ok (.iadd, 1) := by decide +kernel
theorem dX12_laysTrail_57 : decode cX12_laysTrail 57 = .ok (.iaload, 1) := by decide +kernel
theorem dX12_laysTrail_58 : decode cX12_laysTrail 58 = .ok (.ifCond .ne 7, 3) := by decide +kernel
theorem dX12_laysTrail_61 : decode cX12_laysTrail 61 = .ok (.iconst 1, 1) := by decide +kernel
theorem dX12_laysTrail_62 : decode cX12_laysTrail 62 = .ok (.goto 4, 3) := by decide +kernel
theorem dX12_laysTrail_65 : decode cX12_laysTrail 65 = .ok (.iconst 0, 1) := by decide +kernel
theorem dX12_laysTrail_66 : decode cX12_laysTrail 66 = .ok (.istore 7, 2) := by decide +kernel
theorem dX12_laysTrail_68 : decode cX12_laysTrail 68 = .ok (.iload 7, 2) := by decide +kernel
theorem dX12_laysTrail_70 : decode cX12_laysTrail 70 = .ok (.ifCond .eq 10, 3) := by decide +kernel
theorem dX12_laysTrail_73 : decode cX12_laysTrail 73 = .ok (.iload 6, 2) := by decide +kernel
theorem dX12_laysTrail_75 : decode cX12_laysTrail 75 = .ok (.istore 4, 2) := by decide +kernel
theorem dX12_laysTrail_77 : decode cX12_laysTrail 77 = .ok (.goto 9, 3) := by decide +kernel
theorem dX12_laysTrail_80 : decode cX12_laysTrail 80 = .ok (.iload_n 3, 1) := by decide +kernel
theorem dX12_laysTrail_81 : decode cX12_laysTrail 81 = .ok (.iconst 1, 1) := by decide +kernel
theorem dX12_laysTrail_82 : decode cX12_laysTrail 82 = .ok (.iadd, 1) := by decide +kernel
theorem dX12_laysTrail_83 : decode cX12_laysTrail 83 = .ok (.iconst 4, 1) := by decide +kernel
theorem dX12_laysTrail_84 : decode cX12_laysTrail 84 = .ok (.irem, 1) := by decide +kernel
theorem dX12_laysTrail_85 : decode cX12_laysTrail 85 = .ok (.istore_n 3, 1) := by decide +kernel
theorem dX12_laysTrail_86 : decode cX12_laysTrail 86 = .ok (.aload_n 0, 1) := by decide +kernel
theorem dX12_laysTrail_87 : decode cX12_laysTrail 87 = .ok (.getfield 65, 3) := by decide +kernel
theorem dX12_laysTrail_90 : decode cX12_laysTrail 90 = .ok (.bipush 13, 2) := by decide +kernel
theorem dX12_laysTrail_92 : decode cX12_laysTrail 92 = .ok (.iload_n 1, 1) := by decide +kernel
theorem dX12_laysTrail_93 : decode cX12_laysTrail 93 = .ok (.imul, 1) := by decide +kernel
theorem dX12_laysTrail_94 : decode cX12_laysTrail 94 = .ok (.iload 5, 2) := by decide +kernel
theorem dX12_laysTrail_96 : decode cX12_laysTrail 96 = .ok (.iadd, 1) := by decide +kernel
theorem dX12_laysTrail_97 : decode cX12_laysTrail 97 = .ok (.iload 4, 2) := by decide +kernel
theorem dX12_laysTrail_99 : decode cX12_laysTrail 99 = .ok (.iastore, 1) := by decide +kernel
theorem dX12_laysTrail_100 : decode cX12_laysTrail 100 = .ok (.iinc 5 1, 3) := by decide +kernel
theorem dX12_laysTrail_103 : decode cX12_laysTrail 103 = .ok (.goto (-92), 3) := by decide +kernel
theorem dX12_laysTrail_106 : decode cX12_laysTrail 106 = .ok (.return_, 1) := by decide +kernel
def fX12_laysTrail_86 (r11 : zF → Nat → Int32 → Int32 → Int32 → Int32 → Option zF) (N n : Nat) (f : zF) (a0 : Nat) (a1 : Int32) (a3 : Int32) (a4 : Int32) (a5 : Int32) : Option zF :=
    ((zgR n f 12 a0 31).bind fun x1 => ((zsI n f 0 x1 (((13 : Int32) * a1) + a5) a4).bind fun f2 => (r11 f2 a0 a1 a3 a4 (a5 + 1))))
set_option maxRecDepth 100000 in
set_option maxHeartbeats 4000000 in
theorem gX12_laysTrail_86 (l : Launch) {G : zG} {p : Program} {e : Env} {s : State} {m : MethodId} {args : Array Value} {below : List Frame} {meth : Method} {c : Code} {N n : Nat} {f9 : zF} {r11 : zF → Nat → Int32 → Int32 → Int32 → Int32 → Option zF} (B : zB G p s m args meth c RX12 cX12_laysTrail 8 (none)) (hr11 : ∀ (f : zF) (a0 : Nat) (a1 : Int32) (a3 : Int32) (a4 : Int32) (a5 : Int32) (H : Heap) (locs : List Loc) (ls : Array Slot), r11 f a0 a1 a3 a4 a5 = some f9 → zS G n f H locs → lv_has ls 8 [(0, zr G a0), (1, .int a1), (3, .int a3), (4, .int a4), (5, .int a5)] → W p l e (zrm 3) s m args below meth c H locs 0 0 (MQ below (zQc G n f9 (none)) args s 0 0 (zA G)) (F0 m 11 ls [])) : ∀ (f : zF) (a0 : Nat) (a1 : Int32) (a3 : Int32) (a4 : Int32) (a5 : Int32) (H : Heap) (locs : List Loc) (ls : Array Slot), fX12_laysTrail_86 r11 N n f a0 a1 a3 a4 a5 = some f9 → zS G n f H locs → lv_has ls 8 [(0, zr G a0), (1, .int a1), (3, .int a3), (4, .int a4), (5, .int a5)] → W p l e (zrm 3) s m args below meth c H locs 0 0 (MQ below (zQc G n f9 (none)) args s 0 0 (zA G)) (F0 m 86 ls []) := by
  have he := B.1
  have hb := B.2.1
  intro f a0 a1 a3 a4 a5 H locs ls h hS hl
  unfold fX12_laysTrail_86 at h
  refine z_aload_n he hb dX12_laysTrail_86 rfl (lv_at hl 0 rfl) (zref_r _ _) ?_
  obtain ⟨x1, hx, h⟩ := zob h
  refine z_getR (ci := 12) (T := TX12) (N := 50) (j := 31) B hS hx rfl zin_X12 (by decide) zk_1378 dX12_laysTrail_87 ?_
  refine lv_bipush (v := (13 : Int32)) he hb dX12_laysTrail_90 (by decide) ?_
  refine lv_iload_n he hb dX12_laysTrail_92 rfl (lv_at hl 1 rfl) ?_
  refine lv_imul he hb dX12_laysTrail_93 ?_
  refine lv_iload he hb dX12_laysTrail_94 (lv_at hl 4 rfl) ?_
  refine lv_iadd he hb dX12_laysTrail_96 ?_
  refine lv_iload he hb dX12_laysTrail_97 (lv_at hl 3 rfl) ?_
  obtain ⟨f2, hx, h⟩ := zob h
  refine z_istI B hS hx dX12_laysTrail_99 (fun H locs hS => ?_)
  refine lv_iinc (v := (a5 + 1)) (lv' := [(5, _), (0, _), (1, _), (3, _), (4, _)]) he hb dX12_laysTrail_100 hl (k := 4) rfl rfl (by decide) rfl (fun ls hl => ?_)
  refine lv_goto (tgt := 11) he hb dX12_laysTrail_103 (by decide) ?_
  exact hr11 _ _ _ _ _ _ _ _ _ h hS (lv_sub hl [1, 2, 3, 4, 0] rfl)
def fX12_laysTrail_66 (r11 : zF → Nat → Int32 → Int32 → Int32 → Int32 → Option zF) (N n : Nat) (f : zF) (a0 : Nat) (a1 : Int32) (a3 : Int32) (a4 : Int32) (a5 : Int32) (a6 : Int32) (t0 : Int32) : Option zF :=
    (if t0 = 0 then (fX12_laysTrail_86 r11 N n f a0 a1 (zrem (a3 + (1 : Int32)) (4 : Int32)) a4 a5) else (fX12_laysTrail_86 r11 N n f a0 a1 a3 a6 a5))
set_option maxRecDepth 100000 in
set_option maxHeartbeats 4000000 in
theorem gX12_laysTrail_66 (l : Launch) {G : zG} {p : Program} {e : Env} {s : State} {m : MethodId} {args : Array Value} {below : List Frame} {meth : Method} {c : Code} {N n : Nat} {f9 : zF} {r11 : zF → Nat → Int32 → Int32 → Int32 → Int32 → Option zF} (B : zB G p s m args meth c RX12 cX12_laysTrail 8 (none)) (hr11 : ∀ (f : zF) (a0 : Nat) (a1 : Int32) (a3 : Int32) (a4 : Int32) (a5 : Int32) (H : Heap) (locs : List Loc) (ls : Array Slot), r11 f a0 a1 a3 a4 a5 = some f9 → zS G n f H locs → lv_has ls 8 [(0, zr G a0), (1, .int a1), (3, .int a3), (4, .int a4), (5, .int a5)] → W p l e (zrm 3) s m args below meth c H locs 0 0 (MQ below (zQc G n f9 (none)) args s 0 0 (zA G)) (F0 m 11 ls [])) : ∀ (f : zF) (a0 : Nat) (a1 : Int32) (a3 : Int32) (a4 : Int32) (a5 : Int32) (a6 : Int32) (t0 : Int32) (H : Heap) (locs : List Loc) (ls : Array Slot), fX12_laysTrail_66 r11 N n f a0 a1 a3 a4 a5 a6 t0 = some f9 → zS G n f H locs → lv_has ls 8 [(0, zr G a0), (1, .int a1), (3, .int a3), (4, .int a4), (5, .int a5), (6, .int a6)] → W p l e (zrm 3) s m args below meth c H locs 0 0 (MQ below (zQc G n f9 (none)) args s 0 0 (zA G)) (F0 m 66 ls [.int t0]) := by
  have he := B.1
  have hb := B.2.1
  intro f a0 a1 a3 a4 a5 a6 t0 H locs ls h hS hl
  unfold fX12_laysTrail_66 at h
  refine lv_istore (lv' := [(7, _), (0, _), (1, _), (3, _), (4, _), (5, _), (6, _)]) he hb dX12_laysTrail_66 hl (by decide) rfl (fun ls hl => ?_)
  refine lv_iload he hb dX12_laysTrail_68 (lv_at hl 0 rfl) ?_
  refine lv_if_eq (tgt := 80) he hb dX12_laysTrail_70 (by decide) (fun hc => ?_) (fun hc => ?_)
  · rw [if_pos hc] at h
    refine lv_iload_n he hb dX12_laysTrail_80 rfl (lv_at hl 3 rfl) ?_
    refine lv_iconst (v := (1 : Int32)) he hb dX12_laysTrail_81 (by decide) ?_
    refine lv_iadd he hb dX12_laysTrail_82 ?_
    refine lv_iconst (v := (4 : Int32)) he hb dX12_laysTrail_83 (by decide) ?_
    refine z_irem he hb dX12_laysTrail_84 (by decide) ?_
    refine lv_istore_n (lv' := [(3, _), (7, _), (0, _), (1, _), (4, _), (5, _), (6, _)]) he hb dX12_laysTrail_85 rfl hl (by decide) rfl (fun ls hl => ?_)
    exact gX12_laysTrail_86 l B hr11 _ _ _ _ _ _ _ _ _ h hS (lv_sub hl [2, 3, 0, 4, 5] rfl)
  · rw [if_neg hc] at h
    refine lv_iload he hb dX12_laysTrail_73 (lv_at hl 6 rfl) ?_
    refine lv_istore (lv' := [(4, _), (7, _), (0, _), (1, _), (3, _), (5, _), (6, _)]) he hb dX12_laysTrail_75 hl (by decide) rfl (fun ls hl => ?_)
    refine lv_goto (tgt := 86) he hb dX12_laysTrail_77 (by decide) ?_
    exact gX12_laysTrail_86 l B hr11 _ _ _ _ _ _ _ _ _ h hS (lv_sub hl [2, 3, 4, 0, 5] rfl)
def fX12_laysTrail_65 (r11 : zF → Nat → Int32 → Int32 → Int32 → Int32 → Option zF) (N n : Nat) (f : zF) (a0 : Nat) (a1 : Int32) (a3 : Int32) (a4 : Int32) (a5 : Int32) (a6 : Int32) : Option zF :=
    (fX12_laysTrail_66 r11 N n f a0 a1 a3 a4 a5 a6 (0 : Int32))
set_option maxRecDepth 100000 in
set_option maxHeartbeats 4000000 in
theorem gX12_laysTrail_65 (l : Launch) {G : zG} {p : Program} {e : Env} {s : State} {m : MethodId} {args : Array Value} {below : List Frame} {meth : Method} {c : Code} {N n : Nat} {f9 : zF} {r11 : zF → Nat → Int32 → Int32 → Int32 → Int32 → Option zF} (B : zB G p s m args meth c RX12 cX12_laysTrail 8 (none)) (hr11 : ∀ (f : zF) (a0 : Nat) (a1 : Int32) (a3 : Int32) (a4 : Int32) (a5 : Int32) (H : Heap) (locs : List Loc) (ls : Array Slot), r11 f a0 a1 a3 a4 a5 = some f9 → zS G n f H locs → lv_has ls 8 [(0, zr G a0), (1, .int a1), (3, .int a3), (4, .int a4), (5, .int a5)] → W p l e (zrm 3) s m args below meth c H locs 0 0 (MQ below (zQc G n f9 (none)) args s 0 0 (zA G)) (F0 m 11 ls [])) : ∀ (f : zF) (a0 : Nat) (a1 : Int32) (a3 : Int32) (a4 : Int32) (a5 : Int32) (a6 : Int32) (H : Heap) (locs : List Loc) (ls : Array Slot), fX12_laysTrail_65 r11 N n f a0 a1 a3 a4 a5 a6 = some f9 → zS G n f H locs → lv_has ls 8 [(0, zr G a0), (1, .int a1), (3, .int a3), (4, .int a4), (5, .int a5), (6, .int a6)] → W p l e (zrm 3) s m args below meth c H locs 0 0 (MQ below (zQc G n f9 (none)) args s 0 0 (zA G)) (F0 m 65 ls []) := by
  have he := B.1
  have hb := B.2.1
  intro f a0 a1 a3 a4 a5 a6 H locs ls h hS hl
  unfold fX12_laysTrail_65 at h
  refine lv_iconst (v := (0 : Int32)) he hb dX12_laysTrail_65 (by decide) ?_
  exact gX12_laysTrail_66 l B hr11 _ _ _ _ _ _ _ _ _ _ _ h hS (lv_sub hl [0, 1, 2, 3, 4, 5] rfl)
def fX12_laysTrail_11 (N n : Nat) : Nat → zF → Nat → Int32 → Int32 → Int32 → Int32 → Option zF
  | 0, _, _, _, _, _, _ => none
  | k + 1, f, a0, a1, a3, a4, a5 =>
    (if (13 : Int32) ≤ a5 then some f else (if a5 ≤ 0 then (fX12_laysTrail_86 (fX12_laysTrail_11 N n k) N n f a0 a1 a3 a4 a5) else ((znz ((zrem a1 (9 : Int32)) + (1 : Int32))).bind fun _ => (if (zrem a5 ((zrem a1 (9 : Int32)) + (1 : Int32))) = 0 then ((zck n f 12 a0).bind fun _ => ((fX12_beside N n f a0 a4 a3).bind fun x3 => (if x3 < 0 then (fX12_laysTrail_65 (fX12_laysTrail_11 N n k) N n f a0 a1 a3 a4 a5 x3) else ((zgR n f 12 a0 6).bind fun x4 => ((zlI n f 0 x4 ((5 : Int32) + x3)).bind fun x5 => (if x5 = 0 then (fX12_laysTrail_66 (fX12_laysTrail_11 N n k) N n f a0 a1 a3 a4 a5 x3 (1 : Int32)) else (fX12_laysTrail_65 (fX12_laysTrail_11 N n k) N n f a0 a1 a3 a4 a5 x3))))))) else (fX12_laysTrail_86 (fX12_laysTrail_11 N n k) N n f a0 a1 a3 a4 a5)))))
set_option maxRecDepth 100000 in
set_option maxHeartbeats 4000000 in
theorem gX12_laysTrail_11 (l : Launch) {G : zG} {p : Program} {e : Env} {s : State} {m : MethodId} {args : Array Value} {below : List Frame} {meth : Method} {c : Code} {N n : Nat} {f9 : zF} (B : zB G p s m args meth c RX12 cX12_laysTrail 8 (none)) : ∀ (k : Nat), ∀ (f : zF) (a0 : Nat) (a1 : Int32) (a3 : Int32) (a4 : Int32) (a5 : Int32) (H : Heap) (locs : List Loc) (ls : Array Slot), fX12_laysTrail_11 N n k f a0 a1 a3 a4 a5 = some f9 → zS G n f H locs → lv_has ls 8 [(0, zr G a0), (1, .int a1), (3, .int a3), (4, .int a4), (5, .int a5)] → W p l e (zrm 3) s m args below meth c H locs 0 0 (MQ below (zQc G n f9 (none)) args s 0 0 (zA G)) (F0 m 11 ls []) := by
  have he := B.1
  have hb := B.2.1
  intro k
  induction k with
  | zero =>
    intro f a0 a1 a3 a4 a5 H locs ls h
    unfold fX12_laysTrail_11 at h
    cases h
  | succ k ih =>
    intro f a0 a1 a3 a4 a5 H locs ls h hS hl
    unfold fX12_laysTrail_11 at h
    refine lv_iload he hb dX12_laysTrail_11 (lv_at hl 4 rfl) ?_
    refine lv_bipush (v := (13 : Int32)) he hb dX12_laysTrail_13 (by decide) ?_
    refine lv_icmp_ge (tgt := 106) he hb dX12_laysTrail_15 (by decide) (fun hc => ?_) (fun hc => ?_)
    · rw [if_pos hc] at h
      obtain rfl := Option.some.inj h
      exact z_vret B hS dX12_laysTrail_106
    · rw [if_neg hc] at h
      refine lv_iload he hb dX12_laysTrail_18 (lv_at hl 4 rfl) ?_
      refine lv_if_le (tgt := 86) he hb dX12_laysTrail_20 (by decide) (fun hc => ?_) (fun hc => ?_)
      · rw [if_pos hc] at h
        exact gX12_laysTrail_86 l B ih _ _ _ _ _ _ _ _ _ h hS (lv_sub hl [0, 1, 2, 3, 4] rfl)
      · rw [if_neg hc] at h
        refine lv_iload he hb dX12_laysTrail_23 (lv_at hl 4 rfl) ?_
        refine lv_iload_n he hb dX12_laysTrail_25 rfl (lv_at hl 1 rfl) ?_
        refine lv_bipush (v := (9 : Int32)) he hb dX12_laysTrail_26 (by decide) ?_
        refine z_irem he hb dX12_laysTrail_28 (by decide) ?_
        refine lv_iconst (v := (1 : Int32)) he hb dX12_laysTrail_29 (by decide) ?_
        refine lv_iadd he hb dX12_laysTrail_30 ?_
        obtain ⟨_, hx, h⟩ := zob h
        refine z_irem he hb dX12_laysTrail_31 (znz_i hx) ?_
        refine lv_if_ne (tgt := 86) he hb dX12_laysTrail_32 (by decide) (fun hc => ?_) (fun hc => ?_)
        · rw [if_neg hc] at h
          exact gX12_laysTrail_86 l B ih _ _ _ _ _ _ _ _ _ h hS (lv_sub hl [0, 1, 2, 3, 4] rfl)
        · rw [if_pos hc] at h
          refine z_aload_n he hb dX12_laysTrail_35 rfl (lv_at hl 0 rfl) (zref_r _ _) ?_
          refine lv_iload he hb dX12_laysTrail_36 (lv_at hl 3 rfl) ?_
          refine lv_iload_n he hb dX12_laysTrail_38 rfl (lv_at hl 2 rfl) ?_
          obtain ⟨_, hc, h⟩ := zob h
          obtain ⟨x3, hx, h⟩ := zob h
          refine z_callV (ci := 12) (T := TX12) (N := 50) (rest := []) B hS (mX12_beside l G hx) zy_X12_beside zk_1659 (by decide) hc rfl rfl hl rfl (Nat.le_of_ble_eq_true rfl) dX12_laysTrail_39 (kk := (fun H locs hS => ?_))
          refine lv_istore (lv' := [(6, _), (0, _), (1, _), (3, _), (4, _), (5, _)]) he hb dX12_laysTrail_42 hl (by decide) rfl (fun ls hl => ?_)
          refine lv_iload he hb dX12_laysTrail_44 (lv_at hl 0 rfl) ?_
          refine lv_if_lt (tgt := 65) he hb dX12_laysTrail_46 (by decide) (fun hc => ?_) (fun hc => ?_)
          · rw [if_pos hc] at h
            exact gX12_laysTrail_65 l B ih _ _ _ _ _ _ _ _ _ _ h hS (lv_sub hl [1, 2, 3, 4, 5, 0] rfl)
          · rw [if_neg hc] at h
            refine z_aload_n he hb dX12_laysTrail_49 rfl (lv_at hl 1 rfl) (zref_r _ _) ?_
            obtain ⟨x4, hx, h⟩ := zob h
            refine z_getR (ci := 12) (T := TX12) (N := 50) (j := 6) B hS hx rfl zin_X12 (by decide) zk_1353 dX12_laysTrail_50 ?_
            refine lv_iconst (v := (5 : Int32)) he hb dX12_laysTrail_53 (by decide) ?_
            refine lv_iload he hb dX12_laysTrail_54 (lv_at hl 0 rfl) ?_
            refine lv_iadd he hb dX12_laysTrail_56 ?_
            obtain ⟨x5, hx, h⟩ := zob h
            refine z_ildI B hS hx dX12_laysTrail_57 ?_
            refine lv_if_ne (tgt := 65) he hb dX12_laysTrail_58 (by decide) (fun hc => ?_) (fun hc => ?_)
            · rw [if_neg hc] at h
              exact gX12_laysTrail_65 l B ih _ _ _ _ _ _ _ _ _ _ h hS (lv_sub hl [1, 2, 3, 4, 5, 0] rfl)
            · rw [if_pos hc] at h
              refine lv_iconst (v := (1 : Int32)) he hb dX12_laysTrail_61 (by decide) ?_
              refine lv_goto (tgt := 66) he hb dX12_laysTrail_62 (by decide) ?_
              exact gX12_laysTrail_66 l B ih _ _ _ _ _ _ _ _ _ _ _ h hS (lv_sub hl [1, 2, 3, 4, 5, 0] rfl)
def fX12_laysTrail (N n : Nat) (f : zF) (a0 : Nat) (a1 : Int32) (a2 : Int32) : Option zF :=
    (fX12_laysTrail_11 N n N f a0 a1 (a1 / (9 : Int32)) a2 (0 : Int32))
set_option maxRecDepth 100000 in
set_option maxHeartbeats 4000000 in
theorem mX12_laysTrail (l : Launch) (G : zG) {N n : Nat} {f : zF} {f9 : zF} {a0 : Nat} {a1 : Int32} {a2 : Int32} (h : fX12_laysTrail N n f a0 a1 a2 = some f9) : zM l G yX12_laysTrail cX12_laysTrail 8 (none) 3 n f [zr G a0, .int a1, .int a2] (none) f9 := by
  refine zM.of (by decide) (Nat.le_of_ble_eq_true rfl) ?_
  intro p e s m args below meth c locs ls B hS hl
  have he := B.1
  have hb := B.2.1
  have hl : lv_has ls 8 [(0, zr G a0), (1, .int a1), (2, .int a2)] := hl
  unfold fX12_laysTrail at h
  generalize s.heap = H at hS ⊢
  refine lv_iload_n he hb dX12_laysTrail_0 rfl (lv_at hl 1 rfl) ?_
  refine lv_bipush (v := (9 : Int32)) he hb dX12_laysTrail_1 (by decide) ?_
  refine lv_idiv he hb dX12_laysTrail_3 (by decide) ?_
  refine lv_istore_n (lv' := [(3, _), (0, _), (1, _), (2, _)]) he hb dX12_laysTrail_4 rfl hl (by decide) rfl (fun ls hl => ?_)
  refine lv_iload_n he hb dX12_laysTrail_5 rfl (lv_at hl 3 rfl) ?_
  refine lv_istore (lv' := [(4, _), (3, _), (0, _), (1, _), (2, _)]) he hb dX12_laysTrail_6 hl (by decide) rfl (fun ls hl => ?_)
  refine lv_iconst (v := (0 : Int32)) he hb dX12_laysTrail_8 (by decide) ?_
  refine lv_istore (lv' := [(5, _), (4, _), (3, _), (0, _), (1, _), (2, _)]) he hb dX12_laysTrail_9 hl (by decide) rfl (fun ls hl => ?_)
  exact gX12_laysTrail_11 l B N _ _ _ _ _ _ _ _ _ h hS (lv_sub hl [3, 4, 2, 1, 0] rfl)
theorem dX12_cellTold_0 : decode cX12_cellTold 0 = .ok (.bipush 9, 2) := by decide +kernel
theorem dX12_cellTold_2 : decode cX12_cellTold 2 = .ok (.aload_n 0, 1) := by decide +kernel
theorem dX12_cellTold_3 : decode cX12_cellTold 3 = .ok (.iconst 2, 1) := by decide +kernel
theorem dX12_cellTold_4 : decode cX12_cellTold 4 = .ok (.iload_n 1, 1) := by decide +kernel
theorem dX12_cellTold_5 : decode cX12_cellTold 5 = .ok (.imul, 1) := by decide +kernel
theorem dX12_cellTold_6 : decode cX12_cellTold 6 = .ok (.iconst 1, 1) := by decide +kernel
theorem dX12_cellTold_7 : decode cX12_cellTold 7 = .ok (.iadd, 1) := by decide +kernel
theorem dX12_cellTold_8 : decode cX12_cellTold 8 = .ok (.invokevirtual 382, 3) := by decide +kernel
theorem dX12_cellTold_11 : decode cX12_cellTold 11 = .ok (.imul, 1) := by decide +kernel
theorem dX12_cellTold_12 : decode cX12_cellTold 12 = .ok (.aload_n 0, 1) := by decide +kernel
theorem dX12_cellTold_13 : decode cX12_cellTold 13 = .ok (.iconst 2, 1) := by decide +kernel
theorem dX12_cellTold_14 : decode cX12_cellTold 14 = .ok (.iload_n 1, 1) := by decide +kernel
theorem dX12_cellTold_15 : decode cX12_cellTold 15 = .ok (.imul, 1) := by decide +kernel
theorem dX12_cellTold_16 : decode cX12_cellTold 16 = .ok (.invokevirtual 382, 3) := by decide +kernel
theorem dX12_cellTold_19 : decode cX12_cellTold 19 = .ok (.iadd, 1) := by decide +kernel
theorem dX12_cellTold_20 : decode cX12_cellTold 20 = .ok (.ireturn, 1) := by decide +kernel
def fX12_cellTold (N n : Nat) (f : zF) (a0 : Nat) (a1 : Int32) : Option Int32 :=
    ((zck n f 12 a0).bind fun _ => ((fX12_octet N n f a0 (((2 : Int32) * a1) + (1 : Int32))).bind fun x1 => ((zck n f 12 a0).bind fun _ => ((fX12_octet N n f a0 ((2 : Int32) * a1)).bind fun x2 => some (((9 : Int32) * x1) + x2)))))
set_option maxRecDepth 100000 in
set_option maxHeartbeats 4000000 in
theorem mX12_cellTold (l : Launch) (G : zG) {N n : Nat} {f : zF} {r : Int32} {a0 : Nat} {a1 : Int32} (h : fX12_cellTold N n f a0 a1 = some r) : zM l G yX12_cellTold cX12_cellTold 2 (some .int) 1 n f [zr G a0, .int a1] (some (.int r)) f := by
  refine zM.of (by decide) (Nat.le_of_ble_eq_true rfl) ?_
  intro p e s m args below meth c locs ls B hS hl
  have he := B.1
  have hb := B.2.1
  have hl : lv_has ls 2 [(0, zr G a0), (1, .int a1)] := hl
  unfold fX12_cellTold at h
  generalize s.heap = H at hS ⊢
  refine lv_bipush (v := (9 : Int32)) he hb dX12_cellTold_0 (by decide) ?_
  refine z_aload_n he hb dX12_cellTold_2 rfl (lv_at hl 0 rfl) (zref_r _ _) ?_
  refine lv_iconst (v := (2 : Int32)) he hb dX12_cellTold_3 (by decide) ?_
  refine lv_iload_n he hb dX12_cellTold_4 rfl (lv_at hl 1 rfl) ?_
  refine lv_imul he hb dX12_cellTold_5 ?_
  refine lv_iconst (v := (1 : Int32)) he hb dX12_cellTold_6 (by decide) ?_
  refine lv_iadd he hb dX12_cellTold_7 ?_
  obtain ⟨_, hc, h⟩ := zob h
  obtain ⟨x1, hx, h⟩ := zob h
  refine z_callV (ci := 12) (T := TX12) (N := 50) (rest := [_]) B hS (mX12_octet l G hx) zy_X12_octet zk_1817 (by decide) hc rfl rfl hl rfl (Nat.le_of_ble_eq_true rfl) dX12_cellTold_8 (kk := (fun H locs hS => ?_))
  refine lv_imul he hb dX12_cellTold_11 ?_
  refine z_aload_n he hb dX12_cellTold_12 rfl (lv_at hl 0 rfl) (zref_r _ _) ?_
  refine lv_iconst (v := (2 : Int32)) he hb dX12_cellTold_13 (by decide) ?_
  refine lv_iload_n he hb dX12_cellTold_14 rfl (lv_at hl 1 rfl) ?_
  refine lv_imul he hb dX12_cellTold_15 ?_
  obtain ⟨_, hc, h⟩ := zob h
  obtain ⟨x2, hx, h⟩ := zob h
  refine z_callV (ci := 12) (T := TX12) (N := 50) (rest := [_]) B hS (mX12_octet l G hx) zy_X12_octet zk_1817 (by decide) hc rfl rfl hl rfl (Nat.le_of_ble_eq_true rfl) dX12_cellTold_16 (kk := (fun H locs hS => ?_))
  refine lv_iadd he hb dX12_cellTold_19 ?_
  obtain rfl := Option.some.inj h
  exact z_iret B hS dX12_cellTold_20
theorem dX12_isFit_0 : decode cX12_isFit 0 = .ok (.iconst 1, 1) := by decide +kernel
theorem dX12_isFit_1 : decode cX12_isFit 1 = .ok (.istore_n 2, 1) := by decide +kernel
theorem dX12_isFit_2 : decode cX12_isFit 2 = .ok (.iconst 0, 1) := by decide +kernel
theorem dX12_isFit_3 : decode cX12_isFit 3 = .ok (.istore_n 3, 1) := by decide +kernel
theorem dX12_isFit_4 : decode cX12_isFit 4 = .ok (.iload_n 3, 1) := by decide +kernel
theorem dX12_isFit_5 : decode cX12_isFit 5 = .ok (.aload_n 0, 1) := by decide +kernel
theorem dX12_isFit_6 : decode cX12_isFit 6 = .ok (.getfield 18, 3) := by decide +kernel
theorem dX12_isFit_9 : decode cX12_isFit 9 = .ok (.iconst 2, 1) := by decide +kernel
theorem dX12_isFit_10 : decode cX12_isFit 10 = .ok (.idiv, 1) := by decide +kernel
theorem dX12_isFit_11 : decode cX12_isFit 11 = .ok (.if_icmp .ge 38, 3) := by decide +kernel
theorem dX12_isFit_14 : decode cX12_isFit 14 = .ok (.iload_n 2, 1) := by decide +kernel
theorem dX12_isFit_15 : decode cX12_isFit 15 = .ok (.ifCond .eq 26, 3) := by decide +kernel
theorem dX12_isFit_18 : decode cX12_isFit 18 = .ok (.aload_n 0, 1) := by decide +kernel
theorem dX12_isFit_19 : decode cX12_isFit 19 = .ok (.getfield 65, 3) := by decide +kernel
theorem dX12_isFit_22 : decode cX12_isFit 22 = .ok (.bipush 13, 2) := by decide +kernel
theorem dX12_isFit_24 : decode cX12_isFit 24 = .ok (.iload_n 1, 1) := by decide +kernel
theorem dX12_isFit_25 : decode cX12_isFit 25 = .ok (.imul, 1) := by decide +kernel
theorem dX12_isFit_26 : decode cX12_isFit 26 = .ok (.iload_n 3, 1) := by decide +kernel
theorem dX12_isFit_27 : decode cX12_isFit 27 = .ok (.iadd, 1) := by decide +kernel
theorem dX12_isFit_28 : decode cX12_isFit 28 = .ok (.iaload, 1) := by decide +kernel
theorem dX12_isFit_29 : decode cX12_isFit 29 = .ok (.aload_n 0, 1) := by decide +kernel
theorem dX12_isFit_30 : decode cX12_isFit 30 = .ok (.iload_n 3, 1) := by decide +kernel
theorem dX12_isFit_31 : decode cX12_isFit 31 = .ok (.invokevirtual 385, 3) := by decide +kernel
theorem dX12_isFit_34 : decode cX12_isFit 34 = .ok (.if_icmp .ne 7, 3) := by decide +kernel
theorem dX12_isFit_37 : decode cX12_isFit 37 = .ok (.iconst 1, 1) := by decide +kernel
theorem dX12_isFit_38 : decode cX12_isFit 38 = .ok (.goto 4, 3) := by decide +kernel
theorem dX12_isFit_41 : decode cX12_isFit 41 = .ok (.iconst 0, 1) := by decide +kernel
theorem dX12_isFit_42 : decode cX12_isFit 42 = .ok (.istore_n 2, 1) := by decide +kernel
theorem dX12_isFit_43 : decode cX12_isFit 43 = .ok (.iinc 3 1, 3) := by decide +kernel
theorem dX12_isFit_46 : decode cX12_isFit 46 = .ok (.goto (-42), 3) := by decide +kernel
theorem dX12_isFit_49 : decode cX12_isFit 49 = .ok (.iload_n 2, 1) := by decide +kernel
theorem dX12_isFit_50 : decode cX12_isFit 50 = .ok (.ireturn, 1) := by decide +kernel
def fX12_isFit_42 (r4 : Nat → Int32 → Int32 → Int32 → Option Int32) (N n : Nat) (f : zF) (a0 : Nat) (a1 : Int32) (a3 : Int32) (t0 : Int32) : Option Int32 :=
    (r4 a0 a1 t0 (a3 + 1))
set_option maxRecDepth 100000 in
set_option maxHeartbeats 4000000 in
theorem gX12_isFit_42 (l : Launch) {G : zG} {p : Program} {e : Env} {s : State} {m : MethodId} {args : Array Value} {below : List Frame} {meth : Method} {c : Code} {f : zF} {N n : Nat} {r : Int32} {r4 : Nat → Int32 → Int32 → Int32 → Option Int32} (B : zB G p s m args meth c RX12 cX12_isFit 4 (some .boolean)) (hr4 : ∀ (a0 : Nat) (a1 : Int32) (a2 : Int32) (a3 : Int32) (H : Heap) (locs : List Loc) (ls : Array Slot), r4 a0 a1 a2 a3 = some r → zS G n f H locs → lv_has ls 4 [(0, zr G a0), (1, .int a1), (2, .int a2), (3, .int a3)] → W p l e (zrm 2) s m args below meth c H locs 0 0 (MQ below (zQc G n f (some (.int r))) args s 0 0 (zA G)) (F0 m 4 ls [])) : ∀ (a0 : Nat) (a1 : Int32) (a3 : Int32) (t0 : Int32) (H : Heap) (locs : List Loc) (ls : Array Slot), fX12_isFit_42 r4 N n f a0 a1 a3 t0 = some r → zS G n f H locs → lv_has ls 4 [(0, zr G a0), (1, .int a1), (3, .int a3)] → W p l e (zrm 2) s m args below meth c H locs 0 0 (MQ below (zQc G n f (some (.int r))) args s 0 0 (zA G)) (F0 m 42 ls [.int t0]) := by
  have he := B.1
  have hb := B.2.1
  intro a0 a1 a3 t0 H locs ls h hS hl
  unfold fX12_isFit_42 at h
  refine lv_istore_n (lv' := [(2, _), (0, _), (1, _), (3, _)]) he hb dX12_isFit_42 rfl hl (by decide) rfl (fun ls hl => ?_)
  refine lv_iinc (v := (a3 + 1)) (lv' := [(3, _), (2, _), (0, _), (1, _)]) he hb dX12_isFit_43 hl (k := 3) rfl rfl (by decide) rfl (fun ls hl => ?_)
  refine lv_goto (tgt := 4) he hb dX12_isFit_46 (by decide) ?_
  exact hr4 _ _ _ _ _ _ _ h hS (lv_sub hl [2, 3, 1, 0] rfl)
def fX12_isFit_41 (r4 : Nat → Int32 → Int32 → Int32 → Option Int32) (N n : Nat) (f : zF) (a0 : Nat) (a1 : Int32) (a3 : Int32) : Option Int32 :=
    (fX12_isFit_42 r4 N n f a0 a1 a3 (0 : Int32))
set_option maxRecDepth 100000 in
set_option maxHeartbeats 4000000 in
theorem gX12_isFit_41 (l : Launch) {G : zG} {p : Program} {e : Env} {s : State} {m : MethodId} {args : Array Value} {below : List Frame} {meth : Method} {c : Code} {f : zF} {N n : Nat} {r : Int32} {r4 : Nat → Int32 → Int32 → Int32 → Option Int32} (B : zB G p s m args meth c RX12 cX12_isFit 4 (some .boolean)) (hr4 : ∀ (a0 : Nat) (a1 : Int32) (a2 : Int32) (a3 : Int32) (H : Heap) (locs : List Loc) (ls : Array Slot), r4 a0 a1 a2 a3 = some r → zS G n f H locs → lv_has ls 4 [(0, zr G a0), (1, .int a1), (2, .int a2), (3, .int a3)] → W p l e (zrm 2) s m args below meth c H locs 0 0 (MQ below (zQc G n f (some (.int r))) args s 0 0 (zA G)) (F0 m 4 ls [])) : ∀ (a0 : Nat) (a1 : Int32) (a3 : Int32) (H : Heap) (locs : List Loc) (ls : Array Slot), fX12_isFit_41 r4 N n f a0 a1 a3 = some r → zS G n f H locs → lv_has ls 4 [(0, zr G a0), (1, .int a1), (3, .int a3)] → W p l e (zrm 2) s m args below meth c H locs 0 0 (MQ below (zQc G n f (some (.int r))) args s 0 0 (zA G)) (F0 m 41 ls []) := by
  have he := B.1
  have hb := B.2.1
  intro a0 a1 a3 H locs ls h hS hl
  unfold fX12_isFit_41 at h
  refine lv_iconst (v := (0 : Int32)) he hb dX12_isFit_41 (by decide) ?_
  exact gX12_isFit_42 l B hr4 _ _ _ _ _ _ _ h hS (lv_sub hl [0, 1, 2] rfl)
def fX12_isFit_4 (N n : Nat) (f : zF) : Nat → Nat → Int32 → Int32 → Int32 → Option Int32
  | 0, _, _, _, _ => none
  | k + 1, a0, a1, a2, a3 =>
    ((zgI n f 12 a0 3).bind fun x1 => (if (x1 / (2 : Int32)) ≤ a3 then zbl a2 else (if a2 = 0 then (fX12_isFit_41 (fX12_isFit_4 N n f k) N n f a0 a1 a3) else ((zgR n f 12 a0 31).bind fun x2 => ((zlI n f 0 x2 (((13 : Int32) * a1) + a3)).bind fun x3 => ((zck n f 12 a0).bind fun _ => ((fX12_cellTold N n f a0 a3).bind fun x4 => (if x3 = x4 then (fX12_isFit_42 (fX12_isFit_4 N n f k) N n f a0 a1 a3 (1 : Int32)) else (fX12_isFit_41 (fX12_isFit_4 N n f k) N n f a0 a1 a3)))))))))
set_option maxRecDepth 100000 in
set_option maxHeartbeats 4000000 in
theorem gX12_isFit_4 (l : Launch) {G : zG} {p : Program} {e : Env} {s : State} {m : MethodId} {args : Array Value} {below : List Frame} {meth : Method} {c : Code} {f : zF} {N n : Nat} {r : Int32} (B : zB G p s m args meth c RX12 cX12_isFit 4 (some .boolean)) : ∀ (k : Nat), ∀ (a0 : Nat) (a1 : Int32) (a2 : Int32) (a3 : Int32) (H : Heap) (locs : List Loc) (ls : Array Slot), fX12_isFit_4 N n f k a0 a1 a2 a3 = some r → zS G n f H locs → lv_has ls 4 [(0, zr G a0), (1, .int a1), (2, .int a2), (3, .int a3)] → W p l e (zrm 2) s m args below meth c H locs 0 0 (MQ below (zQc G n f (some (.int r))) args s 0 0 (zA G)) (F0 m 4 ls []) := by
  have he := B.1
  have hb := B.2.1
  intro k
  induction k with
  | zero =>
    intro a0 a1 a2 a3 H locs ls h
    unfold fX12_isFit_4 at h
    cases h
  | succ k ih =>
    intro a0 a1 a2 a3 H locs ls h hS hl
    unfold fX12_isFit_4 at h
    refine lv_iload_n he hb dX12_isFit_4 rfl (lv_at hl 3 rfl) ?_
    refine z_aload_n he hb dX12_isFit_5 rfl (lv_at hl 0 rfl) (zref_r _ _) ?_
    obtain ⟨x1, hx, h⟩ := zob h
    refine z_getI (ci := 12) (T := TX12) (N := 50) (j := 3) B hS hx rfl zin_X12 (by decide) zk_1350 dX12_isFit_6 ?_
    refine lv_iconst (v := (2 : Int32)) he hb dX12_isFit_9 (by decide) ?_
    refine lv_idiv he hb dX12_isFit_10 (by decide) ?_
    refine lv_icmp_ge (tgt := 49) he hb dX12_isFit_11 (by decide) (fun hc => ?_) (fun hc => ?_)
    · rw [if_pos hc] at h
      refine lv_iload_n he hb dX12_isFit_49 rfl (lv_at hl 2 rfl) ?_
      obtain ⟨hz, rfl⟩ := zbl_i h
      exact z_zret B hS hz dX12_isFit_50
    · rw [if_neg hc] at h
      refine lv_iload_n he hb dX12_isFit_14 rfl (lv_at hl 2 rfl) ?_
      refine lv_if_eq (tgt := 41) he hb dX12_isFit_15 (by decide) (fun hc => ?_) (fun hc => ?_)
      · rw [if_pos hc] at h
        exact gX12_isFit_41 l B ih _ _ _ _ _ _ h hS (lv_sub hl [0, 1, 3] rfl)
      · rw [if_neg hc] at h
        refine z_aload_n he hb dX12_isFit_18 rfl (lv_at hl 0 rfl) (zref_r _ _) ?_
        obtain ⟨x2, hx, h⟩ := zob h
        refine z_getR (ci := 12) (T := TX12) (N := 50) (j := 31) B hS hx rfl zin_X12 (by decide) zk_1378 dX12_isFit_19 ?_
        refine lv_bipush (v := (13 : Int32)) he hb dX12_isFit_22 (by decide) ?_
        refine lv_iload_n he hb dX12_isFit_24 rfl (lv_at hl 1 rfl) ?_
        refine lv_imul he hb dX12_isFit_25 ?_
        refine lv_iload_n he hb dX12_isFit_26 rfl (lv_at hl 3 rfl) ?_
        refine lv_iadd he hb dX12_isFit_27 ?_
        obtain ⟨x3, hx, h⟩ := zob h
        refine z_ildI B hS hx dX12_isFit_28 ?_
        refine z_aload_n he hb dX12_isFit_29 rfl (lv_at hl 0 rfl) (zref_r _ _) ?_
        refine lv_iload_n he hb dX12_isFit_30 rfl (lv_at hl 3 rfl) ?_
        obtain ⟨_, hc, h⟩ := zob h
        obtain ⟨x4, hx, h⟩ := zob h
        refine z_callV (ci := 12) (T := TX12) (N := 50) (rest := [_]) B hS (mX12_cellTold l G hx) zy_X12_cellTold zk_1821 (by decide) hc rfl rfl hl rfl (Nat.le_of_ble_eq_true rfl) dX12_isFit_31 (kk := (fun H locs hS => ?_))
        refine lv_icmp_ne (tgt := 41) he hb dX12_isFit_34 (by decide) (fun hc => ?_) (fun hc => ?_)
        · rw [if_neg hc] at h
          exact gX12_isFit_41 l B ih _ _ _ _ _ _ h hS (lv_sub hl [0, 1, 3] rfl)
        · rw [if_pos hc] at h
          refine lv_iconst (v := (1 : Int32)) he hb dX12_isFit_37 (by decide) ?_
          refine lv_goto (tgt := 42) he hb dX12_isFit_38 (by decide) ?_
          exact gX12_isFit_42 l B ih _ _ _ _ _ _ _ h hS (lv_sub hl [0, 1, 3] rfl)
def fX12_isFit (N n : Nat) (f : zF) (a0 : Nat) (a1 : Int32) : Option Int32 :=
    (fX12_isFit_4 N n f N a0 a1 (1 : Int32) (0 : Int32))
set_option maxRecDepth 100000 in
set_option maxHeartbeats 4000000 in
theorem mX12_isFit (l : Launch) (G : zG) {N n : Nat} {f : zF} {r : Int32} {a0 : Nat} {a1 : Int32} (h : fX12_isFit N n f a0 a1 = some r) : zM l G yX12_isFit cX12_isFit 4 (some .boolean) 2 n f [zr G a0, .int a1] (some (.int r)) f := by
  refine zM.of (by decide) (Nat.le_of_ble_eq_true rfl) ?_
  intro p e s m args below meth c locs ls B hS hl
  have he := B.1
  have hb := B.2.1
  have hl : lv_has ls 4 [(0, zr G a0), (1, .int a1)] := hl
  unfold fX12_isFit at h
  generalize s.heap = H at hS ⊢
  refine lv_iconst (v := (1 : Int32)) he hb dX12_isFit_0 (by decide) ?_
  refine lv_istore_n (lv' := [(2, _), (0, _), (1, _)]) he hb dX12_isFit_1 rfl hl (by decide) rfl (fun ls hl => ?_)
  refine lv_iconst (v := (0 : Int32)) he hb dX12_isFit_2 (by decide) ?_
  refine lv_istore_n (lv' := [(3, _), (2, _), (0, _), (1, _)]) he hb dX12_isFit_3 rfl hl (by decide) rfl (fun ls hl => ?_)
  exact gX12_isFit_4 l B N _ _ _ _ _ _ _ h hS (lv_sub hl [2, 3, 1, 0] rfl)
theorem dX12_leftBy_0 : decode cX12_leftBy 0 = .ok (.iconst 0, 1) := by decide +kernel
theorem dX12_leftBy_1 : decode cX12_leftBy 1 = .ok (.istore_n 2, 1) := by decide +kernel
theorem dX12_leftBy_2 : decode cX12_leftBy 2 = .ok (.iconst 0, 1) := by decide +kernel
theorem dX12_leftBy_3 : decode cX12_leftBy 3 = .ok (.istore_n 3, 1) := by decide +kernel
theorem dX12_leftBy_4 : decode cX12_leftBy 4 = .ok (.iload_n 3, 1) := by decide +kernel
theorem dX12_leftBy_5 : decode cX12_leftBy 5 = .ok (.aload_n 0, 1) := by decide +kernel
theorem dX12_leftBy_6 : decode cX12_leftBy 6 = .ok (.getfield 68, 3) := by decide +kernel
theorem dX12_leftBy_9 : decode cX12_leftBy 9 = .ok (.if_icmp .ge 83, 3) := by decide +kernel
theorem dX12_leftBy_12 : decode cX12_leftBy 12 = .ok (.iconst 0, 1) := by decide +kernel
theorem dX12_leftBy_13 : decode cX12_leftBy 13 = .ok (.istore 4, 2) := by decide +kernel
theorem dX12_leftBy_15 : decode cX12_leftBy 15 = .ok (.iconst 0, 1) := by decide +kernel
theorem dX12_leftBy_16 : decode cX12_leftBy 16 = .ok (.istore 5, 2) := by decide +kernel
theorem dX12_leftBy_18 : decode cX12_leftBy 18 = .ok (.iload 5, 2) := by decide +kernel
theorem dX12_leftBy_20 : decode cX12_leftBy 20 = .ok (.aload_n 0, 1) := by decide +kernel
theorem dX12_leftBy_21 : decode cX12_leftBy 21 = .ok (.getfield 68, 3) := by decide +kernel
theorem dX12_leftBy_24 : decode cX12_leftBy 24 = .ok (.if_icmp .ge 55, 3) := by decide +kernel
theorem dX12_leftBy_27 : decode cX12_leftBy 27 = .ok (.iload 4, 2) := by decide +kernel
theorem dX12_leftBy_29 : decode cX12_leftBy 29 = .ok (.aload_n 0, 1) := by decide +kernel
theorem dX12_leftBy_30 : decode cX12_leftBy 30 = .ok (.getfield 65, 3) := by decide +kernel
theorem dX12_leftBy_33 : decode cX12_leftBy 33 = .ok (.bipush 13, 2) := by decide +kernel
theorem dX12_leftBy_35 : decode cX12_leftBy 35 = .ok (.aload_n 0, 1) := by decide +kernel
theorem dX12_leftBy_36 : decode cX12_leftBy 36 = .ok (.getfield 62, 3) := by decide +kernel
theorem dX12_leftBy_39 : decode cX12_leftBy 39 = .ok (.iload_n 3, 1) := by decide +kernel
theorem dX12_leftBy_40 : decode cX12_leftBy 40 = .ok (.iaload, 1) := by decide +kernel
theorem dX12_leftBy_41 : decode cX12_leftBy 41 = .ok (.imul, 1) := by decide +kernel
theorem dX12_leftBy_42 : decode cX12_leftBy 42 = .ok (.iload_n 1, 1) := by decide +kernel
theorem dX12_leftBy_43 : decode cX12_leftBy 43 = .ok (.iadd, 1) := by decide +kernel
theorem dX12_leftBy_44 : decode cX12_leftBy 44 = .ok (.iaload, 1) := by decide +kernel
theorem dX12_leftBy_45 : decode cX12_leftBy 45 = .ok (.aload_n 0, 1) := by decide +kernel
theorem dX12_leftBy_46 : decode cX12_leftBy 46 = .ok (.getfield 65, 3) := by decide +kernel
theorem dX12_leftBy_49 : decode cX12_leftBy 49 = .ok (.bipush 13, 2) := by decide +kernel
theorem dX12_leftBy_51 : decode cX12_leftBy 51 = .ok (.aload_n 0, 1) := by decide +kernel
theorem dX12_leftBy_52 : decode cX12_leftBy 52 = .ok (.getfield 62, 3) := by decide +kernel
theorem dX12_leftBy_55 : decode cX12_leftBy 55 = .ok (.iload 5, 2) := by decide +kernel
theorem dX12_leftBy_57 : decode cX12_leftBy 57 = .ok (.iaload, 1) := by decide +kernel
theorem dX12_leftBy_58 : decode cX12_leftBy 58 = .ok (.imul, 1) := by decide +kernel
theorem dX12_leftBy_59 : decode cX12_leftBy 59 = .ok (.iload_n 1, 1) := by decide +kernel
theorem dX12_leftBy_60 : decode cX12_leftBy 60 = .ok (.iadd, 1) := by decide +kernel
theorem dX12_leftBy_61 : decode cX12_leftBy 61 = .ok (.iaload, 1) := by decide +kernel
theorem dX12_leftBy_62 : decode cX12_leftBy 62 = .ok (.if_icmp .ne 7, 3) := by decide +kernel
theorem dX12_leftBy_65 : decode cX12_leftBy 65 = .ok (.iconst 1, 1) := by decide +kernel
theorem dX12_leftBy_66 : decode cX12_leftBy 66 = .ok (.goto 4, 3) := by decide +kernel
theorem dX12_leftBy_69 : decode cX12_leftBy 69 = .ok (.iconst 0, 1) := by decide +kernel
theorem dX12_leftBy_70 : decode cX12_leftBy 70 = .ok (.iadd, 1) := by decide +kernel
theorem dX12_leftBy_71 : decode cX12_leftBy 71 = .ok (.istore 4, 2) := by decide +kernel
theorem dX12_leftBy_73 : decode cX12_leftBy 73 = .ok (.iinc 5 1, 3) := by decide +kernel
theorem dX12_leftBy_76 : decode cX12_leftBy 76 = .ok (.goto (-58), 3) := by decide +kernel
theorem dX12_leftBy_79 : decode cX12_leftBy 79 = .ok (.iload_n 2, 1) := by decide +kernel
theorem dX12_leftBy_80 : decode cX12_leftBy 80 = .ok (.iload 4, 2) := by decide +kernel
theorem dX12_leftBy_82 : decode cX12_leftBy 82 = .ok (.invokestatic 388, 3) := by decide +kernel
theorem dX12_leftBy_85 : decode cX12_leftBy 85 = .ok (.istore_n 2, 1) := by decide +kernel
theorem dX12_leftBy_86 : decode cX12_leftBy 86 = .ok (.iinc 3 1, 3) := by decide +kernel
theorem dX12_leftBy_89 : decode cX12_leftBy 89 = .ok (.goto (-85), 3) := by decide +kernel
theorem dX12_leftBy_92 : decode cX12_leftBy 92 = .ok (.iload_n 2, 1) := by decide +kernel
theorem dX12_leftBy_93 : decode cX12_leftBy 93 = .ok (.ireturn, 1) := by decide +kernel
def fX12_leftBy_70 (r4 : Nat → Int32 → Int32 → Int32 → Option Int32) (r18 : Nat → Int32 → Int32 → Int32 → Int32 → Int32 → Option Int32) (N n : Nat) (f : zF) (a0 : Nat) (a1 : Int32) (a2 : Int32) (a3 : Int32) (a5 : Int32) (t0 : Int32) (t1 : Int32) : Option Int32 :=
    (r18 a0 a1 a2 a3 (t0 + t1) (a5 + 1))
set_option maxRecDepth 100000 in
set_option maxHeartbeats 4000000 in
theorem gX12_leftBy_70 (l : Launch) {G : zG} {p : Program} {e : Env} {s : State} {m : MethodId} {args : Array Value} {below : List Frame} {meth : Method} {c : Code} {f : zF} {N n : Nat} {r : Int32} {r4 : Nat → Int32 → Int32 → Int32 → Option Int32} {r18 : Nat → Int32 → Int32 → Int32 → Int32 → Int32 → Option Int32} (B : zB G p s m args meth c RX12 cX12_leftBy 6 (some .int)) (hr4 : ∀ (a0 : Nat) (a1 : Int32) (a2 : Int32) (a3 : Int32) (H : Heap) (locs : List Loc) (ls : Array Slot), r4 a0 a1 a2 a3 = some r → zS G n f H locs → lv_has ls 6 [(0, zr G a0), (1, .int a1), (2, .int a2), (3, .int a3)] → W p l e (zrm 1) s m args below meth c H locs 0 0 (MQ below (zQc G n f (some (.int r))) args s 0 0 (zA G)) (F0 m 4 ls [])) (hr18 : ∀ (a0 : Nat) (a1 : Int32) (a2 : Int32) (a3 : Int32) (a4 : Int32) (a5 : Int32) (H : Heap) (locs : List Loc) (ls : Array Slot), r18 a0 a1 a2 a3 a4 a5 = some r → zS G n f H locs → lv_has ls 6 [(0, zr G a0), (1, .int a1), (2, .int a2), (3, .int a3), (4, .int a4), (5, .int a5)] → W p l e (zrm 1) s m args below meth c H locs 0 0 (MQ below (zQc G n f (some (.int r))) args s 0 0 (zA G)) (F0 m 18 ls [])) : ∀ (a0 : Nat) (a1 : Int32) (a2 : Int32) (a3 : Int32) (a5 : Int32) (t0 : Int32) (t1 : Int32) (H : Heap) (locs : List Loc) (ls : Array Slot), fX12_leftBy_70 r4 r18 N n f a0 a1 a2 a3 a5 t0 t1 = some r → zS G n f H locs → lv_has ls 6 [(0, zr G a0), (1, .int a1), (2, .int a2), (3, .int a3), (5, .int a5)] → W p l e (zrm 1) s m args below meth c H locs 0 0 (MQ below (zQc G n f (some (.int r))) args s 0 0 (zA G)) (F0 m 70 ls [.int t1, .int t0]) := by
  have he := B.1
  have hb := B.2.1
  intro a0 a1 a2 a3 a5 t0 t1 H locs ls h hS hl
  unfold fX12_leftBy_70 at h
  refine lv_iadd he hb dX12_leftBy_70 ?_
  refine lv_istore (lv' := [(4, _), (0, _), (1, _), (2, _), (3, _), (5, _)]) he hb dX12_leftBy_71 hl (by decide) rfl (fun ls hl => ?_)
  refine lv_iinc (v := (a5 + 1)) (lv' := [(5, _), (4, _), (0, _), (1, _), (2, _), (3, _)]) he hb dX12_leftBy_73 hl (k := 5) rfl rfl (by decide) rfl (fun ls hl => ?_)
  refine lv_goto (tgt := 18) he hb dX12_leftBy_76 (by decide) ?_
  exact hr18 _ _ _ _ _ _ _ _ _ h hS (lv_sub hl [2, 3, 4, 5, 1, 0] rfl)
def fX12_leftBy_18 (r4 : Nat → Int32 → Int32 → Int32 → Option Int32) (N n : Nat) (f : zF) : Nat → Nat → Int32 → Int32 → Int32 → Int32 → Int32 → Option Int32
  | 0, _, _, _, _, _, _ => none
  | k + 1, a0, a1, a2, a3, a4, a5 =>
    ((zgI n f 12 a0 32).bind fun x2 => (if x2 ≤ a5 then ((fX12_greater N n f a2 a4).bind fun x3 => (r4 a0 a1 x3 (a3 + 1))) else ((zgR n f 12 a0 31).bind fun x4 => ((zgR n f 12 a0 30).bind fun x5 => ((zlI n f 0 x5 a3).bind fun x6 => ((zlI n f 0 x4 (((13 : Int32) * x6) + a1)).bind fun x7 => ((zgR n f 12 a0 31).bind fun x8 => ((zgR n f 12 a0 30).bind fun x9 => ((zlI n f 0 x9 a5).bind fun x10 => ((zlI n f 0 x8 (((13 : Int32) * x10) + a1)).bind fun x11 => (if x7 = x11 then (fX12_leftBy_70 r4 (fX12_leftBy_18 r4 N n f k) N n f a0 a1 a2 a3 a5 a4 (1 : Int32)) else (fX12_leftBy_70 r4 (fX12_leftBy_18 r4 N n f k) N n f a0 a1 a2 a3 a5 a4 (0 : Int32)))))))))))))
set_option maxRecDepth 100000 in
set_option maxHeartbeats 4000000 in
theorem gX12_leftBy_18 (l : Launch) {G : zG} {p : Program} {e : Env} {s : State} {m : MethodId} {args : Array Value} {below : List Frame} {meth : Method} {c : Code} {f : zF} {N n : Nat} {r : Int32} {r4 : Nat → Int32 → Int32 → Int32 → Option Int32} (B : zB G p s m args meth c RX12 cX12_leftBy 6 (some .int)) (hr4 : ∀ (a0 : Nat) (a1 : Int32) (a2 : Int32) (a3 : Int32) (H : Heap) (locs : List Loc) (ls : Array Slot), r4 a0 a1 a2 a3 = some r → zS G n f H locs → lv_has ls 6 [(0, zr G a0), (1, .int a1), (2, .int a2), (3, .int a3)] → W p l e (zrm 1) s m args below meth c H locs 0 0 (MQ below (zQc G n f (some (.int r))) args s 0 0 (zA G)) (F0 m 4 ls [])) : ∀ (k : Nat), ∀ (a0 : Nat) (a1 : Int32) (a2 : Int32) (a3 : Int32) (a4 : Int32) (a5 : Int32) (H : Heap) (locs : List Loc) (ls : Array Slot), fX12_leftBy_18 r4 N n f k a0 a1 a2 a3 a4 a5 = some r → zS G n f H locs → lv_has ls 6 [(0, zr G a0), (1, .int a1), (2, .int a2), (3, .int a3), (4, .int a4), (5, .int a5)] → W p l e (zrm 1) s m args below meth c H locs 0 0 (MQ below (zQc G n f (some (.int r))) args s 0 0 (zA G)) (F0 m 18 ls []) := by
  have he := B.1
  have hb := B.2.1
  intro k
  induction k with
  | zero =>
    intro a0 a1 a2 a3 a4 a5 H locs ls h
    unfold fX12_leftBy_18 at h
    cases h
  | succ k ih =>
    intro a0 a1 a2 a3 a4 a5 H locs ls h hS hl
    unfold fX12_leftBy_18 at h
    refine lv_iload he hb dX12_leftBy_18 (lv_at hl 5 rfl) ?_
    refine z_aload_n he hb dX12_leftBy_20 rfl (lv_at hl 0 rfl) (zref_r _ _) ?_
    obtain ⟨x2, hx, h⟩ := zob h
    refine z_getI (ci := 12) (T := TX12) (N := 50) (j := 32) B hS hx rfl zin_X12 (by decide) zk_1379 dX12_leftBy_21 ?_
    refine lv_icmp_ge (tgt := 79) he hb dX12_leftBy_24 (by decide) (fun hc => ?_) (fun hc => ?_)
    · rw [if_pos hc] at h
      refine lv_iload_n he hb dX12_leftBy_79 rfl (lv_at hl 2 rfl) ?_
      refine lv_iload he hb dX12_leftBy_80 (lv_at hl 4 rfl) ?_
      obtain ⟨x3, hx, h⟩ := zob h
      refine z_callS (rest := []) B hS (mX12_greater l G hx) zy_X12_greater zk_1837 (by decide) rfl hl rfl (Nat.le_of_ble_eq_true rfl) dX12_leftBy_82 (kk := (fun H locs hS => ?_))
      refine lv_istore_n (lv' := [(2, _), (0, _), (1, _), (3, _), (4, _), (5, _)]) he hb dX12_leftBy_85 rfl hl (by decide) rfl (fun ls hl => ?_)
      refine lv_iinc (v := (a3 + 1)) (lv' := [(3, _), (2, _), (0, _), (1, _), (4, _), (5, _)]) he hb dX12_leftBy_86 hl (k := 3) rfl rfl (by decide) rfl (fun ls hl => ?_)
      refine lv_goto (tgt := 4) he hb dX12_leftBy_89 (by decide) ?_
      exact hr4 _ _ _ _ _ _ _ h hS (lv_sub hl [2, 3, 1, 0] rfl)
    · rw [if_neg hc] at h
      refine lv_iload he hb dX12_leftBy_27 (lv_at hl 4 rfl) ?_
      refine z_aload_n he hb dX12_leftBy_29 rfl (lv_at hl 0 rfl) (zref_r _ _) ?_
      obtain ⟨x4, hx, h⟩ := zob h
      refine z_getR (ci := 12) (T := TX12) (N := 50) (j := 31) B hS hx rfl zin_X12 (by decide) zk_1378 dX12_leftBy_30 ?_
      refine lv_bipush (v := (13 : Int32)) he hb dX12_leftBy_33 (by decide) ?_
      refine z_aload_n he hb dX12_leftBy_35 rfl (lv_at hl 0 rfl) (zref_r _ _) ?_
      obtain ⟨x5, hx, h⟩ := zob h
      refine z_getR (ci := 12) (T := TX12) (N := 50) (j := 30) B hS hx rfl zin_X12 (by decide) zk_1377 dX12_leftBy_36 ?_
      refine lv_iload_n he hb dX12_leftBy_39 rfl (lv_at hl 3 rfl) ?_
      obtain ⟨x6, hx, h⟩ := zob h
      refine z_ildI B hS hx dX12_leftBy_40 ?_
      refine lv_imul he hb dX12_leftBy_41 ?_
      refine lv_iload_n he hb dX12_leftBy_42 rfl (lv_at hl 1 rfl) ?_
      refine lv_iadd he hb dX12_leftBy_43 ?_
      obtain ⟨x7, hx, h⟩ := zob h
      refine z_ildI B hS hx dX12_leftBy_44 ?_
      refine z_aload_n he hb dX12_leftBy_45 rfl (lv_at hl 0 rfl) (zref_r _ _) ?_
      obtain ⟨x8, hx, h⟩ := zob h
      refine z_getR (ci := 12) (T := TX12) (N := 50) (j := 31) B hS hx rfl zin_X12 (by decide) zk_1378 dX12_leftBy_46 ?_
      refine lv_bipush (v := (13 : Int32)) he hb dX12_leftBy_49 (by decide) ?_
      refine z_aload_n he hb dX12_leftBy_51 rfl (lv_at hl 0 rfl) (zref_r _ _) ?_
      obtain ⟨x9, hx, h⟩ := zob h
      refine z_getR (ci := 12) (T := TX12) (N := 50) (j := 30) B hS hx rfl zin_X12 (by decide) zk_1377 dX12_leftBy_52 ?_
      refine lv_iload he hb dX12_leftBy_55 (lv_at hl 5 rfl) ?_
      obtain ⟨x10, hx, h⟩ := zob h
      refine z_ildI B hS hx dX12_leftBy_57 ?_
      refine lv_imul he hb dX12_leftBy_58 ?_
      refine lv_iload_n he hb dX12_leftBy_59 rfl (lv_at hl 1 rfl) ?_
      refine lv_iadd he hb dX12_leftBy_60 ?_
      obtain ⟨x11, hx, h⟩ := zob h
      refine z_ildI B hS hx dX12_leftBy_61 ?_
      refine lv_icmp_ne (tgt := 69) he hb dX12_leftBy_62 (by decide) (fun hc => ?_) (fun hc => ?_)
      · rw [if_neg hc] at h
        refine lv_iconst (v := (0 : Int32)) he hb dX12_leftBy_69 (by decide) ?_
        exact gX12_leftBy_70 l B hr4 ih _ _ _ _ _ _ _ _ _ _ h hS (lv_sub hl [0, 1, 2, 3, 5] rfl)
      · rw [if_pos hc] at h
        refine lv_iconst (v := (1 : Int32)) he hb dX12_leftBy_65 (by decide) ?_
        refine lv_goto (tgt := 70) he hb dX12_leftBy_66 (by decide) ?_
        exact gX12_leftBy_70 l B hr4 ih _ _ _ _ _ _ _ _ _ _ h hS (lv_sub hl [0, 1, 2, 3, 5] rfl)
def fX12_leftBy_4 (N n : Nat) (f : zF) : Nat → Nat → Int32 → Int32 → Int32 → Option Int32
  | 0, _, _, _, _ => none
  | k + 1, a0, a1, a2, a3 =>
    ((zgI n f 12 a0 32).bind fun x1 => (if x1 ≤ a3 then some a2 else (fX12_leftBy_18 (fX12_leftBy_4 N n f k) N n f N a0 a1 a2 a3 (0 : Int32) (0 : Int32))))
set_option maxRecDepth 100000 in
set_option maxHeartbeats 4000000 in
theorem gX12_leftBy_4 (l : Launch) {G : zG} {p : Program} {e : Env} {s : State} {m : MethodId} {args : Array Value} {below : List Frame} {meth : Method} {c : Code} {f : zF} {N n : Nat} {r : Int32} (B : zB G p s m args meth c RX12 cX12_leftBy 6 (some .int)) : ∀ (k : Nat), ∀ (a0 : Nat) (a1 : Int32) (a2 : Int32) (a3 : Int32) (H : Heap) (locs : List Loc) (ls : Array Slot), fX12_leftBy_4 N n f k a0 a1 a2 a3 = some r → zS G n f H locs → lv_has ls 6 [(0, zr G a0), (1, .int a1), (2, .int a2), (3, .int a3)] → W p l e (zrm 1) s m args below meth c H locs 0 0 (MQ below (zQc G n f (some (.int r))) args s 0 0 (zA G)) (F0 m 4 ls []) := by
  have he := B.1
  have hb := B.2.1
  intro k
  induction k with
  | zero =>
    intro a0 a1 a2 a3 H locs ls h
    unfold fX12_leftBy_4 at h
    cases h
  | succ k ih =>
    intro a0 a1 a2 a3 H locs ls h hS hl
    unfold fX12_leftBy_4 at h
    refine lv_iload_n he hb dX12_leftBy_4 rfl (lv_at hl 3 rfl) ?_
    refine z_aload_n he hb dX12_leftBy_5 rfl (lv_at hl 0 rfl) (zref_r _ _) ?_
    obtain ⟨x1, hx, h⟩ := zob h
    refine z_getI (ci := 12) (T := TX12) (N := 50) (j := 32) B hS hx rfl zin_X12 (by decide) zk_1379 dX12_leftBy_6 ?_
    refine lv_icmp_ge (tgt := 92) he hb dX12_leftBy_9 (by decide) (fun hc => ?_) (fun hc => ?_)
    · rw [if_pos hc] at h
      refine lv_iload_n he hb dX12_leftBy_92 rfl (lv_at hl 2 rfl) ?_
      obtain rfl := Option.some.inj h
      exact z_iret B hS dX12_leftBy_93
    · rw [if_neg hc] at h
      refine lv_iconst (v := (0 : Int32)) he hb dX12_leftBy_12 (by decide) ?_
      refine lv_istore (lv' := [(4, _), (0, _), (1, _), (2, _), (3, _)]) he hb dX12_leftBy_13 hl (by decide) rfl (fun ls hl => ?_)
      refine lv_iconst (v := (0 : Int32)) he hb dX12_leftBy_15 (by decide) ?_
      refine lv_istore (lv' := [(5, _), (4, _), (0, _), (1, _), (2, _), (3, _)]) he hb dX12_leftBy_16 hl (by decide) rfl (fun ls hl => ?_)
      exact gX12_leftBy_18 l B ih N _ _ _ _ _ _ _ _ _ h hS (lv_sub hl [2, 3, 4, 5, 1, 0] rfl)
def fX12_leftBy (N n : Nat) (f : zF) (a0 : Nat) (a1 : Int32) : Option Int32 :=
    (fX12_leftBy_4 N n f N a0 a1 (0 : Int32) (0 : Int32))
set_option maxRecDepth 100000 in
set_option maxHeartbeats 4000000 in
theorem mX12_leftBy (l : Launch) (G : zG) {N n : Nat} {f : zF} {r : Int32} {a0 : Nat} {a1 : Int32} (h : fX12_leftBy N n f a0 a1 = some r) : zM l G yX12_leftBy cX12_leftBy 6 (some .int) 1 n f [zr G a0, .int a1] (some (.int r)) f := by
  refine zM.of (by decide) (Nat.le_of_ble_eq_true rfl) ?_
  intro p e s m args below meth c locs ls B hS hl
  have he := B.1
  have hb := B.2.1
  have hl : lv_has ls 6 [(0, zr G a0), (1, .int a1)] := hl
  unfold fX12_leftBy at h
  generalize s.heap = H at hS ⊢
  refine lv_iconst (v := (0 : Int32)) he hb dX12_leftBy_0 (by decide) ?_
  refine lv_istore_n (lv' := [(2, _), (0, _), (1, _)]) he hb dX12_leftBy_1 rfl hl (by decide) rfl (fun ls hl => ?_)
  refine lv_iconst (v := (0 : Int32)) he hb dX12_leftBy_2 (by decide) ?_
  refine lv_istore_n (lv' := [(3, _), (2, _), (0, _), (1, _)]) he hb dX12_leftBy_3 rfl hl (by decide) rfl (fun ls hl => ?_)
  exact gX12_leftBy_4 l B N _ _ _ _ _ _ _ h hS (lv_sub hl [2, 3, 1, 0] rfl)
theorem dX12_fits_0 : decode cX12_fits 0 = .ok (.aload_n 0, 1) := by decide +kernel
theorem dX12_fits_1 : decode cX12_fits 1 = .ok (.iconst 0, 1) := by decide +kernel
theorem dX12_fits_2 : decode cX12_fits 2 = .ok (.putfield 1, 3) := by decide +kernel
theorem dX12_fits_5 : decode cX12_fits 5 = .ok (.aload_n 0, 1) := by decide +kernel
theorem dX12_fits_6 : decode cX12_fits 6 = .ok (.sipush 940, 3) := by decide +kernel
theorem dX12_fits_9 : decode cX12_fits 9 = .ok (.invokevirtual 258, 3) := by decide +kernel
theorem dX12_fits_12 : decode cX12_fits 12 = .ok (.aload_n 0, 1) := by decide +kernel
theorem dX12_fits_13 : decode cX12_fits 13 = .ok (.getfield 18, 3) := by decide +kernel
theorem dX12_fits_16 : decode cX12_fits 16 = .ok (.iconst 4, 1) := by decide +kernel
theorem dX12_fits_17 : decode cX12_fits 17 = .ok (.bipush 16, 2) := by decide +kernel
theorem dX12_fits_19 : decode cX12_fits 19 = .ok (.invokestatic 192, 3) := by decide +kernel
theorem dX12_fits_22 : decode cX12_fits 22 = .ok (.ifCond .eq 13, 3) := by decide +kernel
theorem dX12_fits_25 : decode cX12_fits 25 = .ok (.aload_n 0, 1) := by decide +kernel
theorem dX12_fits_26 : decode cX12_fits 26 = .ok (.getfield 18, 3) := by decide +kernel
theorem dX12_fits_29 : decode cX12_fits 29 = .ok (.iconst 2, 1) := by decide +kernel
theorem dX12_fits_30 : decode cX12_fits 30 = .ok (.irem, 1) := by decide +kernel
theorem dX12_fits_31 : decode cX12_fits 31 = .ok (.iconst 1, 1) := by decide +kernel
theorem dX12_fits_32 : decode cX12_fits 32 = .ok (.if_icmp .ne 5, 3) := by decide +kernel
theorem dX12_fits_35 : decode cX12_fits 35 = .ok (.iconst (-1), 1) := by decide +kernel
theorem dX12_fits_36 : decode cX12_fits 36 = .ok (.ireturn, 1) := by decide +kernel
theorem dX12_fits_37 : decode cX12_fits 37 = .ok (.iconst 0, 1) := by decide +kernel
theorem dX12_fits_38 : decode cX12_fits 38 = .ok (.istore_n 1, 1) := by decide +kernel
theorem dX12_fits_39 : decode cX12_fits 39 = .ok (.iload_n 1, 1) := by decide +kernel
theorem dX12_fits_40 : decode cX12_fits 40 = .ok (.aload_n 0, 1) := by decide +kernel
theorem dX12_fits_41 : decode cX12_fits 41 = .ok (.getfield 18, 3) := by decide +kernel
theorem dX12_fits_44 : decode cX12_fits 44 = .ok (.iconst 2, 1) := by decide +kernel
theorem dX12_fits_45 : decode cX12_fits 45 = .ok (.idiv, 1) := by decide +kernel
theorem dX12_fits_46 : decode cX12_fits 46 = .ok (.if_icmp .ge 49, 3) := by decide +kernel
theorem dX12_fits_49 : decode cX12_fits 49 = .ok (.aload_n 0, 1) := by decide +kernel
theorem dX12_fits_50 : decode cX12_fits 50 = .ok (.aload_n 0, 1) := by decide +kernel
theorem dX12_fits_51 : decode cX12_fits 51 = .ok (.iconst 2, 1) := by decide +kernel
theorem dX12_fits_52 : decode cX12_fits 52 = .ok (.iload_n 1, 1) := by decide +kernel
theorem dX12_fits_53 : decode cX12_fits 53 = .ok (.imul, 1) := by decide +kernel
theorem dX12_fits_54 : decode cX12_fits 54 = .ok (.invokevirtual 382, 3) := by decide +kernel
theorem dX12_fits_57 : decode cX12_fits 57 = .ok (.aload_n 0, 1) := by decide +kernel
theorem dX12_fits_58 : decode cX12_fits 58 = .ok (.iconst 2, 1) := by decide +kernel
theorem dX12_fits_59 : decode cX12_fits 59 = .ok (.iload_n 1, 1) := by decide +kernel
theorem dX12_fits_60 : decode cX12_fits 60 = .ok (.imul, 1) := by decide +kernel
theorem dX12_fits_61 : decode cX12_fits 61 = .ok (.iconst 1, 1) := by decide +kernel
theorem dX12_fits_62 : decode cX12_fits 62 = .ok (.iadd, 1) := by decide +kernel
theorem dX12_fits_63 : decode cX12_fits 63 = .ok (.invokevirtual 382, 3) := by decide +kernel
theorem dX12_fits_66 : decode cX12_fits 66 = .ok (.invokevirtual 277, 3) := by decide +kernel
theorem dX12_fits_69 : decode cX12_fits 69 = .ok (.ifCond .eq 18, 3) := by decide +kernel
theorem dX12_fits_72 : decode cX12_fits 72 = .ok (.aload_n 0, 1) := by decide +kernel
theorem dX12_fits_73 : decode cX12_fits 73 = .ok (.getfield 33, 3) := by decide +kernel
theorem dX12_fits_76 : decode cX12_fits 76 = .ok (.iconst 5, 1) := by decide +kernel
theorem dX12_fits_77 : decode cX12_fits 77 = .ok (.aload_n 0, 1) := by decide +kernel
theorem dX12_fits_78 : decode cX12_fits 78 = .ok (.iload_n 1, 1) := by decide +kernel
theorem dX12_fits_79 : decode cX12_fits 79 = .ok (.invokevirtual 385, 3) := by decide +kernel
theorem dX12_fits_82 : decode cX12_fits 82 = .ok (.iadd, 1) := by decide +kernel
theorem dX12_fits_83 : decode cX12_fits 83 = .ok (.iaload, 1) := by decide +kernel
theorem dX12_fits_84 : decode cX12_fits 84 = .ok (.ifCond .le 5, 3) := by decide +kernel
theorem dX12_fits_87 : decode cX12_fits 87 = .ok (.iconst (-1), 1) := by decide +kernel
theorem dX12_fits_88 : decode cX12_fits 88 = .ok (.ireturn, 1) := by decide +kernel
theorem dX12_fits_89 : decode cX12_fits 89 = .ok (.iinc 1 1, 3) := by decide +kernel
theorem dX12_fits_92 : decode cX12_fits 92 = .ok (.goto (-53), 3) := by decide +kernel
theorem dX12_fits_95 : decode cX12_fits 95 = .ok (.iconst 0, 1) := by decide +kernel
theorem dX12_fits_96 : decode cX12_fits 96 = .ok (.istore_n 1, 1) := by decide +kernel
theorem dX12_fits_97 : decode cX12_fits 97 = .ok (.iconst 0, 1) := by decide +kernel
theorem dX12_fits_98 : decode cX12_fits 98 = .ok (.istore_n 2, 1) := by decide +kernel
theorem dX12_fits_99 : decode cX12_fits 99 = .ok (.iload_n 2, 1) := by decide +kernel
theorem dX12_fits_100 : decode cX12_fits 100 = .ok (.bipush 36, 2) := by decide +kernel
theorem dX12_fits_102 : decode cX12_fits 102 = .ok (.if_icmp .ge 35, 3) := by decide +kernel
theorem dX12_fits_105 : decode cX12_fits 105 = .ok (.aload_n 0, 1) := by decide +kernel
theorem dX12_fits_106 : decode cX12_fits 106 = .ok (.iload_n 2, 1) := by decide +kernel
theorem dX12_fits_107 : decode cX12_fits 107 = .ok (.aload_n 0, 1) := by decide +kernel
theorem dX12_fits_108 : decode cX12_fits 108 = .ok (.iconst 0, 1) := by decide +kernel
theorem dX12_fits_109 : decode cX12_fits 109 = .ok (.invokevirtual 385, 3) := by decide +kernel
theorem dX12_fits_112 : decode cX12_fits 112 = .ok (.invokevirtual 391, 3) := by decide +kernel
theorem dX12_fits_115 : decode cX12_fits 115 = .ok (.iload_n 1, 1) := by decide +kernel
theorem dX12_fits_116 : decode cX12_fits 116 = .ok (.aload_n 0, 1) := by decide +kernel
theorem dX12_fits_117 : decode cX12_fits 117 = .ok (.iload_n 2, 1) := by decide +kernel
theorem dX12_fits_118 : decode cX12_fits 118 = .ok (.invokevirtual 395, 3) := by decide +kernel
theorem dX12_fits_121 : decode cX12_fits 121 = .ok (.ifCond .eq 7, 3) := by decide +kernel
theorem dX12_fits_124 : decode cX12_fits 124 = .ok (.iconst 1, 1) := by decide +kernel
theorem dX12_fits_125 : decode cX12_fits 125 = .ok (.goto 4, 3) := by decide +kernel
theorem dX12_fits_128 : decode cX12_fits 128 = .ok (.iconst 0, 1) := by decide +kernel
theorem dX12_fits_129 : decode cX12_fits 129 = .ok (.iadd, 1) := by decide +kernel
theorem dX12_fits_130 : decode cX12_fits 130 = .ok (.istore_n 1, 1) := by decide +kernel
theorem dX12_fits_131 : decode cX12_fits 131 = .ok (.iinc 2 1, 3) := by decide +kernel
theorem dX12_fits_134 : decode cX12_fits 134 = .ok (.goto (-35), 3) := by decide +kernel
theorem dX12_fits_137 : decode cX12_fits 137 = .ok (.iload_n 1, 1) := by decide +kernel
theorem dX12_fits_138 : decode cX12_fits 138 = .ok (.ifCond .ne 5, 3) := by decide +kernel
theorem dX12_fits_141 : decode cX12_fits 141 = .ok (.iconst 0, 1) := by decide +kernel
theorem dX12_fits_142 : decode cX12_fits 142 = .ok (.ireturn, 1) := by decide +kernel
theorem dX12_fits_143 : decode cX12_fits 143 = .ok (.aload_n 0, 1) := by decide +kernel
theorem dX12_fits_144 : decode cX12_fits 144 = .ok (.iconst 0, 1) := by decide +kernel
theorem dX12_fits_145 : decode cX12_fits 145 = .ok (.putfield 68, 3) := by decide +kernel
theorem dX12_fits_148 : decode cX12_fits 148 = .ok (.iconst 0, 1) := by decide +kernel
theorem dX12_fits_149 : decode cX12_fits 149 = .ok (.istore_n 2, 1) := by decide +kernel
theorem dX12_fits_150 : decode cX12_fits 150 = .ok (.iload_n 2, 1) := by decide +kernel
theorem dX12_fits_151 : decode cX12_fits 151 = .ok (.bipush 36, 2) := by decide +kernel
theorem dX12_fits_153 : decode cX12_fits 153 = .ok (.if_icmp .ge 40, 3) := by decide +kernel
theorem dX12_fits_156 : decode cX12_fits 156 = .ok (.aload_n 0, 1) := by decide +kernel
theorem dX12_fits_157 : decode cX12_fits 157 = .ok (.iload_n 2, 1) := by decide +kernel
theorem dX12_fits_158 : decode cX12_fits 158 = .ok (.invokevirtual 395, 3) := by decide +kernel
theorem dX12_fits_161 : decode cX12_fits 161 = .ok (.ifCond .ne 6, 3) := by decide +kernel
theorem dX12_fits_164 : decode cX12_fits 164 = .ok (.goto 23, 3) := by decide +kernel
theorem dX12_fits_167 : decode cX12_fits 167 = .ok (.aload_n 0, 1) := by decide +kernel
theorem dX12_fits_168 : decode cX12_fits 168 = .ok (.getfield 62, 3) := by decide +kernel
theorem dX12_fits_171 : decode cX12_fits 171 = .ok (.aload_n 0, 1) := by decide +kernel
theorem dX12_fits_172 : decode cX12_fits 172 = .ok (.getfield 68, 3) := by decide +kernel
theorem dX12_fits_175 : decode cX12_fits 175 = .ok (.iload_n 2, 1) := by decide +kernel
theorem dX12_fits_176 : decode cX12_fits 176 = .ok (.iastore, 1) := by decide +kernel
theorem dX12_fits_177 : decode cX12_fits 177 = .ok (.aload_n 0, 1) := by decide +kernel
theorem dX12_fits_178 : decode cX12_fits 178 = .ok (.dup, 1) := by decide +kernel
theorem dX12_fits_179 : decode cX12_fits 179 = .ok (.getfield 68, 3) := by decide +kernel
theorem dX12_fits_182 : decode cX12_fits 182 = .ok (.iconst 1, 1) := by decide +kernel
theorem dX12_fits_183 : decode cX12_fits 183 = .ok (.iadd, 1) := by decide +kernel
theorem dX12_fits_184 : decode cX12_fits 184 = .ok (.putfield 68, 3) := by decide +kernel
theorem dX12_fits_187 : decode cX12_fits 187 = .ok (.iinc 2 1, 3) := by decide +kernel
theorem dX12_fits_190 : decode cX12_fits 190 = .ok (.goto (-40), 3) := by decide +kernel
theorem dX12_fits_193 : decode cX12_fits 193 = .ok (.aload_n 0, 1) := by decide +kernel
theorem dX12_fits_194 : decode cX12_fits 194 = .ok (.iconst 1, 1) := by decide +kernel
theorem dX12_fits_195 : decode cX12_fits 195 = .ok (.putfield 398, 3) := by decide +kernel
theorem dX12_fits_198 : decode cX12_fits 198 = .ok (.iconst 2, 1) := by decide +kernel
theorem dX12_fits_199 : decode cX12_fits 199 = .ok (.istore_n 2, 1) := by decide +kernel
theorem dX12_fits_200 : decode cX12_fits 200 = .ok (.iload_n 2, 1) := by decide +kernel
theorem dX12_fits_201 : decode cX12_fits 201 = .ok (.bipush 13, 2) := by decide +kernel
theorem dX12_fits_203 : decode cX12_fits 203 = .ok (.if_icmp .ge 30, 3) := by decide +kernel
theorem dX12_fits_206 : decode cX12_fits 206 = .ok (.aload_n 0, 1) := by decide +kernel
theorem dX12_fits_207 : decode cX12_fits 207 = .ok (.iload_n 2, 1) := by decide +kernel
theorem dX12_fits_208 : decode cX12_fits 208 = .ok (.invokevirtual 401, 3) := by decide +kernel
theorem dX12_fits_211 : decode cX12_fits 211 = .ok (.aload_n 0, 1) := by decide +kernel
theorem dX12_fits_212 : decode cX12_fits 212 = .ok (.aload_n 0, 1) := by decide +kernel
theorem dX12_fits_213 : decode cX12_fits 213 = .ok (.getfield 398, 3) := by decide +kernel
theorem dX12_fits_216 : decode cX12_fits 216 = .ok (.invokevirtual 401, 3) := by decide +kernel
theorem dX12_fits_219 : decode cX12_fits 219 = .ok (.if_icmp .ge 8, 3) := by decide +kernel
theorem dX12_fits_222 : decode cX12_fits 222 = .ok (.aload_n 0, 1) := by decide +kernel
theorem dX12_fits_223 : decode cX12_fits 223 = .ok (.iload_n 2, 1) := by decide +kernel
theorem dX12_fits_224 : decode cX12_fits 224 = .ok (.putfield 398, 3) := by decide +kernel
theorem dX12_fits_227 : decode cX12_fits 227 = .ok (.iinc 2 1, 3) := by decide +kernel
theorem dX12_fits_230 : decode cX12_fits 230 = .ok (.goto (-30), 3) := by decide +kernel
theorem dX12_fits_233 : decode cX12_fits 233 = .ok (.iload_n 1, 1) := by decide +kernel
theorem dX12_fits_234 : decode cX12_fits 234 = .ok (.ireturn, 1) := by decide +kernel
def fX12_fits_227 (r200 : zF → Nat → Int32 → Int32 → Option (zF × Int32)) (N n : Nat) (f : zF) (a0 : Nat) (a1 : Int32) (a2 : Int32) : Option (zF × Int32) :=
    (r200 f a0 a1 (a2 + 1))
set_option maxRecDepth 100000 in
set_option maxHeartbeats 4000000 in
theorem gX12_fits_227 (l : Launch) {G : zG} {p : Program} {e : Env} {s : State} {m : MethodId} {args : Array Value} {below : List Frame} {meth : Method} {c : Code} {N n : Nat} {f9 : zF} {r : Int32} {r200 : zF → Nat → Int32 → Int32 → Option (zF × Int32)} (B : zB G p s m args meth c RX12 cX12_fits 3 (some .int)) (hr200 : ∀ (f : zF) (a0 : Nat) (a1 : Int32) (a2 : Int32) (H : Heap) (locs : List Loc) (ls : Array Slot), r200 f a0 a1 a2 = some (f9, r) → zS G n f H locs → lv_has ls 3 [(0, zr G a0), (1, .int a1), (2, .int a2)] → W p l e (zrm 4) s m args below meth c H locs 0 0 (MQ below (zQc G n f9 (some (.int r))) args s 0 0 (zA G)) (F0 m 200 ls [])) : ∀ (f : zF) (a0 : Nat) (a1 : Int32) (a2 : Int32) (H : Heap) (locs : List Loc) (ls : Array Slot), fX12_fits_227 r200 N n f a0 a1 a2 = some (f9, r) → zS G n f H locs → lv_has ls 3 [(0, zr G a0), (1, .int a1), (2, .int a2)] → W p l e (zrm 4) s m args below meth c H locs 0 0 (MQ below (zQc G n f9 (some (.int r))) args s 0 0 (zA G)) (F0 m 227 ls []) := by
  have he := B.1
  have hb := B.2.1
  intro f a0 a1 a2 H locs ls h hS hl
  unfold fX12_fits_227 at h
  refine lv_iinc (v := (a2 + 1)) (lv' := [(2, _), (0, _), (1, _)]) he hb dX12_fits_227 hl (k := 2) rfl rfl (by decide) rfl (fun ls hl => ?_)
  refine lv_goto (tgt := 200) he hb dX12_fits_230 (by decide) ?_
  exact hr200 _ _ _ _ _ _ _ h hS (lv_sub hl [1, 2, 0] rfl)
def fX12_fits_200 (N n : Nat) : Nat → zF → Nat → Int32 → Int32 → Option (zF × Int32)
  | 0, _, _, _, _ => none
  | k + 1, f, a0, a1, a2 =>
    (if (13 : Int32) ≤ a2 then some (f, a1) else ((zck n f 12 a0).bind fun _ => ((fX12_leftBy N n f a0 a2).bind fun x9 => ((zgI n f 12 a0 33).bind fun x10 => ((zck n f 12 a0).bind fun _ => ((fX12_leftBy N n f a0 x10).bind fun x11 => (if x11 ≤ x9 then (fX12_fits_227 (fX12_fits_200 N n k) N n f a0 a1 a2) else ((zpI n f 12 a0 33 a2).bind fun f12 => (fX12_fits_227 (fX12_fits_200 N n k) N n f12 a0 a1 a2)))))))))
set_option maxRecDepth 100000 in
set_option maxHeartbeats 4000000 in
theorem gX12_fits_200 (l : Launch) {G : zG} {p : Program} {e : Env} {s : State} {m : MethodId} {args : Array Value} {below : List Frame} {meth : Method} {c : Code} {N n : Nat} {f9 : zF} {r : Int32} (B : zB G p s m args meth c RX12 cX12_fits 3 (some .int)) : ∀ (k : Nat), ∀ (f : zF) (a0 : Nat) (a1 : Int32) (a2 : Int32) (H : Heap) (locs : List Loc) (ls : Array Slot), fX12_fits_200 N n k f a0 a1 a2 = some (f9, r) → zS G n f H locs → lv_has ls 3 [(0, zr G a0), (1, .int a1), (2, .int a2)] → W p l e (zrm 4) s m args below meth c H locs 0 0 (MQ below (zQc G n f9 (some (.int r))) args s 0 0 (zA G)) (F0 m 200 ls []) := by
  have he := B.1
  have hb := B.2.1
  intro k
  induction k with
  | zero =>
    intro f a0 a1 a2 H locs ls h
    unfold fX12_fits_200 at h
    cases h
  | succ k ih =>
    intro f a0 a1 a2 H locs ls h hS hl
    unfold fX12_fits_200 at h
    refine lv_iload_n he hb dX12_fits_200 rfl (lv_at hl 2 rfl) ?_
    refine lv_bipush (v := (13 : Int32)) he hb dX12_fits_201 (by decide) ?_
    refine lv_icmp_ge (tgt := 233) he hb dX12_fits_203 (by decide) (fun hc => ?_) (fun hc => ?_)
    · rw [if_pos hc] at h
      refine lv_iload_n he hb dX12_fits_233 rfl (lv_at hl 1 rfl) ?_
      obtain ⟨rfl, rfl⟩ := Prod.mk.inj (Option.some.inj h)
      exact z_iret B hS dX12_fits_234
    · rw [if_neg hc] at h
      refine z_aload_n he hb dX12_fits_206 rfl (lv_at hl 0 rfl) (zref_r _ _) ?_
      refine lv_iload_n he hb dX12_fits_207 rfl (lv_at hl 2 rfl) ?_
      obtain ⟨_, hc, h⟩ := zob h
      obtain ⟨x9, hx, h⟩ := zob h
      refine z_callV (ci := 12) (T := TX12) (N := 50) (rest := []) B hS (mX12_leftBy l G hx) zy_X12_leftBy zk_1833 (by decide) hc rfl rfl hl rfl (Nat.le_of_ble_eq_true rfl) dX12_fits_208 (kk := (fun H locs hS => ?_))
      refine z_aload_n he hb dX12_fits_211 rfl (lv_at hl 0 rfl) (zref_r _ _) ?_
      refine z_aload_n he hb dX12_fits_212 rfl (lv_at hl 0 rfl) (zref_r _ _) ?_
      obtain ⟨x10, hx, h⟩ := zob h
      refine z_getI (ci := 12) (T := TX12) (N := 50) (j := 33) B hS hx rfl zin_X12 (by decide) zk_1380 dX12_fits_213 ?_
      obtain ⟨_, hc, h⟩ := zob h
      obtain ⟨x11, hx, h⟩ := zob h
      refine z_callV (ci := 12) (T := TX12) (N := 50) (rest := [_]) B hS (mX12_leftBy l G hx) zy_X12_leftBy zk_1833 (by decide) hc rfl rfl hl rfl (Nat.le_of_ble_eq_true rfl) dX12_fits_216 (kk := (fun H locs hS => ?_))
      refine lv_icmp_ge (tgt := 227) he hb dX12_fits_219 (by decide) (fun hc => ?_) (fun hc => ?_)
      · rw [if_pos hc] at h
        exact gX12_fits_227 l B ih _ _ _ _ _ _ _ h hS (lv_sub hl [0, 1, 2] rfl)
      · rw [if_neg hc] at h
        refine z_aload_n he hb dX12_fits_222 rfl (lv_at hl 0 rfl) (zref_r _ _) ?_
        refine lv_iload_n he hb dX12_fits_223 rfl (lv_at hl 2 rfl) ?_
        obtain ⟨f12, hx, h⟩ := zob h
        refine z_putI (ci := 12) (T := TX12) (N := 50) (j := 33) B hS hx rfl zin_X12 tyX12 tyX12_ok nmX12 (by decide) zk_1380 rfl rfl dX12_fits_224 (fun H locs hS => ?_)
        exact gX12_fits_227 l B ih _ _ _ _ _ _ _ h hS (lv_sub hl [0, 1, 2] rfl)
def fX12_fits_187 (r150 : zF → Nat → Int32 → Int32 → Option (zF × Int32)) (N n : Nat) (f : zF) (a0 : Nat) (a1 : Int32) (a2 : Int32) : Option (zF × Int32) :=
    (r150 f a0 a1 (a2 + 1))
set_option maxRecDepth 100000 in
set_option maxHeartbeats 4000000 in
theorem gX12_fits_187 (l : Launch) {G : zG} {p : Program} {e : Env} {s : State} {m : MethodId} {args : Array Value} {below : List Frame} {meth : Method} {c : Code} {N n : Nat} {f9 : zF} {r : Int32} {r150 : zF → Nat → Int32 → Int32 → Option (zF × Int32)} (B : zB G p s m args meth c RX12 cX12_fits 3 (some .int)) (hr150 : ∀ (f : zF) (a0 : Nat) (a1 : Int32) (a2 : Int32) (H : Heap) (locs : List Loc) (ls : Array Slot), r150 f a0 a1 a2 = some (f9, r) → zS G n f H locs → lv_has ls 3 [(0, zr G a0), (1, .int a1), (2, .int a2)] → W p l e (zrm 4) s m args below meth c H locs 0 0 (MQ below (zQc G n f9 (some (.int r))) args s 0 0 (zA G)) (F0 m 150 ls [])) : ∀ (f : zF) (a0 : Nat) (a1 : Int32) (a2 : Int32) (H : Heap) (locs : List Loc) (ls : Array Slot), fX12_fits_187 r150 N n f a0 a1 a2 = some (f9, r) → zS G n f H locs → lv_has ls 3 [(0, zr G a0), (1, .int a1), (2, .int a2)] → W p l e (zrm 4) s m args below meth c H locs 0 0 (MQ below (zQc G n f9 (some (.int r))) args s 0 0 (zA G)) (F0 m 187 ls []) := by
  have he := B.1
  have hb := B.2.1
  intro f a0 a1 a2 H locs ls h hS hl
  unfold fX12_fits_187 at h
  refine lv_iinc (v := (a2 + 1)) (lv' := [(2, _), (0, _), (1, _)]) he hb dX12_fits_187 hl (k := 2) rfl rfl (by decide) rfl (fun ls hl => ?_)
  refine lv_goto (tgt := 150) he hb dX12_fits_190 (by decide) ?_
  exact hr150 _ _ _ _ _ _ _ h hS (lv_sub hl [1, 2, 0] rfl)
def fX12_fits_150 (N n : Nat) : Nat → zF → Nat → Int32 → Int32 → Option (zF × Int32)
  | 0, _, _, _, _ => none
  | k + 1, f, a0, a1, a2 =>
    (if (36 : Int32) ≤ a2 then ((zpI n f 12 a0 33 (1 : Int32)).bind fun f8 => (fX12_fits_200 N n N f8 a0 a1 (2 : Int32))) else ((zck n f 12 a0).bind fun _ => ((fX12_isFit N n f a0 a2).bind fun x13 => (if x13 = 0 then (fX12_fits_187 (fX12_fits_150 N n k) N n f a0 a1 a2) else ((zgR n f 12 a0 30).bind fun x14 => ((zgI n f 12 a0 32).bind fun x15 => ((zsI n f 0 x14 x15 a2).bind fun f16 => ((zgI n f16 12 a0 32).bind fun x17 => ((zpI n f16 12 a0 32 (x17 + (1 : Int32))).bind fun f18 => (fX12_fits_187 (fX12_fits_150 N n k) N n f18 a0 a1 a2))))))))))
set_option maxRecDepth 100000 in
set_option maxHeartbeats 4000000 in
theorem gX12_fits_150 (l : Launch) {G : zG} {p : Program} {e : Env} {s : State} {m : MethodId} {args : Array Value} {below : List Frame} {meth : Method} {c : Code} {N n : Nat} {f9 : zF} {r : Int32} (B : zB G p s m args meth c RX12 cX12_fits 3 (some .int)) : ∀ (k : Nat), ∀ (f : zF) (a0 : Nat) (a1 : Int32) (a2 : Int32) (H : Heap) (locs : List Loc) (ls : Array Slot), fX12_fits_150 N n k f a0 a1 a2 = some (f9, r) → zS G n f H locs → lv_has ls 3 [(0, zr G a0), (1, .int a1), (2, .int a2)] → W p l e (zrm 4) s m args below meth c H locs 0 0 (MQ below (zQc G n f9 (some (.int r))) args s 0 0 (zA G)) (F0 m 150 ls []) := by
  have he := B.1
  have hb := B.2.1
  intro k
  induction k with
  | zero =>
    intro f a0 a1 a2 H locs ls h
    unfold fX12_fits_150 at h
    cases h
  | succ k ih =>
    intro f a0 a1 a2 H locs ls h hS hl
    unfold fX12_fits_150 at h
    refine lv_iload_n he hb dX12_fits_150 rfl (lv_at hl 2 rfl) ?_
    refine lv_bipush (v := (36 : Int32)) he hb dX12_fits_151 (by decide) ?_
    refine lv_icmp_ge (tgt := 193) he hb dX12_fits_153 (by decide) (fun hc => ?_) (fun hc => ?_)
    · rw [if_pos hc] at h
      refine z_aload_n he hb dX12_fits_193 rfl (lv_at hl 0 rfl) (zref_r _ _) ?_
      refine lv_iconst (v := (1 : Int32)) he hb dX12_fits_194 (by decide) ?_
      obtain ⟨f8, hx, h⟩ := zob h
      refine z_putI (ci := 12) (T := TX12) (N := 50) (j := 33) B hS hx rfl zin_X12 tyX12 tyX12_ok nmX12 (by decide) zk_1380 rfl rfl dX12_fits_195 (fun H locs hS => ?_)
      refine lv_iconst (v := (2 : Int32)) he hb dX12_fits_198 (by decide) ?_
      refine lv_istore_n (lv' := [(2, _), (0, _), (1, _)]) he hb dX12_fits_199 rfl hl (by decide) rfl (fun ls hl => ?_)
      exact gX12_fits_200 l B N _ _ _ _ _ _ _ h hS (lv_sub hl [1, 2, 0] rfl)
    · rw [if_neg hc] at h
      refine z_aload_n he hb dX12_fits_156 rfl (lv_at hl 0 rfl) (zref_r _ _) ?_
      refine lv_iload_n he hb dX12_fits_157 rfl (lv_at hl 2 rfl) ?_
      obtain ⟨_, hc, h⟩ := zob h
      obtain ⟨x13, hx, h⟩ := zob h
      refine z_callV (ci := 12) (T := TX12) (N := 50) (rest := []) B hS (mX12_isFit l G hx) zy_X12_isFit zk_1829 (by decide) hc rfl rfl hl rfl (Nat.le_of_ble_eq_true rfl) dX12_fits_158 (kk := (fun H locs hS => ?_))
      refine lv_if_ne (tgt := 167) he hb dX12_fits_161 (by decide) (fun hc => ?_) (fun hc => ?_)
      · rw [if_neg hc] at h
        refine z_aload_n he hb dX12_fits_167 rfl (lv_at hl 0 rfl) (zref_r _ _) ?_
        obtain ⟨x14, hx, h⟩ := zob h
        refine z_getR (ci := 12) (T := TX12) (N := 50) (j := 30) B hS hx rfl zin_X12 (by decide) zk_1377 dX12_fits_168 ?_
        refine z_aload_n he hb dX12_fits_171 rfl (lv_at hl 0 rfl) (zref_r _ _) ?_
        obtain ⟨x15, hx, h⟩ := zob h
        refine z_getI (ci := 12) (T := TX12) (N := 50) (j := 32) B hS hx rfl zin_X12 (by decide) zk_1379 dX12_fits_172 ?_
        refine lv_iload_n he hb dX12_fits_175 rfl (lv_at hl 2 rfl) ?_
        obtain ⟨f16, hx, h⟩ := zob h
        refine z_istI B hS hx dX12_fits_176 (fun H locs hS => ?_)
        refine z_aload_n he hb dX12_fits_177 rfl (lv_at hl 0 rfl) (zref_r _ _) ?_
        refine lv_dup he hb dX12_fits_178 rfl ?_
        obtain ⟨x17, hx, h⟩ := zob h
        refine z_getI (ci := 12) (T := TX12) (N := 50) (j := 32) B hS hx rfl zin_X12 (by decide) zk_1379 dX12_fits_179 ?_
        refine lv_iconst (v := (1 : Int32)) he hb dX12_fits_182 (by decide) ?_
        refine lv_iadd he hb dX12_fits_183 ?_
        obtain ⟨f18, hx, h⟩ := zob h
        refine z_putI (ci := 12) (T := TX12) (N := 50) (j := 32) B hS hx rfl zin_X12 tyX12 tyX12_ok nmX12 (by decide) zk_1379 rfl rfl dX12_fits_184 (fun H locs hS => ?_)
        exact gX12_fits_187 l B ih _ _ _ _ _ _ _ h hS (lv_sub hl [0, 1, 2] rfl)
      · rw [if_pos hc] at h
        refine lv_goto (tgt := 187) he hb dX12_fits_164 (by decide) ?_
        exact gX12_fits_187 l B ih _ _ _ _ _ _ _ h hS (lv_sub hl [0, 1, 2] rfl)
def fX12_fits_129 (r99 : zF → Nat → Int32 → Int32 → Option (zF × Int32)) (N n : Nat) (f : zF) (a0 : Nat) (a2 : Int32) (t0 : Int32) (t1 : Int32) : Option (zF × Int32) :=
    (r99 f a0 (t0 + t1) (a2 + 1))
set_option maxRecDepth 100000 in
set_option maxHeartbeats 4000000 in
theorem gX12_fits_129 (l : Launch) {G : zG} {p : Program} {e : Env} {s : State} {m : MethodId} {args : Array Value} {below : List Frame} {meth : Method} {c : Code} {N n : Nat} {f9 : zF} {r : Int32} {r99 : zF → Nat → Int32 → Int32 → Option (zF × Int32)} (B : zB G p s m args meth c RX12 cX12_fits 3 (some .int)) (hr99 : ∀ (f : zF) (a0 : Nat) (a1 : Int32) (a2 : Int32) (H : Heap) (locs : List Loc) (ls : Array Slot), r99 f a0 a1 a2 = some (f9, r) → zS G n f H locs → lv_has ls 3 [(0, zr G a0), (1, .int a1), (2, .int a2)] → W p l e (zrm 4) s m args below meth c H locs 0 0 (MQ below (zQc G n f9 (some (.int r))) args s 0 0 (zA G)) (F0 m 99 ls [])) : ∀ (f : zF) (a0 : Nat) (a2 : Int32) (t0 : Int32) (t1 : Int32) (H : Heap) (locs : List Loc) (ls : Array Slot), fX12_fits_129 r99 N n f a0 a2 t0 t1 = some (f9, r) → zS G n f H locs → lv_has ls 3 [(0, zr G a0), (2, .int a2)] → W p l e (zrm 4) s m args below meth c H locs 0 0 (MQ below (zQc G n f9 (some (.int r))) args s 0 0 (zA G)) (F0 m 129 ls [.int t1, .int t0]) := by
  have he := B.1
  have hb := B.2.1
  intro f a0 a2 t0 t1 H locs ls h hS hl
  unfold fX12_fits_129 at h
  refine lv_iadd he hb dX12_fits_129 ?_
  refine lv_istore_n (lv' := [(1, _), (0, _), (2, _)]) he hb dX12_fits_130 rfl hl (by decide) rfl (fun ls hl => ?_)
  refine lv_iinc (v := (a2 + 1)) (lv' := [(2, _), (1, _), (0, _)]) he hb dX12_fits_131 hl (k := 2) rfl rfl (by decide) rfl (fun ls hl => ?_)
  refine lv_goto (tgt := 99) he hb dX12_fits_134 (by decide) ?_
  exact hr99 _ _ _ _ _ _ _ h hS (lv_sub hl [2, 1, 0] rfl)
def fX12_fits_99 (N n : Nat) : Nat → zF → Nat → Int32 → Int32 → Option (zF × Int32)
  | 0, _, _, _, _ => none
  | k + 1, f, a0, a1, a2 =>
    (if (36 : Int32) ≤ a2 then (if a1 = 0 then some (f, (0 : Int32)) else ((zpI n f 12 a0 32 (0 : Int32)).bind fun f7 => (fX12_fits_150 N n N f7 a0 a1 (0 : Int32)))) else ((zck n f 12 a0).bind fun _ => ((fX12_cellTold N n f a0 (0 : Int32)).bind fun x19 => ((zck n f 12 a0).bind fun _ => ((fX12_laysTrail N n f a0 a2 x19).bind fun f20 => ((zck n f20 12 a0).bind fun _ => ((fX12_isFit N n f20 a0 a2).bind fun x21 => (if x21 = 0 then (fX12_fits_129 (fX12_fits_99 N n k) N n f20 a0 a2 a1 (0 : Int32)) else (fX12_fits_129 (fX12_fits_99 N n k) N n f20 a0 a2 a1 (1 : Int32))))))))))
set_option maxRecDepth 100000 in
set_option maxHeartbeats 4000000 in
theorem gX12_fits_99 (l : Launch) {G : zG} {p : Program} {e : Env} {s : State} {m : MethodId} {args : Array Value} {below : List Frame} {meth : Method} {c : Code} {N n : Nat} {f9 : zF} {r : Int32} (B : zB G p s m args meth c RX12 cX12_fits 3 (some .int)) : ∀ (k : Nat), ∀ (f : zF) (a0 : Nat) (a1 : Int32) (a2 : Int32) (H : Heap) (locs : List Loc) (ls : Array Slot), fX12_fits_99 N n k f a0 a1 a2 = some (f9, r) → zS G n f H locs → lv_has ls 3 [(0, zr G a0), (1, .int a1), (2, .int a2)] → W p l e (zrm 4) s m args below meth c H locs 0 0 (MQ below (zQc G n f9 (some (.int r))) args s 0 0 (zA G)) (F0 m 99 ls []) := by
  have he := B.1
  have hb := B.2.1
  intro k
  induction k with
  | zero =>
    intro f a0 a1 a2 H locs ls h
    unfold fX12_fits_99 at h
    cases h
  | succ k ih =>
    intro f a0 a1 a2 H locs ls h hS hl
    unfold fX12_fits_99 at h
    refine lv_iload_n he hb dX12_fits_99 rfl (lv_at hl 2 rfl) ?_
    refine lv_bipush (v := (36 : Int32)) he hb dX12_fits_100 (by decide) ?_
    refine lv_icmp_ge (tgt := 137) he hb dX12_fits_102 (by decide) (fun hc => ?_) (fun hc => ?_)
    · rw [if_pos hc] at h
      refine lv_iload_n he hb dX12_fits_137 rfl (lv_at hl 1 rfl) ?_
      refine lv_if_ne (tgt := 143) he hb dX12_fits_138 (by decide) (fun hc => ?_) (fun hc => ?_)
      · rw [if_neg hc] at h
        refine z_aload_n he hb dX12_fits_143 rfl (lv_at hl 0 rfl) (zref_r _ _) ?_
        refine lv_iconst (v := (0 : Int32)) he hb dX12_fits_144 (by decide) ?_
        obtain ⟨f7, hx, h⟩ := zob h
        refine z_putI (ci := 12) (T := TX12) (N := 50) (j := 32) B hS hx rfl zin_X12 tyX12 tyX12_ok nmX12 (by decide) zk_1379 rfl rfl dX12_fits_145 (fun H locs hS => ?_)
        refine lv_iconst (v := (0 : Int32)) he hb dX12_fits_148 (by decide) ?_
        refine lv_istore_n (lv' := [(2, _), (0, _), (1, _)]) he hb dX12_fits_149 rfl hl (by decide) rfl (fun ls hl => ?_)
        exact gX12_fits_150 l B N _ _ _ _ _ _ _ h hS (lv_sub hl [1, 2, 0] rfl)
      · rw [if_pos hc] at h
        refine lv_iconst (v := (0 : Int32)) he hb dX12_fits_141 (by decide) ?_
        obtain ⟨rfl, rfl⟩ := Prod.mk.inj (Option.some.inj h)
        exact z_iret B hS dX12_fits_142
    · rw [if_neg hc] at h
      refine z_aload_n he hb dX12_fits_105 rfl (lv_at hl 0 rfl) (zref_r _ _) ?_
      refine lv_iload_n he hb dX12_fits_106 rfl (lv_at hl 2 rfl) ?_
      refine z_aload_n he hb dX12_fits_107 rfl (lv_at hl 0 rfl) (zref_r _ _) ?_
      refine lv_iconst (v := (0 : Int32)) he hb dX12_fits_108 (by decide) ?_
      obtain ⟨_, hc, h⟩ := zob h
      obtain ⟨x19, hx, h⟩ := zob h
      refine z_callV (ci := 12) (T := TX12) (N := 50) (rest := [_, _]) B hS (mX12_cellTold l G hx) zy_X12_cellTold zk_1821 (by decide) hc rfl rfl hl rfl (Nat.le_of_ble_eq_true rfl) dX12_fits_109 (kk := (fun H locs hS => ?_))
      obtain ⟨_, hc, h⟩ := zob h
      obtain ⟨f20, hx, h⟩ := zob h
      refine z_callV (ci := 12) (T := TX12) (N := 50) (rest := []) B hS (mX12_laysTrail l G hx) zy_X12_laysTrail zk_1825 (by decide) hc rfl rfl hl rfl (Nat.le_of_ble_eq_true rfl) dX12_fits_112 (kk := (fun H locs hS => ?_))
      refine lv_iload_n he hb dX12_fits_115 rfl (lv_at hl 1 rfl) ?_
      refine z_aload_n he hb dX12_fits_116 rfl (lv_at hl 0 rfl) (zref_r _ _) ?_
      refine lv_iload_n he hb dX12_fits_117 rfl (lv_at hl 2 rfl) ?_
      obtain ⟨_, hc, h⟩ := zob h
      obtain ⟨x21, hx, h⟩ := zob h
      refine z_callV (ci := 12) (T := TX12) (N := 50) (rest := [_]) B hS (mX12_isFit l G hx) zy_X12_isFit zk_1829 (by decide) hc rfl rfl hl rfl (Nat.le_of_ble_eq_true rfl) dX12_fits_118 (kk := (fun H locs hS => ?_))
      refine lv_if_eq (tgt := 128) he hb dX12_fits_121 (by decide) (fun hc => ?_) (fun hc => ?_)
      · rw [if_pos hc] at h
        refine lv_iconst (v := (0 : Int32)) he hb dX12_fits_128 (by decide) ?_
        exact gX12_fits_129 l B ih _ _ _ _ _ _ _ _ h hS (lv_sub hl [0, 2] rfl)
      · rw [if_neg hc] at h
        refine lv_iconst (v := (1 : Int32)) he hb dX12_fits_124 (by decide) ?_
        refine lv_goto (tgt := 129) he hb dX12_fits_125 (by decide) ?_
        exact gX12_fits_129 l B ih _ _ _ _ _ _ _ _ h hS (lv_sub hl [0, 2] rfl)
def fX12_fits_39 (N n : Nat) : Nat → zF → Nat → Int32 → Option (zF × Int32)
  | 0, _, _, _ => none
  | k + 1, f, a0, a1 =>
    ((zgI n f 12 a0 3).bind fun x6 => (if (x6 / (2 : Int32)) ≤ a1 then (fX12_fits_99 N n N f a0 (0 : Int32) (0 : Int32)) else ((zck n f 12 a0).bind fun _ => ((fX12_octet N n f a0 ((2 : Int32) * a1)).bind fun x22 => ((zck n f 12 a0).bind fun _ => ((fX12_octet N n f a0 (((2 : Int32) * a1) + (1 : Int32))).bind fun x23 => ((zck n f 12 a0).bind fun _ => ((fX12_isCell N n f a0 x22 x23).bind fun x24 => (if x24 = 0 then some (f, (-1 : Int32)) else ((zgR n f 12 a0 6).bind fun x25 => ((zck n f 12 a0).bind fun _ => ((fX12_cellTold N n f a0 a1).bind fun x26 => ((zlI n f 0 x25 ((5 : Int32) + x26)).bind fun x27 => (if x27 ≤ 0 then (fX12_fits_39 N n k f a0 (a1 + 1)) else some (f, (-1 : Int32))))))))))))))))
set_option maxRecDepth 100000 in
set_option maxHeartbeats 4000000 in
theorem gX12_fits_39 (l : Launch) {G : zG} {p : Program} {e : Env} {s : State} {m : MethodId} {args : Array Value} {below : List Frame} {meth : Method} {c : Code} {N n : Nat} {f9 : zF} {r : Int32} (B : zB G p s m args meth c RX12 cX12_fits 3 (some .int)) : ∀ (k : Nat), ∀ (f : zF) (a0 : Nat) (a1 : Int32) (H : Heap) (locs : List Loc) (ls : Array Slot), fX12_fits_39 N n k f a0 a1 = some (f9, r) → zS G n f H locs → lv_has ls 3 [(0, zr G a0), (1, .int a1)] → W p l e (zrm 4) s m args below meth c H locs 0 0 (MQ below (zQc G n f9 (some (.int r))) args s 0 0 (zA G)) (F0 m 39 ls []) := by
  have he := B.1
  have hb := B.2.1
  intro k
  induction k with
  | zero =>
    intro f a0 a1 H locs ls h
    unfold fX12_fits_39 at h
    cases h
  | succ k ih =>
    intro f a0 a1 H locs ls h hS hl
    unfold fX12_fits_39 at h
    refine lv_iload_n he hb dX12_fits_39 rfl (lv_at hl 1 rfl) ?_
    refine z_aload_n he hb dX12_fits_40 rfl (lv_at hl 0 rfl) (zref_r _ _) ?_
    obtain ⟨x6, hx, h⟩ := zob h
    refine z_getI (ci := 12) (T := TX12) (N := 50) (j := 3) B hS hx rfl zin_X12 (by decide) zk_1350 dX12_fits_41 ?_
    refine lv_iconst (v := (2 : Int32)) he hb dX12_fits_44 (by decide) ?_
    refine lv_idiv he hb dX12_fits_45 (by decide) ?_
    refine lv_icmp_ge (tgt := 95) he hb dX12_fits_46 (by decide) (fun hc => ?_) (fun hc => ?_)
    · rw [if_pos hc] at h
      refine lv_iconst (v := (0 : Int32)) he hb dX12_fits_95 (by decide) ?_
      refine lv_istore_n (lv' := [(1, _), (0, _)]) he hb dX12_fits_96 rfl hl (by decide) rfl (fun ls hl => ?_)
      refine lv_iconst (v := (0 : Int32)) he hb dX12_fits_97 (by decide) ?_
      refine lv_istore_n (lv' := [(2, _), (1, _), (0, _)]) he hb dX12_fits_98 rfl hl (by decide) rfl (fun ls hl => ?_)
      exact gX12_fits_99 l B N _ _ _ _ _ _ _ h hS (lv_sub hl [2, 1, 0] rfl)
    · rw [if_neg hc] at h
      refine z_aload_n he hb dX12_fits_49 rfl (lv_at hl 0 rfl) (zref_r _ _) ?_
      refine z_aload_n he hb dX12_fits_50 rfl (lv_at hl 0 rfl) (zref_r _ _) ?_
      refine lv_iconst (v := (2 : Int32)) he hb dX12_fits_51 (by decide) ?_
      refine lv_iload_n he hb dX12_fits_52 rfl (lv_at hl 1 rfl) ?_
      refine lv_imul he hb dX12_fits_53 ?_
      obtain ⟨_, hc, h⟩ := zob h
      obtain ⟨x22, hx, h⟩ := zob h
      refine z_callV (ci := 12) (T := TX12) (N := 50) (rest := [_]) B hS (mX12_octet l G hx) zy_X12_octet zk_1817 (by decide) hc rfl rfl hl rfl (Nat.le_of_ble_eq_true rfl) dX12_fits_54 (kk := (fun H locs hS => ?_))
      refine z_aload_n he hb dX12_fits_57 rfl (lv_at hl 0 rfl) (zref_r _ _) ?_
      refine lv_iconst (v := (2 : Int32)) he hb dX12_fits_58 (by decide) ?_
      refine lv_iload_n he hb dX12_fits_59 rfl (lv_at hl 1 rfl) ?_
      refine lv_imul he hb dX12_fits_60 ?_
      refine lv_iconst (v := (1 : Int32)) he hb dX12_fits_61 (by decide) ?_
      refine lv_iadd he hb dX12_fits_62 ?_
      obtain ⟨_, hc, h⟩ := zob h
      obtain ⟨x23, hx, h⟩ := zob h
      refine z_callV (ci := 12) (T := TX12) (N := 50) (rest := [_, _]) B hS (mX12_octet l G hx) zy_X12_octet zk_1817 (by decide) hc rfl rfl hl rfl (Nat.le_of_ble_eq_true rfl) dX12_fits_63 (kk := (fun H locs hS => ?_))
      obtain ⟨_, hc, h⟩ := zob h
      obtain ⟨x24, hx, h⟩ := zob h
      refine z_callV (ci := 12) (T := TX12) (N := 50) (rest := []) B hS (mX12_isCell l G hx) zy_X12_isCell zk_1612 (by decide) hc rfl rfl hl rfl (Nat.le_of_ble_eq_true rfl) dX12_fits_66 (kk := (fun H locs hS => ?_))
      refine lv_if_eq (tgt := 87) he hb dX12_fits_69 (by decide) (fun hc => ?_) (fun hc => ?_)
      · rw [if_pos hc] at h
        refine lv_iconst (v := (-1 : Int32)) he hb dX12_fits_87 (by decide) ?_
        obtain ⟨rfl, rfl⟩ := Prod.mk.inj (Option.some.inj h)
        exact z_iret B hS dX12_fits_88
      · rw [if_neg hc] at h
        refine z_aload_n he hb dX12_fits_72 rfl (lv_at hl 0 rfl) (zref_r _ _) ?_
        obtain ⟨x25, hx, h⟩ := zob h
        refine z_getR (ci := 12) (T := TX12) (N := 50) (j := 6) B hS hx rfl zin_X12 (by decide) zk_1353 dX12_fits_73 ?_
        refine lv_iconst (v := (5 : Int32)) he hb dX12_fits_76 (by decide) ?_
        refine z_aload_n he hb dX12_fits_77 rfl (lv_at hl 0 rfl) (zref_r _ _) ?_
        refine lv_iload_n he hb dX12_fits_78 rfl (lv_at hl 1 rfl) ?_
        obtain ⟨_, hc, h⟩ := zob h
        obtain ⟨x26, hx, h⟩ := zob h
        refine z_callV (ci := 12) (T := TX12) (N := 50) (rest := [_, _]) B hS (mX12_cellTold l G hx) zy_X12_cellTold zk_1821 (by decide) hc rfl rfl hl rfl (Nat.le_of_ble_eq_true rfl) dX12_fits_79 (kk := (fun H locs hS => ?_))
        refine lv_iadd he hb dX12_fits_82 ?_
        obtain ⟨x27, hx, h⟩ := zob h
        refine z_ildI B hS hx dX12_fits_83 ?_
        refine lv_if_le (tgt := 89) he hb dX12_fits_84 (by decide) (fun hc => ?_) (fun hc => ?_)
        · rw [if_pos hc] at h
          refine lv_iinc (v := (a1 + 1)) (lv' := [(1, _), (0, _)]) he hb dX12_fits_89 hl (k := 1) rfl rfl (by decide) rfl (fun ls hl => ?_)
          refine lv_goto (tgt := 39) he hb dX12_fits_92 (by decide) ?_
          exact ih _ _ _ _ _ _ h hS (lv_sub hl [1, 0] rfl)
        · rw [if_neg hc] at h
          refine lv_iconst (v := (-1 : Int32)) he hb dX12_fits_87 (by decide) ?_
          obtain ⟨rfl, rfl⟩ := Prod.mk.inj (Option.some.inj h)
          exact z_iret B hS dX12_fits_88
def fX12_fits (N n : Nat) (f : zF) (a0 : Nat) : Option (zF × Int32) :=
    ((zpI n f 12 a0 0 (0 : Int32)).bind fun f1 => ((zck n f1 12 a0).bind fun _ => ((fX12_taken N n f1 a0 (940 : Int32)).bind fun f2 => ((zgI n f2 12 a0 3).bind fun x3 => ((fX12_isIn N n f2 x3 (4 : Int32) (16 : Int32)).bind fun x4 => (if x4 = 0 then some (f2, (-1 : Int32)) else ((zgI n f2 12 a0 3).bind fun x5 => (if (zrem x5 (2 : Int32)) = (1 : Int32) then some (f2, (-1 : Int32)) else (fX12_fits_39 N n N f2 a0 (0 : Int32))))))))))
set_option maxRecDepth 100000 in
set_option maxHeartbeats 4000000 in
theorem mX12_fits (l : Launch) (G : zG) {N n : Nat} {f : zF} {f9 : zF} {r : Int32} {a0 : Nat} (h : fX12_fits N n f a0 = some (f9, r)) : zM l G yX12_fits cX12_fits 3 (some .int) 4 n f [zr G a0] (some (.int r)) f9 := by
  refine zM.of (by decide) (Nat.le_of_ble_eq_true rfl) ?_
  intro p e s m args below meth c locs ls B hS hl
  have he := B.1
  have hb := B.2.1
  have hl : lv_has ls 3 [(0, zr G a0)] := hl
  unfold fX12_fits at h
  generalize s.heap = H at hS ⊢
  refine z_aload_n he hb dX12_fits_0 rfl (lv_at hl 0 rfl) (zref_r _ _) ?_
  refine lv_iconst (v := (0 : Int32)) he hb dX12_fits_1 (by decide) ?_
  obtain ⟨f1, hx, h⟩ := zob h
  refine z_putI (ci := 12) (T := TX12) (N := 50) (j := 0) B hS hx rfl zin_X12 tyX12 tyX12_ok nmX12 (by decide) zk_1347 rfl rfl dX12_fits_2 (fun H locs hS => ?_)
  refine z_aload_n he hb dX12_fits_5 rfl (lv_at hl 0 rfl) (zref_r _ _) ?_
  refine lv_sipush (v := (940 : Int32)) he hb dX12_fits_6 (by decide) ?_
  obtain ⟨_, hc, h⟩ := zob h
  obtain ⟨f2, hx, h⟩ := zob h
  refine z_callV (ci := 12) (T := TX12) (N := 50) (rest := []) B hS (mX12_taken l G hx) zy_X12_taken zk_1503 (by decide) hc rfl rfl hl rfl (Nat.le_of_ble_eq_true rfl) dX12_fits_9 (kk := (fun H locs hS => ?_))
  refine z_aload_n he hb dX12_fits_12 rfl (lv_at hl 0 rfl) (zref_r _ _) ?_
  obtain ⟨x3, hx, h⟩ := zob h
  refine z_getI (ci := 12) (T := TX12) (N := 50) (j := 3) B hS hx rfl zin_X12 (by decide) zk_1350 dX12_fits_13 ?_
  refine lv_iconst (v := (4 : Int32)) he hb dX12_fits_16 (by decide) ?_
  refine lv_bipush (v := (16 : Int32)) he hb dX12_fits_17 (by decide) ?_
  obtain ⟨x4, hx, h⟩ := zob h
  refine z_callS (rest := []) B hS (mX12_isIn l G hx) zy_X12_isIn zk_1545 (by decide) rfl hl rfl (Nat.le_of_ble_eq_true rfl) dX12_fits_19 (kk := (fun H locs hS => ?_))
  refine lv_if_eq (tgt := 35) he hb dX12_fits_22 (by decide) (fun hc => ?_) (fun hc => ?_)
  · rw [if_pos hc] at h
    refine lv_iconst (v := (-1 : Int32)) he hb dX12_fits_35 (by decide) ?_
    obtain ⟨rfl, rfl⟩ := Prod.mk.inj (Option.some.inj h)
    exact z_iret B hS dX12_fits_36
  · rw [if_neg hc] at h
    refine z_aload_n he hb dX12_fits_25 rfl (lv_at hl 0 rfl) (zref_r _ _) ?_
    obtain ⟨x5, hx, h⟩ := zob h
    refine z_getI (ci := 12) (T := TX12) (N := 50) (j := 3) B hS hx rfl zin_X12 (by decide) zk_1350 dX12_fits_26 ?_
    refine lv_iconst (v := (2 : Int32)) he hb dX12_fits_29 (by decide) ?_
    refine z_irem he hb dX12_fits_30 (by decide) ?_
    refine lv_iconst (v := (1 : Int32)) he hb dX12_fits_31 (by decide) ?_
    refine lv_icmp_ne (tgt := 37) he hb dX12_fits_32 (by decide) (fun hc => ?_) (fun hc => ?_)
    · rw [if_neg hc] at h
      refine lv_iconst (v := (0 : Int32)) he hb dX12_fits_37 (by decide) ?_
      refine lv_istore_n (lv' := [(1, _), (0, _)]) he hb dX12_fits_38 rfl hl (by decide) rfl (fun ls hl => ?_)
      exact gX12_fits_39 l B N _ _ _ _ _ _ h hS (lv_sub hl [1, 0] rfl)
    · rw [if_pos hc] at h
      refine lv_iconst (v := (-1 : Int32)) he hb dX12_fits_35 (by decide) ?_
      obtain ⟨rfl, rfl⟩ := Prod.mk.inj (Option.some.inj h)
      exact z_iret B hS dX12_fits_36
theorem dX12_fitsAt_0 : decode cX12_fitsAt 0 = .ok (.aload_n 0, 1) := by decide +kernel
theorem dX12_fitsAt_1 : decode cX12_fitsAt 1 = .ok (.iconst 0, 1) := by decide +kernel
theorem dX12_fitsAt_2 : decode cX12_fitsAt 2 = .ok (.putfield 1, 3) := by decide +kernel
theorem dX12_fitsAt_5 : decode cX12_fitsAt 5 = .ok (.iload_n 1, 1) := by decide +kernel
theorem dX12_fitsAt_6 : decode cX12_fitsAt 6 = .ok (.iconst 0, 1) := by decide +kernel
theorem dX12_fitsAt_7 : decode cX12_fitsAt 7 = .ok (.aload_n 0, 1) := by decide +kernel
theorem dX12_fitsAt_8 : decode cX12_fitsAt 8 = .ok (.getfield 68, 3) := by decide +kernel
theorem dX12_fitsAt_11 : decode cX12_fitsAt 11 = .ok (.iconst 1, 1) := by decide +kernel
theorem dX12_fitsAt_12 : decode cX12_fitsAt 12 = .ok (.isub, 1) := by decide +kernel
theorem dX12_fitsAt_13 : decode cX12_fitsAt 13 = .ok (.invokestatic 192, 3) := by decide +kernel
theorem dX12_fitsAt_16 : decode cX12_fitsAt 16 = .ok (.ifCond .eq 12, 3) := by decide +kernel
theorem dX12_fitsAt_19 : decode cX12_fitsAt 19 = .ok (.aload_n 0, 1) := by decide +kernel
theorem dX12_fitsAt_20 : decode cX12_fitsAt 20 = .ok (.getfield 62, 3) := by decide +kernel
theorem dX12_fitsAt_23 : decode cX12_fitsAt 23 = .ok (.iload_n 1, 1) := by decide +kernel
theorem dX12_fitsAt_24 : decode cX12_fitsAt 24 = .ok (.iaload, 1) := by decide +kernel
theorem dX12_fitsAt_25 : decode cX12_fitsAt 25 = .ok (.goto 4, 3) := by decide +kernel
theorem dX12_fitsAt_28 : decode cX12_fitsAt 28 = .ok (.iconst (-1), 1) := by decide +kernel
theorem dX12_fitsAt_29 : decode cX12_fitsAt 29 = .ok (.ireturn, 1) := by decide +kernel
def fX12_fitsAt (N n : Nat) (f : zF) (a0 : Nat) (a1 : Int32) : Option (zF × Int32) :=
    ((zpI n f 12 a0 0 (0 : Int32)).bind fun f1 => ((zgI n f1 12 a0 32).bind fun x2 => ((fX12_isIn N n f1 a1 (0 : Int32) (x2 - (1 : Int32))).bind fun x3 => (if x3 = 0 then some (f1, (-1 : Int32)) else ((zgR n f1 12 a0 30).bind fun x4 => ((zlI n f1 0 x4 a1).bind fun x5 => some (f1, x5)))))))
set_option maxRecDepth 100000 in
set_option maxHeartbeats 4000000 in
theorem mX12_fitsAt (l : Launch) (G : zG) {N n : Nat} {f : zF} {f9 : zF} {r : Int32} {a0 : Nat} {a1 : Int32} (h : fX12_fitsAt N n f a0 a1 = some (f9, r)) : zM l G yX12_fitsAt cX12_fitsAt 2 (some .int) 1 n f [zr G a0, .int a1] (some (.int r)) f9 := by
  refine zM.of (by decide) (Nat.le_of_ble_eq_true rfl) ?_
  intro p e s m args below meth c locs ls B hS hl
  have he := B.1
  have hb := B.2.1
  have hl : lv_has ls 2 [(0, zr G a0), (1, .int a1)] := hl
  unfold fX12_fitsAt at h
  generalize s.heap = H at hS ⊢
  refine z_aload_n he hb dX12_fitsAt_0 rfl (lv_at hl 0 rfl) (zref_r _ _) ?_
  refine lv_iconst (v := (0 : Int32)) he hb dX12_fitsAt_1 (by decide) ?_
  obtain ⟨f1, hx, h⟩ := zob h
  refine z_putI (ci := 12) (T := TX12) (N := 50) (j := 0) B hS hx rfl zin_X12 tyX12 tyX12_ok nmX12 (by decide) zk_1347 rfl rfl dX12_fitsAt_2 (fun H locs hS => ?_)
  refine lv_iload_n he hb dX12_fitsAt_5 rfl (lv_at hl 1 rfl) ?_
  refine lv_iconst (v := (0 : Int32)) he hb dX12_fitsAt_6 (by decide) ?_
  refine z_aload_n he hb dX12_fitsAt_7 rfl (lv_at hl 0 rfl) (zref_r _ _) ?_
  obtain ⟨x2, hx, h⟩ := zob h
  refine z_getI (ci := 12) (T := TX12) (N := 50) (j := 32) B hS hx rfl zin_X12 (by decide) zk_1379 dX12_fitsAt_8 ?_
  refine lv_iconst (v := (1 : Int32)) he hb dX12_fitsAt_11 (by decide) ?_
  refine lv_isub he hb dX12_fitsAt_12 ?_
  obtain ⟨x3, hx, h⟩ := zob h
  refine z_callS (rest := []) B hS (mX12_isIn l G hx) zy_X12_isIn zk_1545 (by decide) rfl hl rfl (Nat.le_of_ble_eq_true rfl) dX12_fitsAt_13 (kk := (fun H locs hS => ?_))
  refine lv_if_eq (tgt := 28) he hb dX12_fitsAt_16 (by decide) (fun hc => ?_) (fun hc => ?_)
  · rw [if_pos hc] at h
    refine lv_iconst (v := (-1 : Int32)) he hb dX12_fitsAt_28 (by decide) ?_
    obtain ⟨rfl, rfl⟩ := Prod.mk.inj (Option.some.inj h)
    exact z_iret B hS dX12_fitsAt_29
  · rw [if_neg hc] at h
    refine z_aload_n he hb dX12_fitsAt_19 rfl (lv_at hl 0 rfl) (zref_r _ _) ?_
    obtain ⟨x4, hx, h⟩ := zob h
    refine z_getR (ci := 12) (T := TX12) (N := 50) (j := 30) B hS hx rfl zin_X12 (by decide) zk_1377 dX12_fitsAt_20 ?_
    refine lv_iload_n he hb dX12_fitsAt_23 rfl (lv_at hl 1 rfl) ?_
    obtain ⟨x5, hx, h⟩ := zob h
    refine z_ildI B hS hx dX12_fitsAt_24 ?_
    refine lv_goto (tgt := 29) he hb dX12_fitsAt_25 (by decide) ?_
    obtain ⟨rfl, rfl⟩ := Prod.mk.inj (Option.some.inj h)
    exact z_iret B hS dX12_fitsAt_29
theorem dX12_ask_0 : decode cX12_ask 0 = .ok (.aload_n 0, 1) := by decide +kernel
theorem dX12_ask_1 : decode cX12_ask 1 = .ok (.iconst 0, 1) := by decide +kernel
theorem dX12_ask_2 : decode cX12_ask 2 = .ok (.putfield 1, 3) := by decide +kernel
theorem dX12_ask_5 : decode cX12_ask 5 = .ok (.aload_n 0, 1) := by decide +kernel
theorem dX12_ask_6 : decode cX12_ask 6 = .ok (.getfield 68, 3) := by decide +kernel
theorem dX12_ask_9 : decode cX12_ask 9 = .ok (.ifCond .le 10, 3) := by decide +kernel
theorem dX12_ask_12 : decode cX12_ask 12 = .ok (.aload_n 0, 1) := by decide +kernel
theorem dX12_ask_13 : decode cX12_ask 13 = .ok (.getfield 398, 3) := by decide +kernel
theorem dX12_ask_16 : decode cX12_ask 16 = .ok (.goto 4, 3) := by decide +kernel
theorem dX12_ask_19 : decode cX12_ask 19 = .ok (.iconst (-1), 1) := by decide +kernel
theorem dX12_ask_20 : decode cX12_ask 20 = .ok (.ireturn, 1) := by decide +kernel
def fX12_ask (N n : Nat) (f : zF) (a0 : Nat) : Option (zF × Int32) :=
    ((zpI n f 12 a0 0 (0 : Int32)).bind fun f1 => ((zgI n f1 12 a0 32).bind fun x2 => (if x2 ≤ 0 then some (f1, (-1 : Int32)) else ((zgI n f1 12 a0 33).bind fun x3 => some (f1, x3)))))
set_option maxRecDepth 100000 in
set_option maxHeartbeats 4000000 in
theorem mX12_ask (l : Launch) (G : zG) {N n : Nat} {f : zF} {f9 : zF} {r : Int32} {a0 : Nat} (h : fX12_ask N n f a0 = some (f9, r)) : zM l G yX12_ask cX12_ask 1 (some .int) 0 n f [zr G a0] (some (.int r)) f9 := by
  refine zM.of (by decide) (Nat.le_of_ble_eq_true rfl) ?_
  intro p e s m args below meth c locs ls B hS hl
  have he := B.1
  have hb := B.2.1
  have hl : lv_has ls 1 [(0, zr G a0)] := hl
  unfold fX12_ask at h
  generalize s.heap = H at hS ⊢
  refine z_aload_n he hb dX12_ask_0 rfl (lv_at hl 0 rfl) (zref_r _ _) ?_
  refine lv_iconst (v := (0 : Int32)) he hb dX12_ask_1 (by decide) ?_
  obtain ⟨f1, hx, h⟩ := zob h
  refine z_putI (ci := 12) (T := TX12) (N := 50) (j := 0) B hS hx rfl zin_X12 tyX12 tyX12_ok nmX12 (by decide) zk_1347 rfl rfl dX12_ask_2 (fun H locs hS => ?_)
  refine z_aload_n he hb dX12_ask_5 rfl (lv_at hl 0 rfl) (zref_r _ _) ?_
  obtain ⟨x2, hx, h⟩ := zob h
  refine z_getI (ci := 12) (T := TX12) (N := 50) (j := 32) B hS hx rfl zin_X12 (by decide) zk_1379 dX12_ask_6 ?_
  refine lv_if_le (tgt := 19) he hb dX12_ask_9 (by decide) (fun hc => ?_) (fun hc => ?_)
  · rw [if_pos hc] at h
    refine lv_iconst (v := (-1 : Int32)) he hb dX12_ask_19 (by decide) ?_
    obtain ⟨rfl, rfl⟩ := Prod.mk.inj (Option.some.inj h)
    exact z_iret B hS dX12_ask_20
  · rw [if_neg hc] at h
    refine z_aload_n he hb dX12_ask_12 rfl (lv_at hl 0 rfl) (zref_r _ _) ?_
    obtain ⟨x3, hx, h⟩ := zob h
    refine z_getI (ci := 12) (T := TX12) (N := 50) (j := 33) B hS hx rfl zin_X12 (by decide) zk_1380 dX12_ask_13 ?_
    refine lv_goto (tgt := 20) he hb dX12_ask_16 (by decide) ?_
    obtain ⟨rfl, rfl⟩ := Prod.mk.inj (Option.some.inj h)
    exact z_iret B hS dX12_ask_20
theorem dX12_firstLandOf_0 : decode cX12_firstLandOf 0 = .ok (.iconst 0, 1) := by decide +kernel
theorem dX12_firstLandOf_1 : decode cX12_firstLandOf 1 = .ok (.istore_n 2, 1) := by decide +kernel
theorem dX12_firstLandOf_2 : decode cX12_firstLandOf 2 = .ok (.iconst 0, 1) := by decide +kernel
theorem dX12_firstLandOf_3 : decode cX12_firstLandOf 3 = .ok (.istore_n 3, 1) := by decide +kernel
theorem dX12_firstLandOf_4 : decode cX12_firstLandOf 4 = .ok (.iload_n 3, 1) := by decide +kernel
theorem dX12_firstLandOf_5 : decode cX12_firstLandOf 5 = .ok (.bipush 81, 2) := by decide +kernel
theorem dX12_firstLandOf_7 : decode cX12_firstLandOf 7 = .ok (.if_icmp .ge 26, 3) := by decide +kernel
theorem dX12_firstLandOf_10 : decode cX12_firstLandOf 10 = .ok (.iload_n 2, 1) := by decide +kernel
theorem dX12_firstLandOf_11 : decode cX12_firstLandOf 11 = .ok (.aload_n 0, 1) := by decide +kernel
theorem dX12_firstLandOf_12 : decode cX12_firstLandOf 12 = .ok (.iload_n 3, 1) := by decide +kernel
theorem dX12_firstLandOf_13 : decode cX12_firstLandOf 13 = .ok (.invokevirtual 270, 3) := by decide +kernel
theorem dX12_firstLandOf_16 : decode cX12_firstLandOf 16 = .ok (.iload_n 1, 1) := by decide +kernel
theorem dX12_firstLandOf_17 : decode cX12_firstLandOf 17 = .ok (.if_icmp .ne 7, 3) := by decide +kernel
theorem dX12_firstLandOf_20 : decode cX12_firstLandOf 20 = .ok (.iconst 1, 1) := by decide +kernel
theorem dX12_firstLandOf_21 : decode cX12_firstLandOf 21 = .ok (.goto 4, 3) := by decide +kernel
theorem dX12_firstLandOf_24 : decode cX12_firstLandOf 24 = .ok (.iconst 0, 1) := by decide +kernel
theorem dX12_firstLandOf_25 : decode cX12_firstLandOf 25 = .ok (.iadd, 1) := by decide +kernel
theorem dX12_firstLandOf_26 : decode cX12_firstLandOf 26 = .ok (.istore_n 2, 1) := by decide +kernel
theorem dX12_firstLandOf_27 : decode cX12_firstLandOf 27 = .ok (.iinc 3 1, 3) := by decide +kernel
theorem dX12_firstLandOf_30 : decode cX12_firstLandOf 30 = .ok (.goto (-26), 3) := by decide +kernel
theorem dX12_firstLandOf_33 : decode cX12_firstLandOf 33 = .ok (.iload_n 2, 1) := by decide +kernel
theorem dX12_firstLandOf_34 : decode cX12_firstLandOf 34 = .ok (.ireturn, 1) := by decide +kernel
def fX12_firstLandOf_25 (r4 : Nat → Int32 → Int32 → Int32 → Option Int32) (N n : Nat) (f : zF) (a0 : Nat) (a1 : Int32) (a3 : Int32) (t0 : Int32) (t1 : Int32) : Option Int32 :=
    (r4 a0 a1 (t0 + t1) (a3 + 1))
set_option maxRecDepth 100000 in
set_option maxHeartbeats 4000000 in
theorem gX12_firstLandOf_25 (l : Launch) {G : zG} {p : Program} {e : Env} {s : State} {m : MethodId} {args : Array Value} {below : List Frame} {meth : Method} {c : Code} {f : zF} {N n : Nat} {r : Int32} {r4 : Nat → Int32 → Int32 → Int32 → Option Int32} (B : zB G p s m args meth c RX12 cX12_firstLandOf 4 (some .int)) (hr4 : ∀ (a0 : Nat) (a1 : Int32) (a2 : Int32) (a3 : Int32) (H : Heap) (locs : List Loc) (ls : Array Slot), r4 a0 a1 a2 a3 = some r → zS G n f H locs → lv_has ls 4 [(0, zr G a0), (1, .int a1), (2, .int a2), (3, .int a3)] → W p l e (zrm 3) s m args below meth c H locs 0 0 (MQ below (zQc G n f (some (.int r))) args s 0 0 (zA G)) (F0 m 4 ls [])) : ∀ (a0 : Nat) (a1 : Int32) (a3 : Int32) (t0 : Int32) (t1 : Int32) (H : Heap) (locs : List Loc) (ls : Array Slot), fX12_firstLandOf_25 r4 N n f a0 a1 a3 t0 t1 = some r → zS G n f H locs → lv_has ls 4 [(0, zr G a0), (1, .int a1), (3, .int a3)] → W p l e (zrm 3) s m args below meth c H locs 0 0 (MQ below (zQc G n f (some (.int r))) args s 0 0 (zA G)) (F0 m 25 ls [.int t1, .int t0]) := by
  have he := B.1
  have hb := B.2.1
  intro a0 a1 a3 t0 t1 H locs ls h hS hl
  unfold fX12_firstLandOf_25 at h
  refine lv_iadd he hb dX12_firstLandOf_25 ?_
  refine lv_istore_n (lv' := [(2, _), (0, _), (1, _), (3, _)]) he hb dX12_firstLandOf_26 rfl hl (by decide) rfl (fun ls hl => ?_)
  refine lv_iinc (v := (a3 + 1)) (lv' := [(3, _), (2, _), (0, _), (1, _)]) he hb dX12_firstLandOf_27 hl (k := 3) rfl rfl (by decide) rfl (fun ls hl => ?_)
  refine lv_goto (tgt := 4) he hb dX12_firstLandOf_30 (by decide) ?_
  exact hr4 _ _ _ _ _ _ _ h hS (lv_sub hl [2, 3, 1, 0] rfl)
def fX12_firstLandOf_4 (N n : Nat) (f : zF) : Nat → Nat → Int32 → Int32 → Int32 → Option Int32
  | 0, _, _, _, _ => none
  | k + 1, a0, a1, a2, a3 =>
    (if (81 : Int32) ≤ a3 then some a2 else ((zck n f 12 a0).bind fun _ => ((fX12_firstOwner N n f a0 a3).bind fun x1 => (if x1 = a1 then (fX12_firstLandOf_25 (fX12_firstLandOf_4 N n f k) N n f a0 a1 a3 a2 (1 : Int32)) else (fX12_firstLandOf_25 (fX12_firstLandOf_4 N n f k) N n f a0 a1 a3 a2 (0 : Int32))))))
set_option maxRecDepth 100000 in
set_option maxHeartbeats 4000000 in
theorem gX12_firstLandOf_4 (l : Launch) {G : zG} {p : Program} {e : Env} {s : State} {m : MethodId} {args : Array Value} {below : List Frame} {meth : Method} {c : Code} {f : zF} {N n : Nat} {r : Int32} (B : zB G p s m args meth c RX12 cX12_firstLandOf 4 (some .int)) : ∀ (k : Nat), ∀ (a0 : Nat) (a1 : Int32) (a2 : Int32) (a3 : Int32) (H : Heap) (locs : List Loc) (ls : Array Slot), fX12_firstLandOf_4 N n f k a0 a1 a2 a3 = some r → zS G n f H locs → lv_has ls 4 [(0, zr G a0), (1, .int a1), (2, .int a2), (3, .int a3)] → W p l e (zrm 3) s m args below meth c H locs 0 0 (MQ below (zQc G n f (some (.int r))) args s 0 0 (zA G)) (F0 m 4 ls []) := by
  have he := B.1
  have hb := B.2.1
  intro k
  induction k with
  | zero =>
    intro a0 a1 a2 a3 H locs ls h
    unfold fX12_firstLandOf_4 at h
    cases h
  | succ k ih =>
    intro a0 a1 a2 a3 H locs ls h hS hl
    unfold fX12_firstLandOf_4 at h
    refine lv_iload_n he hb dX12_firstLandOf_4 rfl (lv_at hl 3 rfl) ?_
    refine lv_bipush (v := (81 : Int32)) he hb dX12_firstLandOf_5 (by decide) ?_
    refine lv_icmp_ge (tgt := 33) he hb dX12_firstLandOf_7 (by decide) (fun hc => ?_) (fun hc => ?_)
    · rw [if_pos hc] at h
      refine lv_iload_n he hb dX12_firstLandOf_33 rfl (lv_at hl 2 rfl) ?_
      obtain rfl := Option.some.inj h
      exact z_iret B hS dX12_firstLandOf_34
    · rw [if_neg hc] at h
      refine lv_iload_n he hb dX12_firstLandOf_10 rfl (lv_at hl 2 rfl) ?_
      refine z_aload_n he hb dX12_firstLandOf_11 rfl (lv_at hl 0 rfl) (zref_r _ _) ?_
      refine lv_iload_n he hb dX12_firstLandOf_12 rfl (lv_at hl 3 rfl) ?_
      obtain ⟨_, hc, h⟩ := zob h
      obtain ⟨x1, hx, h⟩ := zob h
      refine z_callV (ci := 12) (T := TX12) (N := 50) (rest := [_]) B hS (mX12_firstOwner l G hx) zy_X12_firstOwner zk_1608 (by decide) hc rfl rfl hl rfl (Nat.le_of_ble_eq_true rfl) dX12_firstLandOf_13 (kk := (fun H locs hS => ?_))
      refine lv_iload_n he hb dX12_firstLandOf_16 rfl (lv_at hl 1 rfl) ?_
      refine lv_icmp_ne (tgt := 24) he hb dX12_firstLandOf_17 (by decide) (fun hc => ?_) (fun hc => ?_)
      · rw [if_neg hc] at h
        refine lv_iconst (v := (0 : Int32)) he hb dX12_firstLandOf_24 (by decide) ?_
        exact gX12_firstLandOf_25 l B ih _ _ _ _ _ _ _ _ h hS (lv_sub hl [0, 1, 3] rfl)
      · rw [if_pos hc] at h
        refine lv_iconst (v := (1 : Int32)) he hb dX12_firstLandOf_20 (by decide) ?_
        refine lv_goto (tgt := 25) he hb dX12_firstLandOf_21 (by decide) ?_
        exact gX12_firstLandOf_25 l B ih _ _ _ _ _ _ _ _ h hS (lv_sub hl [0, 1, 3] rfl)
def fX12_firstLandOf (N n : Nat) (f : zF) (a0 : Nat) (a1 : Int32) : Option Int32 :=
    (fX12_firstLandOf_4 N n f N a0 a1 (0 : Int32) (0 : Int32))
set_option maxRecDepth 100000 in
set_option maxHeartbeats 4000000 in
theorem mX12_firstLandOf (l : Launch) (G : zG) {N n : Nat} {f : zF} {r : Int32} {a0 : Nat} {a1 : Int32} (h : fX12_firstLandOf N n f a0 a1 = some r) : zM l G yX12_firstLandOf cX12_firstLandOf 4 (some .int) 3 n f [zr G a0, .int a1] (some (.int r)) f := by
  refine zM.of (by decide) (Nat.le_of_ble_eq_true rfl) ?_
  intro p e s m args below meth c locs ls B hS hl
  have he := B.1
  have hb := B.2.1
  have hl : lv_has ls 4 [(0, zr G a0), (1, .int a1)] := hl
  unfold fX12_firstLandOf at h
  generalize s.heap = H at hS ⊢
  refine lv_iconst (v := (0 : Int32)) he hb dX12_firstLandOf_0 (by decide) ?_
  refine lv_istore_n (lv' := [(2, _), (0, _), (1, _)]) he hb dX12_firstLandOf_1 rfl hl (by decide) rfl (fun ls hl => ?_)
  refine lv_iconst (v := (0 : Int32)) he hb dX12_firstLandOf_2 (by decide) ?_
  refine lv_istore_n (lv' := [(3, _), (2, _), (0, _), (1, _)]) he hb dX12_firstLandOf_3 rfl hl (by decide) rfl (fun ls hl => ?_)
  exact gX12_firstLandOf_4 l B N _ _ _ _ _ _ _ h hS (lv_sub hl [2, 3, 1, 0] rfl)
theorem dX12_grown_0 : decode cX12_grown 0 = .ok (.aload_n 0, 1) := by decide +kernel
theorem dX12_grown_1 : decode cX12_grown 1 = .ok (.iconst 0, 1) := by decide +kernel
theorem dX12_grown_2 : decode cX12_grown 2 = .ok (.putfield 1, 3) := by decide +kernel
theorem dX12_grown_5 : decode cX12_grown 5 = .ok (.iconst (-1), 1) := by decide +kernel
theorem dX12_grown_6 : decode cX12_grown 6 = .ok (.istore_n 1, 1) := by decide +kernel
theorem dX12_grown_7 : decode cX12_grown 7 = .ok (.ldc_w 404, 3) := by decide +kernel
theorem dX12_grown_10 : decode cX12_grown 10 = .ok (.istore_n 2, 1) := by decide +kernel
theorem dX12_grown_11 : decode cX12_grown 11 = .ok (.iconst 0, 1) := by decide +kernel
theorem dX12_grown_12 : decode cX12_grown 12 = .ok (.istore_n 3, 1) := by decide +kernel
theorem dX12_grown_13 : decode cX12_grown 13 = .ok (.iload_n 3, 1) := by decide +kernel
theorem dX12_grown_14 : decode cX12_grown 14 = .ok (.aload_n 0, 1) := by decide +kernel
theorem dX12_grown_15 : decode cX12_grown 15 = .ok (.getfield 33, 3) := by decide +kernel
theorem dX12_grown_18 : decode cX12_grown 18 = .ok (.iconst 2, 1) := by decide +kernel
theorem dX12_grown_19 : decode cX12_grown 19 = .ok (.iaload, 1) := by decide +kernel
theorem dX12_grown_20 : decode cX12_grown 20 = .ok (.if_icmp .ge 36, 3) := by decide +kernel
theorem dX12_grown_23 : decode cX12_grown 23 = .ok (.aload_n 0, 1) := by decide +kernel
theorem dX12_grown_24 : decode cX12_grown 24 = .ok (.iload_n 3, 1) := by decide +kernel
theorem dX12_grown_25 : decode cX12_grown 25 = .ok (.invokevirtual 323, 3) := by decide +kernel
theorem dX12_grown_28 : decode cX12_grown 28 = .ok (.aload_n 0, 1) := by decide +kernel
theorem dX12_grown_29 : decode cX12_grown 29 = .ok (.iload_n 3, 1) := by decide +kernel
theorem dX12_grown_30 : decode cX12_grown 30 = .ok (.invokevirtual 405, 3) := by decide +kernel
theorem dX12_grown_33 : decode cX12_grown 33 = .ok (.isub, 1) := by decide +kernel
theorem dX12_grown_34 : decode cX12_grown 34 = .ok (.istore 4, 2) := by decide +kernel
theorem dX12_grown_36 : decode cX12_grown 36 = .ok (.iload 4, 2) := by decide +kernel
theorem dX12_grown_38 : decode cX12_grown 38 = .ok (.iload_n 2, 1) := by decide +kernel
theorem dX12_grown_39 : decode cX12_grown 39 = .ok (.if_icmp .gt 6, 3) := by decide +kernel
theorem dX12_grown_42 : decode cX12_grown 42 = .ok (.goto 8, 3) := by decide +kernel
theorem dX12_grown_45 : decode cX12_grown 45 = .ok (.iload 4, 2) := by decide +kernel
theorem dX12_grown_47 : decode cX12_grown 47 = .ok (.istore_n 2, 1) := by decide +kernel
theorem dX12_grown_48 : decode cX12_grown 48 = .ok (.iload_n 3, 1) := by decide +kernel
theorem dX12_grown_49 : decode cX12_grown 49 = .ok (.istore_n 1, 1) := by decide +kernel
theorem dX12_grown_50 : decode cX12_grown 50 = .ok (.iinc 3 1, 3) := by decide +kernel
theorem dX12_grown_53 : decode cX12_grown 53 = .ok (.goto (-40), 3) := by decide +kernel
theorem dX12_grown_56 : decode cX12_grown 56 = .ok (.iload_n 1, 1) := by decide +kernel
theorem dX12_grown_57 : decode cX12_grown 57 = .ok (.ireturn, 1) := by decide +kernel
def fX12_grown_50 (r13 : zF → Nat → Int32 → Int32 → Int32 → Option (zF × Int32)) (N n : Nat) (f : zF) (a0 : Nat) (a1 : Int32) (a2 : Int32) (a3 : Int32) : Option (zF × Int32) :=
    (r13 f a0 a1 a2 (a3 + 1))
set_option maxRecDepth 100000 in
set_option maxHeartbeats 4000000 in
theorem gX12_grown_50 (l : Launch) {G : zG} {p : Program} {e : Env} {s : State} {m : MethodId} {args : Array Value} {below : List Frame} {meth : Method} {c : Code} {N n : Nat} {f9 : zF} {r : Int32} {r13 : zF → Nat → Int32 → Int32 → Int32 → Option (zF × Int32)} (B : zB G p s m args meth c RX12 cX12_grown 5 (some .int)) (hr13 : ∀ (f : zF) (a0 : Nat) (a1 : Int32) (a2 : Int32) (a3 : Int32) (H : Heap) (locs : List Loc) (ls : Array Slot), r13 f a0 a1 a2 a3 = some (f9, r) → zS G n f H locs → lv_has ls 5 [(0, zr G a0), (1, .int a1), (2, .int a2), (3, .int a3)] → W p l e (zrm 4) s m args below meth c H locs 0 0 (MQ below (zQc G n f9 (some (.int r))) args s 0 0 (zA G)) (F0 m 13 ls [])) : ∀ (f : zF) (a0 : Nat) (a1 : Int32) (a2 : Int32) (a3 : Int32) (H : Heap) (locs : List Loc) (ls : Array Slot), fX12_grown_50 r13 N n f a0 a1 a2 a3 = some (f9, r) → zS G n f H locs → lv_has ls 5 [(0, zr G a0), (1, .int a1), (2, .int a2), (3, .int a3)] → W p l e (zrm 4) s m args below meth c H locs 0 0 (MQ below (zQc G n f9 (some (.int r))) args s 0 0 (zA G)) (F0 m 50 ls []) := by
  have he := B.1
  have hb := B.2.1
  intro f a0 a1 a2 a3 H locs ls h hS hl
  unfold fX12_grown_50 at h
  refine lv_iinc (v := (a3 + 1)) (lv' := [(3, _), (0, _), (1, _), (2, _)]) he hb dX12_grown_50 hl (k := 3) rfl rfl (by decide) rfl (fun ls hl => ?_)
  refine lv_goto (tgt := 13) he hb dX12_grown_53 (by decide) ?_
  exact hr13 _ _ _ _ _ _ _ _ h hS (lv_sub hl [1, 2, 3, 0] rfl)
def fX12_grown_13 (N n : Nat) : Nat → zF → Nat → Int32 → Int32 → Int32 → Option (zF × Int32)
  | 0, _, _, _, _, _ => none
  | k + 1, f, a0, a1, a2, a3 =>
    ((zgR n f 12 a0 6).bind fun x2 => ((zlI n f 0 x2 (2 : Int32)).bind fun x3 => (if x3 ≤ a3 then some (f, a1) else ((zck n f 12 a0).bind fun _ => ((fX12_landOf N n f a0 a3).bind fun x4 => ((zck n f 12 a0).bind fun _ => ((fX12_firstLandOf N n f a0 a3).bind fun x5 => (if a2 < (x4 - x5) then (fX12_grown_50 (fX12_grown_13 N n k) N n f a0 a3 (x4 - x5) a3) else (fX12_grown_50 (fX12_grown_13 N n k) N n f a0 a1 a2 a3)))))))))
set_option maxRecDepth 100000 in
set_option maxHeartbeats 4000000 in
theorem gX12_grown_13 (l : Launch) {G : zG} {p : Program} {e : Env} {s : State} {m : MethodId} {args : Array Value} {below : List Frame} {meth : Method} {c : Code} {N n : Nat} {f9 : zF} {r : Int32} (B : zB G p s m args meth c RX12 cX12_grown 5 (some .int)) : ∀ (k : Nat), ∀ (f : zF) (a0 : Nat) (a1 : Int32) (a2 : Int32) (a3 : Int32) (H : Heap) (locs : List Loc) (ls : Array Slot), fX12_grown_13 N n k f a0 a1 a2 a3 = some (f9, r) → zS G n f H locs → lv_has ls 5 [(0, zr G a0), (1, .int a1), (2, .int a2), (3, .int a3)] → W p l e (zrm 4) s m args below meth c H locs 0 0 (MQ below (zQc G n f9 (some (.int r))) args s 0 0 (zA G)) (F0 m 13 ls []) := by
  have he := B.1
  have hb := B.2.1
  intro k
  induction k with
  | zero =>
    intro f a0 a1 a2 a3 H locs ls h
    unfold fX12_grown_13 at h
    cases h
  | succ k ih =>
    intro f a0 a1 a2 a3 H locs ls h hS hl
    unfold fX12_grown_13 at h
    refine lv_iload_n he hb dX12_grown_13 rfl (lv_at hl 3 rfl) ?_
    refine z_aload_n he hb dX12_grown_14 rfl (lv_at hl 0 rfl) (zref_r _ _) ?_
    obtain ⟨x2, hx, h⟩ := zob h
    refine z_getR (ci := 12) (T := TX12) (N := 50) (j := 6) B hS hx rfl zin_X12 (by decide) zk_1353 dX12_grown_15 ?_
    refine lv_iconst (v := (2 : Int32)) he hb dX12_grown_18 (by decide) ?_
    obtain ⟨x3, hx, h⟩ := zob h
    refine z_ildI B hS hx dX12_grown_19 ?_
    refine lv_icmp_ge (tgt := 56) he hb dX12_grown_20 (by decide) (fun hc => ?_) (fun hc => ?_)
    · rw [if_pos hc] at h
      refine lv_iload_n he hb dX12_grown_56 rfl (lv_at hl 1 rfl) ?_
      obtain ⟨rfl, rfl⟩ := Prod.mk.inj (Option.some.inj h)
      exact z_iret B hS dX12_grown_57
    · rw [if_neg hc] at h
      refine z_aload_n he hb dX12_grown_23 rfl (lv_at hl 0 rfl) (zref_r _ _) ?_
      refine lv_iload_n he hb dX12_grown_24 rfl (lv_at hl 3 rfl) ?_
      obtain ⟨_, hc, h⟩ := zob h
      obtain ⟨x4, hx, h⟩ := zob h
      refine z_callV (ci := 12) (T := TX12) (N := 50) (rest := []) B hS (mX12_landOf l G hx) zy_X12_landOf zk_1695 (by decide) hc rfl rfl hl rfl (Nat.le_of_ble_eq_true rfl) dX12_grown_25 (kk := (fun H locs hS => ?_))
      refine z_aload_n he hb dX12_grown_28 rfl (lv_at hl 0 rfl) (zref_r _ _) ?_
      refine lv_iload_n he hb dX12_grown_29 rfl (lv_at hl 3 rfl) ?_
      obtain ⟨_, hc, h⟩ := zob h
      obtain ⟨x5, hx, h⟩ := zob h
      refine z_callV (ci := 12) (T := TX12) (N := 50) (rest := [_]) B hS (mX12_firstLandOf l G hx) zy_X12_firstLandOf zk_1853 (by decide) hc rfl rfl hl rfl (Nat.le_of_ble_eq_true rfl) dX12_grown_30 (kk := (fun H locs hS => ?_))
      refine lv_isub he hb dX12_grown_33 ?_
      refine lv_istore (lv' := [(4, _), (0, _), (1, _), (2, _), (3, _)]) he hb dX12_grown_34 hl (by decide) rfl (fun ls hl => ?_)
      refine lv_iload he hb dX12_grown_36 (lv_at hl 0 rfl) ?_
      refine lv_iload_n he hb dX12_grown_38 rfl (lv_at hl 3 rfl) ?_
      refine lv_icmp_gt (tgt := 45) he hb dX12_grown_39 (by decide) (fun hc => ?_) (fun hc => ?_)
      · rw [if_pos hc] at h
        refine lv_iload he hb dX12_grown_45 (lv_at hl 0 rfl) ?_
        refine lv_istore_n (lv' := [(2, _), (4, _), (0, _), (1, _), (3, _)]) he hb dX12_grown_47 rfl hl (by decide) rfl (fun ls hl => ?_)
        refine lv_iload_n he hb dX12_grown_48 rfl (lv_at hl 4 rfl) ?_
        refine lv_istore_n (lv' := [(1, _), (2, _), (4, _), (0, _), (3, _)]) he hb dX12_grown_49 rfl hl (by decide) rfl (fun ls hl => ?_)
        exact gX12_grown_50 l B ih _ _ _ _ _ _ _ _ h hS (lv_sub hl [3, 0, 1, 4] rfl)
      · rw [if_neg hc] at h
        refine lv_goto (tgt := 50) he hb dX12_grown_42 (by decide) ?_
        exact gX12_grown_50 l B ih _ _ _ _ _ _ _ _ h hS (lv_sub hl [1, 2, 3, 4] rfl)
def fX12_grown (N n : Nat) (f : zF) (a0 : Nat) : Option (zF × Int32) :=
    ((zpI n f 12 a0 0 (0 : Int32)).bind fun f1 => (fX12_grown_13 N n N f1 a0 (-1 : Int32) (-1000000 : Int32) (0 : Int32)))
set_option maxRecDepth 100000 in
set_option maxHeartbeats 4000000 in
theorem mX12_grown (l : Launch) (G : zG) {N n : Nat} {f : zF} {f9 : zF} {r : Int32} {a0 : Nat} (h : fX12_grown N n f a0 = some (f9, r)) : zM l G yX12_grown cX12_grown 5 (some .int) 4 n f [zr G a0] (some (.int r)) f9 := by
  refine zM.of (by decide) (Nat.le_of_ble_eq_true rfl) ?_
  intro p e s m args below meth c locs ls B hS hl
  have he := B.1
  have hb := B.2.1
  have hl : lv_has ls 5 [(0, zr G a0)] := hl
  unfold fX12_grown at h
  generalize s.heap = H at hS ⊢
  refine z_aload_n he hb dX12_grown_0 rfl (lv_at hl 0 rfl) (zref_r _ _) ?_
  refine lv_iconst (v := (0 : Int32)) he hb dX12_grown_1 (by decide) ?_
  obtain ⟨f1, hx, h⟩ := zob h
  refine z_putI (ci := 12) (T := TX12) (N := 50) (j := 0) B hS hx rfl zin_X12 tyX12 tyX12_ok nmX12 (by decide) zk_1347 rfl rfl dX12_grown_2 (fun H locs hS => ?_)
  refine lv_iconst (v := (-1 : Int32)) he hb dX12_grown_5 (by decide) ?_
  refine lv_istore_n (lv' := [(1, _), (0, _)]) he hb dX12_grown_6 rfl hl (by decide) rfl (fun ls hl => ?_)
  refine lv_ldcw (v := (-1000000 : Int32)) he hb B.2.2.2.1 (B.2.2.2.2.1 _ zk_1852) dX12_grown_7 ?_
  refine lv_istore_n (lv' := [(2, _), (1, _), (0, _)]) he hb dX12_grown_10 rfl hl (by decide) rfl (fun ls hl => ?_)
  refine lv_iconst (v := (0 : Int32)) he hb dX12_grown_11 (by decide) ?_
  refine lv_istore_n (lv' := [(3, _), (2, _), (1, _), (0, _)]) he hb dX12_grown_12 rfl hl (by decide) rfl (fun ls hl => ?_)
  exact gX12_grown_13 l B N _ _ _ _ _ _ _ _ h hS (lv_sub hl [3, 2, 1, 0] rfl)
theorem dX12_farthest_0 : decode cX12_farthest 0 = .ok (.aload_n 0, 1) := by decide +kernel
theorem dX12_farthest_1 : decode cX12_farthest 1 = .ok (.iconst 0, 1) := by decide +kernel
theorem dX12_farthest_2 : decode cX12_farthest 2 = .ok (.putfield 1, 3) := by decide +kernel
theorem dX12_farthest_5 : decode cX12_farthest 5 = .ok (.iconst (-1), 1) := by decide +kernel
theorem dX12_farthest_6 : decode cX12_farthest 6 = .ok (.istore_n 1, 1) := by decide +kernel
theorem dX12_farthest_7 : decode cX12_farthest 7 = .ok (.iconst 0, 1) := by decide +kernel
theorem dX12_farthest_8 : decode cX12_farthest 8 = .ok (.istore_n 2, 1) := by decide +kernel
theorem dX12_farthest_9 : decode cX12_farthest 9 = .ok (.iload_n 2, 1) := by decide +kernel
theorem dX12_farthest_10 : decode cX12_farthest 10 = .ok (.aload_n 0, 1) := by decide +kernel
theorem dX12_farthest_11 : decode cX12_farthest 11 = .ok (.getfield 33, 3) := by decide +kernel
theorem dX12_farthest_14 : decode cX12_farthest 14 = .ok (.iconst 3, 1) := by decide +kernel
theorem dX12_farthest_15 : decode cX12_farthest 15 = .ok (.iaload, 1) := by decide +kernel
theorem dX12_farthest_16 : decode cX12_farthest 16 = .ok (.if_icmp .ge 38, 3) := by decide +kernel
theorem dX12_farthest_19 : decode cX12_farthest 19 = .ok (.iload_n 1, 1) := by decide +kernel
theorem dX12_farthest_20 : decode cX12_farthest 20 = .ok (.ifCond .lt 26, 3) := by decide +kernel
theorem dX12_farthest_23 : decode cX12_farthest 23 = .ok (.aload_n 0, 1) := by decide +kernel
theorem dX12_farthest_24 : decode cX12_farthest 24 = .ok (.getfield 33, 3) := by decide +kernel
theorem dX12_farthest_27 : decode cX12_farthest 27 = .ok (.sipush 153, 3) := by decide +kernel
theorem dX12_farthest_30 : decode cX12_farthest 30 = .ok (.iload_n 2, 1) := by decide +kernel
theorem dX12_farthest_31 : decode cX12_farthest 31 = .ok (.iadd, 1) := by decide +kernel
theorem dX12_farthest_32 : decode cX12_farthest 32 = .ok (.iaload, 1) := by decide +kernel
theorem dX12_farthest_33 : decode cX12_farthest 33 = .ok (.aload_n 0, 1) := by decide +kernel
theorem dX12_farthest_34 : decode cX12_farthest 34 = .ok (.getfield 33, 3) := by decide +kernel
theorem dX12_farthest_37 : decode cX12_farthest 37 = .ok (.sipush 153, 3) := by decide +kernel
theorem dX12_farthest_40 : decode cX12_farthest 40 = .ok (.iload_n 1, 1) := by decide +kernel
theorem dX12_farthest_41 : decode cX12_farthest 41 = .ok (.iadd, 1) := by decide +kernel
theorem dX12_farthest_42 : decode cX12_farthest 42 = .ok (.iaload, 1) := by decide +kernel
theorem dX12_farthest_43 : decode cX12_farthest 43 = .ok (.if_icmp .le 5, 3) := by decide +kernel
theorem dX12_farthest_46 : decode cX12_farthest 46 = .ok (.iload_n 2, 1) := by decide +kernel
theorem dX12_farthest_47 : decode cX12_farthest 47 = .ok (.istore_n 1, 1) := by decide +kernel
theorem dX12_farthest_48 : decode cX12_farthest 48 = .ok (.iinc 2 1, 3) := by decide +kernel
theorem dX12_farthest_51 : decode cX12_farthest 51 = .ok (.goto (-42), 3) := by decide +kernel
theorem dX12_farthest_54 : decode cX12_farthest 54 = .ok (.iload_n 1, 1) := by decide +kernel
theorem dX12_farthest_55 : decode cX12_farthest 55 = .ok (.ireturn, 1) := by decide +kernel
def fX12_farthest_48 (r9 : zF → Nat → Int32 → Int32 → Option (zF × Int32)) (N n : Nat) (f : zF) (a0 : Nat) (a1 : Int32) (a2 : Int32) : Option (zF × Int32) :=
    (r9 f a0 a1 (a2 + 1))
set_option maxRecDepth 100000 in
set_option maxHeartbeats 4000000 in
theorem gX12_farthest_48 (l : Launch) {G : zG} {p : Program} {e : Env} {s : State} {m : MethodId} {args : Array Value} {below : List Frame} {meth : Method} {c : Code} {N n : Nat} {f9 : zF} {r : Int32} {r9 : zF → Nat → Int32 → Int32 → Option (zF × Int32)} (B : zB G p s m args meth c RX12 cX12_farthest 3 (some .int)) (hr9 : ∀ (f : zF) (a0 : Nat) (a1 : Int32) (a2 : Int32) (H : Heap) (locs : List Loc) (ls : Array Slot), r9 f a0 a1 a2 = some (f9, r) → zS G n f H locs → lv_has ls 3 [(0, zr G a0), (1, .int a1), (2, .int a2)] → W p l e (zrm 0) s m args below meth c H locs 0 0 (MQ below (zQc G n f9 (some (.int r))) args s 0 0 (zA G)) (F0 m 9 ls [])) : ∀ (f : zF) (a0 : Nat) (a1 : Int32) (a2 : Int32) (H : Heap) (locs : List Loc) (ls : Array Slot), fX12_farthest_48 r9 N n f a0 a1 a2 = some (f9, r) → zS G n f H locs → lv_has ls 3 [(0, zr G a0), (1, .int a1), (2, .int a2)] → W p l e (zrm 0) s m args below meth c H locs 0 0 (MQ below (zQc G n f9 (some (.int r))) args s 0 0 (zA G)) (F0 m 48 ls []) := by
  have he := B.1
  have hb := B.2.1
  intro f a0 a1 a2 H locs ls h hS hl
  unfold fX12_farthest_48 at h
  refine lv_iinc (v := (a2 + 1)) (lv' := [(2, _), (0, _), (1, _)]) he hb dX12_farthest_48 hl (k := 2) rfl rfl (by decide) rfl (fun ls hl => ?_)
  refine lv_goto (tgt := 9) he hb dX12_farthest_51 (by decide) ?_
  exact hr9 _ _ _ _ _ _ _ h hS (lv_sub hl [1, 2, 0] rfl)
def fX12_farthest_46 (r9 : zF → Nat → Int32 → Int32 → Option (zF × Int32)) (N n : Nat) (f : zF) (a0 : Nat) (a2 : Int32) : Option (zF × Int32) :=
    (fX12_farthest_48 r9 N n f a0 a2 a2)
set_option maxRecDepth 100000 in
set_option maxHeartbeats 4000000 in
theorem gX12_farthest_46 (l : Launch) {G : zG} {p : Program} {e : Env} {s : State} {m : MethodId} {args : Array Value} {below : List Frame} {meth : Method} {c : Code} {N n : Nat} {f9 : zF} {r : Int32} {r9 : zF → Nat → Int32 → Int32 → Option (zF × Int32)} (B : zB G p s m args meth c RX12 cX12_farthest 3 (some .int)) (hr9 : ∀ (f : zF) (a0 : Nat) (a1 : Int32) (a2 : Int32) (H : Heap) (locs : List Loc) (ls : Array Slot), r9 f a0 a1 a2 = some (f9, r) → zS G n f H locs → lv_has ls 3 [(0, zr G a0), (1, .int a1), (2, .int a2)] → W p l e (zrm 0) s m args below meth c H locs 0 0 (MQ below (zQc G n f9 (some (.int r))) args s 0 0 (zA G)) (F0 m 9 ls [])) : ∀ (f : zF) (a0 : Nat) (a2 : Int32) (H : Heap) (locs : List Loc) (ls : Array Slot), fX12_farthest_46 r9 N n f a0 a2 = some (f9, r) → zS G n f H locs → lv_has ls 3 [(0, zr G a0), (2, .int a2)] → W p l e (zrm 0) s m args below meth c H locs 0 0 (MQ below (zQc G n f9 (some (.int r))) args s 0 0 (zA G)) (F0 m 46 ls []) := by
  have he := B.1
  have hb := B.2.1
  intro f a0 a2 H locs ls h hS hl
  unfold fX12_farthest_46 at h
  refine lv_iload_n he hb dX12_farthest_46 rfl (lv_at hl 1 rfl) ?_
  refine lv_istore_n (lv' := [(1, _), (0, _), (2, _)]) he hb dX12_farthest_47 rfl hl (by decide) rfl (fun ls hl => ?_)
  exact gX12_farthest_48 l B hr9 _ _ _ _ _ _ _ h hS (lv_sub hl [1, 0, 2] rfl)
def fX12_farthest_9 (N n : Nat) : Nat → zF → Nat → Int32 → Int32 → Option (zF × Int32)
  | 0, _, _, _, _ => none
  | k + 1, f, a0, a1, a2 =>
    ((zgR n f 12 a0 6).bind fun x2 => ((zlI n f 0 x2 (3 : Int32)).bind fun x3 => (if x3 ≤ a2 then some (f, a1) else (if a1 < 0 then (fX12_farthest_46 (fX12_farthest_9 N n k) N n f a0 a2) else ((zgR n f 12 a0 6).bind fun x4 => ((zlI n f 0 x4 ((153 : Int32) + a2)).bind fun x5 => ((zgR n f 12 a0 6).bind fun x6 => ((zlI n f 0 x6 ((153 : Int32) + a1)).bind fun x7 => (if x5 ≤ x7 then (fX12_farthest_48 (fX12_farthest_9 N n k) N n f a0 a1 a2) else (fX12_farthest_46 (fX12_farthest_9 N n k) N n f a0 a2))))))))))
set_option maxRecDepth 100000 in
set_option maxHeartbeats 4000000 in
theorem gX12_farthest_9 (l : Launch) {G : zG} {p : Program} {e : Env} {s : State} {m : MethodId} {args : Array Value} {below : List Frame} {meth : Method} {c : Code} {N n : Nat} {f9 : zF} {r : Int32} (B : zB G p s m args meth c RX12 cX12_farthest 3 (some .int)) : ∀ (k : Nat), ∀ (f : zF) (a0 : Nat) (a1 : Int32) (a2 : Int32) (H : Heap) (locs : List Loc) (ls : Array Slot), fX12_farthest_9 N n k f a0 a1 a2 = some (f9, r) → zS G n f H locs → lv_has ls 3 [(0, zr G a0), (1, .int a1), (2, .int a2)] → W p l e (zrm 0) s m args below meth c H locs 0 0 (MQ below (zQc G n f9 (some (.int r))) args s 0 0 (zA G)) (F0 m 9 ls []) := by
  have he := B.1
  have hb := B.2.1
  intro k
  induction k with
  | zero =>
    intro f a0 a1 a2 H locs ls h
    unfold fX12_farthest_9 at h
    cases h
  | succ k ih =>
    intro f a0 a1 a2 H locs ls h hS hl
    unfold fX12_farthest_9 at h
    refine lv_iload_n he hb dX12_farthest_9 rfl (lv_at hl 2 rfl) ?_
    refine z_aload_n he hb dX12_farthest_10 rfl (lv_at hl 0 rfl) (zref_r _ _) ?_
    obtain ⟨x2, hx, h⟩ := zob h
    refine z_getR (ci := 12) (T := TX12) (N := 50) (j := 6) B hS hx rfl zin_X12 (by decide) zk_1353 dX12_farthest_11 ?_
    refine lv_iconst (v := (3 : Int32)) he hb dX12_farthest_14 (by decide) ?_
    obtain ⟨x3, hx, h⟩ := zob h
    refine z_ildI B hS hx dX12_farthest_15 ?_
    refine lv_icmp_ge (tgt := 54) he hb dX12_farthest_16 (by decide) (fun hc => ?_) (fun hc => ?_)
    · rw [if_pos hc] at h
      refine lv_iload_n he hb dX12_farthest_54 rfl (lv_at hl 1 rfl) ?_
      obtain ⟨rfl, rfl⟩ := Prod.mk.inj (Option.some.inj h)
      exact z_iret B hS dX12_farthest_55
    · rw [if_neg hc] at h
      refine lv_iload_n he hb dX12_farthest_19 rfl (lv_at hl 1 rfl) ?_
      refine lv_if_lt (tgt := 46) he hb dX12_farthest_20 (by decide) (fun hc => ?_) (fun hc => ?_)
      · rw [if_pos hc] at h
        exact gX12_farthest_46 l B ih _ _ _ _ _ _ h hS (lv_sub hl [0, 2] rfl)
      · rw [if_neg hc] at h
        refine z_aload_n he hb dX12_farthest_23 rfl (lv_at hl 0 rfl) (zref_r _ _) ?_
        obtain ⟨x4, hx, h⟩ := zob h
        refine z_getR (ci := 12) (T := TX12) (N := 50) (j := 6) B hS hx rfl zin_X12 (by decide) zk_1353 dX12_farthest_24 ?_
        refine lv_sipush (v := (153 : Int32)) he hb dX12_farthest_27 (by decide) ?_
        refine lv_iload_n he hb dX12_farthest_30 rfl (lv_at hl 2 rfl) ?_
        refine lv_iadd he hb dX12_farthest_31 ?_
        obtain ⟨x5, hx, h⟩ := zob h
        refine z_ildI B hS hx dX12_farthest_32 ?_
        refine z_aload_n he hb dX12_farthest_33 rfl (lv_at hl 0 rfl) (zref_r _ _) ?_
        obtain ⟨x6, hx, h⟩ := zob h
        refine z_getR (ci := 12) (T := TX12) (N := 50) (j := 6) B hS hx rfl zin_X12 (by decide) zk_1353 dX12_farthest_34 ?_
        refine lv_sipush (v := (153 : Int32)) he hb dX12_farthest_37 (by decide) ?_
        refine lv_iload_n he hb dX12_farthest_40 rfl (lv_at hl 1 rfl) ?_
        refine lv_iadd he hb dX12_farthest_41 ?_
        obtain ⟨x7, hx, h⟩ := zob h
        refine z_ildI B hS hx dX12_farthest_42 ?_
        refine lv_icmp_le (tgt := 48) he hb dX12_farthest_43 (by decide) (fun hc => ?_) (fun hc => ?_)
        · rw [if_pos hc] at h
          exact gX12_farthest_48 l B ih _ _ _ _ _ _ _ h hS (lv_sub hl [0, 1, 2] rfl)
        · rw [if_neg hc] at h
          exact gX12_farthest_46 l B ih _ _ _ _ _ _ h hS (lv_sub hl [0, 2] rfl)
def fX12_farthest (N n : Nat) (f : zF) (a0 : Nat) : Option (zF × Int32) :=
    ((zpI n f 12 a0 0 (0 : Int32)).bind fun f1 => (fX12_farthest_9 N n N f1 a0 (-1 : Int32) (0 : Int32)))
set_option maxRecDepth 100000 in
set_option maxHeartbeats 4000000 in
theorem mX12_farthest (l : Launch) (G : zG) {N n : Nat} {f : zF} {f9 : zF} {r : Int32} {a0 : Nat} (h : fX12_farthest N n f a0 = some (f9, r)) : zM l G yX12_farthest cX12_farthest 3 (some .int) 0 n f [zr G a0] (some (.int r)) f9 := by
  refine zM.of (by decide) (Nat.le_of_ble_eq_true rfl) ?_
  intro p e s m args below meth c locs ls B hS hl
  have he := B.1
  have hb := B.2.1
  have hl : lv_has ls 3 [(0, zr G a0)] := hl
  unfold fX12_farthest at h
  generalize s.heap = H at hS ⊢
  refine z_aload_n he hb dX12_farthest_0 rfl (lv_at hl 0 rfl) (zref_r _ _) ?_
  refine lv_iconst (v := (0 : Int32)) he hb dX12_farthest_1 (by decide) ?_
  obtain ⟨f1, hx, h⟩ := zob h
  refine z_putI (ci := 12) (T := TX12) (N := 50) (j := 0) B hS hx rfl zin_X12 tyX12 tyX12_ok nmX12 (by decide) zk_1347 rfl rfl dX12_farthest_2 (fun H locs hS => ?_)
  refine lv_iconst (v := (-1 : Int32)) he hb dX12_farthest_5 (by decide) ?_
  refine lv_istore_n (lv' := [(1, _), (0, _)]) he hb dX12_farthest_6 rfl hl (by decide) rfl (fun ls hl => ?_)
  refine lv_iconst (v := (0 : Int32)) he hb dX12_farthest_7 (by decide) ?_
  refine lv_istore_n (lv' := [(2, _), (1, _), (0, _)]) he hb dX12_farthest_8 rfl hl (by decide) rfl (fun ls hl => ?_)
  exact gX12_farthest_9 l B N _ _ _ _ _ _ _ h hS (lv_sub hl [2, 1, 0] rfl)
theorem dX12_mean_0 : decode cX12_mean 0 = .ok (.aload_n 0, 1) := by decide +kernel
theorem dX12_mean_1 : decode cX12_mean 1 = .ok (.aload_n 0, 1) := by decide +kernel
theorem dX12_mean_2 : decode cX12_mean 2 = .ok (.getfield 33, 3) := by decide +kernel
theorem dX12_mean_5 : decode cX12_mean 5 = .ok (.iconst 3, 1) := by decide +kernel
theorem dX12_mean_6 : decode cX12_mean 6 = .ok (.iaload, 1) := by decide +kernel
theorem dX12_mean_7 : decode cX12_mean 7 = .ok (.ifCond .eq 12, 3) := by decide +kernel
theorem dX12_mean_10 : decode cX12_mean 10 = .ok (.iload_n 1, 1) := by decide +kernel
theorem dX12_mean_11 : decode cX12_mean 11 = .ok (.iconst 0, 1) := by decide +kernel
theorem dX12_mean_12 : decode cX12_mean 12 = .ok (.iconst 1, 1) := by decide +kernel
theorem dX12_mean_13 : decode cX12_mean 13 = .ok (.invokestatic 192, 3) := by decide +kernel
theorem dX12_mean_16 : decode cX12_mean 16 = .ok (.ifCond .ne 7, 3) := by decide +kernel
theorem dX12_mean_19 : decode cX12_mean 19 = .ok (.iconst 1, 1) := by decide +kernel
theorem dX12_mean_20 : decode cX12_mean 20 = .ok (.goto 4, 3) := by decide +kernel
theorem dX12_mean_23 : decode cX12_mean 23 = .ok (.iconst 0, 1) := by decide +kernel
theorem dX12_mean_24 : decode cX12_mean 24 = .ok (.invokevirtual 307, 3) := by decide +kernel
theorem dX12_mean_27 : decode cX12_mean 27 = .ok (.ifCond .eq 5, 3) := by decide +kernel
theorem dX12_mean_30 : decode cX12_mean 30 = .ok (.iconst 0, 1) := by decide +kernel
theorem dX12_mean_31 : decode cX12_mean 31 = .ok (.ireturn, 1) := by decide +kernel
theorem dX12_mean_32 : decode cX12_mean 32 = .ok (.aload_n 0, 1) := by decide +kernel
theorem dX12_mean_33 : decode cX12_mean 33 = .ok (.getfield 33, 3) := by decide +kernel
theorem dX12_mean_36 : decode cX12_mean 36 = .ok (.iconst 3, 1) := by decide +kernel
theorem dX12_mean_37 : decode cX12_mean 37 = .ok (.iaload, 1) := by decide +kernel
theorem dX12_mean_38 : decode cX12_mean 38 = .ok (.istore_n 2, 1) := by decide +kernel
theorem dX12_mean_39 : decode cX12_mean 39 = .ok (.aload_n 0, 1) := by decide +kernel
theorem dX12_mean_40 : decode cX12_mean 40 = .ok (.invokevirtual 320, 3) := by decide +kernel
theorem dX12_mean_43 : decode cX12_mean 43 = .ok (.istore_n 3, 1) := by decide +kernel
theorem dX12_mean_44 : decode cX12_mean 44 = .ok (.iload_n 3, 1) := by decide +kernel
theorem dX12_mean_45 : decode cX12_mean 45 = .ok (.ifCond .eq 16, 3) := by decide +kernel
theorem dX12_mean_48 : decode cX12_mean 48 = .ok (.iload_n 2, 1) := by decide +kernel
theorem dX12_mean_49 : decode cX12_mean 49 = .ok (.iload_n 3, 1) := by decide +kernel
theorem dX12_mean_50 : decode cX12_mean 50 = .ok (.irem, 1) := by decide +kernel
theorem dX12_mean_51 : decode cX12_mean 51 = .ok (.istore 4, 2) := by decide +kernel
theorem dX12_mean_53 : decode cX12_mean 53 = .ok (.iload_n 3, 1) := by decide +kernel
theorem dX12_mean_54 : decode cX12_mean 54 = .ok (.istore_n 2, 1) := by decide +kernel
theorem dX12_mean_55 : decode cX12_mean 55 = .ok (.iload 4, 2) := by decide +kernel
theorem dX12_mean_57 : decode cX12_mean 57 = .ok (.istore_n 3, 1) := by decide +kernel
theorem dX12_mean_58 : decode cX12_mean 58 = .ok (.goto (-14), 3) := by decide +kernel
theorem dX12_mean_61 : decode cX12_mean 61 = .ok (.iload_n 1, 1) := by decide +kernel
theorem dX12_mean_62 : decode cX12_mean 62 = .ok (.ifCond .ne 10, 3) := by decide +kernel
theorem dX12_mean_65 : decode cX12_mean 65 = .ok (.aload_n 0, 1) := by decide +kernel
theorem dX12_mean_66 : decode cX12_mean 66 = .ok (.invokevirtual 320, 3) := by decide +kernel
theorem dX12_mean_69 : decode cX12_mean 69 = .ok (.goto 9, 3) := by decide +kernel
theorem dX12_mean_72 : decode cX12_mean 72 = .ok (.aload_n 0, 1) := by decide +kernel
theorem dX12_mean_73 : decode cX12_mean 73 = .ok (.getfield 33, 3) := by decide +kernel
theorem dX12_mean_76 : decode cX12_mean 76 = .ok (.iconst 3, 1) := by decide +kernel
theorem dX12_mean_77 : decode cX12_mean 77 = .ok (.iaload, 1) := by decide +kernel
theorem dX12_mean_78 : decode cX12_mean 78 = .ok (.iload_n 2, 1) := by decide +kernel
theorem dX12_mean_79 : decode cX12_mean 79 = .ok (.idiv, 1) := by decide +kernel
theorem dX12_mean_80 : decode cX12_mean 80 = .ok (.ireturn, 1) := by decide +kernel
def fX12_mean_78 (N n : Nat) (f : zF) (a2 : Int32) (t0 : Int32) : Option (zF × Int32) :=
    ((znz a2).bind fun _ => some (f, (t0 / a2)))
set_option maxRecDepth 100000 in
set_option maxHeartbeats 4000000 in
theorem gX12_mean_78 (l : Launch) {G : zG} {p : Program} {e : Env} {s : State} {m : MethodId} {args : Array Value} {below : List Frame} {meth : Method} {c : Code} {N n : Nat} {f9 : zF} {r : Int32} (B : zB G p s m args meth c RX12 cX12_mean 5 (some .int)) : ∀ (f : zF) (a2 : Int32) (t0 : Int32) (H : Heap) (locs : List Loc) (ls : Array Slot), fX12_mean_78 N n f a2 t0 = some (f9, r) → zS G n f H locs → lv_has ls 5 [(2, .int a2)] → W p l e (zrm 1) s m args below meth c H locs 0 0 (MQ below (zQc G n f9 (some (.int r))) args s 0 0 (zA G)) (F0 m 78 ls [.int t0]) := by
  have he := B.1
  have hb := B.2.1
  intro f a2 t0 H locs ls h hS hl
  unfold fX12_mean_78 at h
  refine lv_iload_n he hb dX12_mean_78 rfl (lv_at hl 0 rfl) ?_
  obtain ⟨_, hx, h⟩ := zob h
  refine lv_idiv he hb dX12_mean_79 (znz_i hx) ?_
  obtain ⟨rfl, rfl⟩ := Prod.mk.inj (Option.some.inj h)
  exact z_iret B hS dX12_mean_80
def fX12_mean_44 (N n : Nat) : Nat → zF → Nat → Int32 → Int32 → Int32 → Option (zF × Int32)
  | 0, _, _, _, _, _ => none
  | k + 1, f, a0, a1, a2, a3 =>
    (if a3 = 0 then (if a1 = 0 then ((zck n f 12 a0).bind fun _ => ((fX12_wentInAll N n f a0).bind fun x10 => (fX12_mean_78 N n f a2 x10))) else ((zgR n f 12 a0 6).bind fun x8 => ((zlI n f 0 x8 (3 : Int32)).bind fun x9 => (fX12_mean_78 N n f a2 x9)))) else ((znz a3).bind fun _ => (fX12_mean_44 N n k f a0 a1 a3 (zrem a2 a3))))
set_option maxRecDepth 100000 in
set_option maxHeartbeats 4000000 in
theorem gX12_mean_44 (l : Launch) {G : zG} {p : Program} {e : Env} {s : State} {m : MethodId} {args : Array Value} {below : List Frame} {meth : Method} {c : Code} {N n : Nat} {f9 : zF} {r : Int32} (B : zB G p s m args meth c RX12 cX12_mean 5 (some .int)) : ∀ (k : Nat), ∀ (f : zF) (a0 : Nat) (a1 : Int32) (a2 : Int32) (a3 : Int32) (H : Heap) (locs : List Loc) (ls : Array Slot), fX12_mean_44 N n k f a0 a1 a2 a3 = some (f9, r) → zS G n f H locs → lv_has ls 5 [(0, zr G a0), (1, .int a1), (2, .int a2), (3, .int a3)] → W p l e (zrm 1) s m args below meth c H locs 0 0 (MQ below (zQc G n f9 (some (.int r))) args s 0 0 (zA G)) (F0 m 44 ls []) := by
  have he := B.1
  have hb := B.2.1
  intro k
  induction k with
  | zero =>
    intro f a0 a1 a2 a3 H locs ls h
    unfold fX12_mean_44 at h
    cases h
  | succ k ih =>
    intro f a0 a1 a2 a3 H locs ls h hS hl
    unfold fX12_mean_44 at h
    refine lv_iload_n he hb dX12_mean_44 rfl (lv_at hl 3 rfl) ?_
    refine lv_if_eq (tgt := 61) he hb dX12_mean_45 (by decide) (fun hc => ?_) (fun hc => ?_)
    · rw [if_pos hc] at h
      refine lv_iload_n he hb dX12_mean_61 rfl (lv_at hl 1 rfl) ?_
      refine lv_if_ne (tgt := 72) he hb dX12_mean_62 (by decide) (fun hc => ?_) (fun hc => ?_)
      · rw [if_neg hc] at h
        refine z_aload_n he hb dX12_mean_72 rfl (lv_at hl 0 rfl) (zref_r _ _) ?_
        obtain ⟨x8, hx, h⟩ := zob h
        refine z_getR (ci := 12) (T := TX12) (N := 50) (j := 6) B hS hx rfl zin_X12 (by decide) zk_1353 dX12_mean_73 ?_
        refine lv_iconst (v := (3 : Int32)) he hb dX12_mean_76 (by decide) ?_
        obtain ⟨x9, hx, h⟩ := zob h
        refine z_ildI B hS hx dX12_mean_77 ?_
        exact gX12_mean_78 l B _ _ _ _ _ _ h hS (lv_sub hl [2] rfl)
      · rw [if_pos hc] at h
        refine z_aload_n he hb dX12_mean_65 rfl (lv_at hl 0 rfl) (zref_r _ _) ?_
        obtain ⟨_, hc, h⟩ := zob h
        obtain ⟨x10, hx, h⟩ := zob h
        refine z_callV (ci := 12) (T := TX12) (N := 50) (rest := []) B hS (mX12_wentInAll l G hx) zy_X12_wentInAll zk_1687 (by decide) hc rfl rfl hl rfl (Nat.le_of_ble_eq_true rfl) dX12_mean_66 (kk := (fun H locs hS => ?_))
        refine lv_goto (tgt := 78) he hb dX12_mean_69 (by decide) ?_
        exact gX12_mean_78 l B _ _ _ _ _ _ h hS (lv_sub hl [2] rfl)
    · rw [if_neg hc] at h
      refine lv_iload_n he hb dX12_mean_48 rfl (lv_at hl 2 rfl) ?_
      refine lv_iload_n he hb dX12_mean_49 rfl (lv_at hl 3 rfl) ?_
      obtain ⟨_, hx, h⟩ := zob h
      refine z_irem he hb dX12_mean_50 (znz_i hx) ?_
      refine lv_istore (lv' := [(4, _), (0, _), (1, _), (2, _), (3, _)]) he hb dX12_mean_51 hl (by decide) rfl (fun ls hl => ?_)
      refine lv_iload_n he hb dX12_mean_53 rfl (lv_at hl 4 rfl) ?_
      refine lv_istore_n (lv' := [(2, _), (4, _), (0, _), (1, _), (3, _)]) he hb dX12_mean_54 rfl hl (by decide) rfl (fun ls hl => ?_)
      refine lv_iload he hb dX12_mean_55 (lv_at hl 1 rfl) ?_
      refine lv_istore_n (lv' := [(3, _), (2, _), (4, _), (0, _), (1, _)]) he hb dX12_mean_57 rfl hl (by decide) rfl (fun ls hl => ?_)
      refine lv_goto (tgt := 44) he hb dX12_mean_58 (by decide) ?_
      exact ih _ _ _ _ _ _ _ _ h hS (lv_sub hl [3, 4, 1, 0] rfl)
def fX12_mean_24 (N n : Nat) (f : zF) (a0 : Nat) (a1 : Int32) (t0 : Nat) (t1 : Int32) : Option (zF × Int32) :=
    ((zck n f 12 t0).bind fun _ => (zbd (fX12_throwsIf N n f t0 t1) fun f4 x3 => (if x3 = 0 then ((zgR n f4 12 a0 6).bind fun x5 => ((zlI n f4 0 x5 (3 : Int32)).bind fun x6 => ((zck n f4 12 a0).bind fun _ => ((fX12_wentInAll N n f4 a0).bind fun x7 => (fX12_mean_44 N n N f4 a0 a1 x6 x7))))) else some (f4, (0 : Int32)))))
set_option maxRecDepth 100000 in
set_option maxHeartbeats 4000000 in
theorem gX12_mean_24 (l : Launch) {G : zG} {p : Program} {e : Env} {s : State} {m : MethodId} {args : Array Value} {below : List Frame} {meth : Method} {c : Code} {N n : Nat} {f9 : zF} {r : Int32} (B : zB G p s m args meth c RX12 cX12_mean 5 (some .int)) : ∀ (f : zF) (a0 : Nat) (a1 : Int32) (t0 : Nat) (t1 : Int32) (H : Heap) (locs : List Loc) (ls : Array Slot), fX12_mean_24 N n f a0 a1 t0 t1 = some (f9, r) → zS G n f H locs → lv_has ls 5 [(0, zr G a0), (1, .int a1)] → W p l e (zrm 1) s m args below meth c H locs 0 0 (MQ below (zQc G n f9 (some (.int r))) args s 0 0 (zA G)) (F0 m 24 ls [.int t1, zr G t0]) := by
  have he := B.1
  have hb := B.2.1
  intro f a0 a1 t0 t1 H locs ls h hS hl
  unfold fX12_mean_24 at h
  obtain ⟨_, hc, h⟩ := zob h
  obtain ⟨f4, x3, hx, h⟩ := zbd_i h
  refine z_callV (ci := 12) (T := TX12) (N := 50) (rest := []) B hS (mX12_throwsIf l G hx) zy_X12_throwsIf zk_1628 (by decide) hc rfl rfl hl rfl (Nat.le_of_ble_eq_true rfl) dX12_mean_24 (kk := (fun H locs hS => ?_))
  refine lv_if_eq (tgt := 32) he hb dX12_mean_27 (by decide) (fun hc => ?_) (fun hc => ?_)
  · rw [if_pos hc] at h
    refine z_aload_n he hb dX12_mean_32 rfl (lv_at hl 0 rfl) (zref_r _ _) ?_
    obtain ⟨x5, hx, h⟩ := zob h
    refine z_getR (ci := 12) (T := TX12) (N := 50) (j := 6) B hS hx rfl zin_X12 (by decide) zk_1353 dX12_mean_33 ?_
    refine lv_iconst (v := (3 : Int32)) he hb dX12_mean_36 (by decide) ?_
    obtain ⟨x6, hx, h⟩ := zob h
    refine z_ildI B hS hx dX12_mean_37 ?_
    refine lv_istore_n (lv' := [(2, _), (0, _), (1, _)]) he hb dX12_mean_38 rfl hl (by decide) rfl (fun ls hl => ?_)
    refine z_aload_n he hb dX12_mean_39 rfl (lv_at hl 1 rfl) (zref_r _ _) ?_
    obtain ⟨_, hc, h⟩ := zob h
    obtain ⟨x7, hx, h⟩ := zob h
    refine z_callV (ci := 12) (T := TX12) (N := 50) (rest := []) B hS (mX12_wentInAll l G hx) zy_X12_wentInAll zk_1687 (by decide) hc rfl rfl hl rfl (Nat.le_of_ble_eq_true rfl) dX12_mean_40 (kk := (fun H locs hS => ?_))
    refine lv_istore_n (lv' := [(3, _), (2, _), (0, _), (1, _)]) he hb dX12_mean_43 rfl hl (by decide) rfl (fun ls hl => ?_)
    exact gX12_mean_44 l B N _ _ _ _ _ _ _ _ h hS (lv_sub hl [2, 3, 1, 0] rfl)
  · rw [if_neg hc] at h
    refine lv_iconst (v := (0 : Int32)) he hb dX12_mean_30 (by decide) ?_
    obtain ⟨rfl, rfl⟩ := Prod.mk.inj (Option.some.inj h)
    exact z_iret B hS dX12_mean_31
def fX12_mean_19 (N n : Nat) (f : zF) (a0 : Nat) (a1 : Int32) (t0 : Nat) : Option (zF × Int32) :=
    (fX12_mean_24 N n f a0 a1 t0 (1 : Int32))
set_option maxRecDepth 100000 in
set_option maxHeartbeats 4000000 in
theorem gX12_mean_19 (l : Launch) {G : zG} {p : Program} {e : Env} {s : State} {m : MethodId} {args : Array Value} {below : List Frame} {meth : Method} {c : Code} {N n : Nat} {f9 : zF} {r : Int32} (B : zB G p s m args meth c RX12 cX12_mean 5 (some .int)) : ∀ (f : zF) (a0 : Nat) (a1 : Int32) (t0 : Nat) (H : Heap) (locs : List Loc) (ls : Array Slot), fX12_mean_19 N n f a0 a1 t0 = some (f9, r) → zS G n f H locs → lv_has ls 5 [(0, zr G a0), (1, .int a1)] → W p l e (zrm 1) s m args below meth c H locs 0 0 (MQ below (zQc G n f9 (some (.int r))) args s 0 0 (zA G)) (F0 m 19 ls [zr G t0]) := by
  have he := B.1
  have hb := B.2.1
  intro f a0 a1 t0 H locs ls h hS hl
  unfold fX12_mean_19 at h
  refine lv_iconst (v := (1 : Int32)) he hb dX12_mean_19 (by decide) ?_
  refine lv_goto (tgt := 24) he hb dX12_mean_20 (by decide) ?_
  exact gX12_mean_24 l B _ _ _ _ _ _ _ _ h hS (lv_sub hl [0, 1] rfl)
def fX12_mean (N n : Nat) (f : zF) (a0 : Nat) (a1 : Int32) : Option (zF × Int32) :=
    ((zgR n f 12 a0 6).bind fun x1 => ((zlI n f 0 x1 (3 : Int32)).bind fun x2 => (if x2 = 0 then (fX12_mean_19 N n f a0 a1 a0) else ((fX12_isIn N n f a1 (0 : Int32) (1 : Int32)).bind fun x11 => (if x11 = 0 then (fX12_mean_19 N n f a0 a1 a0) else (fX12_mean_24 N n f a0 a1 a0 (0 : Int32)))))))
set_option maxRecDepth 100000 in
set_option maxHeartbeats 4000000 in
theorem mX12_mean (l : Launch) (G : zG) {N n : Nat} {f : zF} {f9 : zF} {r : Int32} {a0 : Nat} {a1 : Int32} (h : fX12_mean N n f a0 a1 = some (f9, r)) : zM l G yX12_mean cX12_mean 5 (some .int) 1 n f [zr G a0, .int a1] (some (.int r)) f9 := by
  refine zM.of (by decide) (Nat.le_of_ble_eq_true rfl) ?_
  intro p e s m args below meth c locs ls B hS hl
  have he := B.1
  have hb := B.2.1
  have hl : lv_has ls 5 [(0, zr G a0), (1, .int a1)] := hl
  unfold fX12_mean at h
  generalize s.heap = H at hS ⊢
  refine z_aload_n he hb dX12_mean_0 rfl (lv_at hl 0 rfl) (zref_r _ _) ?_
  refine z_aload_n he hb dX12_mean_1 rfl (lv_at hl 0 rfl) (zref_r _ _) ?_
  obtain ⟨x1, hx, h⟩ := zob h
  refine z_getR (ci := 12) (T := TX12) (N := 50) (j := 6) B hS hx rfl zin_X12 (by decide) zk_1353 dX12_mean_2 ?_
  refine lv_iconst (v := (3 : Int32)) he hb dX12_mean_5 (by decide) ?_
  obtain ⟨x2, hx, h⟩ := zob h
  refine z_ildI B hS hx dX12_mean_6 ?_
  refine lv_if_eq (tgt := 19) he hb dX12_mean_7 (by decide) (fun hc => ?_) (fun hc => ?_)
  · rw [if_pos hc] at h
    exact gX12_mean_19 l B _ _ _ _ _ _ _ h hS (lv_sub hl [0, 1] rfl)
  · rw [if_neg hc] at h
    refine lv_iload_n he hb dX12_mean_10 rfl (lv_at hl 1 rfl) ?_
    refine lv_iconst (v := (0 : Int32)) he hb dX12_mean_11 (by decide) ?_
    refine lv_iconst (v := (1 : Int32)) he hb dX12_mean_12 (by decide) ?_
    obtain ⟨x11, hx, h⟩ := zob h
    refine z_callS (rest := [_]) B hS (mX12_isIn l G hx) zy_X12_isIn zk_1545 (by decide) rfl hl rfl (Nat.le_of_ble_eq_true rfl) dX12_mean_13 (kk := (fun H locs hS => ?_))
    refine lv_if_ne (tgt := 23) he hb dX12_mean_16 (by decide) (fun hc => ?_) (fun hc => ?_)
    · rw [if_neg hc] at h
      refine lv_iconst (v := (0 : Int32)) he hb dX12_mean_23 (by decide) ?_
      exact gX12_mean_24 l B _ _ _ _ _ _ _ _ h hS (lv_sub hl [0, 1] rfl)
    · rw [if_pos hc] at h
      exact gX12_mean_19 l B _ _ _ _ _ _ _ h hS (lv_sub hl [0, 1] rfl)
theorem dX12_lays_0 : decode cX12_lays 0 = .ok (.aload_n 0, 1) := by decide +kernel
theorem dX12_lays_1 : decode cX12_lays 1 = .ok (.getfield 71, 3) := by decide +kernel
theorem dX12_lays_4 : decode cX12_lays 4 = .ok (.aload_n 0, 1) := by decide +kernel
theorem dX12_lays_5 : decode cX12_lays 5 = .ok (.getfield 408, 3) := by decide +kernel
theorem dX12_lays_8 : decode cX12_lays 8 = .ok (.iload_n 1, 1) := by decide +kernel
theorem dX12_lays_9 : decode cX12_lays 9 = .ok (.i2b, 1) := by decide +kernel
theorem dX12_lays_10 : decode cX12_lays 10 = .ok (.bastore, 1) := by decide +kernel
theorem dX12_lays_11 : decode cX12_lays 11 = .ok (.aload_n 0, 1) := by decide +kernel
theorem dX12_lays_12 : decode cX12_lays 12 = .ok (.dup, 1) := by decide +kernel
theorem dX12_lays_13 : decode cX12_lays 13 = .ok (.getfield 408, 3) := by decide +kernel
theorem dX12_lays_16 : decode cX12_lays 16 = .ok (.iconst 1, 1) := by decide +kernel
theorem dX12_lays_17 : decode cX12_lays 17 = .ok (.iadd, 1) := by decide +kernel
theorem dX12_lays_18 : decode cX12_lays 18 = .ok (.putfield 408, 3) := by decide +kernel
theorem dX12_lays_21 : decode cX12_lays 21 = .ok (.return_, 1) := by decide +kernel
def fX12_lays (N n : Nat) (f : zF) (a0 : Nat) (a1 : Int32) : Option zF :=
    ((zgR n f 12 a0 34).bind fun x1 => ((zgI n f 12 a0 35).bind fun x2 => ((zsB n f 2 x1 x2 (a1.toInt8.toInt32)).bind fun f3 => ((zgI n f3 12 a0 35).bind fun x4 => ((zpI n f3 12 a0 35 (x4 + (1 : Int32))).bind fun f5 => some f5)))))
set_option maxRecDepth 100000 in
set_option maxHeartbeats 4000000 in
theorem mX12_lays (l : Launch) (G : zG) {N n : Nat} {f : zF} {f9 : zF} {a0 : Nat} {a1 : Int32} (h : fX12_lays N n f a0 a1 = some f9) : zM l G yX12_lays cX12_lays 2 (none) 0 n f [zr G a0, .int a1] (none) f9 := by
  refine zM.of (by decide) (Nat.le_of_ble_eq_true rfl) ?_
  intro p e s m args below meth c locs ls B hS hl
  have he := B.1
  have hb := B.2.1
  have hl : lv_has ls 2 [(0, zr G a0), (1, .int a1)] := hl
  unfold fX12_lays at h
  generalize s.heap = H at hS ⊢
  refine z_aload_n he hb dX12_lays_0 rfl (lv_at hl 0 rfl) (zref_r _ _) ?_
  obtain ⟨x1, hx, h⟩ := zob h
  refine z_getR (ci := 12) (T := TX12) (N := 50) (j := 34) B hS hx rfl zin_X12 (by decide) zk_1381 dX12_lays_1 ?_
  refine z_aload_n he hb dX12_lays_4 rfl (lv_at hl 0 rfl) (zref_r _ _) ?_
  obtain ⟨x2, hx, h⟩ := zob h
  refine z_getI (ci := 12) (T := TX12) (N := 50) (j := 35) B hS hx rfl zin_X12 (by decide) zk_1382 dX12_lays_5 ?_
  refine lv_iload_n he hb dX12_lays_8 rfl (lv_at hl 1 rfl) ?_
  refine lv_i2b (v := (a1.toInt8.toInt32)) he hb dX12_lays_9 rfl ?_
  obtain ⟨f3, hx, h⟩ := zob h
  refine z_istB B hS hx dX12_lays_10 (fun H locs hS => ?_)
  refine z_aload_n he hb dX12_lays_11 rfl (lv_at hl 0 rfl) (zref_r _ _) ?_
  refine lv_dup he hb dX12_lays_12 rfl ?_
  obtain ⟨x4, hx, h⟩ := zob h
  refine z_getI (ci := 12) (T := TX12) (N := 50) (j := 35) B hS hx rfl zin_X12 (by decide) zk_1382 dX12_lays_13 ?_
  refine lv_iconst (v := (1 : Int32)) he hb dX12_lays_16 (by decide) ?_
  refine lv_iadd he hb dX12_lays_17 ?_
  obtain ⟨f5, hx, h⟩ := zob h
  refine z_putI (ci := 12) (T := TX12) (N := 50) (j := 35) B hS hx rfl zin_X12 tyX12 tyX12_ok nmX12 (by decide) zk_1382 rfl rfl dX12_lays_18 (fun H locs hS => ?_)
  obtain rfl := Option.some.inj h
  exact z_vret B hS dX12_lays_21
theorem dX12_spells_0 : decode cX12_spells 0 = .ok (.bipush 56, 2) := by decide +kernel
theorem dX12_spells_2 : decode cX12_spells 2 = .ok (.istore_n 3, 1) := by decide +kernel
theorem dX12_spells_3 : decode cX12_spells 3 = .ok (.iload_n 3, 1) := by decide +kernel
theorem dX12_spells_4 : decode cX12_spells 4 = .ok (.ifCond .lt 33, 3) := by decide +kernel
theorem dX12_spells_7 : decode cX12_spells 7 = .ok (.lload_n 1, 1) := by decide +kernel
theorem dX12_spells_8 : decode cX12_spells 8 = .ok (.iload_n 3, 1) := by decide +kernel
theorem dX12_spells_9 : decode cX12_spells 9 = .ok (.lshr, 1) := by decide +kernel
theorem dX12_spells_10 : decode cX12_spells 10 = .ok (.ldc2_w 411, 3) := by decide +kernel
theorem dX12_spells_13 : decode cX12_spells 13 = .ok (.land, 1) := by decide +kernel
theorem dX12_spells_14 : decode cX12_spells 14 = .ok (.lconst 0, 1) := by decide +kernel
theorem dX12_spells_15 : decode cX12_spells 15 = .ok (.lcmp, 1) := by decide +kernel
theorem dX12_spells_16 : decode cX12_spells 16 = .ok (.ifCond .eq 15, 3) := by decide +kernel
theorem dX12_spells_19 : decode cX12_spells 19 = .ok (.aload_n 0, 1) := by decide +kernel
theorem dX12_spells_20 : decode cX12_spells 20 = .ok (.lload_n 1, 1) := by decide +kernel
theorem dX12_spells_21 : decode cX12_spells 21 = .ok (.iload_n 3, 1) := by decide +kernel
theorem dX12_spells_22 : decode cX12_spells 22 = .ok (.lshr, 1) := by decide +kernel
theorem dX12_spells_23 : decode cX12_spells 23 = .ok (.ldc2_w 411, 3) := by decide +kernel
theorem dX12_spells_26 : decode cX12_spells 26 = .ok (.land, 1) := by decide +kernel
theorem dX12_spells_27 : decode cX12_spells 27 = .ok (.l2i, 1) := by decide +kernel
theorem dX12_spells_28 : decode cX12_spells 28 = .ok (.invokevirtual 413, 3) := by decide +kernel
theorem dX12_spells_31 : decode cX12_spells 31 = .ok (.iinc 3 (-8), 3) := by decide +kernel
theorem dX12_spells_34 : decode cX12_spells 34 = .ok (.goto (-31), 3) := by decide +kernel
theorem dX12_spells_37 : decode cX12_spells 37 = .ok (.return_, 1) := by decide +kernel
def fX12_spells_31 (r3 : zF → Nat → Int64 → Int32 → Option zF) (N n : Nat) (f : zF) (a0 : Nat) (a1 : Int64) (a3 : Int32) : Option zF :=
    (r3 f a0 a1 (a3 + (-8)))
set_option maxRecDepth 100000 in
set_option maxHeartbeats 4000000 in
theorem gX12_spells_31 (l : Launch) {G : zG} {p : Program} {e : Env} {s : State} {m : MethodId} {args : Array Value} {below : List Frame} {meth : Method} {c : Code} {N n : Nat} {f9 : zF} {r3 : zF → Nat → Int64 → Int32 → Option zF} (B : zB G p s m args meth c RX12 cX12_spells 4 (none)) (hr3 : ∀ (f : zF) (a0 : Nat) (a1 : Int64) (a3 : Int32) (H : Heap) (locs : List Loc) (ls : Array Slot), r3 f a0 a1 a3 = some f9 → zS G n f H locs → lv_has ls 4 [(0, zr G a0), (1, .long a1), (3, .int a3)] → W p l e (zrm 1) s m args below meth c H locs 0 0 (MQ below (zQc G n f9 (none)) args s 0 0 (zA G)) (F0 m 3 ls [])) : ∀ (f : zF) (a0 : Nat) (a1 : Int64) (a3 : Int32) (H : Heap) (locs : List Loc) (ls : Array Slot), fX12_spells_31 r3 N n f a0 a1 a3 = some f9 → zS G n f H locs → lv_has ls 4 [(0, zr G a0), (1, .long a1), (3, .int a3)] → W p l e (zrm 1) s m args below meth c H locs 0 0 (MQ below (zQc G n f9 (none)) args s 0 0 (zA G)) (F0 m 31 ls []) := by
  have he := B.1
  have hb := B.2.1
  intro f a0 a1 a3 H locs ls h hS hl
  unfold fX12_spells_31 at h
  refine lv_iinc (v := (a3 + (-8))) (lv' := [(3, _), (0, _), (1, _)]) he hb dX12_spells_31 hl (k := 2) rfl rfl (by decide) rfl (fun ls hl => ?_)
  refine lv_goto (tgt := 3) he hb dX12_spells_34 (by decide) ?_
  exact hr3 _ _ _ _ _ _ _ h hS (lv_sub hl [1, 2, 0] rfl)
def fX12_spells_3 (N n : Nat) : Nat → zF → Nat → Int64 → Int32 → Option zF
  | 0, _, _, _, _ => none
  | k + 1, f, a0, a1, a3 =>
    (if a3 < 0 then some f else (if (lg_cmp ((zlshr a1 a3) &&& (255 : Int64)) (0 : Int64)) = 0 then (fX12_spells_31 (fX12_spells_3 N n k) N n f a0 a1 a3) else ((zck n f 12 a0).bind fun _ => ((fX12_lays N n f a0 (((zlshr a1 a3) &&& (255 : Int64)).toInt32)).bind fun f1 => (fX12_spells_31 (fX12_spells_3 N n k) N n f1 a0 a1 a3)))))
set_option maxRecDepth 100000 in
set_option maxHeartbeats 4000000 in
theorem gX12_spells_3 (l : Launch) {G : zG} {p : Program} {e : Env} {s : State} {m : MethodId} {args : Array Value} {below : List Frame} {meth : Method} {c : Code} {N n : Nat} {f9 : zF} (B : zB G p s m args meth c RX12 cX12_spells 4 (none)) : ∀ (k : Nat), ∀ (f : zF) (a0 : Nat) (a1 : Int64) (a3 : Int32) (H : Heap) (locs : List Loc) (ls : Array Slot), fX12_spells_3 N n k f a0 a1 a3 = some f9 → zS G n f H locs → lv_has ls 4 [(0, zr G a0), (1, .long a1), (3, .int a3)] → W p l e (zrm 1) s m args below meth c H locs 0 0 (MQ below (zQc G n f9 (none)) args s 0 0 (zA G)) (F0 m 3 ls []) := by
  have he := B.1
  have hb := B.2.1
  intro k
  induction k with
  | zero =>
    intro f a0 a1 a3 H locs ls h
    unfold fX12_spells_3 at h
    cases h
  | succ k ih =>
    intro f a0 a1 a3 H locs ls h hS hl
    unfold fX12_spells_3 at h
    refine lv_iload_n he hb dX12_spells_3 rfl (lv_at hl 2 rfl) ?_
    refine lv_if_lt (tgt := 37) he hb dX12_spells_4 (by decide) (fun hc => ?_) (fun hc => ?_)
    · rw [if_pos hc] at h
      obtain rfl := Option.some.inj h
      exact z_vret B hS dX12_spells_37
    · rw [if_neg hc] at h
      refine lv_lload_n he hb dX12_spells_7 rfl (lv_at hl 1 rfl) ?_
      refine lv_iload_n he hb dX12_spells_8 rfl (lv_at hl 2 rfl) ?_
      refine z_lshr he hb dX12_spells_9 ?_
      refine lv_ldc2 (v := (255 : Int64)) he hb B.2.2.2.1 (B.2.2.2.2.1 _ zk_1873) dX12_spells_10 ?_
      refine lv_land he hb dX12_spells_13 ?_
      refine lv_lconst (v := (0 : Int64)) he hb dX12_spells_14 (by decide) ?_
      refine W.lcmp he hb dX12_spells_15 ?_
      refine lv_if_eq (tgt := 31) he hb dX12_spells_16 (by decide) (fun hc => ?_) (fun hc => ?_)
      · rw [if_pos hc] at h
        exact gX12_spells_31 l B ih _ _ _ _ _ _ _ h hS (lv_sub hl [0, 1, 2] rfl)
      · rw [if_neg hc] at h
        refine z_aload_n he hb dX12_spells_19 rfl (lv_at hl 0 rfl) (zref_r _ _) ?_
        refine lv_lload_n he hb dX12_spells_20 rfl (lv_at hl 1 rfl) ?_
        refine lv_iload_n he hb dX12_spells_21 rfl (lv_at hl 2 rfl) ?_
        refine z_lshr he hb dX12_spells_22 ?_
        refine lv_ldc2 (v := (255 : Int64)) he hb B.2.2.2.1 (B.2.2.2.2.1 _ zk_1873) dX12_spells_23 ?_
        refine lv_land he hb dX12_spells_26 ?_
        refine lv_l2i (v := (((zlshr a1 a3) &&& (255 : Int64)).toInt32)) he hb dX12_spells_27 rfl ?_
        obtain ⟨_, hc, h⟩ := zob h
        obtain ⟨f1, hx, h⟩ := zob h
        refine z_callV (ci := 12) (T := TX12) (N := 50) (rest := []) B hS (mX12_lays l G hx) zy_X12_lays zk_1874 (by decide) hc rfl rfl hl rfl (Nat.le_of_ble_eq_true rfl) dX12_spells_28 (kk := (fun H locs hS => ?_))
        exact gX12_spells_31 l B ih _ _ _ _ _ _ _ h hS (lv_sub hl [0, 1, 2] rfl)
def fX12_spells (N n : Nat) (f : zF) (a0 : Nat) (a1 : Int64) : Option zF :=
    (fX12_spells_3 N n N f a0 a1 (56 : Int32))
set_option maxRecDepth 100000 in
set_option maxHeartbeats 4000000 in
theorem mX12_spells (l : Launch) (G : zG) {N n : Nat} {f : zF} {f9 : zF} {a0 : Nat} {a1 : Int64} (h : fX12_spells N n f a0 a1 = some f9) : zM l G yX12_spells cX12_spells 4 (none) 1 n f [zr G a0, .long a1] (none) f9 := by
  refine zM.of (by decide) (Nat.le_of_ble_eq_true rfl) ?_
  intro p e s m args below meth c locs ls B hS hl
  have he := B.1
  have hb := B.2.1
  have hl : lv_has ls 4 [(0, zr G a0), (1, .long a1)] := hl
  unfold fX12_spells at h
  generalize s.heap = H at hS ⊢
  refine lv_bipush (v := (56 : Int32)) he hb dX12_spells_0 (by decide) ?_
  refine lv_istore_n (lv' := [(3, _), (0, _), (1, _)]) he hb dX12_spells_2 rfl hl (by decide) rfl (fun ls hl => ?_)
  exact gX12_spells_3 l B N _ _ _ _ _ _ _ h hS (lv_sub hl [1, 2, 0] rfl)
theorem dX12_says_0 : decode cX12_says 0 = .ok (.aload_n 0, 1) := by decide +kernel
theorem dX12_says_1 : decode cX12_says 1 = .ok (.bipush 32, 2) := by decide +kernel
theorem dX12_says_3 : decode cX12_says 3 = .ok (.invokevirtual 413, 3) := by decide +kernel
theorem dX12_says_6 : decode cX12_says 6 = .ok (.aload_n 0, 1) := by decide +kernel
theorem dX12_says_7 : decode cX12_says 7 = .ok (.lload_n 1, 1) := by decide +kernel
theorem dX12_says_8 : decode cX12_says 8 = .ok (.invokevirtual 416, 3) := by decide +kernel
theorem dX12_says_11 : decode cX12_says 11 = .ok (.return_, 1) := by decide +kernel
def fX12_says (N n : Nat) (f : zF) (a0 : Nat) (a1 : Int64) : Option zF :=
    ((zck n f 12 a0).bind fun _ => ((fX12_lays N n f a0 (32 : Int32)).bind fun f1 => ((zck n f1 12 a0).bind fun _ => ((fX12_spells N n f1 a0 a1).bind fun f2 => some f2))))
set_option maxRecDepth 100000 in
set_option maxHeartbeats 4000000 in
theorem mX12_says (l : Launch) (G : zG) {N n : Nat} {f : zF} {f9 : zF} {a0 : Nat} {a1 : Int64} (h : fX12_says N n f a0 a1 = some f9) : zM l G yX12_says cX12_says 3 (none) 2 n f [zr G a0, .long a1] (none) f9 := by
  refine zM.of (by decide) (Nat.le_of_ble_eq_true rfl) ?_
  intro p e s m args below meth c locs ls B hS hl
  have he := B.1
  have hb := B.2.1
  have hl : lv_has ls 3 [(0, zr G a0), (1, .long a1)] := hl
  unfold fX12_says at h
  generalize s.heap = H at hS ⊢
  refine z_aload_n he hb dX12_says_0 rfl (lv_at hl 0 rfl) (zref_r _ _) ?_
  refine lv_bipush (v := (32 : Int32)) he hb dX12_says_1 (by decide) ?_
  obtain ⟨_, hc, h⟩ := zob h
  obtain ⟨f1, hx, h⟩ := zob h
  refine z_callV (ci := 12) (T := TX12) (N := 50) (rest := []) B hS (mX12_lays l G hx) zy_X12_lays zk_1874 (by decide) hc rfl rfl hl rfl (Nat.le_of_ble_eq_true rfl) dX12_says_3 (kk := (fun H locs hS => ?_))
  refine z_aload_n he hb dX12_says_6 rfl (lv_at hl 0 rfl) (zref_r _ _) ?_
  refine lv_lload_n he hb dX12_says_7 rfl (lv_at hl 1 rfl) ?_
  obtain ⟨_, hc, h⟩ := zob h
  obtain ⟨f2, hx, h⟩ := zob h
  refine z_callV (ci := 12) (T := TX12) (N := 50) (rest := []) B hS (mX12_spells l G hx) zy_X12_spells zk_1869 (by decide) hc rfl rfl hl rfl (Nat.le_of_ble_eq_true rfl) dX12_says_8 (kk := (fun H locs hS => ?_))
  obtain rfl := Option.some.inj h
  exact z_vret B hS dX12_says_11
theorem dX12_line_0 : decode cX12_line 0 = .ok (.aload_n 0, 1) := by decide +kernel
theorem dX12_line_1 : decode cX12_line 1 = .ok (.iconst 0, 1) := by decide +kernel
theorem dX12_line_2 : decode cX12_line 2 = .ok (.putfield 1, 3) := by decide +kernel
theorem dX12_line_5 : decode cX12_line 5 = .ok (.aload_n 0, 1) := by decide +kernel
theorem dX12_line_6 : decode cX12_line 6 = .ok (.iload_n 1, 1) := by decide +kernel
theorem dX12_line_7 : decode cX12_line 7 = .ok (.invokevirtual 304, 3) := by decide +kernel
theorem dX12_line_10 : decode cX12_line 10 = .ok (.ifCond .ne 5, 3) := by decide +kernel
theorem dX12_line_13 : decode cX12_line 13 = .ok (.iconst (-1), 1) := by decide +kernel
theorem dX12_line_14 : decode cX12_line 14 = .ok (.ireturn, 1) := by decide +kernel
theorem dX12_line_15 : decode cX12_line 15 = .ok (.aload_n 0, 1) := by decide +kernel
theorem dX12_line_16 : decode cX12_line 16 = .ok (.iconst 0, 1) := by decide +kernel
theorem dX12_line_17 : decode cX12_line 17 = .ok (.putfield 408, 3) := by decide +kernel
theorem dX12_line_20 : decode cX12_line 20 = .ok (.aload_n 0, 1) := by decide +kernel
theorem dX12_line_21 : decode cX12_line 21 = .ok (.aload_n 0, 1) := by decide +kernel
theorem dX12_line_22 : decode cX12_line 22 = .ok (.getfield 43, 3) := by decide +kernel
theorem dX12_line_25 : decode cX12_line 25 = .ok (.iconst 4, 1) := by decide +kernel
theorem dX12_line_26 : decode cX12_line 26 = .ok (.iload_n 1, 1) := by decide +kernel
theorem dX12_line_27 : decode cX12_line 27 = .ok (.iadd, 1) := by decide +kernel
theorem dX12_line_28 : decode cX12_line 28 = .ok (.laload, 1) := by decide +kernel
theorem dX12_line_29 : decode cX12_line 29 = .ok (.invokevirtual 416, 3) := by decide +kernel
theorem dX12_line_32 : decode cX12_line 32 = .ok (.aload_n 0, 1) := by decide +kernel
theorem dX12_line_33 : decode cX12_line 33 = .ok (.ldc2_w 420, 3) := by decide +kernel
theorem dX12_line_36 : decode cX12_line 36 = .ok (.invokevirtual 422, 3) := by decide +kernel
theorem dX12_line_39 : decode cX12_line 39 = .ok (.aload_n 0, 1) := by decide +kernel
theorem dX12_line_40 : decode cX12_line 40 = .ok (.bipush 32, 2) := by decide +kernel
theorem dX12_line_42 : decode cX12_line 42 = .ok (.invokevirtual 413, 3) := by decide +kernel
theorem dX12_line_45 : decode cX12_line 45 = .ok (.aload_n 0, 1) := by decide +kernel
theorem dX12_line_46 : decode cX12_line 46 = .ok (.bipush 48, 2) := by decide +kernel
theorem dX12_line_48 : decode cX12_line 48 = .ok (.aload_n 0, 1) := by decide +kernel
theorem dX12_line_49 : decode cX12_line 49 = .ok (.getfield 33, 3) := by decide +kernel
theorem dX12_line_52 : decode cX12_line 52 = .ok (.sipush 141, 3) := by decide +kernel
theorem dX12_line_55 : decode cX12_line 55 = .ok (.iload_n 1, 1) := by decide +kernel
theorem dX12_line_56 : decode cX12_line 56 = .ok (.iadd, 1) := by decide +kernel
theorem dX12_line_57 : decode cX12_line 57 = .ok (.iaload, 1) := by decide +kernel
theorem dX12_line_58 : decode cX12_line 58 = .ok (.bipush 9, 2) := by decide +kernel
theorem dX12_line_60 : decode cX12_line 60 = .ok (.irem, 1) := by decide +kernel
theorem dX12_line_61 : decode cX12_line 61 = .ok (.iadd, 1) := by decide +kernel
theorem dX12_line_62 : decode cX12_line 62 = .ok (.invokevirtual 413, 3) := by decide +kernel
theorem dX12_line_65 : decode cX12_line 65 = .ok (.aload_n 0, 1) := by decide +kernel
theorem dX12_line_66 : decode cX12_line 66 = .ok (.bipush 32, 2) := by decide +kernel
theorem dX12_line_68 : decode cX12_line 68 = .ok (.invokevirtual 413, 3) := by decide +kernel
theorem dX12_line_71 : decode cX12_line 71 = .ok (.aload_n 0, 1) := by decide +kernel
theorem dX12_line_72 : decode cX12_line 72 = .ok (.bipush 48, 2) := by decide +kernel
theorem dX12_line_74 : decode cX12_line 74 = .ok (.aload_n 0, 1) := by decide +kernel
theorem dX12_line_75 : decode cX12_line 75 = .ok (.getfield 33, 3) := by decide +kernel
theorem dX12_line_78 : decode cX12_line 78 = .ok (.sipush 141, 3) := by decide +kernel
theorem dX12_line_81 : decode cX12_line 81 = .ok (.iload_n 1, 1) := by decide +kernel
theorem dX12_line_82 : decode cX12_line 82 = .ok (.iadd, 1) := by decide +kernel
theorem dX12_line_83 : decode cX12_line 83 = .ok (.iaload, 1) := by decide +kernel
theorem dX12_line_84 : decode cX12_line 84 = .ok (.bipush 9, 2) := by decide +kernel
theorem dX12_line_86 : decode cX12_line 86 = .ok (.idiv, 1) := by decide +kernel
theorem dX12_line_87 : decode cX12_line 87 = .ok (.iadd, 1) := by decide +kernel
theorem dX12_line_88 : decode cX12_line 88 = .ok (.invokevirtual 413, 3) := by decide +kernel
theorem dX12_line_91 : decode cX12_line 91 = .ok (.aload_n 0, 1) := by decide +kernel
theorem dX12_line_92 : decode cX12_line 92 = .ok (.ldc2_w 425, 3) := by decide +kernel
theorem dX12_line_95 : decode cX12_line 95 = .ok (.invokevirtual 422, 3) := by decide +kernel
theorem dX12_line_98 : decode cX12_line 98 = .ok (.aload_n 0, 1) := by decide +kernel
theorem dX12_line_99 : decode cX12_line 99 = .ok (.getfield 33, 3) := by decide +kernel
theorem dX12_line_102 : decode cX12_line 102 = .ok (.sipush 147, 3) := by decide +kernel
theorem dX12_line_105 : decode cX12_line 105 = .ok (.iload_n 1, 1) := by decide +kernel
theorem dX12_line_106 : decode cX12_line 106 = .ok (.iadd, 1) := by decide +kernel
theorem dX12_line_107 : decode cX12_line 107 = .ok (.iaload, 1) := by decide +kernel
theorem dX12_line_108 : decode cX12_line 108 = .ok (.istore_n 2, 1) := by decide +kernel
theorem dX12_line_109 : decode cX12_line 109 = .ok (.aload_n 0, 1) := by decide +kernel
theorem dX12_line_110 : decode cX12_line 110 = .ok (.iload_n 2, 1) := by decide +kernel
theorem dX12_line_111 : decode cX12_line 111 = .ok (.ifCond .ne 9, 3) := by decide +kernel
theorem dX12_line_114 : decode cX12_line 114 = .ok (.ldc2_w 105, 3) := by decide +kernel
theorem dX12_line_117 : decode cX12_line 117 = .ok (.goto 28, 3) := by decide +kernel
theorem dX12_line_120 : decode cX12_line 120 = .ok (.iload_n 2, 1) := by decide +kernel
theorem dX12_line_121 : decode cX12_line 121 = .ok (.iconst 1, 1) := by decide +kernel
theorem dX12_line_122 : decode cX12_line 122 = .ok (.if_icmp .ne 9, 3) := by decide +kernel
theorem dX12_line_125 : decode cX12_line 125 = .ok (.ldc2_w 107, 3) := by decide +kernel
theorem dX12_line_128 : decode cX12_line 128 = .ok (.goto 17, 3) := by decide +kernel
theorem dX12_line_131 : decode cX12_line 131 = .ok (.iload_n 2, 1) := by decide +kernel
theorem dX12_line_132 : decode cX12_line 132 = .ok (.iconst 2, 1) := by decide +kernel
theorem dX12_line_133 : decode cX12_line 133 = .ok (.if_icmp .ne 9, 3) := by decide +kernel
theorem dX12_line_136 : decode cX12_line 136 = .ok (.ldc2_w 109, 3) := by decide +kernel
theorem dX12_line_139 : decode cX12_line 139 = .ok (.goto 6, 3) := by decide +kernel
theorem dX12_line_142 : decode cX12_line 142 = .ok (.ldc2_w 111, 3) := by decide +kernel
theorem dX12_line_145 : decode cX12_line 145 = .ok (.invokevirtual 422, 3) := by decide +kernel
theorem dX12_line_148 : decode cX12_line 148 = .ok (.aload_n 0, 1) := by decide +kernel
theorem dX12_line_149 : decode cX12_line 149 = .ok (.iload_n 1, 1) := by decide +kernel
theorem dX12_line_150 : decode cX12_line 150 = .ok (.invokevirtual 311, 3) := by decide +kernel
theorem dX12_line_153 : decode cX12_line 153 = .ok (.ifCond .eq 10, 3) := by decide +kernel
theorem dX12_line_156 : decode cX12_line 156 = .ok (.aload_n 0, 1) := by decide +kernel
theorem dX12_line_157 : decode cX12_line 157 = .ok (.ldc2_w 131, 3) := by decide +kernel
theorem dX12_line_160 : decode cX12_line 160 = .ok (.invokevirtual 422, 3) := by decide +kernel
theorem dX12_line_163 : decode cX12_line 163 = .ok (.aload_n 0, 1) := by decide +kernel
theorem dX12_line_164 : decode cX12_line 164 = .ok (.getfield 408, 3) := by decide +kernel
theorem dX12_line_167 : decode cX12_line 167 = .ok (.ireturn, 1) := by decide +kernel
def fX12_line_163 (N n : Nat) (f : zF) (a0 : Nat) : Option (zF × Int32) :=
    ((zgI n f 12 a0 35).bind fun x21 => some (f, x21))
set_option maxRecDepth 100000 in
set_option maxHeartbeats 4000000 in
theorem gX12_line_163 (l : Launch) {G : zG} {p : Program} {e : Env} {s : State} {m : MethodId} {args : Array Value} {below : List Frame} {meth : Method} {c : Code} {N n : Nat} {f9 : zF} {r : Int32} (B : zB G p s m args meth c RX12 cX12_line 3 (some .int)) : ∀ (f : zF) (a0 : Nat) (H : Heap) (locs : List Loc) (ls : Array Slot), fX12_line_163 N n f a0 = some (f9, r) → zS G n f H locs → lv_has ls 3 [(0, zr G a0)] → W p l e (zrm 6) s m args below meth c H locs 0 0 (MQ below (zQc G n f9 (some (.int r))) args s 0 0 (zA G)) (F0 m 163 ls []) := by
  have he := B.1
  have hb := B.2.1
  intro f a0 H locs ls h hS hl
  unfold fX12_line_163 at h
  refine z_aload_n he hb dX12_line_163 rfl (lv_at hl 0 rfl) (zref_r _ _) ?_
  obtain ⟨x21, hx, h⟩ := zob h
  refine z_getI (ci := 12) (T := TX12) (N := 50) (j := 35) B hS hx rfl zin_X12 (by decide) zk_1382 dX12_line_164 ?_
  obtain ⟨rfl, rfl⟩ := Prod.mk.inj (Option.some.inj h)
  exact z_iret B hS dX12_line_167
def fX12_line_145 (N n : Nat) (f : zF) (a0 : Nat) (a1 : Int32) (t0 : Nat) (t1 : Int64) : Option (zF × Int32) :=
    ((zck n f 12 t0).bind fun _ => ((fX12_says N n f t0 t1).bind fun f19 => ((zck n f19 12 a0).bind fun _ => ((fX12_seenBy N n f19 a0 a1).bind fun x20 => (if x20 = 0 then (fX12_line_163 N n f19 a0) else ((zck n f19 12 a0).bind fun _ => ((fX12_says N n f19 a0 (1936024942 : Int64)).bind fun f22 => (fX12_line_163 N n f22 a0))))))))
set_option maxRecDepth 100000 in
set_option maxHeartbeats 4000000 in
theorem gX12_line_145 (l : Launch) {G : zG} {p : Program} {e : Env} {s : State} {m : MethodId} {args : Array Value} {below : List Frame} {meth : Method} {c : Code} {N n : Nat} {f9 : zF} {r : Int32} (B : zB G p s m args meth c RX12 cX12_line 3 (some .int)) : ∀ (f : zF) (a0 : Nat) (a1 : Int32) (t0 : Nat) (t1 : Int64) (H : Heap) (locs : List Loc) (ls : Array Slot), fX12_line_145 N n f a0 a1 t0 t1 = some (f9, r) → zS G n f H locs → lv_has ls 3 [(0, zr G a0), (1, .int a1)] → W p l e (zrm 6) s m args below meth c H locs 0 0 (MQ below (zQc G n f9 (some (.int r))) args s 0 0 (zA G)) (F0 m 145 ls [.long t1, zr G t0]) := by
  have he := B.1
  have hb := B.2.1
  intro f a0 a1 t0 t1 H locs ls h hS hl
  unfold fX12_line_145 at h
  obtain ⟨_, hc, h⟩ := zob h
  obtain ⟨f19, hx, h⟩ := zob h
  refine z_callV (ci := 12) (T := TX12) (N := 50) (rest := []) B hS (mX12_says l G hx) zy_X12_says zk_1879 (by decide) hc rfl rfl hl rfl (Nat.le_of_ble_eq_true rfl) dX12_line_145 (kk := (fun H locs hS => ?_))
  refine z_aload_n he hb dX12_line_148 rfl (lv_at hl 0 rfl) (zref_r _ _) ?_
  refine lv_iload_n he hb dX12_line_149 rfl (lv_at hl 1 rfl) ?_
  obtain ⟨_, hc, h⟩ := zob h
  obtain ⟨x20, hx, h⟩ := zob h
  refine z_callV (ci := 12) (T := TX12) (N := 50) (rest := []) B hS (mX12_seenBy l G hx) zy_X12_seenBy zk_1632 (by decide) hc rfl rfl hl rfl (Nat.le_of_ble_eq_true rfl) dX12_line_150 (kk := (fun H locs hS => ?_))
  refine lv_if_eq (tgt := 163) he hb dX12_line_153 (by decide) (fun hc => ?_) (fun hc => ?_)
  · rw [if_pos hc] at h
    exact gX12_line_163 l B _ _ _ _ _ h hS (lv_sub hl [0] rfl)
  · rw [if_neg hc] at h
    refine z_aload_n he hb dX12_line_156 rfl (lv_at hl 0 rfl) (zref_r _ _) ?_
    refine lv_ldc2 (v := (1936024942 : Int64)) he hb B.2.2.2.1 (B.2.2.2.2.1 _ zk_1335) dX12_line_157 ?_
    obtain ⟨_, hc, h⟩ := zob h
    obtain ⟨f22, hx, h⟩ := zob h
    refine z_callV (ci := 12) (T := TX12) (N := 50) (rest := []) B hS (mX12_says l G hx) zy_X12_says zk_1879 (by decide) hc rfl rfl hl rfl (Nat.le_of_ble_eq_true rfl) dX12_line_160 (kk := (fun H locs hS => ?_))
    exact gX12_line_163 l B _ _ _ _ _ h hS (lv_sub hl [0] rfl)
def fX12_line (N n : Nat) (f : zF) (a0 : Nat) (a1 : Int32) : Option (zF × Int32) :=
    ((zpI n f 12 a0 0 (0 : Int32)).bind fun f1 => ((zck n f1 12 a0).bind fun _ => ((fX12_isFigure N n f1 a0 a1).bind fun x2 => (if x2 = 0 then some (f1, (-1 : Int32)) else ((zpI n f1 12 a0 35 (0 : Int32)).bind fun f3 => ((zgR n f3 12 a0 9).bind fun x4 => ((zlL n f3 1 x4 ((4 : Int32) + a1)).bind fun x5 => ((zck n f3 12 a0).bind fun _ => ((fX12_spells N n f3 a0 x5).bind fun f6 => ((zck n f6 12 a0).bind fun _ => ((fX12_says N n f6 a0 (24948 : Int64)).bind fun f7 => ((zck n f7 12 a0).bind fun _ => ((fX12_lays N n f7 a0 (32 : Int32)).bind fun f8 => ((zgR n f8 12 a0 6).bind fun x9 => ((zlI n f8 0 x9 ((141 : Int32) + a1)).bind fun x10 => ((zck n f8 12 a0).bind fun _ => ((fX12_lays N n f8 a0 ((48 : Int32) + (zrem x10 (9 : Int32)))).bind fun f11 => ((zck n f11 12 a0).bind fun _ => ((fX12_lays N n f11 a0 (32 : Int32)).bind fun f12 => ((zgR n f12 12 a0 6).bind fun x13 => ((zlI n f12 0 x13 ((141 : Int32) + a1)).bind fun x14 => ((zck n f12 12 a0).bind fun _ => ((fX12_lays N n f12 a0 ((48 : Int32) + (x14 / (9 : Int32)))).bind fun f15 => ((zck n f15 12 a0).bind fun _ => ((fX12_says N n f15 a0 (29807 : Int64)).bind fun f16 => ((zgR n f16 12 a0 6).bind fun x17 => ((zlI n f16 0 x17 ((147 : Int32) + a1)).bind fun x18 => (if x18 = 0 then (fX12_line_145 N n f16 a0 a1 a0 (1700885364 : Int64)) else (if x18 = (1 : Int32) then (fX12_line_145 N n f16 a0 a1 a0 (495791207528 : Int64)) else (if x18 = (2 : Int32) then (fX12_line_145 N n f16 a0 a1 a0 (2003137396 : Int64)) else (fX12_line_145 N n f16 a0 a1 a0 (474316174440 : Int64))))))))))))))))))))))))))))))))
set_option maxRecDepth 100000 in
set_option maxHeartbeats 4000000 in
theorem mX12_line (l : Launch) (G : zG) {N n : Nat} {f : zF} {f9 : zF} {r : Int32} {a0 : Nat} {a1 : Int32} (h : fX12_line N n f a0 a1 = some (f9, r)) : zM l G yX12_line cX12_line 3 (some .int) 6 n f [zr G a0, .int a1] (some (.int r)) f9 := by
  refine zM.of (by decide) (Nat.le_of_ble_eq_true rfl) ?_
  intro p e s m args below meth c locs ls B hS hl
  have he := B.1
  have hb := B.2.1
  have hl : lv_has ls 3 [(0, zr G a0), (1, .int a1)] := hl
  unfold fX12_line at h
  generalize s.heap = H at hS ⊢
  refine z_aload_n he hb dX12_line_0 rfl (lv_at hl 0 rfl) (zref_r _ _) ?_
  refine lv_iconst (v := (0 : Int32)) he hb dX12_line_1 (by decide) ?_
  obtain ⟨f1, hx, h⟩ := zob h
  refine z_putI (ci := 12) (T := TX12) (N := 50) (j := 0) B hS hx rfl zin_X12 tyX12 tyX12_ok nmX12 (by decide) zk_1347 rfl rfl dX12_line_2 (fun H locs hS => ?_)
  refine z_aload_n he hb dX12_line_5 rfl (lv_at hl 0 rfl) (zref_r _ _) ?_
  refine lv_iload_n he hb dX12_line_6 rfl (lv_at hl 1 rfl) ?_
  obtain ⟨_, hc, h⟩ := zob h
  obtain ⟨x2, hx, h⟩ := zob h
  refine z_callV (ci := 12) (T := TX12) (N := 50) (rest := []) B hS (mX12_isFigure l G hx) zy_X12_isFigure zk_1624 (by decide) hc rfl rfl hl rfl (Nat.le_of_ble_eq_true rfl) dX12_line_7 (kk := (fun H locs hS => ?_))
  refine lv_if_ne (tgt := 15) he hb dX12_line_10 (by decide) (fun hc => ?_) (fun hc => ?_)
  · rw [if_neg hc] at h
    refine z_aload_n he hb dX12_line_15 rfl (lv_at hl 0 rfl) (zref_r _ _) ?_
    refine lv_iconst (v := (0 : Int32)) he hb dX12_line_16 (by decide) ?_
    obtain ⟨f3, hx, h⟩ := zob h
    refine z_putI (ci := 12) (T := TX12) (N := 50) (j := 35) B hS hx rfl zin_X12 tyX12 tyX12_ok nmX12 (by decide) zk_1382 rfl rfl dX12_line_17 (fun H locs hS => ?_)
    refine z_aload_n he hb dX12_line_20 rfl (lv_at hl 0 rfl) (zref_r _ _) ?_
    refine z_aload_n he hb dX12_line_21 rfl (lv_at hl 0 rfl) (zref_r _ _) ?_
    obtain ⟨x4, hx, h⟩ := zob h
    refine z_getR (ci := 12) (T := TX12) (N := 50) (j := 9) B hS hx rfl zin_X12 (by decide) zk_1356 dX12_line_22 ?_
    refine lv_iconst (v := (4 : Int32)) he hb dX12_line_25 (by decide) ?_
    refine lv_iload_n he hb dX12_line_26 rfl (lv_at hl 1 rfl) ?_
    refine lv_iadd he hb dX12_line_27 ?_
    obtain ⟨x5, hx, h⟩ := zob h
    refine z_ildL B hS hx dX12_line_28 ?_
    obtain ⟨_, hc, h⟩ := zob h
    obtain ⟨f6, hx, h⟩ := zob h
    refine z_callV (ci := 12) (T := TX12) (N := 50) (rest := []) B hS (mX12_spells l G hx) zy_X12_spells zk_1869 (by decide) hc rfl rfl hl rfl (Nat.le_of_ble_eq_true rfl) dX12_line_29 (kk := (fun H locs hS => ?_))
    refine z_aload_n he hb dX12_line_32 rfl (lv_at hl 0 rfl) (zref_r _ _) ?_
    refine lv_ldc2 (v := (24948 : Int64)) he hb B.2.2.2.1 (B.2.2.2.2.1 _ zk_1878) dX12_line_33 ?_
    obtain ⟨_, hc, h⟩ := zob h
    obtain ⟨f7, hx, h⟩ := zob h
    refine z_callV (ci := 12) (T := TX12) (N := 50) (rest := []) B hS (mX12_says l G hx) zy_X12_says zk_1879 (by decide) hc rfl rfl hl rfl (Nat.le_of_ble_eq_true rfl) dX12_line_36 (kk := (fun H locs hS => ?_))
    refine z_aload_n he hb dX12_line_39 rfl (lv_at hl 0 rfl) (zref_r _ _) ?_
    refine lv_bipush (v := (32 : Int32)) he hb dX12_line_40 (by decide) ?_
    obtain ⟨_, hc, h⟩ := zob h
    obtain ⟨f8, hx, h⟩ := zob h
    refine z_callV (ci := 12) (T := TX12) (N := 50) (rest := []) B hS (mX12_lays l G hx) zy_X12_lays zk_1874 (by decide) hc rfl rfl hl rfl (Nat.le_of_ble_eq_true rfl) dX12_line_42 (kk := (fun H locs hS => ?_))
    refine z_aload_n he hb dX12_line_45 rfl (lv_at hl 0 rfl) (zref_r _ _) ?_
    refine lv_bipush (v := (48 : Int32)) he hb dX12_line_46 (by decide) ?_
    refine z_aload_n he hb dX12_line_48 rfl (lv_at hl 0 rfl) (zref_r _ _) ?_
    obtain ⟨x9, hx, h⟩ := zob h
    refine z_getR (ci := 12) (T := TX12) (N := 50) (j := 6) B hS hx rfl zin_X12 (by decide) zk_1353 dX12_line_49 ?_
    refine lv_sipush (v := (141 : Int32)) he hb dX12_line_52 (by decide) ?_
    refine lv_iload_n he hb dX12_line_55 rfl (lv_at hl 1 rfl) ?_
    refine lv_iadd he hb dX12_line_56 ?_
    obtain ⟨x10, hx, h⟩ := zob h
    refine z_ildI B hS hx dX12_line_57 ?_
    refine lv_bipush (v := (9 : Int32)) he hb dX12_line_58 (by decide) ?_
    refine z_irem he hb dX12_line_60 (by decide) ?_
    refine lv_iadd he hb dX12_line_61 ?_
    obtain ⟨_, hc, h⟩ := zob h
    obtain ⟨f11, hx, h⟩ := zob h
    refine z_callV (ci := 12) (T := TX12) (N := 50) (rest := []) B hS (mX12_lays l G hx) zy_X12_lays zk_1874 (by decide) hc rfl rfl hl rfl (Nat.le_of_ble_eq_true rfl) dX12_line_62 (kk := (fun H locs hS => ?_))
    refine z_aload_n he hb dX12_line_65 rfl (lv_at hl 0 rfl) (zref_r _ _) ?_
    refine lv_bipush (v := (32 : Int32)) he hb dX12_line_66 (by decide) ?_
    obtain ⟨_, hc, h⟩ := zob h
    obtain ⟨f12, hx, h⟩ := zob h
    refine z_callV (ci := 12) (T := TX12) (N := 50) (rest := []) B hS (mX12_lays l G hx) zy_X12_lays zk_1874 (by decide) hc rfl rfl hl rfl (Nat.le_of_ble_eq_true rfl) dX12_line_68 (kk := (fun H locs hS => ?_))
    refine z_aload_n he hb dX12_line_71 rfl (lv_at hl 0 rfl) (zref_r _ _) ?_
    refine lv_bipush (v := (48 : Int32)) he hb dX12_line_72 (by decide) ?_
    refine z_aload_n he hb dX12_line_74 rfl (lv_at hl 0 rfl) (zref_r _ _) ?_
    obtain ⟨x13, hx, h⟩ := zob h
    refine z_getR (ci := 12) (T := TX12) (N := 50) (j := 6) B hS hx rfl zin_X12 (by decide) zk_1353 dX12_line_75 ?_
    refine lv_sipush (v := (141 : Int32)) he hb dX12_line_78 (by decide) ?_
    refine lv_iload_n he hb dX12_line_81 rfl (lv_at hl 1 rfl) ?_
    refine lv_iadd he hb dX12_line_82 ?_
    obtain ⟨x14, hx, h⟩ := zob h
    refine z_ildI B hS hx dX12_line_83 ?_
    refine lv_bipush (v := (9 : Int32)) he hb dX12_line_84 (by decide) ?_
    refine lv_idiv he hb dX12_line_86 (by decide) ?_
    refine lv_iadd he hb dX12_line_87 ?_
    obtain ⟨_, hc, h⟩ := zob h
    obtain ⟨f15, hx, h⟩ := zob h
    refine z_callV (ci := 12) (T := TX12) (N := 50) (rest := []) B hS (mX12_lays l G hx) zy_X12_lays zk_1874 (by decide) hc rfl rfl hl rfl (Nat.le_of_ble_eq_true rfl) dX12_line_88 (kk := (fun H locs hS => ?_))
    refine z_aload_n he hb dX12_line_91 rfl (lv_at hl 0 rfl) (zref_r _ _) ?_
    refine lv_ldc2 (v := (29807 : Int64)) he hb B.2.2.2.1 (B.2.2.2.2.1 _ zk_1883) dX12_line_92 ?_
    obtain ⟨_, hc, h⟩ := zob h
    obtain ⟨f16, hx, h⟩ := zob h
    refine z_callV (ci := 12) (T := TX12) (N := 50) (rest := []) B hS (mX12_says l G hx) zy_X12_says zk_1879 (by decide) hc rfl rfl hl rfl (Nat.le_of_ble_eq_true rfl) dX12_line_95 (kk := (fun H locs hS => ?_))
    refine z_aload_n he hb dX12_line_98 rfl (lv_at hl 0 rfl) (zref_r _ _) ?_
    obtain ⟨x17, hx, h⟩ := zob h
    refine z_getR (ci := 12) (T := TX12) (N := 50) (j := 6) B hS hx rfl zin_X12 (by decide) zk_1353 dX12_line_99 ?_
    refine lv_sipush (v := (147 : Int32)) he hb dX12_line_102 (by decide) ?_
    refine lv_iload_n he hb dX12_line_105 rfl (lv_at hl 1 rfl) ?_
    refine lv_iadd he hb dX12_line_106 ?_
    obtain ⟨x18, hx, h⟩ := zob h
    refine z_ildI B hS hx dX12_line_107 ?_
    refine lv_istore_n (lv' := [(2, _), (0, _), (1, _)]) he hb dX12_line_108 rfl hl (by decide) rfl (fun ls hl => ?_)
    refine z_aload_n he hb dX12_line_109 rfl (lv_at hl 1 rfl) (zref_r _ _) ?_
    refine lv_iload_n he hb dX12_line_110 rfl (lv_at hl 0 rfl) ?_
    refine lv_if_ne (tgt := 120) he hb dX12_line_111 (by decide) (fun hc => ?_) (fun hc => ?_)
    · rw [if_neg hc] at h
      refine lv_iload_n he hb dX12_line_120 rfl (lv_at hl 0 rfl) ?_
      refine lv_iconst (v := (1 : Int32)) he hb dX12_line_121 (by decide) ?_
      refine lv_icmp_ne (tgt := 131) he hb dX12_line_122 (by decide) (fun hc => ?_) (fun hc => ?_)
      · rw [if_neg hc] at h
        refine lv_iload_n he hb dX12_line_131 rfl (lv_at hl 0 rfl) ?_
        refine lv_iconst (v := (2 : Int32)) he hb dX12_line_132 (by decide) ?_
        refine lv_icmp_ne (tgt := 142) he hb dX12_line_133 (by decide) (fun hc => ?_) (fun hc => ?_)
        · rw [if_neg hc] at h
          refine lv_ldc2 (v := (474316174440 : Int64)) he hb B.2.2.2.1 (B.2.2.2.2.1 _ zk_1325) dX12_line_142 ?_
          exact gX12_line_145 l B _ _ _ _ _ _ _ _ h hS (lv_sub hl [1, 2] rfl)
        · rw [if_pos hc] at h
          refine lv_ldc2 (v := (2003137396 : Int64)) he hb B.2.2.2.1 (B.2.2.2.2.1 _ zk_1324) dX12_line_136 ?_
          refine lv_goto (tgt := 145) he hb dX12_line_139 (by decide) ?_
          exact gX12_line_145 l B _ _ _ _ _ _ _ _ h hS (lv_sub hl [1, 2] rfl)
      · rw [if_pos hc] at h
        refine lv_ldc2 (v := (495791207528 : Int64)) he hb B.2.2.2.1 (B.2.2.2.2.1 _ zk_1323) dX12_line_125 ?_
        refine lv_goto (tgt := 145) he hb dX12_line_128 (by decide) ?_
        exact gX12_line_145 l B _ _ _ _ _ _ _ _ h hS (lv_sub hl [1, 2] rfl)
    · rw [if_pos hc] at h
      refine lv_ldc2 (v := (1700885364 : Int64)) he hb B.2.2.2.1 (B.2.2.2.2.1 _ zk_1322) dX12_line_114 ?_
      refine lv_goto (tgt := 145) he hb dX12_line_117 (by decide) ?_
      exact gX12_line_145 l B _ _ _ _ _ _ _ _ h hS (lv_sub hl [1, 2] rfl)
  · rw [if_pos hc] at h
    refine lv_iconst (v := (-1 : Int32)) he hb dX12_line_13 (by decide) ?_
    obtain ⟨rfl, rfl⟩ := Prod.mk.inj (Option.some.inj h)
    exact z_iret B hS dX12_line_14
theorem dX12_byteAt_0 : decode cX12_byteAt 0 = .ok (.aload_n 0, 1) := by decide +kernel
theorem dX12_byteAt_1 : decode cX12_byteAt 1 = .ok (.iconst 0, 1) := by decide +kernel
theorem dX12_byteAt_2 : decode cX12_byteAt 2 = .ok (.putfield 1, 3) := by decide +kernel
theorem dX12_byteAt_5 : decode cX12_byteAt 5 = .ok (.iload_n 1, 1) := by decide +kernel
theorem dX12_byteAt_6 : decode cX12_byteAt 6 = .ok (.iconst 0, 1) := by decide +kernel
theorem dX12_byteAt_7 : decode cX12_byteAt 7 = .ok (.aload_n 0, 1) := by decide +kernel
theorem dX12_byteAt_8 : decode cX12_byteAt 8 = .ok (.getfield 408, 3) := by decide +kernel
theorem dX12_byteAt_11 : decode cX12_byteAt 11 = .ok (.iconst 1, 1) := by decide +kernel
theorem dX12_byteAt_12 : decode cX12_byteAt 12 = .ok (.isub, 1) := by decide +kernel
theorem dX12_byteAt_13 : decode cX12_byteAt 13 = .ok (.invokestatic 192, 3) := by decide +kernel
theorem dX12_byteAt_16 : decode cX12_byteAt 16 = .ok (.ifCond .eq 12, 3) := by decide +kernel
theorem dX12_byteAt_19 : decode cX12_byteAt 19 = .ok (.aload_n 0, 1) := by decide +kernel
theorem dX12_byteAt_20 : decode cX12_byteAt 20 = .ok (.getfield 71, 3) := by decide +kernel
theorem dX12_byteAt_23 : decode cX12_byteAt 23 = .ok (.iload_n 1, 1) := by decide +kernel
theorem dX12_byteAt_24 : decode cX12_byteAt 24 = .ok (.baload, 1) := by decide +kernel
theorem dX12_byteAt_25 : decode cX12_byteAt 25 = .ok (.goto 4, 3) := by decide +kernel
theorem dX12_byteAt_28 : decode cX12_byteAt 28 = .ok (.iconst (-1), 1) := by decide +kernel
theorem dX12_byteAt_29 : decode cX12_byteAt 29 = .ok (.ireturn, 1) := by decide +kernel
def fX12_byteAt (N n : Nat) (f : zF) (a0 : Nat) (a1 : Int32) : Option (zF × Int32) :=
    ((zpI n f 12 a0 0 (0 : Int32)).bind fun f1 => ((zgI n f1 12 a0 35).bind fun x2 => ((fX12_isIn N n f1 a1 (0 : Int32) (x2 - (1 : Int32))).bind fun x3 => (if x3 = 0 then some (f1, (-1 : Int32)) else ((zgR n f1 12 a0 34).bind fun x4 => ((zlI n f1 2 x4 a1).bind fun x5 => some (f1, x5)))))))
set_option maxRecDepth 100000 in
set_option maxHeartbeats 4000000 in
theorem mX12_byteAt (l : Launch) (G : zG) {N n : Nat} {f : zF} {f9 : zF} {r : Int32} {a0 : Nat} {a1 : Int32} (h : fX12_byteAt N n f a0 a1 = some (f9, r)) : zM l G yX12_byteAt cX12_byteAt 2 (some .int) 1 n f [zr G a0, .int a1] (some (.int r)) f9 := by
  refine zM.of (by decide) (Nat.le_of_ble_eq_true rfl) ?_
  intro p e s m args below meth c locs ls B hS hl
  have he := B.1
  have hb := B.2.1
  have hl : lv_has ls 2 [(0, zr G a0), (1, .int a1)] := hl
  unfold fX12_byteAt at h
  generalize s.heap = H at hS ⊢
  refine z_aload_n he hb dX12_byteAt_0 rfl (lv_at hl 0 rfl) (zref_r _ _) ?_
  refine lv_iconst (v := (0 : Int32)) he hb dX12_byteAt_1 (by decide) ?_
  obtain ⟨f1, hx, h⟩ := zob h
  refine z_putI (ci := 12) (T := TX12) (N := 50) (j := 0) B hS hx rfl zin_X12 tyX12 tyX12_ok nmX12 (by decide) zk_1347 rfl rfl dX12_byteAt_2 (fun H locs hS => ?_)
  refine lv_iload_n he hb dX12_byteAt_5 rfl (lv_at hl 1 rfl) ?_
  refine lv_iconst (v := (0 : Int32)) he hb dX12_byteAt_6 (by decide) ?_
  refine z_aload_n he hb dX12_byteAt_7 rfl (lv_at hl 0 rfl) (zref_r _ _) ?_
  obtain ⟨x2, hx, h⟩ := zob h
  refine z_getI (ci := 12) (T := TX12) (N := 50) (j := 35) B hS hx rfl zin_X12 (by decide) zk_1382 dX12_byteAt_8 ?_
  refine lv_iconst (v := (1 : Int32)) he hb dX12_byteAt_11 (by decide) ?_
  refine lv_isub he hb dX12_byteAt_12 ?_
  obtain ⟨x3, hx, h⟩ := zob h
  refine z_callS (rest := []) B hS (mX12_isIn l G hx) zy_X12_isIn zk_1545 (by decide) rfl hl rfl (Nat.le_of_ble_eq_true rfl) dX12_byteAt_13 (kk := (fun H locs hS => ?_))
  refine lv_if_eq (tgt := 28) he hb dX12_byteAt_16 (by decide) (fun hc => ?_) (fun hc => ?_)
  · rw [if_pos hc] at h
    refine lv_iconst (v := (-1 : Int32)) he hb dX12_byteAt_28 (by decide) ?_
    obtain ⟨rfl, rfl⟩ := Prod.mk.inj (Option.some.inj h)
    exact z_iret B hS dX12_byteAt_29
  · rw [if_neg hc] at h
    refine z_aload_n he hb dX12_byteAt_19 rfl (lv_at hl 0 rfl) (zref_r _ _) ?_
    obtain ⟨x4, hx, h⟩ := zob h
    refine z_getR (ci := 12) (T := TX12) (N := 50) (j := 34) B hS hx rfl zin_X12 (by decide) zk_1381 dX12_byteAt_20 ?_
    refine lv_iload_n he hb dX12_byteAt_23 rfl (lv_at hl 1 rfl) ?_
    obtain ⟨x5, hx, h⟩ := zob h
    refine z_ildB B hS hx dX12_byteAt_24 ?_
    refine lv_goto (tgt := 29) he hb dX12_byteAt_25 (by decide) ?_
    obtain ⟨rfl, rfl⟩ := Prod.mk.inj (Option.some.inj h)
    exact z_iret B hS dX12_byteAt_29
theorem dX12_draw_0 : decode cX12_draw 0 = .ok (.aload_n 0, 1) := by decide +kernel
theorem dX12_draw_1 : decode cX12_draw 1 = .ok (.aload_n 0, 1) := by decide +kernel
theorem dX12_draw_2 : decode cX12_draw 2 = .ok (.getfield 427, 3) := by decide +kernel
theorem dX12_draw_5 : decode cX12_draw 5 = .ok (.ldc_w 430, 3) := by decide +kernel
theorem dX12_draw_8 : decode cX12_draw 8 = .ok (.imul, 1) := by decide +kernel
theorem dX12_draw_9 : decode cX12_draw 9 = .ok (.sipush 12345, 3) := by decide +kernel
theorem dX12_draw_12 : decode cX12_draw 12 = .ok (.iadd, 1) := by decide +kernel
theorem dX12_draw_13 : decode cX12_draw 13 = .ok (.putfield 427, 3) := by decide +kernel
theorem dX12_draw_16 : decode cX12_draw 16 = .ok (.aload_n 0, 1) := by decide +kernel
theorem dX12_draw_17 : decode cX12_draw 17 = .ok (.getfield 427, 3) := by decide +kernel
theorem dX12_draw_20 : decode cX12_draw 20 = .ok (.bipush 8, 2) := by decide +kernel
theorem dX12_draw_22 : decode cX12_draw 22 = .ok (.iushr, 1) := by decide +kernel
theorem dX12_draw_23 : decode cX12_draw 23 = .ok (.iload_n 1, 1) := by decide +kernel
theorem dX12_draw_24 : decode cX12_draw 24 = .ok (.irem, 1) := by decide +kernel
theorem dX12_draw_25 : decode cX12_draw 25 = .ok (.ireturn, 1) := by decide +kernel
def fX12_draw (N n : Nat) (f : zF) (a0 : Nat) (a1 : Int32) : Option (zF × Int32) :=
    ((zgI n f 12 a0 36).bind fun x1 => ((zpI n f 12 a0 36 ((x1 * (1103515245 : Int32)) + (12345 : Int32))).bind fun f2 => ((zgI n f2 12 a0 36).bind fun x3 => ((znz a1).bind fun _ => some (f2, (zrem (ziushr x3 (8 : Int32)) a1))))))
set_option maxRecDepth 100000 in
set_option maxHeartbeats 4000000 in
theorem mX12_draw (l : Launch) (G : zG) {N n : Nat} {f : zF} {f9 : zF} {r : Int32} {a0 : Nat} {a1 : Int32} (h : fX12_draw N n f a0 a1 = some (f9, r)) : zM l G yX12_draw cX12_draw 2 (some .int) 0 n f [zr G a0, .int a1] (some (.int r)) f9 := by
  refine zM.of (by decide) (Nat.le_of_ble_eq_true rfl) ?_
  intro p e s m args below meth c locs ls B hS hl
  have he := B.1
  have hb := B.2.1
  have hl : lv_has ls 2 [(0, zr G a0), (1, .int a1)] := hl
  unfold fX12_draw at h
  generalize s.heap = H at hS ⊢
  refine z_aload_n he hb dX12_draw_0 rfl (lv_at hl 0 rfl) (zref_r _ _) ?_
  refine z_aload_n he hb dX12_draw_1 rfl (lv_at hl 0 rfl) (zref_r _ _) ?_
  obtain ⟨x1, hx, h⟩ := zob h
  refine z_getI (ci := 12) (T := TX12) (N := 50) (j := 36) B hS hx rfl zin_X12 (by decide) zk_1383 dX12_draw_2 ?_
  refine lv_ldcw (v := (1103515245 : Int32)) he hb B.2.2.2.1 (B.2.2.2.2.1 _ zk_1904) dX12_draw_5 ?_
  refine lv_imul he hb dX12_draw_8 ?_
  refine lv_sipush (v := (12345 : Int32)) he hb dX12_draw_9 (by decide) ?_
  refine lv_iadd he hb dX12_draw_12 ?_
  obtain ⟨f2, hx, h⟩ := zob h
  refine z_putI (ci := 12) (T := TX12) (N := 50) (j := 36) B hS hx rfl zin_X12 tyX12 tyX12_ok nmX12 (by decide) zk_1383 rfl rfl dX12_draw_13 (fun H locs hS => ?_)
  refine z_aload_n he hb dX12_draw_16 rfl (lv_at hl 0 rfl) (zref_r _ _) ?_
  obtain ⟨x3, hx, h⟩ := zob h
  refine z_getI (ci := 12) (T := TX12) (N := 50) (j := 36) B hS hx rfl zin_X12 (by decide) zk_1383 dX12_draw_17 ?_
  refine lv_bipush (v := (8 : Int32)) he hb dX12_draw_20 (by decide) ?_
  refine z_iushr he hb dX12_draw_22 ?_
  refine lv_iload_n he hb dX12_draw_23 rfl (lv_at hl 1 rfl) ?_
  obtain ⟨_, hx, h⟩ := zob h
  refine z_irem he hb dX12_draw_24 (znz_i hx) ?_
  obtain ⟨rfl, rfl⟩ := Prod.mk.inj (Option.some.inj h)
  exact z_iret B hS dX12_draw_25
theorem dX12_drawLooker_0 : decode cX12_drawLooker 0 = .ok (.aload_n 0, 1) := by decide +kernel
theorem dX12_drawLooker_1 : decode cX12_drawLooker 1 = .ok (.bipush 8, 2) := by decide +kernel
theorem dX12_drawLooker_3 : decode cX12_drawLooker 3 = .ok (.invokevirtual 431, 3) := by decide +kernel
theorem dX12_drawLooker_6 : decode cX12_drawLooker 6 = .ok (.istore_n 2, 1) := by decide +kernel
theorem dX12_drawLooker_7 : decode cX12_drawLooker 7 = .ok (.iload_n 2, 1) := by decide +kernel
theorem dX12_drawLooker_8 : decode cX12_drawLooker 8 = .ok (.iconst 4, 1) := by decide +kernel
theorem dX12_drawLooker_9 : decode cX12_drawLooker 9 = .ok (.if_icmp .ge 14, 3) := by decide +kernel
theorem dX12_drawLooker_12 : decode cX12_drawLooker 12 = .ok (.aload_n 0, 1) := by decide +kernel
theorem dX12_drawLooker_13 : decode cX12_drawLooker 13 = .ok (.getfield 33, 3) := by decide +kernel
theorem dX12_drawLooker_16 : decode cX12_drawLooker 16 = .ok (.sipush 164, 3) := by decide +kernel
theorem dX12_drawLooker_19 : decode cX12_drawLooker 19 = .ok (.iload_n 1, 1) := by decide +kernel
theorem dX12_drawLooker_20 : decode cX12_drawLooker 20 = .ok (.iadd, 1) := by decide +kernel
theorem dX12_drawLooker_21 : decode cX12_drawLooker 21 = .ok (.iload_n 2, 1) := by decide +kernel
theorem dX12_drawLooker_22 : decode cX12_drawLooker 22 = .ok (.iastore, 1) := by decide +kernel
theorem dX12_drawLooker_23 : decode cX12_drawLooker 23 = .ok (.iload_n 2, 1) := by decide +kernel
theorem dX12_drawLooker_24 : decode cX12_drawLooker 24 = .ok (.iconst 4, 1) := by decide +kernel
theorem dX12_drawLooker_25 : decode cX12_drawLooker 25 = .ok (.if_icmp .ne 17, 3) := by decide +kernel
theorem dX12_drawLooker_28 : decode cX12_drawLooker 28 = .ok (.aload_n 0, 1) := by decide +kernel
theorem dX12_drawLooker_29 : decode cX12_drawLooker 29 = .ok (.getfield 33, 3) := by decide +kernel
theorem dX12_drawLooker_32 : decode cX12_drawLooker 32 = .ok (.sipush 140, 3) := by decide +kernel
theorem dX12_drawLooker_35 : decode cX12_drawLooker 35 = .ok (.dup2, 1) := by decide +kernel
theorem dX12_drawLooker_36 : decode cX12_drawLooker 36 = .ok (.iaload, 1) := by decide +kernel
theorem dX12_drawLooker_37 : decode cX12_drawLooker 37 = .ok (.iconst 1, 1) := by decide +kernel
theorem dX12_drawLooker_38 : decode cX12_drawLooker 38 = .ok (.iload_n 1, 1) := by decide +kernel
theorem dX12_drawLooker_39 : decode cX12_drawLooker 39 = .ok (.ishl, 1) := by decide +kernel
theorem dX12_drawLooker_40 : decode cX12_drawLooker 40 = .ok (.ixor, 1) := by decide +kernel
theorem dX12_drawLooker_41 : decode cX12_drawLooker 41 = .ok (.iastore, 1) := by decide +kernel
theorem dX12_drawLooker_42 : decode cX12_drawLooker 42 = .ok (.iload_n 2, 1) := by decide +kernel
theorem dX12_drawLooker_43 : decode cX12_drawLooker 43 = .ok (.iconst 5, 1) := by decide +kernel
theorem dX12_drawLooker_44 : decode cX12_drawLooker 44 = .ok (.if_icmp .eq 4, 3) := by decide +kernel
theorem dX12_drawLooker_47 : decode cX12_drawLooker 47 = .ok (.return_, 1) := by decide +kernel
theorem dX12_drawLooker_48 : decode cX12_drawLooker 48 = .ok (.aload_n 0, 1) := by decide +kernel
theorem dX12_drawLooker_49 : decode cX12_drawLooker 49 = .ok (.iconst 4, 1) := by decide +kernel
theorem dX12_drawLooker_50 : decode cX12_drawLooker 50 = .ok (.invokevirtual 431, 3) := by decide +kernel
theorem dX12_drawLooker_53 : decode cX12_drawLooker 53 = .ok (.istore_n 3, 1) := by decide +kernel
theorem dX12_drawLooker_54 : decode cX12_drawLooker 54 = .ok (.aload_n 0, 1) := by decide +kernel
theorem dX12_drawLooker_55 : decode cX12_drawLooker 55 = .ok (.iload_n 1, 1) := by decide +kernel
theorem dX12_drawLooker_56 : decode cX12_drawLooker 56 = .ok (.iload_n 3, 1) := by decide +kernel
theorem dX12_drawLooker_57 : decode cX12_drawLooker 57 = .ok (.invokevirtual 335, 3) := by decide +kernel
theorem dX12_drawLooker_60 : decode cX12_drawLooker 60 = .ok (.ifCond .ne 28, 3) := by decide +kernel
theorem dX12_drawLooker_63 : decode cX12_drawLooker 63 = .ok (.aload_n 0, 1) := by decide +kernel
theorem dX12_drawLooker_64 : decode cX12_drawLooker 64 = .ok (.getfield 33, 3) := by decide +kernel
theorem dX12_drawLooker_67 : decode cX12_drawLooker 67 = .ok (.sipush 159, 3) := by decide +kernel
theorem dX12_drawLooker_70 : decode cX12_drawLooker 70 = .ok (.iload_n 1, 1) := by decide +kernel
theorem dX12_drawLooker_71 : decode cX12_drawLooker 71 = .ok (.iadd, 1) := by decide +kernel
theorem dX12_drawLooker_72 : decode cX12_drawLooker 72 = .ok (.aload_n 0, 1) := by decide +kernel
theorem dX12_drawLooker_73 : decode cX12_drawLooker 73 = .ok (.aload_n 0, 1) := by decide +kernel
theorem dX12_drawLooker_74 : decode cX12_drawLooker 74 = .ok (.getfield 33, 3) := by decide +kernel
theorem dX12_drawLooker_77 : decode cX12_drawLooker 77 = .ok (.sipush 159, 3) := by decide +kernel
theorem dX12_drawLooker_80 : decode cX12_drawLooker 80 = .ok (.iload_n 1, 1) := by decide +kernel
theorem dX12_drawLooker_81 : decode cX12_drawLooker 81 = .ok (.iadd, 1) := by decide +kernel
theorem dX12_drawLooker_82 : decode cX12_drawLooker 82 = .ok (.iaload, 1) := by decide +kernel
theorem dX12_drawLooker_83 : decode cX12_drawLooker 83 = .ok (.iload_n 3, 1) := by decide +kernel
theorem dX12_drawLooker_84 : decode cX12_drawLooker 84 = .ok (.invokevirtual 280, 3) := by decide +kernel
theorem dX12_drawLooker_87 : decode cX12_drawLooker 87 = .ok (.iastore, 1) := by decide +kernel
theorem dX12_drawLooker_88 : decode cX12_drawLooker 88 = .ok (.return_, 1) := by decide +kernel
def fX12_drawLooker_42 (N n : Nat) (f : zF) (a0 : Nat) (a1 : Int32) (a2 : Int32) : Option zF :=
    (if a2 = (5 : Int32) then ((zck n f 12 a0).bind fun _ => (zbd (fX12_draw N n f a0 (4 : Int32)) fun f4 x3 => ((zck n f4 12 a0).bind fun _ => ((fX12_whyWalk N n f4 a0 a1 x3).bind fun x5 => (if x5 = 0 then ((zgR n f4 12 a0 6).bind fun x6 => ((zgR n f4 12 a0 6).bind fun x7 => ((zlI n f4 0 x7 ((159 : Int32) + a1)).bind fun x8 => ((zck n f4 12 a0).bind fun _ => ((fX12_beside N n f4 a0 x8 x3).bind fun x9 => ((zsI n f4 0 x6 ((159 : Int32) + a1) x9).bind fun f10 => some f10)))))) else some f4))))) else some f)
set_option maxRecDepth 100000 in
set_option maxHeartbeats 4000000 in
theorem gX12_drawLooker_42 (l : Launch) {G : zG} {p : Program} {e : Env} {s : State} {m : MethodId} {args : Array Value} {below : List Frame} {meth : Method} {c : Code} {N n : Nat} {f9 : zF} (B : zB G p s m args meth c RX12 cX12_drawLooker 4 (none)) : ∀ (f : zF) (a0 : Nat) (a1 : Int32) (a2 : Int32) (H : Heap) (locs : List Loc) (ls : Array Slot), fX12_drawLooker_42 N n f a0 a1 a2 = some f9 → zS G n f H locs → lv_has ls 4 [(0, zr G a0), (1, .int a1), (2, .int a2)] → W p l e (zrm 4) s m args below meth c H locs 0 0 (MQ below (zQc G n f9 (none)) args s 0 0 (zA G)) (F0 m 42 ls []) := by
  have he := B.1
  have hb := B.2.1
  intro f a0 a1 a2 H locs ls h hS hl
  unfold fX12_drawLooker_42 at h
  refine lv_iload_n he hb dX12_drawLooker_42 rfl (lv_at hl 2 rfl) ?_
  refine lv_iconst (v := (5 : Int32)) he hb dX12_drawLooker_43 (by decide) ?_
  refine lv_icmp_eq (tgt := 48) he hb dX12_drawLooker_44 (by decide) (fun hc => ?_) (fun hc => ?_)
  · rw [if_pos hc] at h
    refine z_aload_n he hb dX12_drawLooker_48 rfl (lv_at hl 0 rfl) (zref_r _ _) ?_
    refine lv_iconst (v := (4 : Int32)) he hb dX12_drawLooker_49 (by decide) ?_
    obtain ⟨_, hc, h⟩ := zob h
    obtain ⟨f4, x3, hx, h⟩ := zbd_i h
    refine z_callV (ci := 12) (T := TX12) (N := 50) (rest := []) B hS (mX12_draw l G hx) zy_X12_draw zk_1900 (by decide) hc rfl rfl hl rfl (Nat.le_of_ble_eq_true rfl) dX12_drawLooker_50 (kk := (fun H locs hS => ?_))
    refine lv_istore_n (lv' := [(3, _), (0, _), (1, _), (2, _)]) he hb dX12_drawLooker_53 rfl hl (by decide) rfl (fun ls hl => ?_)
    refine z_aload_n he hb dX12_drawLooker_54 rfl (lv_at hl 1 rfl) (zref_r _ _) ?_
    refine lv_iload_n he hb dX12_drawLooker_55 rfl (lv_at hl 2 rfl) ?_
    refine lv_iload_n he hb dX12_drawLooker_56 rfl (lv_at hl 0 rfl) ?_
    obtain ⟨_, hc, h⟩ := zob h
    obtain ⟨x5, hx, h⟩ := zob h
    refine z_callV (ci := 12) (T := TX12) (N := 50) (rest := []) B hS (mX12_whyWalk l G hx) zy_X12_whyWalk zk_1711 (by decide) hc rfl rfl hl rfl (Nat.le_of_ble_eq_true rfl) dX12_drawLooker_57 (kk := (fun H locs hS => ?_))
    refine lv_if_ne (tgt := 88) he hb dX12_drawLooker_60 (by decide) (fun hc => ?_) (fun hc => ?_)
    · rw [if_neg hc] at h
      obtain rfl := Option.some.inj h
      exact z_vret B hS dX12_drawLooker_88
    · rw [if_pos hc] at h
      refine z_aload_n he hb dX12_drawLooker_63 rfl (lv_at hl 1 rfl) (zref_r _ _) ?_
      obtain ⟨x6, hx, h⟩ := zob h
      refine z_getR (ci := 12) (T := TX12) (N := 50) (j := 6) B hS hx rfl zin_X12 (by decide) zk_1353 dX12_drawLooker_64 ?_
      refine lv_sipush (v := (159 : Int32)) he hb dX12_drawLooker_67 (by decide) ?_
      refine lv_iload_n he hb dX12_drawLooker_70 rfl (lv_at hl 2 rfl) ?_
      refine lv_iadd he hb dX12_drawLooker_71 ?_
      refine z_aload_n he hb dX12_drawLooker_72 rfl (lv_at hl 1 rfl) (zref_r _ _) ?_
      refine z_aload_n he hb dX12_drawLooker_73 rfl (lv_at hl 1 rfl) (zref_r _ _) ?_
      obtain ⟨x7, hx, h⟩ := zob h
      refine z_getR (ci := 12) (T := TX12) (N := 50) (j := 6) B hS hx rfl zin_X12 (by decide) zk_1353 dX12_drawLooker_74 ?_
      refine lv_sipush (v := (159 : Int32)) he hb dX12_drawLooker_77 (by decide) ?_
      refine lv_iload_n he hb dX12_drawLooker_80 rfl (lv_at hl 2 rfl) ?_
      refine lv_iadd he hb dX12_drawLooker_81 ?_
      obtain ⟨x8, hx, h⟩ := zob h
      refine z_ildI B hS hx dX12_drawLooker_82 ?_
      refine lv_iload_n he hb dX12_drawLooker_83 rfl (lv_at hl 0 rfl) ?_
      obtain ⟨_, hc, h⟩ := zob h
      obtain ⟨x9, hx, h⟩ := zob h
      refine z_callV (ci := 12) (T := TX12) (N := 50) (rest := [_, _]) B hS (mX12_beside l G hx) zy_X12_beside zk_1659 (by decide) hc rfl rfl hl rfl (Nat.le_of_ble_eq_true rfl) dX12_drawLooker_84 (kk := (fun H locs hS => ?_))
      obtain ⟨f10, hx, h⟩ := zob h
      refine z_istI B hS hx dX12_drawLooker_87 (fun H locs hS => ?_)
      obtain rfl := Option.some.inj h
      exact z_vret B hS dX12_drawLooker_88
  · rw [if_neg hc] at h
    obtain rfl := Option.some.inj h
    exact z_vret B hS dX12_drawLooker_47
def fX12_drawLooker_23 (N n : Nat) (f : zF) (a0 : Nat) (a1 : Int32) (a2 : Int32) : Option zF :=
    (if a2 = (4 : Int32) then ((zgR n f 12 a0 6).bind fun x11 => ((zlI n f 0 x11 (140 : Int32)).bind fun x12 => ((zsI n f 0 x11 (140 : Int32) (x12 ^^^ (zishl (1 : Int32) a1))).bind fun f13 => (fX12_drawLooker_42 N n f13 a0 a1 a2)))) else (fX12_drawLooker_42 N n f a0 a1 a2))
set_option maxRecDepth 100000 in
set_option maxHeartbeats 4000000 in
theorem gX12_drawLooker_23 (l : Launch) {G : zG} {p : Program} {e : Env} {s : State} {m : MethodId} {args : Array Value} {below : List Frame} {meth : Method} {c : Code} {N n : Nat} {f9 : zF} (B : zB G p s m args meth c RX12 cX12_drawLooker 4 (none)) : ∀ (f : zF) (a0 : Nat) (a1 : Int32) (a2 : Int32) (H : Heap) (locs : List Loc) (ls : Array Slot), fX12_drawLooker_23 N n f a0 a1 a2 = some f9 → zS G n f H locs → lv_has ls 4 [(0, zr G a0), (1, .int a1), (2, .int a2)] → W p l e (zrm 4) s m args below meth c H locs 0 0 (MQ below (zQc G n f9 (none)) args s 0 0 (zA G)) (F0 m 23 ls []) := by
  have he := B.1
  have hb := B.2.1
  intro f a0 a1 a2 H locs ls h hS hl
  unfold fX12_drawLooker_23 at h
  refine lv_iload_n he hb dX12_drawLooker_23 rfl (lv_at hl 2 rfl) ?_
  refine lv_iconst (v := (4 : Int32)) he hb dX12_drawLooker_24 (by decide) ?_
  refine lv_icmp_ne (tgt := 42) he hb dX12_drawLooker_25 (by decide) (fun hc => ?_) (fun hc => ?_)
  · rw [if_neg hc] at h
    exact gX12_drawLooker_42 l B _ _ _ _ _ _ _ h hS (lv_sub hl [0, 1, 2] rfl)
  · rw [if_pos hc] at h
    refine z_aload_n he hb dX12_drawLooker_28 rfl (lv_at hl 0 rfl) (zref_r _ _) ?_
    obtain ⟨x11, hx, h⟩ := zob h
    refine z_getR (ci := 12) (T := TX12) (N := 50) (j := 6) B hS hx rfl zin_X12 (by decide) zk_1353 dX12_drawLooker_29 ?_
    refine lv_sipush (v := (140 : Int32)) he hb dX12_drawLooker_32 (by decide) ?_
    refine lv_dup2_11 he hb dX12_drawLooker_35 rfl rfl ?_
    obtain ⟨x12, hx, h⟩ := zob h
    refine z_ildI B hS hx dX12_drawLooker_36 ?_
    refine lv_iconst (v := (1 : Int32)) he hb dX12_drawLooker_37 (by decide) ?_
    refine lv_iload_n he hb dX12_drawLooker_38 rfl (lv_at hl 1 rfl) ?_
    refine z_ishl he hb dX12_drawLooker_39 ?_
    refine lv_ixor he hb dX12_drawLooker_40 ?_
    obtain ⟨f13, hx, h⟩ := zob h
    refine z_istI B hS hx dX12_drawLooker_41 (fun H locs hS => ?_)
    exact gX12_drawLooker_42 l B _ _ _ _ _ _ _ h hS (lv_sub hl [0, 1, 2] rfl)
def fX12_drawLooker (N n : Nat) (f : zF) (a0 : Nat) (a1 : Int32) : Option zF :=
    ((zck n f 12 a0).bind fun _ => (zbd (fX12_draw N n f a0 (8 : Int32)) fun f2 x1 => (if (4 : Int32) ≤ x1 then (fX12_drawLooker_23 N n f2 a0 a1 x1) else ((zgR n f2 12 a0 6).bind fun x14 => ((zsI n f2 0 x14 ((164 : Int32) + a1) x1).bind fun f15 => (fX12_drawLooker_23 N n f15 a0 a1 x1))))))
set_option maxRecDepth 100000 in
set_option maxHeartbeats 4000000 in
theorem mX12_drawLooker (l : Launch) (G : zG) {N n : Nat} {f : zF} {f9 : zF} {a0 : Nat} {a1 : Int32} (h : fX12_drawLooker N n f a0 a1 = some f9) : zM l G yX12_drawLooker cX12_drawLooker 4 (none) 4 n f [zr G a0, .int a1] (none) f9 := by
  refine zM.of (by decide) (Nat.le_of_ble_eq_true rfl) ?_
  intro p e s m args below meth c locs ls B hS hl
  have he := B.1
  have hb := B.2.1
  have hl : lv_has ls 4 [(0, zr G a0), (1, .int a1)] := hl
  unfold fX12_drawLooker at h
  generalize s.heap = H at hS ⊢
  refine z_aload_n he hb dX12_drawLooker_0 rfl (lv_at hl 0 rfl) (zref_r _ _) ?_
  refine lv_bipush (v := (8 : Int32)) he hb dX12_drawLooker_1 (by decide) ?_
  obtain ⟨_, hc, h⟩ := zob h
  obtain ⟨f2, x1, hx, h⟩ := zbd_i h
  refine z_callV (ci := 12) (T := TX12) (N := 50) (rest := []) B hS (mX12_draw l G hx) zy_X12_draw zk_1900 (by decide) hc rfl rfl hl rfl (Nat.le_of_ble_eq_true rfl) dX12_drawLooker_3 (kk := (fun H locs hS => ?_))
  refine lv_istore_n (lv' := [(2, _), (0, _), (1, _)]) he hb dX12_drawLooker_6 rfl hl (by decide) rfl (fun ls hl => ?_)
  refine lv_iload_n he hb dX12_drawLooker_7 rfl (lv_at hl 0 rfl) ?_
  refine lv_iconst (v := (4 : Int32)) he hb dX12_drawLooker_8 (by decide) ?_
  refine lv_icmp_ge (tgt := 23) he hb dX12_drawLooker_9 (by decide) (fun hc => ?_) (fun hc => ?_)
  · rw [if_pos hc] at h
    exact gX12_drawLooker_23 l B _ _ _ _ _ _ _ h hS (lv_sub hl [1, 2, 0] rfl)
  · rw [if_neg hc] at h
    refine z_aload_n he hb dX12_drawLooker_12 rfl (lv_at hl 1 rfl) (zref_r _ _) ?_
    obtain ⟨x14, hx, h⟩ := zob h
    refine z_getR (ci := 12) (T := TX12) (N := 50) (j := 6) B hS hx rfl zin_X12 (by decide) zk_1353 dX12_drawLooker_13 ?_
    refine lv_sipush (v := (164 : Int32)) he hb dX12_drawLooker_16 (by decide) ?_
    refine lv_iload_n he hb dX12_drawLooker_19 rfl (lv_at hl 2 rfl) ?_
    refine lv_iadd he hb dX12_drawLooker_20 ?_
    refine lv_iload_n he hb dX12_drawLooker_21 rfl (lv_at hl 0 rfl) ?_
    obtain ⟨f15, hx, h⟩ := zob h
    refine z_istI B hS hx dX12_drawLooker_22 (fun H locs hS => ?_)
    exact gX12_drawLooker_23 l B _ _ _ _ _ _ _ h hS (lv_sub hl [1, 2, 0] rfl)
theorem dX12_draws_0 : decode cX12_draws 0 = .ok (.aload_n 0, 1) := by decide +kernel
theorem dX12_draws_1 : decode cX12_draws 1 = .ok (.iload_n 2, 1) := by decide +kernel
theorem dX12_draws_2 : decode cX12_draws 2 = .ok (.putfield 427, 3) := by decide +kernel
theorem dX12_draws_5 : decode cX12_draws 5 = .ok (.iconst 0, 1) := by decide +kernel
theorem dX12_draws_6 : decode cX12_draws 6 = .ok (.istore_n 3, 1) := by decide +kernel
theorem dX12_draws_7 : decode cX12_draws 7 = .ok (.iload_n 3, 1) := by decide +kernel
theorem dX12_draws_8 : decode cX12_draws 8 = .ok (.iload_n 1, 1) := by decide +kernel
theorem dX12_draws_9 : decode cX12_draws 9 = .ok (.if_icmp .ge 53, 3) := by decide +kernel
theorem dX12_draws_12 : decode cX12_draws 12 = .ok (.aload_n 0, 1) := by decide +kernel
theorem dX12_draws_13 : decode cX12_draws 13 = .ok (.getfield 33, 3) := by decide +kernel
theorem dX12_draws_16 : decode cX12_draws 16 = .ok (.sipush 139, 3) := by decide +kernel
theorem dX12_draws_19 : decode cX12_draws 19 = .ok (.iaload, 1) := by decide +kernel
theorem dX12_draws_20 : decode cX12_draws 20 = .ok (.sipush 1000, 3) := by decide +kernel
theorem dX12_draws_23 : decode cX12_draws 23 = .ok (.if_icmp .ge 39, 3) := by decide +kernel
theorem dX12_draws_26 : decode cX12_draws 26 = .ok (.iconst 0, 1) := by decide +kernel
theorem dX12_draws_27 : decode cX12_draws 27 = .ok (.istore 4, 2) := by decide +kernel
theorem dX12_draws_29 : decode cX12_draws 29 = .ok (.iload 4, 2) := by decide +kernel
theorem dX12_draws_31 : decode cX12_draws 31 = .ok (.aload_n 0, 1) := by decide +kernel
theorem dX12_draws_32 : decode cX12_draws 32 = .ok (.getfield 33, 3) := by decide +kernel
theorem dX12_draws_35 : decode cX12_draws 35 = .ok (.iconst 4, 1) := by decide +kernel
theorem dX12_draws_36 : decode cX12_draws 36 = .ok (.iaload, 1) := by decide +kernel
theorem dX12_draws_37 : decode cX12_draws 37 = .ok (.if_icmp .ge 15, 3) := by decide +kernel
theorem dX12_draws_40 : decode cX12_draws 40 = .ok (.aload_n 0, 1) := by decide +kernel
theorem dX12_draws_41 : decode cX12_draws 41 = .ok (.iload 4, 2) := by decide +kernel
theorem dX12_draws_43 : decode cX12_draws 43 = .ok (.invokevirtual 434, 3) := by decide +kernel
theorem dX12_draws_46 : decode cX12_draws 46 = .ok (.iinc 4 1, 3) := by decide +kernel
theorem dX12_draws_49 : decode cX12_draws 49 = .ok (.goto (-20), 3) := by decide +kernel
theorem dX12_draws_52 : decode cX12_draws 52 = .ok (.aload_n 0, 1) := by decide +kernel
theorem dX12_draws_53 : decode cX12_draws 53 = .ok (.invokevirtual 329, 3) := by decide +kernel
theorem dX12_draws_56 : decode cX12_draws 56 = .ok (.iinc 3 1, 3) := by decide +kernel
theorem dX12_draws_59 : decode cX12_draws 59 = .ok (.goto (-52), 3) := by decide +kernel
theorem dX12_draws_62 : decode cX12_draws 62 = .ok (.iload_n 3, 1) := by decide +kernel
theorem dX12_draws_63 : decode cX12_draws 63 = .ok (.ireturn, 1) := by decide +kernel
def fX12_draws_29 (r7 : zF → Nat → Int32 → Int32 → Option (zF × Int32)) (N n : Nat) : Nat → zF → Nat → Int32 → Int32 → Int32 → Option (zF × Int32)
  | 0, _, _, _, _, _ => none
  | k + 1, f, a0, a1, a3, a4 =>
    ((zgR n f 12 a0 6).bind fun x4 => ((zlI n f 0 x4 (4 : Int32)).bind fun x5 => (if x5 ≤ a4 then ((zck n f 12 a0).bind fun _ => ((fX12_hour N n f a0).bind fun f6 => (r7 f6 a0 a1 (a3 + 1)))) else ((zck n f 12 a0).bind fun _ => ((fX12_drawLooker N n f a0 a4).bind fun f7 => (fX12_draws_29 r7 N n k f7 a0 a1 a3 (a4 + 1)))))))
set_option maxRecDepth 100000 in
set_option maxHeartbeats 4000000 in
theorem gX12_draws_29 (l : Launch) {G : zG} {p : Program} {e : Env} {s : State} {m : MethodId} {args : Array Value} {below : List Frame} {meth : Method} {c : Code} {N n : Nat} {f9 : zF} {r : Int32} {r7 : zF → Nat → Int32 → Int32 → Option (zF × Int32)} (B : zB G p s m args meth c RX12 cX12_draws 5 (some .int)) (hr7 : ∀ (f : zF) (a0 : Nat) (a1 : Int32) (a3 : Int32) (H : Heap) (locs : List Loc) (ls : Array Slot), r7 f a0 a1 a3 = some (f9, r) → zS G n f H locs → lv_has ls 5 [(0, zr G a0), (1, .int a1), (3, .int a3)] → W p l e (zrm 7) s m args below meth c H locs 0 0 (MQ below (zQc G n f9 (some (.int r))) args s 0 0 (zA G)) (F0 m 7 ls [])) : ∀ (k : Nat), ∀ (f : zF) (a0 : Nat) (a1 : Int32) (a3 : Int32) (a4 : Int32) (H : Heap) (locs : List Loc) (ls : Array Slot), fX12_draws_29 r7 N n k f a0 a1 a3 a4 = some (f9, r) → zS G n f H locs → lv_has ls 5 [(0, zr G a0), (1, .int a1), (3, .int a3), (4, .int a4)] → W p l e (zrm 7) s m args below meth c H locs 0 0 (MQ below (zQc G n f9 (some (.int r))) args s 0 0 (zA G)) (F0 m 29 ls []) := by
  have he := B.1
  have hb := B.2.1
  intro k
  induction k with
  | zero =>
    intro f a0 a1 a3 a4 H locs ls h
    unfold fX12_draws_29 at h
    cases h
  | succ k ih =>
    intro f a0 a1 a3 a4 H locs ls h hS hl
    unfold fX12_draws_29 at h
    refine lv_iload he hb dX12_draws_29 (lv_at hl 3 rfl) ?_
    refine z_aload_n he hb dX12_draws_31 rfl (lv_at hl 0 rfl) (zref_r _ _) ?_
    obtain ⟨x4, hx, h⟩ := zob h
    refine z_getR (ci := 12) (T := TX12) (N := 50) (j := 6) B hS hx rfl zin_X12 (by decide) zk_1353 dX12_draws_32 ?_
    refine lv_iconst (v := (4 : Int32)) he hb dX12_draws_35 (by decide) ?_
    obtain ⟨x5, hx, h⟩ := zob h
    refine z_ildI B hS hx dX12_draws_36 ?_
    refine lv_icmp_ge (tgt := 52) he hb dX12_draws_37 (by decide) (fun hc => ?_) (fun hc => ?_)
    · rw [if_pos hc] at h
      refine z_aload_n he hb dX12_draws_52 rfl (lv_at hl 0 rfl) (zref_r _ _) ?_
      obtain ⟨_, hc, h⟩ := zob h
      obtain ⟨f6, hx, h⟩ := zob h
      refine z_callV (ci := 12) (T := TX12) (N := 50) (rest := []) B hS (mX12_hour l G hx) zy_X12_hour zk_1743 (by decide) hc rfl rfl hl rfl (Nat.le_of_ble_eq_true rfl) dX12_draws_53 (kk := (fun H locs hS => ?_))
      refine lv_iinc (v := (a3 + 1)) (lv' := [(3, _), (0, _), (1, _), (4, _)]) he hb dX12_draws_56 hl (k := 2) rfl rfl (by decide) rfl (fun ls hl => ?_)
      refine lv_goto (tgt := 7) he hb dX12_draws_59 (by decide) ?_
      exact hr7 _ _ _ _ _ _ _ h hS (lv_sub hl [1, 2, 0] rfl)
    · rw [if_neg hc] at h
      refine z_aload_n he hb dX12_draws_40 rfl (lv_at hl 0 rfl) (zref_r _ _) ?_
      refine lv_iload he hb dX12_draws_41 (lv_at hl 3 rfl) ?_
      obtain ⟨_, hc, h⟩ := zob h
      obtain ⟨f7, hx, h⟩ := zob h
      refine z_callV (ci := 12) (T := TX12) (N := 50) (rest := []) B hS (mX12_drawLooker l G hx) zy_X12_drawLooker zk_1896 (by decide) hc rfl rfl hl rfl (Nat.le_of_ble_eq_true rfl) dX12_draws_43 (kk := (fun H locs hS => ?_))
      refine lv_iinc (v := (a4 + 1)) (lv' := [(4, _), (0, _), (1, _), (3, _)]) he hb dX12_draws_46 hl (k := 3) rfl rfl (by decide) rfl (fun ls hl => ?_)
      refine lv_goto (tgt := 29) he hb dX12_draws_49 (by decide) ?_
      exact ih _ _ _ _ _ _ _ _ h hS (lv_sub hl [1, 2, 3, 0] rfl)
def fX12_draws_7 (N n : Nat) : Nat → zF → Nat → Int32 → Int32 → Option (zF × Int32)
  | 0, _, _, _, _ => none
  | k + 1, f, a0, a1, a3 =>
    (if a1 ≤ a3 then some (f, a3) else ((zgR n f 12 a0 6).bind fun x2 => ((zlI n f 0 x2 (139 : Int32)).bind fun x3 => (if (1000 : Int32) ≤ x3 then some (f, a3) else (fX12_draws_29 (fX12_draws_7 N n k) N n N f a0 a1 a3 (0 : Int32))))))
set_option maxRecDepth 100000 in
set_option maxHeartbeats 4000000 in
theorem gX12_draws_7 (l : Launch) {G : zG} {p : Program} {e : Env} {s : State} {m : MethodId} {args : Array Value} {below : List Frame} {meth : Method} {c : Code} {N n : Nat} {f9 : zF} {r : Int32} (B : zB G p s m args meth c RX12 cX12_draws 5 (some .int)) : ∀ (k : Nat), ∀ (f : zF) (a0 : Nat) (a1 : Int32) (a3 : Int32) (H : Heap) (locs : List Loc) (ls : Array Slot), fX12_draws_7 N n k f a0 a1 a3 = some (f9, r) → zS G n f H locs → lv_has ls 5 [(0, zr G a0), (1, .int a1), (3, .int a3)] → W p l e (zrm 7) s m args below meth c H locs 0 0 (MQ below (zQc G n f9 (some (.int r))) args s 0 0 (zA G)) (F0 m 7 ls []) := by
  have he := B.1
  have hb := B.2.1
  intro k
  induction k with
  | zero =>
    intro f a0 a1 a3 H locs ls h
    unfold fX12_draws_7 at h
    cases h
  | succ k ih =>
    intro f a0 a1 a3 H locs ls h hS hl
    unfold fX12_draws_7 at h
    refine lv_iload_n he hb dX12_draws_7 rfl (lv_at hl 2 rfl) ?_
    refine lv_iload_n he hb dX12_draws_8 rfl (lv_at hl 1 rfl) ?_
    refine lv_icmp_ge (tgt := 62) he hb dX12_draws_9 (by decide) (fun hc => ?_) (fun hc => ?_)
    · rw [if_pos hc] at h
      refine lv_iload_n he hb dX12_draws_62 rfl (lv_at hl 2 rfl) ?_
      obtain ⟨rfl, rfl⟩ := Prod.mk.inj (Option.some.inj h)
      exact z_iret B hS dX12_draws_63
    · rw [if_neg hc] at h
      refine z_aload_n he hb dX12_draws_12 rfl (lv_at hl 0 rfl) (zref_r _ _) ?_
      obtain ⟨x2, hx, h⟩ := zob h
      refine z_getR (ci := 12) (T := TX12) (N := 50) (j := 6) B hS hx rfl zin_X12 (by decide) zk_1353 dX12_draws_13 ?_
      refine lv_sipush (v := (139 : Int32)) he hb dX12_draws_16 (by decide) ?_
      obtain ⟨x3, hx, h⟩ := zob h
      refine z_ildI B hS hx dX12_draws_19 ?_
      refine lv_sipush (v := (1000 : Int32)) he hb dX12_draws_20 (by decide) ?_
      refine lv_icmp_ge (tgt := 62) he hb dX12_draws_23 (by decide) (fun hc => ?_) (fun hc => ?_)
      · rw [if_pos hc] at h
        refine lv_iload_n he hb dX12_draws_62 rfl (lv_at hl 2 rfl) ?_
        obtain ⟨rfl, rfl⟩ := Prod.mk.inj (Option.some.inj h)
        exact z_iret B hS dX12_draws_63
      · rw [if_neg hc] at h
        refine lv_iconst (v := (0 : Int32)) he hb dX12_draws_26 (by decide) ?_
        refine lv_istore (lv' := [(4, _), (0, _), (1, _), (3, _)]) he hb dX12_draws_27 hl (by decide) rfl (fun ls hl => ?_)
        exact gX12_draws_29 l B ih N _ _ _ _ _ _ _ _ h hS (lv_sub hl [1, 2, 3, 0] rfl)
def fX12_draws (N n : Nat) (f : zF) (a0 : Nat) (a1 : Int32) (a2 : Int32) : Option (zF × Int32) :=
    ((zpI n f 12 a0 36 a2).bind fun f1 => (fX12_draws_7 N n N f1 a0 a1 (0 : Int32)))
set_option maxRecDepth 100000 in
set_option maxHeartbeats 4000000 in
theorem mX12_draws (l : Launch) (G : zG) {N n : Nat} {f : zF} {f9 : zF} {r : Int32} {a0 : Nat} {a1 : Int32} {a2 : Int32} (h : fX12_draws N n f a0 a1 a2 = some (f9, r)) : zM l G yX12_draws cX12_draws 5 (some .int) 7 n f [zr G a0, .int a1, .int a2] (some (.int r)) f9 := by
  refine zM.of (by decide) (Nat.le_of_ble_eq_true rfl) ?_
  intro p e s m args below meth c locs ls B hS hl
  have he := B.1
  have hb := B.2.1
  have hl : lv_has ls 5 [(0, zr G a0), (1, .int a1), (2, .int a2)] := hl
  unfold fX12_draws at h
  generalize s.heap = H at hS ⊢
  refine z_aload_n he hb dX12_draws_0 rfl (lv_at hl 0 rfl) (zref_r _ _) ?_
  refine lv_iload_n he hb dX12_draws_1 rfl (lv_at hl 2 rfl) ?_
  obtain ⟨f1, hx, h⟩ := zob h
  refine z_putI (ci := 12) (T := TX12) (N := 50) (j := 36) B hS hx rfl zin_X12 tyX12 tyX12_ok nmX12 (by decide) zk_1383 rfl rfl dX12_draws_2 (fun H locs hS => ?_)
  refine lv_iconst (v := (0 : Int32)) he hb dX12_draws_5 (by decide) ?_
  refine lv_istore_n (lv' := [(3, _), (0, _), (1, _), (2, _)]) he hb dX12_draws_6 rfl hl (by decide) rfl (fun ls hl => ?_)
  exact gX12_draws_7 l B N _ _ _ _ _ _ _ h hS (lv_sub hl [1, 2, 0] rfl)
theorem dX12_drawn_0 : decode cX12_drawn 0 = .ok (.aload_n 0, 1) := by decide +kernel
theorem dX12_drawn_1 : decode cX12_drawn 1 = .ok (.iconst 0, 1) := by decide +kernel
theorem dX12_drawn_2 : decode cX12_drawn 2 = .ok (.putfield 1, 3) := by decide +kernel
theorem dX12_drawn_5 : decode cX12_drawn 5 = .ok (.iload_n 1, 1) := by decide +kernel
theorem dX12_drawn_6 : decode cX12_drawn 6 = .ok (.iconst 1, 1) := by decide +kernel
theorem dX12_drawn_7 : decode cX12_drawn 7 = .ok (.bipush 60, 2) := by decide +kernel
theorem dX12_drawn_9 : decode cX12_drawn 9 = .ok (.invokestatic 192, 3) := by decide +kernel
theorem dX12_drawn_12 : decode cX12_drawn 12 = .ok (.ifCond .ne 5, 3) := by decide +kernel
theorem dX12_drawn_15 : decode cX12_drawn 15 = .ok (.iconst (-1), 1) := by decide +kernel
theorem dX12_drawn_16 : decode cX12_drawn 16 = .ok (.ireturn, 1) := by decide +kernel
theorem dX12_drawn_17 : decode cX12_drawn 17 = .ok (.aload_n 0, 1) := by decide +kernel
theorem dX12_drawn_18 : decode cX12_drawn 18 = .ok (.getfield 33, 3) := by decide +kernel
theorem dX12_drawn_21 : decode cX12_drawn 21 = .ok (.sipush 139, 3) := by decide +kernel
theorem dX12_drawn_24 : decode cX12_drawn 24 = .ok (.iaload, 1) := by decide +kernel
theorem dX12_drawn_25 : decode cX12_drawn 25 = .ok (.sipush 1000, 3) := by decide +kernel
theorem dX12_drawn_28 : decode cX12_drawn 28 = .ok (.if_icmp .ge 7, 3) := by decide +kernel
theorem dX12_drawn_31 : decode cX12_drawn 31 = .ok (.aload_n 0, 1) := by decide +kernel
theorem dX12_drawn_32 : decode cX12_drawn 32 = .ok (.invokevirtual 332, 3) := by decide +kernel
theorem dX12_drawn_35 : decode cX12_drawn 35 = .ok (.aload_n 0, 1) := by decide +kernel
theorem dX12_drawn_36 : decode cX12_drawn 36 = .ok (.iload_n 1, 1) := by decide +kernel
theorem dX12_drawn_37 : decode cX12_drawn 37 = .ok (.iload_n 2, 1) := by decide +kernel
theorem dX12_drawn_38 : decode cX12_drawn 38 = .ok (.invokevirtual 437, 3) := by decide +kernel
theorem dX12_drawn_41 : decode cX12_drawn 41 = .ok (.ireturn, 1) := by decide +kernel
def fX12_drawn_35 (N n : Nat) (f : zF) (a0 : Nat) (a1 : Int32) (a2 : Int32) : Option (zF × Int32) :=
    ((zck n f 12 a0).bind fun _ => (zbd (fX12_draws N n f a0 a1 a2) fun f6 x5 => some (f6, x5)))
set_option maxRecDepth 100000 in
set_option maxHeartbeats 4000000 in
theorem gX12_drawn_35 (l : Launch) {G : zG} {p : Program} {e : Env} {s : State} {m : MethodId} {args : Array Value} {below : List Frame} {meth : Method} {c : Code} {N n : Nat} {f9 : zF} {r : Int32} (B : zB G p s m args meth c RX12 cX12_drawn 3 (some .int)) : ∀ (f : zF) (a0 : Nat) (a1 : Int32) (a2 : Int32) (H : Heap) (locs : List Loc) (ls : Array Slot), fX12_drawn_35 N n f a0 a1 a2 = some (f9, r) → zS G n f H locs → lv_has ls 3 [(0, zr G a0), (1, .int a1), (2, .int a2)] → W p l e (zrm 8) s m args below meth c H locs 0 0 (MQ below (zQc G n f9 (some (.int r))) args s 0 0 (zA G)) (F0 m 35 ls []) := by
  have he := B.1
  have hb := B.2.1
  intro f a0 a1 a2 H locs ls h hS hl
  unfold fX12_drawn_35 at h
  refine z_aload_n he hb dX12_drawn_35 rfl (lv_at hl 0 rfl) (zref_r _ _) ?_
  refine lv_iload_n he hb dX12_drawn_36 rfl (lv_at hl 1 rfl) ?_
  refine lv_iload_n he hb dX12_drawn_37 rfl (lv_at hl 2 rfl) ?_
  obtain ⟨_, hc, h⟩ := zob h
  obtain ⟨f6, x5, hx, h⟩ := zbd_i h
  refine z_callV (ci := 12) (T := TX12) (N := 50) (rest := []) B hS (mX12_draws l G hx) zy_X12_draws zk_1892 (by decide) hc rfl rfl hl rfl (Nat.le_of_ble_eq_true rfl) dX12_drawn_38 (kk := (fun H locs hS => ?_))
  obtain ⟨rfl, rfl⟩ := Prod.mk.inj (Option.some.inj h)
  exact z_iret B hS dX12_drawn_41
def fX12_drawn (N n : Nat) (f : zF) (a0 : Nat) (a1 : Int32) (a2 : Int32) : Option (zF × Int32) :=
    ((zpI n f 12 a0 0 (0 : Int32)).bind fun f1 => ((fX12_isIn N n f1 a1 (1 : Int32) (60 : Int32)).bind fun x2 => (if x2 = 0 then some (f1, (-1 : Int32)) else ((zgR n f1 12 a0 6).bind fun x3 => ((zlI n f1 0 x3 (139 : Int32)).bind fun x4 => (if (1000 : Int32) ≤ x4 then (fX12_drawn_35 N n f1 a0 a1 a2) else ((zck n f1 12 a0).bind fun _ => ((fX12_keep N n f1 a0).bind fun f7 => (fX12_drawn_35 N n f7 a0 a1 a2)))))))))
set_option maxRecDepth 100000 in
set_option maxHeartbeats 4000000 in
theorem mX12_drawn (l : Launch) (G : zG) {N n : Nat} {f : zF} {f9 : zF} {r : Int32} {a0 : Nat} {a1 : Int32} {a2 : Int32} (h : fX12_drawn N n f a0 a1 a2 = some (f9, r)) : zM l G yX12_drawn cX12_drawn 3 (some .int) 8 n f [zr G a0, .int a1, .int a2] (some (.int r)) f9 := by
  refine zM.of (by decide) (Nat.le_of_ble_eq_true rfl) ?_
  intro p e s m args below meth c locs ls B hS hl
  have he := B.1
  have hb := B.2.1
  have hl : lv_has ls 3 [(0, zr G a0), (1, .int a1), (2, .int a2)] := hl
  unfold fX12_drawn at h
  generalize s.heap = H at hS ⊢
  refine z_aload_n he hb dX12_drawn_0 rfl (lv_at hl 0 rfl) (zref_r _ _) ?_
  refine lv_iconst (v := (0 : Int32)) he hb dX12_drawn_1 (by decide) ?_
  obtain ⟨f1, hx, h⟩ := zob h
  refine z_putI (ci := 12) (T := TX12) (N := 50) (j := 0) B hS hx rfl zin_X12 tyX12 tyX12_ok nmX12 (by decide) zk_1347 rfl rfl dX12_drawn_2 (fun H locs hS => ?_)
  refine lv_iload_n he hb dX12_drawn_5 rfl (lv_at hl 1 rfl) ?_
  refine lv_iconst (v := (1 : Int32)) he hb dX12_drawn_6 (by decide) ?_
  refine lv_bipush (v := (60 : Int32)) he hb dX12_drawn_7 (by decide) ?_
  obtain ⟨x2, hx, h⟩ := zob h
  refine z_callS (rest := []) B hS (mX12_isIn l G hx) zy_X12_isIn zk_1545 (by decide) rfl hl rfl (Nat.le_of_ble_eq_true rfl) dX12_drawn_9 (kk := (fun H locs hS => ?_))
  refine lv_if_ne (tgt := 17) he hb dX12_drawn_12 (by decide) (fun hc => ?_) (fun hc => ?_)
  · rw [if_neg hc] at h
    refine z_aload_n he hb dX12_drawn_17 rfl (lv_at hl 0 rfl) (zref_r _ _) ?_
    obtain ⟨x3, hx, h⟩ := zob h
    refine z_getR (ci := 12) (T := TX12) (N := 50) (j := 6) B hS hx rfl zin_X12 (by decide) zk_1353 dX12_drawn_18 ?_
    refine lv_sipush (v := (139 : Int32)) he hb dX12_drawn_21 (by decide) ?_
    obtain ⟨x4, hx, h⟩ := zob h
    refine z_ildI B hS hx dX12_drawn_24 ?_
    refine lv_sipush (v := (1000 : Int32)) he hb dX12_drawn_25 (by decide) ?_
    refine lv_icmp_ge (tgt := 35) he hb dX12_drawn_28 (by decide) (fun hc => ?_) (fun hc => ?_)
    · rw [if_pos hc] at h
      exact gX12_drawn_35 l B _ _ _ _ _ _ _ h hS (lv_sub hl [0, 1, 2] rfl)
    · rw [if_neg hc] at h
      refine z_aload_n he hb dX12_drawn_31 rfl (lv_at hl 0 rfl) (zref_r _ _) ?_
      obtain ⟨_, hc, h⟩ := zob h
      obtain ⟨f7, hx, h⟩ := zob h
      refine z_callV (ci := 12) (T := TX12) (N := 50) (rest := []) B hS (mX12_keep l G hx) zy_X12_keep zk_1703 (by decide) hc rfl rfl hl rfl (Nat.le_of_ble_eq_true rfl) dX12_drawn_32 (kk := (fun H locs hS => ?_))
      exact gX12_drawn_35 l B _ _ _ _ _ _ _ h hS (lv_sub hl [0, 1, 2] rfl)
  · rw [if_pos hc] at h
    refine lv_iconst (v := (-1 : Int32)) he hb dX12_drawn_15 (by decide) ?_
    obtain ⟨rfl, rfl⟩ := Prod.mk.inj (Option.some.inj h)
    exact z_iret B hS dX12_drawn_16
theorem dX12_odds_0 : decode cX12_odds 0 = .ok (.aload_n 0, 1) := by decide +kernel
theorem dX12_odds_1 : decode cX12_odds 1 = .ok (.iconst 0, 1) := by decide +kernel
theorem dX12_odds_2 : decode cX12_odds 2 = .ok (.putfield 1, 3) := by decide +kernel
theorem dX12_odds_5 : decode cX12_odds 5 = .ok (.aload_n 0, 1) := by decide +kernel
theorem dX12_odds_6 : decode cX12_odds 6 = .ok (.iload_n 1, 1) := by decide +kernel
theorem dX12_odds_7 : decode cX12_odds 7 = .ok (.invokevirtual 304, 3) := by decide +kernel
theorem dX12_odds_10 : decode cX12_odds 10 = .ok (.ifCond .eq 13, 3) := by decide +kernel
theorem dX12_odds_13 : decode cX12_odds 13 = .ok (.iload_n 2, 1) := by decide +kernel
theorem dX12_odds_14 : decode cX12_odds 14 = .ok (.iconst 1, 1) := by decide +kernel
theorem dX12_odds_15 : decode cX12_odds 15 = .ok (.bipush 30, 2) := by decide +kernel
theorem dX12_odds_17 : decode cX12_odds 17 = .ok (.invokestatic 192, 3) := by decide +kernel
theorem dX12_odds_20 : decode cX12_odds 20 = .ok (.ifCond .ne 5, 3) := by decide +kernel
theorem dX12_odds_23 : decode cX12_odds 23 = .ok (.iconst (-1), 1) := by decide +kernel
theorem dX12_odds_24 : decode cX12_odds 24 = .ok (.ireturn, 1) := by decide +kernel
theorem dX12_odds_25 : decode cX12_odds 25 = .ok (.aload_n 0, 1) := by decide +kernel
theorem dX12_odds_26 : decode cX12_odds 26 = .ok (.invokevirtual 348, 3) := by decide +kernel
theorem dX12_odds_29 : decode cX12_odds 29 = .ok (.aload_n 0, 1) := by decide +kernel
theorem dX12_odds_30 : decode cX12_odds 30 = .ok (.getfield 33, 3) := by decide +kernel
theorem dX12_odds_33 : decode cX12_odds 33 = .ok (.sipush 153, 3) := by decide +kernel
theorem dX12_odds_36 : decode cX12_odds 36 = .ok (.iload_n 1, 1) := by decide +kernel
theorem dX12_odds_37 : decode cX12_odds 37 = .ok (.iadd, 1) := by decide +kernel
theorem dX12_odds_38 : decode cX12_odds 38 = .ok (.iaload, 1) := by decide +kernel
theorem dX12_odds_39 : decode cX12_odds 39 = .ok (.istore 4, 2) := by decide +kernel
theorem dX12_odds_41 : decode cX12_odds 41 = .ok (.iconst 0, 1) := by decide +kernel
theorem dX12_odds_42 : decode cX12_odds 42 = .ok (.istore 5, 2) := by decide +kernel
theorem dX12_odds_44 : decode cX12_odds 44 = .ok (.iconst 0, 1) := by decide +kernel
theorem dX12_odds_45 : decode cX12_odds 45 = .ok (.istore 6, 2) := by decide +kernel
theorem dX12_odds_47 : decode cX12_odds 47 = .ok (.iload 6, 2) := by decide +kernel
theorem dX12_odds_49 : decode cX12_odds 49 = .ok (.iload_n 2, 1) := by decide +kernel
theorem dX12_odds_50 : decode cX12_odds 50 = .ok (.if_icmp .ge 49, 3) := by decide +kernel
theorem dX12_odds_53 : decode cX12_odds 53 = .ok (.aload_n 0, 1) := by decide +kernel
theorem dX12_odds_54 : decode cX12_odds 54 = .ok (.bipush 20, 2) := by decide +kernel
theorem dX12_odds_56 : decode cX12_odds 56 = .ok (.iload_n 3, 1) := by decide +kernel
theorem dX12_odds_57 : decode cX12_odds 57 = .ok (.iload 6, 2) := by decide +kernel
theorem dX12_odds_59 : decode cX12_odds 59 = .ok (.iadd, 1) := by decide +kernel
theorem dX12_odds_60 : decode cX12_odds 60 = .ok (.invokevirtual 437, 3) := by decide +kernel
theorem dX12_odds_63 : decode cX12_odds 63 = .ok (.pop, 1) := by decide +kernel
theorem dX12_odds_64 : decode cX12_odds 64 = .ok (.iload 5, 2) := by decide +kernel
theorem dX12_odds_66 : decode cX12_odds 66 = .ok (.aload_n 0, 1) := by decide +kernel
theorem dX12_odds_67 : decode cX12_odds 67 = .ok (.getfield 33, 3) := by decide +kernel
theorem dX12_odds_70 : decode cX12_odds 70 = .ok (.sipush 153, 3) := by decide +kernel
theorem dX12_odds_73 : decode cX12_odds 73 = .ok (.iload_n 1, 1) := by decide +kernel
theorem dX12_odds_74 : decode cX12_odds 74 = .ok (.iadd, 1) := by decide +kernel
theorem dX12_odds_75 : decode cX12_odds 75 = .ok (.iaload, 1) := by decide +kernel
theorem dX12_odds_76 : decode cX12_odds 76 = .ok (.iload 4, 2) := by decide +kernel
theorem dX12_odds_78 : decode cX12_odds 78 = .ok (.if_icmp .le 7, 3) := by decide +kernel
theorem dX12_odds_81 : decode cX12_odds 81 = .ok (.iconst 1, 1) := by decide +kernel
theorem dX12_odds_82 : decode cX12_odds 82 = .ok (.goto 4, 3) := by decide +kernel
theorem dX12_odds_85 : decode cX12_odds 85 = .ok (.iconst 0, 1) := by decide +kernel
theorem dX12_odds_86 : decode cX12_odds 86 = .ok (.iadd, 1) := by decide +kernel
theorem dX12_odds_87 : decode cX12_odds 87 = .ok (.istore 5, 2) := by decide +kernel
theorem dX12_odds_89 : decode cX12_odds 89 = .ok (.aload_n 0, 1) := by decide +kernel
theorem dX12_odds_90 : decode cX12_odds 90 = .ok (.invokevirtual 351, 3) := by decide +kernel
theorem dX12_odds_93 : decode cX12_odds 93 = .ok (.iinc 6 1, 3) := by decide +kernel
theorem dX12_odds_96 : decode cX12_odds 96 = .ok (.goto (-49), 3) := by decide +kernel
theorem dX12_odds_99 : decode cX12_odds 99 = .ok (.iload 5, 2) := by decide +kernel
theorem dX12_odds_101 : decode cX12_odds 101 = .ok (.ireturn, 1) := by decide +kernel
def fX12_odds_86 (r47 : zF → Nat → Int32 → Int32 → Int32 → Int32 → Int32 → Int32 → Option (zF × Int32)) (N n : Nat) (f : zF) (a0 : Nat) (a1 : Int32) (a2 : Int32) (a3 : Int32) (a4 : Int32) (a6 : Int32) (t0 : Int32) (t1 : Int32) : Option (zF × Int32) :=
    ((zck n f 12 a0).bind fun _ => ((fX12_back N n f a0).bind fun f11 => (r47 f11 a0 a1 a2 a3 a4 (t0 + t1) (a6 + 1))))
set_option maxRecDepth 100000 in
set_option maxHeartbeats 4000000 in
theorem gX12_odds_86 (l : Launch) {G : zG} {p : Program} {e : Env} {s : State} {m : MethodId} {args : Array Value} {below : List Frame} {meth : Method} {c : Code} {N n : Nat} {f9 : zF} {r : Int32} {r47 : zF → Nat → Int32 → Int32 → Int32 → Int32 → Int32 → Int32 → Option (zF × Int32)} (B : zB G p s m args meth c RX12 cX12_odds 7 (some .int)) (hr47 : ∀ (f : zF) (a0 : Nat) (a1 : Int32) (a2 : Int32) (a3 : Int32) (a4 : Int32) (a5 : Int32) (a6 : Int32) (H : Heap) (locs : List Loc) (ls : Array Slot), r47 f a0 a1 a2 a3 a4 a5 a6 = some (f9, r) → zS G n f H locs → lv_has ls 7 [(0, zr G a0), (1, .int a1), (2, .int a2), (3, .int a3), (4, .int a4), (5, .int a5), (6, .int a6)] → W p l e (zrm 8) s m args below meth c H locs 0 0 (MQ below (zQc G n f9 (some (.int r))) args s 0 0 (zA G)) (F0 m 47 ls [])) : ∀ (f : zF) (a0 : Nat) (a1 : Int32) (a2 : Int32) (a3 : Int32) (a4 : Int32) (a6 : Int32) (t0 : Int32) (t1 : Int32) (H : Heap) (locs : List Loc) (ls : Array Slot), fX12_odds_86 r47 N n f a0 a1 a2 a3 a4 a6 t0 t1 = some (f9, r) → zS G n f H locs → lv_has ls 7 [(0, zr G a0), (1, .int a1), (2, .int a2), (3, .int a3), (4, .int a4), (6, .int a6)] → W p l e (zrm 8) s m args below meth c H locs 0 0 (MQ below (zQc G n f9 (some (.int r))) args s 0 0 (zA G)) (F0 m 86 ls [.int t1, .int t0]) := by
  have he := B.1
  have hb := B.2.1
  intro f a0 a1 a2 a3 a4 a6 t0 t1 H locs ls h hS hl
  unfold fX12_odds_86 at h
  refine lv_iadd he hb dX12_odds_86 ?_
  refine lv_istore (lv' := [(5, _), (0, _), (1, _), (2, _), (3, _), (4, _), (6, _)]) he hb dX12_odds_87 hl (by decide) rfl (fun ls hl => ?_)
  refine z_aload_n he hb dX12_odds_89 rfl (lv_at hl 1 rfl) (zref_r _ _) ?_
  obtain ⟨_, hc, h⟩ := zob h
  obtain ⟨f11, hx, h⟩ := zob h
  refine z_callV (ci := 12) (T := TX12) (N := 50) (rest := []) B hS (mX12_back l G hx) zy_X12_back zk_1763 (by decide) hc rfl rfl hl rfl (Nat.le_of_ble_eq_true rfl) dX12_odds_90 (kk := (fun H locs hS => ?_))
  refine lv_iinc (v := (a6 + 1)) (lv' := [(6, _), (5, _), (0, _), (1, _), (2, _), (3, _), (4, _)]) he hb dX12_odds_93 hl (k := 6) rfl rfl (by decide) rfl (fun ls hl => ?_)
  refine lv_goto (tgt := 47) he hb dX12_odds_96 (by decide) ?_
  exact hr47 _ _ _ _ _ _ _ _ _ _ _ h hS (lv_sub hl [2, 3, 4, 5, 6, 1, 0] rfl)
def fX12_odds_47 (N n : Nat) : Nat → zF → Nat → Int32 → Int32 → Int32 → Int32 → Int32 → Int32 → Option (zF × Int32)
  | 0, _, _, _, _, _, _, _, _ => none
  | k + 1, f, a0, a1, a2, a3, a4, a5, a6 =>
    (if a2 ≤ a6 then some (f, a5) else ((zck n f 12 a0).bind fun _ => (zbd (fX12_draws N n f a0 (20 : Int32) (a3 + a6)) fun f8 x7 => ((zgR n f8 12 a0 6).bind fun x9 => ((zlI n f8 0 x9 ((153 : Int32) + a1)).bind fun x10 => (if x10 ≤ a4 then (fX12_odds_86 (fX12_odds_47 N n k) N n f8 a0 a1 a2 a3 a4 a6 a5 (0 : Int32)) else (fX12_odds_86 (fX12_odds_47 N n k) N n f8 a0 a1 a2 a3 a4 a6 a5 (1 : Int32))))))))
set_option maxRecDepth 100000 in
set_option maxHeartbeats 4000000 in
theorem gX12_odds_47 (l : Launch) {G : zG} {p : Program} {e : Env} {s : State} {m : MethodId} {args : Array Value} {below : List Frame} {meth : Method} {c : Code} {N n : Nat} {f9 : zF} {r : Int32} (B : zB G p s m args meth c RX12 cX12_odds 7 (some .int)) : ∀ (k : Nat), ∀ (f : zF) (a0 : Nat) (a1 : Int32) (a2 : Int32) (a3 : Int32) (a4 : Int32) (a5 : Int32) (a6 : Int32) (H : Heap) (locs : List Loc) (ls : Array Slot), fX12_odds_47 N n k f a0 a1 a2 a3 a4 a5 a6 = some (f9, r) → zS G n f H locs → lv_has ls 7 [(0, zr G a0), (1, .int a1), (2, .int a2), (3, .int a3), (4, .int a4), (5, .int a5), (6, .int a6)] → W p l e (zrm 8) s m args below meth c H locs 0 0 (MQ below (zQc G n f9 (some (.int r))) args s 0 0 (zA G)) (F0 m 47 ls []) := by
  have he := B.1
  have hb := B.2.1
  intro k
  induction k with
  | zero =>
    intro f a0 a1 a2 a3 a4 a5 a6 H locs ls h
    unfold fX12_odds_47 at h
    cases h
  | succ k ih =>
    intro f a0 a1 a2 a3 a4 a5 a6 H locs ls h hS hl
    unfold fX12_odds_47 at h
    refine lv_iload he hb dX12_odds_47 (lv_at hl 6 rfl) ?_
    refine lv_iload_n he hb dX12_odds_49 rfl (lv_at hl 2 rfl) ?_
    refine lv_icmp_ge (tgt := 99) he hb dX12_odds_50 (by decide) (fun hc => ?_) (fun hc => ?_)
    · rw [if_pos hc] at h
      refine lv_iload he hb dX12_odds_99 (lv_at hl 5 rfl) ?_
      obtain ⟨rfl, rfl⟩ := Prod.mk.inj (Option.some.inj h)
      exact z_iret B hS dX12_odds_101
    · rw [if_neg hc] at h
      refine z_aload_n he hb dX12_odds_53 rfl (lv_at hl 0 rfl) (zref_r _ _) ?_
      refine lv_bipush (v := (20 : Int32)) he hb dX12_odds_54 (by decide) ?_
      refine lv_iload_n he hb dX12_odds_56 rfl (lv_at hl 3 rfl) ?_
      refine lv_iload he hb dX12_odds_57 (lv_at hl 6 rfl) ?_
      refine lv_iadd he hb dX12_odds_59 ?_
      obtain ⟨_, hc, h⟩ := zob h
      obtain ⟨f8, x7, hx, h⟩ := zbd_i h
      refine z_callV (ci := 12) (T := TX12) (N := 50) (rest := []) B hS (mX12_draws l G hx) zy_X12_draws zk_1892 (by decide) hc rfl rfl hl rfl (Nat.le_of_ble_eq_true rfl) dX12_odds_60 (kk := (fun H locs hS => ?_))
      refine lv_pop he hb dX12_odds_63 rfl ?_
      refine lv_iload he hb dX12_odds_64 (lv_at hl 5 rfl) ?_
      refine z_aload_n he hb dX12_odds_66 rfl (lv_at hl 0 rfl) (zref_r _ _) ?_
      obtain ⟨x9, hx, h⟩ := zob h
      refine z_getR (ci := 12) (T := TX12) (N := 50) (j := 6) B hS hx rfl zin_X12 (by decide) zk_1353 dX12_odds_67 ?_
      refine lv_sipush (v := (153 : Int32)) he hb dX12_odds_70 (by decide) ?_
      refine lv_iload_n he hb dX12_odds_73 rfl (lv_at hl 1 rfl) ?_
      refine lv_iadd he hb dX12_odds_74 ?_
      obtain ⟨x10, hx, h⟩ := zob h
      refine z_ildI B hS hx dX12_odds_75 ?_
      refine lv_iload he hb dX12_odds_76 (lv_at hl 4 rfl) ?_
      refine lv_icmp_le (tgt := 85) he hb dX12_odds_78 (by decide) (fun hc => ?_) (fun hc => ?_)
      · rw [if_pos hc] at h
        refine lv_iconst (v := (0 : Int32)) he hb dX12_odds_85 (by decide) ?_
        exact gX12_odds_86 l B ih _ _ _ _ _ _ _ _ _ _ _ _ h hS (lv_sub hl [0, 1, 2, 3, 4, 6] rfl)
      · rw [if_neg hc] at h
        refine lv_iconst (v := (1 : Int32)) he hb dX12_odds_81 (by decide) ?_
        refine lv_goto (tgt := 86) he hb dX12_odds_82 (by decide) ?_
        exact gX12_odds_86 l B ih _ _ _ _ _ _ _ _ _ _ _ _ h hS (lv_sub hl [0, 1, 2, 3, 4, 6] rfl)
def fX12_odds (N n : Nat) (f : zF) (a0 : Nat) (a1 : Int32) (a2 : Int32) (a3 : Int32) : Option (zF × Int32) :=
    ((zpI n f 12 a0 0 (0 : Int32)).bind fun f1 => ((zck n f1 12 a0).bind fun _ => ((fX12_isFigure N n f1 a0 a1).bind fun x2 => (if x2 = 0 then some (f1, (-1 : Int32)) else ((fX12_isIn N n f1 a2 (1 : Int32) (30 : Int32)).bind fun x3 => (if x3 = 0 then some (f1, (-1 : Int32)) else ((zck n f1 12 a0).bind fun _ => ((fX12_tries N n f1 a0).bind fun f4 => ((zgR n f4 12 a0 6).bind fun x5 => ((zlI n f4 0 x5 ((153 : Int32) + a1)).bind fun x6 => (fX12_odds_47 N n N f4 a0 a1 a2 a3 x6 (0 : Int32) (0 : Int32))))))))))))
set_option maxRecDepth 100000 in
set_option maxHeartbeats 4000000 in
theorem mX12_odds (l : Launch) (G : zG) {N n : Nat} {f : zF} {f9 : zF} {r : Int32} {a0 : Nat} {a1 : Int32} {a2 : Int32} {a3 : Int32} (h : fX12_odds N n f a0 a1 a2 a3 = some (f9, r)) : zM l G yX12_odds cX12_odds 7 (some .int) 8 n f [zr G a0, .int a1, .int a2, .int a3] (some (.int r)) f9 := by
  refine zM.of (by decide) (Nat.le_of_ble_eq_true rfl) ?_
  intro p e s m args below meth c locs ls B hS hl
  have he := B.1
  have hb := B.2.1
  have hl : lv_has ls 7 [(0, zr G a0), (1, .int a1), (2, .int a2), (3, .int a3)] := hl
  unfold fX12_odds at h
  generalize s.heap = H at hS ⊢
  refine z_aload_n he hb dX12_odds_0 rfl (lv_at hl 0 rfl) (zref_r _ _) ?_
  refine lv_iconst (v := (0 : Int32)) he hb dX12_odds_1 (by decide) ?_
  obtain ⟨f1, hx, h⟩ := zob h
  refine z_putI (ci := 12) (T := TX12) (N := 50) (j := 0) B hS hx rfl zin_X12 tyX12 tyX12_ok nmX12 (by decide) zk_1347 rfl rfl dX12_odds_2 (fun H locs hS => ?_)
  refine z_aload_n he hb dX12_odds_5 rfl (lv_at hl 0 rfl) (zref_r _ _) ?_
  refine lv_iload_n he hb dX12_odds_6 rfl (lv_at hl 1 rfl) ?_
  obtain ⟨_, hc, h⟩ := zob h
  obtain ⟨x2, hx, h⟩ := zob h
  refine z_callV (ci := 12) (T := TX12) (N := 50) (rest := []) B hS (mX12_isFigure l G hx) zy_X12_isFigure zk_1624 (by decide) hc rfl rfl hl rfl (Nat.le_of_ble_eq_true rfl) dX12_odds_7 (kk := (fun H locs hS => ?_))
  refine lv_if_eq (tgt := 23) he hb dX12_odds_10 (by decide) (fun hc => ?_) (fun hc => ?_)
  · rw [if_pos hc] at h
    refine lv_iconst (v := (-1 : Int32)) he hb dX12_odds_23 (by decide) ?_
    obtain ⟨rfl, rfl⟩ := Prod.mk.inj (Option.some.inj h)
    exact z_iret B hS dX12_odds_24
  · rw [if_neg hc] at h
    refine lv_iload_n he hb dX12_odds_13 rfl (lv_at hl 2 rfl) ?_
    refine lv_iconst (v := (1 : Int32)) he hb dX12_odds_14 (by decide) ?_
    refine lv_bipush (v := (30 : Int32)) he hb dX12_odds_15 (by decide) ?_
    obtain ⟨x3, hx, h⟩ := zob h
    refine z_callS (rest := []) B hS (mX12_isIn l G hx) zy_X12_isIn zk_1545 (by decide) rfl hl rfl (Nat.le_of_ble_eq_true rfl) dX12_odds_17 (kk := (fun H locs hS => ?_))
    refine lv_if_ne (tgt := 25) he hb dX12_odds_20 (by decide) (fun hc => ?_) (fun hc => ?_)
    · rw [if_neg hc] at h
      refine z_aload_n he hb dX12_odds_25 rfl (lv_at hl 0 rfl) (zref_r _ _) ?_
      obtain ⟨_, hc, h⟩ := zob h
      obtain ⟨f4, hx, h⟩ := zob h
      refine z_callV (ci := 12) (T := TX12) (N := 50) (rest := []) B hS (mX12_tries l G hx) zy_X12_tries zk_1759 (by decide) hc rfl rfl hl rfl (Nat.le_of_ble_eq_true rfl) dX12_odds_26 (kk := (fun H locs hS => ?_))
      refine z_aload_n he hb dX12_odds_29 rfl (lv_at hl 0 rfl) (zref_r _ _) ?_
      obtain ⟨x5, hx, h⟩ := zob h
      refine z_getR (ci := 12) (T := TX12) (N := 50) (j := 6) B hS hx rfl zin_X12 (by decide) zk_1353 dX12_odds_30 ?_
      refine lv_sipush (v := (153 : Int32)) he hb dX12_odds_33 (by decide) ?_
      refine lv_iload_n he hb dX12_odds_36 rfl (lv_at hl 1 rfl) ?_
      refine lv_iadd he hb dX12_odds_37 ?_
      obtain ⟨x6, hx, h⟩ := zob h
      refine z_ildI B hS hx dX12_odds_38 ?_
      refine lv_istore (lv' := [(4, _), (0, _), (1, _), (2, _), (3, _)]) he hb dX12_odds_39 hl (by decide) rfl (fun ls hl => ?_)
      refine lv_iconst (v := (0 : Int32)) he hb dX12_odds_41 (by decide) ?_
      refine lv_istore (lv' := [(5, _), (4, _), (0, _), (1, _), (2, _), (3, _)]) he hb dX12_odds_42 hl (by decide) rfl (fun ls hl => ?_)
      refine lv_iconst (v := (0 : Int32)) he hb dX12_odds_44 (by decide) ?_
      refine lv_istore (lv' := [(6, _), (5, _), (4, _), (0, _), (1, _), (2, _), (3, _)]) he hb dX12_odds_45 hl (by decide) rfl (fun ls hl => ?_)
      exact gX12_odds_47 l B N _ _ _ _ _ _ _ _ _ _ _ h hS (lv_sub hl [3, 4, 5, 6, 2, 1, 0] rfl)
    · rw [if_pos hc] at h
      refine lv_iconst (v := (-1 : Int32)) he hb dX12_odds_23 (by decide) ?_
      obtain ⟨rfl, rfl⟩ := Prod.mk.inj (Option.some.inj h)
      exact z_iret B hS dX12_odds_24
theorem dX12_bookLine_0 : decode cX12_bookLine 0 = .ok (.iconst 3, 1) := by decide +kernel
theorem dX12_bookLine_1 : decode cX12_bookLine 1 = .ok (.aload_n 0, 1) := by decide +kernel
theorem dX12_bookLine_2 : decode cX12_bookLine 2 = .ok (.getfield 440, 3) := by decide +kernel
theorem dX12_bookLine_5 : decode cX12_bookLine 5 = .ok (.imul, 1) := by decide +kernel
theorem dX12_bookLine_6 : decode cX12_bookLine 6 = .ok (.istore_n 1, 1) := by decide +kernel
theorem dX12_bookLine_7 : decode cX12_bookLine 7 = .ok (.aload_n 0, 1) := by decide +kernel
theorem dX12_bookLine_8 : decode cX12_bookLine 8 = .ok (.ldc2_w 123, 3) := by decide +kernel
theorem dX12_bookLine_11 : decode cX12_bookLine 11 = .ok (.invokevirtual 203, 3) := by decide +kernel
theorem dX12_bookLine_14 : decode cX12_bookLine 14 = .ok (.istore_n 2, 1) := by decide +kernel
theorem dX12_bookLine_15 : decode cX12_bookLine 15 = .ok (.iload_n 2, 1) := by decide +kernel
theorem dX12_bookLine_16 : decode cX12_bookLine 16 = .ok (.ifCond .ne 28, 3) := by decide +kernel
theorem dX12_bookLine_19 : decode cX12_bookLine 19 = .ok (.aload_n 0, 1) := by decide +kernel
theorem dX12_bookLine_20 : decode cX12_bookLine 20 = .ok (.invokevirtual 210, 3) := by decide +kernel
theorem dX12_bookLine_23 : decode cX12_bookLine 23 = .ok (.ifCond .eq 21, 3) := by decide +kernel
theorem dX12_bookLine_26 : decode cX12_bookLine 26 = .ok (.aload_n 0, 1) := by decide +kernel
theorem dX12_bookLine_27 : decode cX12_bookLine 27 = .ok (.iconst 4, 1) := by decide +kernel
theorem dX12_bookLine_28 : decode cX12_bookLine 28 = .ok (.aload_n 0, 1) := by decide +kernel
theorem dX12_bookLine_29 : decode cX12_bookLine 29 = .ok (.getfield 33, 3) := by decide +kernel
theorem dX12_bookLine_32 : decode cX12_bookLine 32 = .ok (.iconst 3, 1) := by decide +kernel
theorem dX12_bookLine_33 : decode cX12_bookLine 33 = .ok (.iaload, 1) := by decide +kernel
theorem dX12_bookLine_34 : decode cX12_bookLine 34 = .ok (.invokevirtual 214, 3) := by decide +kernel
theorem dX12_bookLine_37 : decode cX12_bookLine 37 = .ok (.ifCond .lt 7, 3) := by decide +kernel
theorem dX12_bookLine_40 : decode cX12_bookLine 40 = .ok (.iconst 1, 1) := by decide +kernel
theorem dX12_bookLine_41 : decode cX12_bookLine 41 = .ok (.goto 4, 3) := by decide +kernel
theorem dX12_bookLine_44 : decode cX12_bookLine 44 = .ok (.iconst 0, 1) := by decide +kernel
theorem dX12_bookLine_45 : decode cX12_bookLine 45 = .ok (.istore_n 3, 1) := by decide +kernel
theorem dX12_bookLine_46 : decode cX12_bookLine 46 = .ok (.iload_n 2, 1) := by decide +kernel
theorem dX12_bookLine_47 : decode cX12_bookLine 47 = .ok (.ifCond .ne 24, 3) := by decide +kernel
theorem dX12_bookLine_50 : decode cX12_bookLine 50 = .ok (.iload_n 3, 1) := by decide +kernel
theorem dX12_bookLine_51 : decode cX12_bookLine 51 = .ok (.ifCond .ne 20, 3) := by decide +kernel
theorem dX12_bookLine_54 : decode cX12_bookLine 54 = .ok (.aload_n 0, 1) := by decide +kernel
theorem dX12_bookLine_55 : decode cX12_bookLine 55 = .ok (.bipush 10, 2) := by decide +kernel
theorem dX12_bookLine_57 : decode cX12_bookLine 57 = .ok (.aload_n 0, 1) := by decide +kernel
theorem dX12_bookLine_58 : decode cX12_bookLine 58 = .ok (.getfield 33, 3) := by decide +kernel
theorem dX12_bookLine_61 : decode cX12_bookLine 61 = .ok (.iconst 4, 1) := by decide +kernel
theorem dX12_bookLine_62 : decode cX12_bookLine 62 = .ok (.iaload, 1) := by decide +kernel
theorem dX12_bookLine_63 : decode cX12_bookLine 63 = .ok (.invokevirtual 218, 3) := by decide +kernel
theorem dX12_bookLine_66 : decode cX12_bookLine 66 = .ok (.ifCond .ne 5, 3) := by decide +kernel
theorem dX12_bookLine_69 : decode cX12_bookLine 69 = .ok (.iconst 0, 1) := by decide +kernel
theorem dX12_bookLine_70 : decode cX12_bookLine 70 = .ok (.ireturn, 1) := by decide +kernel
theorem dX12_bookLine_71 : decode cX12_bookLine 71 = .ok (.iload_n 3, 1) := by decide +kernel
theorem dX12_bookLine_72 : decode cX12_bookLine 72 = .ok (.ifCond .eq 18, 3) := by decide +kernel
theorem dX12_bookLine_75 : decode cX12_bookLine 75 = .ok (.aload_n 0, 1) := by decide +kernel
theorem dX12_bookLine_76 : decode cX12_bookLine 76 = .ok (.aload_n 0, 1) := by decide +kernel
theorem dX12_bookLine_77 : decode cX12_bookLine 77 = .ok (.iconst 4, 1) := by decide +kernel
theorem dX12_bookLine_78 : decode cX12_bookLine 78 = .ok (.aload_n 0, 1) := by decide +kernel
theorem dX12_bookLine_79 : decode cX12_bookLine 79 = .ok (.getfield 33, 3) := by decide +kernel
theorem dX12_bookLine_82 : decode cX12_bookLine 82 = .ok (.iconst 3, 1) := by decide +kernel
theorem dX12_bookLine_83 : decode cX12_bookLine 83 = .ok (.iaload, 1) := by decide +kernel
theorem dX12_bookLine_84 : decode cX12_bookLine 84 = .ok (.invokevirtual 214, 3) := by decide +kernel
theorem dX12_bookLine_87 : decode cX12_bookLine 87 = .ok (.putfield 196, 3) := by decide +kernel
theorem dX12_bookLine_90 : decode cX12_bookLine 90 = .ok (.aload_n 0, 1) := by decide +kernel
theorem dX12_bookLine_91 : decode cX12_bookLine 91 = .ok (.getfield 440, 3) := by decide +kernel
theorem dX12_bookLine_94 : decode cX12_bookLine 94 = .ok (.bipush 40, 2) := by decide +kernel
theorem dX12_bookLine_96 : decode cX12_bookLine 96 = .ok (.if_icmp .ne 9, 3) := by decide +kernel
theorem dX12_bookLine_99 : decode cX12_bookLine 99 = .ok (.aload_n 0, 1) := by decide +kernel
theorem dX12_bookLine_100 : decode cX12_bookLine 100 = .ok (.iconst 4, 1) := by decide +kernel
theorem dX12_bookLine_101 : decode cX12_bookLine 101 = .ok (.invokevirtual 186, 3) := by decide +kernel
theorem dX12_bookLine_104 : decode cX12_bookLine 104 = .ok (.ireturn, 1) := by decide +kernel
theorem dX12_bookLine_105 : decode cX12_bookLine 105 = .ok (.aload_n 0, 1) := by decide +kernel
theorem dX12_bookLine_106 : decode cX12_bookLine 106 = .ok (.getfield 196, 3) := by decide +kernel
theorem dX12_bookLine_109 : decode cX12_bookLine 109 = .ok (.istore 4, 2) := by decide +kernel
theorem dX12_bookLine_111 : decode cX12_bookLine 111 = .ok (.aload_n 0, 1) := by decide +kernel
theorem dX12_bookLine_112 : decode cX12_bookLine 112 = .ok (.invokevirtual 189, 3) := by decide +kernel
theorem dX12_bookLine_115 : decode cX12_bookLine 115 = .ok (.iload_n 2, 1) := by decide +kernel
theorem dX12_bookLine_116 : decode cX12_bookLine 116 = .ok (.ifCond .eq 36, 3) := by decide +kernel
theorem dX12_bookLine_119 : decode cX12_bookLine 119 = .ok (.aload_n 0, 1) := by decide +kernel
theorem dX12_bookLine_120 : decode cX12_bookLine 120 = .ok (.getfield 40, 3) := by decide +kernel
theorem dX12_bookLine_123 : decode cX12_bookLine 123 = .ok (.iload_n 1, 1) := by decide +kernel
theorem dX12_bookLine_124 : decode cX12_bookLine 124 = .ok (.iconst 5, 1) := by decide +kernel
theorem dX12_bookLine_125 : decode cX12_bookLine 125 = .ok (.iastore, 1) := by decide +kernel
theorem dX12_bookLine_126 : decode cX12_bookLine 126 = .ok (.aload_n 0, 1) := by decide +kernel
theorem dX12_bookLine_127 : decode cX12_bookLine 127 = .ok (.iconst 1, 1) := by decide +kernel
theorem dX12_bookLine_128 : decode cX12_bookLine 128 = .ok (.bipush 60, 2) := by decide +kernel
theorem dX12_bookLine_130 : decode cX12_bookLine 130 = .ok (.invokevirtual 199, 3) := by decide +kernel
theorem dX12_bookLine_133 : decode cX12_bookLine 133 = .ok (.ifCond .ne 5, 3) := by decide +kernel
theorem dX12_bookLine_136 : decode cX12_bookLine 136 = .ok (.iconst 0, 1) := by decide +kernel
theorem dX12_bookLine_137 : decode cX12_bookLine 137 = .ok (.ireturn, 1) := by decide +kernel
theorem dX12_bookLine_138 : decode cX12_bookLine 138 = .ok (.aload_n 0, 1) := by decide +kernel
theorem dX12_bookLine_139 : decode cX12_bookLine 139 = .ok (.getfield 40, 3) := by decide +kernel
theorem dX12_bookLine_142 : decode cX12_bookLine 142 = .ok (.iload_n 1, 1) := by decide +kernel
theorem dX12_bookLine_143 : decode cX12_bookLine 143 = .ok (.iconst 1, 1) := by decide +kernel
theorem dX12_bookLine_144 : decode cX12_bookLine 144 = .ok (.iadd, 1) := by decide +kernel
theorem dX12_bookLine_145 : decode cX12_bookLine 145 = .ok (.aload_n 0, 1) := by decide +kernel
theorem dX12_bookLine_146 : decode cX12_bookLine 146 = .ok (.getfield 196, 3) := by decide +kernel
theorem dX12_bookLine_149 : decode cX12_bookLine 149 = .ok (.iastore, 1) := by decide +kernel
theorem dX12_bookLine_150 : decode cX12_bookLine 150 = .ok (.iconst 1, 1) := by decide +kernel
theorem dX12_bookLine_151 : decode cX12_bookLine 151 = .ok (.ireturn, 1) := by decide +kernel
theorem dX12_bookLine_152 : decode cX12_bookLine 152 = .ok (.iload_n 3, 1) := by decide +kernel
theorem dX12_bookLine_153 : decode cX12_bookLine 153 = .ok (.ifCond .eq 21, 3) := by decide +kernel
theorem dX12_bookLine_156 : decode cX12_bookLine 156 = .ok (.aload_n 0, 1) := by decide +kernel
theorem dX12_bookLine_157 : decode cX12_bookLine 157 = .ok (.ldc2_w 121, 3) := by decide +kernel
theorem dX12_bookLine_160 : decode cX12_bookLine 160 = .ok (.invokevirtual 203, 3) := by decide +kernel
theorem dX12_bookLine_163 : decode cX12_bookLine 163 = .ok (.ifCond .eq 7, 3) := by decide +kernel
theorem dX12_bookLine_166 : decode cX12_bookLine 166 = .ok (.iconst 4, 1) := by decide +kernel
theorem dX12_bookLine_167 : decode cX12_bookLine 167 = .ok (.goto 64, 3) := by decide +kernel
theorem dX12_bookLine_170 : decode cX12_bookLine 170 = .ok (.iconst (-1), 1) := by decide +kernel
theorem dX12_bookLine_171 : decode cX12_bookLine 171 = .ok (.goto 60, 3) := by decide +kernel
theorem dX12_bookLine_174 : decode cX12_bookLine 174 = .ok (.aload_n 0, 1) := by decide +kernel
theorem dX12_bookLine_175 : decode cX12_bookLine 175 = .ok (.ldc2_w 113, 3) := by decide +kernel
theorem dX12_bookLine_178 : decode cX12_bookLine 178 = .ok (.invokevirtual 203, 3) := by decide +kernel
theorem dX12_bookLine_181 : decode cX12_bookLine 181 = .ok (.ifCond .eq 7, 3) := by decide +kernel
theorem dX12_bookLine_184 : decode cX12_bookLine 184 = .ok (.iconst 0, 1) := by decide +kernel
theorem dX12_bookLine_185 : decode cX12_bookLine 185 = .ok (.goto 46, 3) := by decide +kernel
theorem dX12_bookLine_188 : decode cX12_bookLine 188 = .ok (.aload_n 0, 1) := by decide +kernel
theorem dX12_bookLine_189 : decode cX12_bookLine 189 = .ok (.ldc2_w 115, 3) := by decide +kernel
theorem dX12_bookLine_192 : decode cX12_bookLine 192 = .ok (.invokevirtual 203, 3) := by decide +kernel
theorem dX12_bookLine_195 : decode cX12_bookLine 195 = .ok (.ifCond .eq 7, 3) := by decide +kernel
theorem dX12_bookLine_198 : decode cX12_bookLine 198 = .ok (.iconst 1, 1) := by decide +kernel
theorem dX12_bookLine_199 : decode cX12_bookLine 199 = .ok (.goto 32, 3) := by decide +kernel
theorem dX12_bookLine_202 : decode cX12_bookLine 202 = .ok (.aload_n 0, 1) := by decide +kernel
theorem dX12_bookLine_203 : decode cX12_bookLine 203 = .ok (.ldc2_w 117, 3) := by decide +kernel
theorem dX12_bookLine_206 : decode cX12_bookLine 206 = .ok (.invokevirtual 203, 3) := by decide +kernel
theorem dX12_bookLine_209 : decode cX12_bookLine 209 = .ok (.ifCond .eq 7, 3) := by decide +kernel
theorem dX12_bookLine_212 : decode cX12_bookLine 212 = .ok (.iconst 2, 1) := by decide +kernel
theorem dX12_bookLine_213 : decode cX12_bookLine 213 = .ok (.goto 18, 3) := by decide +kernel
theorem dX12_bookLine_216 : decode cX12_bookLine 216 = .ok (.aload_n 0, 1) := by decide +kernel
theorem dX12_bookLine_217 : decode cX12_bookLine 217 = .ok (.ldc2_w 119, 3) := by decide +kernel
theorem dX12_bookLine_220 : decode cX12_bookLine 220 = .ok (.invokevirtual 203, 3) := by decide +kernel
theorem dX12_bookLine_223 : decode cX12_bookLine 223 = .ok (.ifCond .eq 7, 3) := by decide +kernel
theorem dX12_bookLine_226 : decode cX12_bookLine 226 = .ok (.iconst 3, 1) := by decide +kernel
theorem dX12_bookLine_227 : decode cX12_bookLine 227 = .ok (.goto 4, 3) := by decide +kernel
theorem dX12_bookLine_230 : decode cX12_bookLine 230 = .ok (.iconst (-1), 1) := by decide +kernel
theorem dX12_bookLine_231 : decode cX12_bookLine 231 = .ok (.istore 5, 2) := by decide +kernel
theorem dX12_bookLine_233 : decode cX12_bookLine 233 = .ok (.iload 5, 2) := by decide +kernel
theorem dX12_bookLine_235 : decode cX12_bookLine 235 = .ok (.ifCond .ge 9, 3) := by decide +kernel
theorem dX12_bookLine_238 : decode cX12_bookLine 238 = .ok (.aload_n 0, 1) := by decide +kernel
theorem dX12_bookLine_239 : decode cX12_bookLine 239 = .ok (.iconst 1, 1) := by decide +kernel
theorem dX12_bookLine_240 : decode cX12_bookLine 240 = .ok (.invokevirtual 186, 3) := by decide +kernel
theorem dX12_bookLine_243 : decode cX12_bookLine 243 = .ok (.ireturn, 1) := by decide +kernel
theorem dX12_bookLine_244 : decode cX12_bookLine 244 = .ok (.aload_n 0, 1) := by decide +kernel
theorem dX12_bookLine_245 : decode cX12_bookLine 245 = .ok (.invokevirtual 189, 3) := by decide +kernel
theorem dX12_bookLine_248 : decode cX12_bookLine 248 = .ok (.aload_n 0, 1) := by decide +kernel
theorem dX12_bookLine_249 : decode cX12_bookLine 249 = .ok (.getfield 40, 3) := by decide +kernel
theorem dX12_bookLine_252 : decode cX12_bookLine 252 = .ok (.iload_n 1, 1) := by decide +kernel
theorem dX12_bookLine_253 : decode cX12_bookLine 253 = .ok (.iload 5, 2) := by decide +kernel
theorem dX12_bookLine_255 : decode cX12_bookLine 255 = .ok (.iastore, 1) := by decide +kernel
theorem dX12_bookLine_256 : decode cX12_bookLine 256 = .ok (.aload_n 0, 1) := by decide +kernel
theorem dX12_bookLine_257 : decode cX12_bookLine 257 = .ok (.getfield 40, 3) := by decide +kernel
theorem dX12_bookLine_260 : decode cX12_bookLine 260 = .ok (.iload_n 1, 1) := by decide +kernel
theorem dX12_bookLine_261 : decode cX12_bookLine 261 = .ok (.iconst 1, 1) := by decide +kernel
theorem dX12_bookLine_262 : decode cX12_bookLine 262 = .ok (.iadd, 1) := by decide +kernel
theorem dX12_bookLine_263 : decode cX12_bookLine 263 = .ok (.iload 4, 2) := by decide +kernel
theorem dX12_bookLine_265 : decode cX12_bookLine 265 = .ok (.iastore, 1) := by decide +kernel
theorem dX12_bookLine_266 : decode cX12_bookLine 266 = .ok (.iload 5, 2) := by decide +kernel
theorem dX12_bookLine_268 : decode cX12_bookLine 268 = .ok (.iconst 2, 1) := by decide +kernel
theorem dX12_bookLine_269 : decode cX12_bookLine 269 = .ok (.if_icmp .eq 9, 3) := by decide +kernel
theorem dX12_bookLine_272 : decode cX12_bookLine 272 = .ok (.iload 5, 2) := by decide +kernel
theorem dX12_bookLine_274 : decode cX12_bookLine 274 = .ok (.iconst 3, 1) := by decide +kernel
theorem dX12_bookLine_275 : decode cX12_bookLine 275 = .ok (.if_icmp .ne 5, 3) := by decide +kernel
theorem dX12_bookLine_278 : decode cX12_bookLine 278 = .ok (.iconst 1, 1) := by decide +kernel
theorem dX12_bookLine_279 : decode cX12_bookLine 279 = .ok (.ireturn, 1) := by decide +kernel
theorem dX12_bookLine_280 : decode cX12_bookLine 280 = .ok (.aload_n 0, 1) := by decide +kernel
theorem dX12_bookLine_281 : decode cX12_bookLine 281 = .ok (.invokevirtual 255, 3) := by decide +kernel
theorem dX12_bookLine_284 : decode cX12_bookLine 284 = .ok (.istore 6, 2) := by decide +kernel
theorem dX12_bookLine_286 : decode cX12_bookLine 286 = .ok (.aload_n 0, 1) := by decide +kernel
theorem dX12_bookLine_287 : decode cX12_bookLine 287 = .ok (.getfield 40, 3) := by decide +kernel
theorem dX12_bookLine_290 : decode cX12_bookLine 290 = .ok (.iload_n 1, 1) := by decide +kernel
theorem dX12_bookLine_291 : decode cX12_bookLine 291 = .ok (.iconst 2, 1) := by decide +kernel
theorem dX12_bookLine_292 : decode cX12_bookLine 292 = .ok (.iadd, 1) := by decide +kernel
theorem dX12_bookLine_293 : decode cX12_bookLine 293 = .ok (.aload_n 0, 1) := by decide +kernel
theorem dX12_bookLine_294 : decode cX12_bookLine 294 = .ok (.getfield 196, 3) := by decide +kernel
theorem dX12_bookLine_297 : decode cX12_bookLine 297 = .ok (.iastore, 1) := by decide +kernel
theorem dX12_bookLine_298 : decode cX12_bookLine 298 = .ok (.iload 6, 2) := by decide +kernel
theorem dX12_bookLine_300 : decode cX12_bookLine 300 = .ok (.ireturn, 1) := by decide +kernel
def fX12_bookLine_231 (N n : Nat) (f : zF) (a0 : Nat) (a1 : Int32) (a4 : Int32) (t0 : Int32) : Option (zF × Int32) :=
    (if 0 ≤ t0 then ((zck n f 12 a0).bind fun _ => ((fX12_next N n f a0).bind fun f10 => ((zgR n f10 12 a0 8).bind fun x11 => ((zsI n f10 0 x11 a1 t0).bind fun f12 => ((zgR n f12 12 a0 8).bind fun x13 => ((zsI n f12 0 x13 (a1 + (1 : Int32)) a4).bind fun f14 => (if t0 = (2 : Int32) then ((zbl (1 : Int32)).bind fun y => some (f14, y)) else (if t0 = (3 : Int32) then ((zbl (1 : Int32)).bind fun y => some (f14, y)) else ((zck n f14 12 a0).bind fun _ => (zbd (fX12_takesSide N n f14 a0) fun f16 x15 => ((zgR n f16 12 a0 8).bind fun x17 => ((zgI n f16 12 a0 18).bind fun x18 => ((zsI n f16 0 x17 (a1 + (2 : Int32)) x18).bind fun f19 => ((zbl x15).bind fun y => some (f19, y))))))))))))))) else ((zck n f 12 a0).bind fun _ => (zbd (fX12_bad N n f a0 (1 : Int32)) fun f21 x20 => ((zbl x20).bind fun y => some (f21, y)))))
set_option maxRecDepth 100000 in
set_option maxHeartbeats 4000000 in
theorem gX12_bookLine_231 (l : Launch) {G : zG} {p : Program} {e : Env} {s : State} {m : MethodId} {args : Array Value} {below : List Frame} {meth : Method} {c : Code} {N n : Nat} {f9 : zF} {r : Int32} (B : zB G p s m args meth c RX12 cX12_bookLine 7 (some .boolean)) : ∀ (f : zF) (a0 : Nat) (a1 : Int32) (a4 : Int32) (t0 : Int32) (H : Heap) (locs : List Loc) (ls : Array Slot), fX12_bookLine_231 N n f a0 a1 a4 t0 = some (f9, r) → zS G n f H locs → lv_has ls 7 [(0, zr G a0), (1, .int a1), (4, .int a4)] → W p l e (zrm 3) s m args below meth c H locs 0 0 (MQ below (zQc G n f9 (some (.int r))) args s 0 0 (zA G)) (F0 m 231 ls [.int t0]) := by
  have he := B.1
  have hb := B.2.1
  intro f a0 a1 a4 t0 H locs ls h hS hl
  unfold fX12_bookLine_231 at h
  refine lv_istore (lv' := [(5, _), (0, _), (1, _), (4, _)]) he hb dX12_bookLine_231 hl (by decide) rfl (fun ls hl => ?_)
  refine lv_iload he hb dX12_bookLine_233 (lv_at hl 0 rfl) ?_
  refine lv_if_ge (tgt := 244) he hb dX12_bookLine_235 (by decide) (fun hc => ?_) (fun hc => ?_)
  · rw [if_pos hc] at h
    refine z_aload_n he hb dX12_bookLine_244 rfl (lv_at hl 1 rfl) (zref_r _ _) ?_
    obtain ⟨_, hc, h⟩ := zob h
    obtain ⟨f10, hx, h⟩ := zob h
    refine z_callV (ci := 12) (T := TX12) (N := 50) (rest := []) B hS (mX12_next l G hx) zy_X12_next zk_1507 (by decide) hc rfl rfl hl rfl (Nat.le_of_ble_eq_true rfl) dX12_bookLine_245 (kk := (fun H locs hS => ?_))
    refine z_aload_n he hb dX12_bookLine_248 rfl (lv_at hl 1 rfl) (zref_r _ _) ?_
    obtain ⟨x11, hx, h⟩ := zob h
    refine z_getR (ci := 12) (T := TX12) (N := 50) (j := 8) B hS hx rfl zin_X12 (by decide) zk_1355 dX12_bookLine_249 ?_
    refine lv_iload_n he hb dX12_bookLine_252 rfl (lv_at hl 2 rfl) ?_
    refine lv_iload he hb dX12_bookLine_253 (lv_at hl 0 rfl) ?_
    obtain ⟨f12, hx, h⟩ := zob h
    refine z_istI B hS hx dX12_bookLine_255 (fun H locs hS => ?_)
    refine z_aload_n he hb dX12_bookLine_256 rfl (lv_at hl 1 rfl) (zref_r _ _) ?_
    obtain ⟨x13, hx, h⟩ := zob h
    refine z_getR (ci := 12) (T := TX12) (N := 50) (j := 8) B hS hx rfl zin_X12 (by decide) zk_1355 dX12_bookLine_257 ?_
    refine lv_iload_n he hb dX12_bookLine_260 rfl (lv_at hl 2 rfl) ?_
    refine lv_iconst (v := (1 : Int32)) he hb dX12_bookLine_261 (by decide) ?_
    refine lv_iadd he hb dX12_bookLine_262 ?_
    refine lv_iload he hb dX12_bookLine_263 (lv_at hl 3 rfl) ?_
    obtain ⟨f14, hx, h⟩ := zob h
    refine z_istI B hS hx dX12_bookLine_265 (fun H locs hS => ?_)
    refine lv_iload he hb dX12_bookLine_266 (lv_at hl 0 rfl) ?_
    refine lv_iconst (v := (2 : Int32)) he hb dX12_bookLine_268 (by decide) ?_
    refine lv_icmp_eq (tgt := 278) he hb dX12_bookLine_269 (by decide) (fun hc => ?_) (fun hc => ?_)
    · rw [if_pos hc] at h
      refine lv_iconst (v := (1 : Int32)) he hb dX12_bookLine_278 (by decide) ?_
      obtain ⟨y, hx, h⟩ := zob h
      obtain ⟨hz, rfl⟩ := zbl_i hx
      obtain ⟨rfl, rfl⟩ := Prod.mk.inj (Option.some.inj h)
      exact z_zret B hS hz dX12_bookLine_279
    · rw [if_neg hc] at h
      refine lv_iload he hb dX12_bookLine_272 (lv_at hl 0 rfl) ?_
      refine lv_iconst (v := (3 : Int32)) he hb dX12_bookLine_274 (by decide) ?_
      refine lv_icmp_ne (tgt := 280) he hb dX12_bookLine_275 (by decide) (fun hc => ?_) (fun hc => ?_)
      · rw [if_neg hc] at h
        refine z_aload_n he hb dX12_bookLine_280 rfl (lv_at hl 1 rfl) (zref_r _ _) ?_
        obtain ⟨_, hc, h⟩ := zob h
        obtain ⟨f16, x15, hx, h⟩ := zbd_i h
        refine z_callV (ci := 12) (T := TX12) (N := 50) (rest := []) B hS (mX12_takesSide l G hx) zy_X12_takesSide zk_1588 (by decide) hc rfl rfl hl rfl (Nat.le_of_ble_eq_true rfl) dX12_bookLine_281 (kk := (fun H locs hS => ?_))
        refine lv_istore (lv' := [(6, _), (5, _), (0, _), (1, _), (4, _)]) he hb dX12_bookLine_284 hl (by decide) rfl (fun ls hl => ?_)
        refine z_aload_n he hb dX12_bookLine_286 rfl (lv_at hl 2 rfl) (zref_r _ _) ?_
        obtain ⟨x17, hx, h⟩ := zob h
        refine z_getR (ci := 12) (T := TX12) (N := 50) (j := 8) B hS hx rfl zin_X12 (by decide) zk_1355 dX12_bookLine_287 ?_
        refine lv_iload_n he hb dX12_bookLine_290 rfl (lv_at hl 3 rfl) ?_
        refine lv_iconst (v := (2 : Int32)) he hb dX12_bookLine_291 (by decide) ?_
        refine lv_iadd he hb dX12_bookLine_292 ?_
        refine z_aload_n he hb dX12_bookLine_293 rfl (lv_at hl 2 rfl) (zref_r _ _) ?_
        obtain ⟨x18, hx, h⟩ := zob h
        refine z_getI (ci := 12) (T := TX12) (N := 50) (j := 18) B hS hx rfl zin_X12 (by decide) zk_1365 dX12_bookLine_294 ?_
        obtain ⟨f19, hx, h⟩ := zob h
        refine z_istI B hS hx dX12_bookLine_297 (fun H locs hS => ?_)
        refine lv_iload he hb dX12_bookLine_298 (lv_at hl 0 rfl) ?_
        obtain ⟨y, hx, h⟩ := zob h
        obtain ⟨hz, rfl⟩ := zbl_i hx
        obtain ⟨rfl, rfl⟩ := Prod.mk.inj (Option.some.inj h)
        exact z_zret B hS hz dX12_bookLine_300
      · rw [if_pos hc] at h
        refine lv_iconst (v := (1 : Int32)) he hb dX12_bookLine_278 (by decide) ?_
        obtain ⟨y, hx, h⟩ := zob h
        obtain ⟨hz, rfl⟩ := zbl_i hx
        obtain ⟨rfl, rfl⟩ := Prod.mk.inj (Option.some.inj h)
        exact z_zret B hS hz dX12_bookLine_279
  · rw [if_neg hc] at h
    refine z_aload_n he hb dX12_bookLine_238 rfl (lv_at hl 1 rfl) (zref_r _ _) ?_
    refine lv_iconst (v := (1 : Int32)) he hb dX12_bookLine_239 (by decide) ?_
    obtain ⟨_, hc, h⟩ := zob h
    obtain ⟨f21, x20, hx, h⟩ := zbd_i h
    refine z_callV (ci := 12) (T := TX12) (N := 50) (rest := []) B hS (mX12_bad l G hx) zy_X12_bad zk_1533 (by decide) hc rfl rfl hl rfl (Nat.le_of_ble_eq_true rfl) dX12_bookLine_240 (kk := (fun H locs hS => ?_))
    obtain ⟨y, hx, h⟩ := zob h
    obtain ⟨hz, rfl⟩ := zbl_i hx
    obtain ⟨rfl, rfl⟩ := Prod.mk.inj (Option.some.inj h)
    exact z_zret B hS hz dX12_bookLine_243
def fX12_bookLine_90 (N n : Nat) (f : zF) (a0 : Nat) (a1 : Int32) (a2 : Int32) (a3 : Int32) : Option (zF × Int32) :=
    ((zgI n f 12 a0 37).bind fun x3 => (if x3 = (40 : Int32) then ((zck n f 12 a0).bind fun _ => (zbd (fX12_bad N n f a0 (4 : Int32)) fun f31 x30 => ((zbl x30).bind fun y => some (f31, y)))) else ((zgI n f 12 a0 18).bind fun x4 => ((zck n f 12 a0).bind fun _ => ((fX12_next N n f a0).bind fun f5 => (if a2 = 0 then (if a3 = 0 then ((zck n f5 12 a0).bind fun _ => ((fX12_isWord N n f5 a0 (500186639987 : Int64)).bind fun x6 => (if x6 = 0 then ((zck n f5 12 a0).bind fun _ => ((fX12_isWord N n f5 a0 (512735603571 : Int64)).bind fun x7 => (if x7 = 0 then ((zck n f5 12 a0).bind fun _ => ((fX12_isWord N n f5 a0 (495673767027 : Int64)).bind fun x8 => (if x8 = 0 then ((zck n f5 12 a0).bind fun _ => ((fX12_isWord N n f5 a0 (478627065459 : Int64)).bind fun x9 => (if x9 = 0 then (fX12_bookLine_231 N n f5 a0 a1 x4 (-1 : Int32)) else (fX12_bookLine_231 N n f5 a0 a1 x4 (3 : Int32))))) else (fX12_bookLine_231 N n f5 a0 a1 x4 (2 : Int32))))) else (fX12_bookLine_231 N n f5 a0 a1 x4 (1 : Int32))))) else (fX12_bookLine_231 N n f5 a0 a1 x4 (0 : Int32))))) else ((zck n f5 12 a0).bind fun _ => ((fX12_isWord N n f5 a0 (439720568179 : Int64)).bind fun x22 => (if x22 = 0 then (fX12_bookLine_231 N n f5 a0 a1 x4 (-1 : Int32)) else (fX12_bookLine_231 N n f5 a0 a1 x4 (4 : Int32)))))) else ((zgR n f5 12 a0 8).bind fun x23 => ((zsI n f5 0 x23 a1 (5 : Int32)).bind fun f24 => ((zck n f24 12 a0).bind fun _ => (zbd (fX12_takes N n f24 a0 (1 : Int32) (60 : Int32)) fun f26 x25 => (if x25 = 0 then ((zbl (0 : Int32)).bind fun y => some (f26, y)) else ((zgR n f26 12 a0 8).bind fun x27 => ((zgI n f26 12 a0 18).bind fun x28 => ((zsI n f26 0 x27 (a1 + (1 : Int32)) x28).bind fun f29 => ((zbl (1 : Int32)).bind fun y => some (f29, y))))))))))))))))
set_option maxRecDepth 100000 in
set_option maxHeartbeats 4000000 in
theorem gX12_bookLine_90 (l : Launch) {G : zG} {p : Program} {e : Env} {s : State} {m : MethodId} {args : Array Value} {below : List Frame} {meth : Method} {c : Code} {N n : Nat} {f9 : zF} {r : Int32} (B : zB G p s m args meth c RX12 cX12_bookLine 7 (some .boolean)) : ∀ (f : zF) (a0 : Nat) (a1 : Int32) (a2 : Int32) (a3 : Int32) (H : Heap) (locs : List Loc) (ls : Array Slot), fX12_bookLine_90 N n f a0 a1 a2 a3 = some (f9, r) → zS G n f H locs → lv_has ls 7 [(0, zr G a0), (1, .int a1), (2, .int a2), (3, .int a3)] → W p l e (zrm 3) s m args below meth c H locs 0 0 (MQ below (zQc G n f9 (some (.int r))) args s 0 0 (zA G)) (F0 m 90 ls []) := by
  have he := B.1
  have hb := B.2.1
  intro f a0 a1 a2 a3 H locs ls h hS hl
  unfold fX12_bookLine_90 at h
  refine z_aload_n he hb dX12_bookLine_90 rfl (lv_at hl 0 rfl) (zref_r _ _) ?_
  obtain ⟨x3, hx, h⟩ := zob h
  refine z_getI (ci := 12) (T := TX12) (N := 50) (j := 37) B hS hx rfl zin_X12 (by decide) zk_1384 dX12_bookLine_91 ?_
  refine lv_bipush (v := (40 : Int32)) he hb dX12_bookLine_94 (by decide) ?_
  refine lv_icmp_ne (tgt := 105) he hb dX12_bookLine_96 (by decide) (fun hc => ?_) (fun hc => ?_)
  · rw [if_neg hc] at h
    refine z_aload_n he hb dX12_bookLine_105 rfl (lv_at hl 0 rfl) (zref_r _ _) ?_
    obtain ⟨x4, hx, h⟩ := zob h
    refine z_getI (ci := 12) (T := TX12) (N := 50) (j := 18) B hS hx rfl zin_X12 (by decide) zk_1365 dX12_bookLine_106 ?_
    refine lv_istore (lv' := [(4, _), (0, _), (1, _), (2, _), (3, _)]) he hb dX12_bookLine_109 hl (by decide) rfl (fun ls hl => ?_)
    refine z_aload_n he hb dX12_bookLine_111 rfl (lv_at hl 1 rfl) (zref_r _ _) ?_
    obtain ⟨_, hc, h⟩ := zob h
    obtain ⟨f5, hx, h⟩ := zob h
    refine z_callV (ci := 12) (T := TX12) (N := 50) (rest := []) B hS (mX12_next l G hx) zy_X12_next zk_1507 (by decide) hc rfl rfl hl rfl (Nat.le_of_ble_eq_true rfl) dX12_bookLine_112 (kk := (fun H locs hS => ?_))
    refine lv_iload_n he hb dX12_bookLine_115 rfl (lv_at hl 3 rfl) ?_
    refine lv_if_eq (tgt := 152) he hb dX12_bookLine_116 (by decide) (fun hc => ?_) (fun hc => ?_)
    · rw [if_pos hc] at h
      refine lv_iload_n he hb dX12_bookLine_152 rfl (lv_at hl 4 rfl) ?_
      refine lv_if_eq (tgt := 174) he hb dX12_bookLine_153 (by decide) (fun hc => ?_) (fun hc => ?_)
      · rw [if_pos hc] at h
        refine z_aload_n he hb dX12_bookLine_174 rfl (lv_at hl 1 rfl) (zref_r _ _) ?_
        refine lv_ldc2 (v := (500186639987 : Int64)) he hb B.2.2.2.1 (B.2.2.2.2.1 _ zk_1326) dX12_bookLine_175 ?_
        obtain ⟨_, hc, h⟩ := zob h
        obtain ⟨x6, hx, h⟩ := zob h
        refine z_callV (ci := 12) (T := TX12) (N := 50) (rest := []) B hS (mX12_isWord l G hx) zy_X12_isWord zk_1525 (by decide) hc rfl rfl hl rfl (Nat.le_of_ble_eq_true rfl) dX12_bookLine_178 (kk := (fun H locs hS => ?_))
        refine lv_if_eq (tgt := 188) he hb dX12_bookLine_181 (by decide) (fun hc => ?_) (fun hc => ?_)
        · rw [if_pos hc] at h
          refine z_aload_n he hb dX12_bookLine_188 rfl (lv_at hl 1 rfl) (zref_r _ _) ?_
          refine lv_ldc2 (v := (512735603571 : Int64)) he hb B.2.2.2.1 (B.2.2.2.2.1 _ zk_1327) dX12_bookLine_189 ?_
          obtain ⟨_, hc, h⟩ := zob h
          obtain ⟨x7, hx, h⟩ := zob h
          refine z_callV (ci := 12) (T := TX12) (N := 50) (rest := []) B hS (mX12_isWord l G hx) zy_X12_isWord zk_1525 (by decide) hc rfl rfl hl rfl (Nat.le_of_ble_eq_true rfl) dX12_bookLine_192 (kk := (fun H locs hS => ?_))
          refine lv_if_eq (tgt := 202) he hb dX12_bookLine_195 (by decide) (fun hc => ?_) (fun hc => ?_)
          · rw [if_pos hc] at h
            refine z_aload_n he hb dX12_bookLine_202 rfl (lv_at hl 1 rfl) (zref_r _ _) ?_
            refine lv_ldc2 (v := (495673767027 : Int64)) he hb B.2.2.2.1 (B.2.2.2.2.1 _ zk_1328) dX12_bookLine_203 ?_
            obtain ⟨_, hc, h⟩ := zob h
            obtain ⟨x8, hx, h⟩ := zob h
            refine z_callV (ci := 12) (T := TX12) (N := 50) (rest := []) B hS (mX12_isWord l G hx) zy_X12_isWord zk_1525 (by decide) hc rfl rfl hl rfl (Nat.le_of_ble_eq_true rfl) dX12_bookLine_206 (kk := (fun H locs hS => ?_))
            refine lv_if_eq (tgt := 216) he hb dX12_bookLine_209 (by decide) (fun hc => ?_) (fun hc => ?_)
            · rw [if_pos hc] at h
              refine z_aload_n he hb dX12_bookLine_216 rfl (lv_at hl 1 rfl) (zref_r _ _) ?_
              refine lv_ldc2 (v := (478627065459 : Int64)) he hb B.2.2.2.1 (B.2.2.2.2.1 _ zk_1329) dX12_bookLine_217 ?_
              obtain ⟨_, hc, h⟩ := zob h
              obtain ⟨x9, hx, h⟩ := zob h
              refine z_callV (ci := 12) (T := TX12) (N := 50) (rest := []) B hS (mX12_isWord l G hx) zy_X12_isWord zk_1525 (by decide) hc rfl rfl hl rfl (Nat.le_of_ble_eq_true rfl) dX12_bookLine_220 (kk := (fun H locs hS => ?_))
              refine lv_if_eq (tgt := 230) he hb dX12_bookLine_223 (by decide) (fun hc => ?_) (fun hc => ?_)
              · rw [if_pos hc] at h
                refine lv_iconst (v := (-1 : Int32)) he hb dX12_bookLine_230 (by decide) ?_
                exact gX12_bookLine_231 l B _ _ _ _ _ _ _ _ h hS (lv_sub hl [1, 2, 0] rfl)
              · rw [if_neg hc] at h
                refine lv_iconst (v := (3 : Int32)) he hb dX12_bookLine_226 (by decide) ?_
                refine lv_goto (tgt := 231) he hb dX12_bookLine_227 (by decide) ?_
                exact gX12_bookLine_231 l B _ _ _ _ _ _ _ _ h hS (lv_sub hl [1, 2, 0] rfl)
            · rw [if_neg hc] at h
              refine lv_iconst (v := (2 : Int32)) he hb dX12_bookLine_212 (by decide) ?_
              refine lv_goto (tgt := 231) he hb dX12_bookLine_213 (by decide) ?_
              exact gX12_bookLine_231 l B _ _ _ _ _ _ _ _ h hS (lv_sub hl [1, 2, 0] rfl)
          · rw [if_neg hc] at h
            refine lv_iconst (v := (1 : Int32)) he hb dX12_bookLine_198 (by decide) ?_
            refine lv_goto (tgt := 231) he hb dX12_bookLine_199 (by decide) ?_
            exact gX12_bookLine_231 l B _ _ _ _ _ _ _ _ h hS (lv_sub hl [1, 2, 0] rfl)
        · rw [if_neg hc] at h
          refine lv_iconst (v := (0 : Int32)) he hb dX12_bookLine_184 (by decide) ?_
          refine lv_goto (tgt := 231) he hb dX12_bookLine_185 (by decide) ?_
          exact gX12_bookLine_231 l B _ _ _ _ _ _ _ _ h hS (lv_sub hl [1, 2, 0] rfl)
      · rw [if_neg hc] at h
        refine z_aload_n he hb dX12_bookLine_156 rfl (lv_at hl 1 rfl) (zref_r _ _) ?_
        refine lv_ldc2 (v := (439720568179 : Int64)) he hb B.2.2.2.1 (B.2.2.2.2.1 _ zk_1330) dX12_bookLine_157 ?_
        obtain ⟨_, hc, h⟩ := zob h
        obtain ⟨x22, hx, h⟩ := zob h
        refine z_callV (ci := 12) (T := TX12) (N := 50) (rest := []) B hS (mX12_isWord l G hx) zy_X12_isWord zk_1525 (by decide) hc rfl rfl hl rfl (Nat.le_of_ble_eq_true rfl) dX12_bookLine_160 (kk := (fun H locs hS => ?_))
        refine lv_if_eq (tgt := 170) he hb dX12_bookLine_163 (by decide) (fun hc => ?_) (fun hc => ?_)
        · rw [if_pos hc] at h
          refine lv_iconst (v := (-1 : Int32)) he hb dX12_bookLine_170 (by decide) ?_
          refine lv_goto (tgt := 231) he hb dX12_bookLine_171 (by decide) ?_
          exact gX12_bookLine_231 l B _ _ _ _ _ _ _ _ h hS (lv_sub hl [1, 2, 0] rfl)
        · rw [if_neg hc] at h
          refine lv_iconst (v := (4 : Int32)) he hb dX12_bookLine_166 (by decide) ?_
          refine lv_goto (tgt := 231) he hb dX12_bookLine_167 (by decide) ?_
          exact gX12_bookLine_231 l B _ _ _ _ _ _ _ _ h hS (lv_sub hl [1, 2, 0] rfl)
    · rw [if_neg hc] at h
      refine z_aload_n he hb dX12_bookLine_119 rfl (lv_at hl 1 rfl) (zref_r _ _) ?_
      obtain ⟨x23, hx, h⟩ := zob h
      refine z_getR (ci := 12) (T := TX12) (N := 50) (j := 8) B hS hx rfl zin_X12 (by decide) zk_1355 dX12_bookLine_120 ?_
      refine lv_iload_n he hb dX12_bookLine_123 rfl (lv_at hl 2 rfl) ?_
      refine lv_iconst (v := (5 : Int32)) he hb dX12_bookLine_124 (by decide) ?_
      obtain ⟨f24, hx, h⟩ := zob h
      refine z_istI B hS hx dX12_bookLine_125 (fun H locs hS => ?_)
      refine z_aload_n he hb dX12_bookLine_126 rfl (lv_at hl 1 rfl) (zref_r _ _) ?_
      refine lv_iconst (v := (1 : Int32)) he hb dX12_bookLine_127 (by decide) ?_
      refine lv_bipush (v := (60 : Int32)) he hb dX12_bookLine_128 (by decide) ?_
      obtain ⟨_, hc, h⟩ := zob h
      obtain ⟨f26, x25, hx, h⟩ := zbd_i h
      refine z_callV (ci := 12) (T := TX12) (N := 50) (rest := []) B hS (mX12_takes l G hx) zy_X12_takes zk_1541 (by decide) hc rfl rfl hl rfl (Nat.le_of_ble_eq_true rfl) dX12_bookLine_130 (kk := (fun H locs hS => ?_))
      refine lv_if_ne (tgt := 138) he hb dX12_bookLine_133 (by decide) (fun hc => ?_) (fun hc => ?_)
      · rw [if_neg hc] at h
        refine z_aload_n he hb dX12_bookLine_138 rfl (lv_at hl 1 rfl) (zref_r _ _) ?_
        obtain ⟨x27, hx, h⟩ := zob h
        refine z_getR (ci := 12) (T := TX12) (N := 50) (j := 8) B hS hx rfl zin_X12 (by decide) zk_1355 dX12_bookLine_139 ?_
        refine lv_iload_n he hb dX12_bookLine_142 rfl (lv_at hl 2 rfl) ?_
        refine lv_iconst (v := (1 : Int32)) he hb dX12_bookLine_143 (by decide) ?_
        refine lv_iadd he hb dX12_bookLine_144 ?_
        refine z_aload_n he hb dX12_bookLine_145 rfl (lv_at hl 1 rfl) (zref_r _ _) ?_
        obtain ⟨x28, hx, h⟩ := zob h
        refine z_getI (ci := 12) (T := TX12) (N := 50) (j := 18) B hS hx rfl zin_X12 (by decide) zk_1365 dX12_bookLine_146 ?_
        obtain ⟨f29, hx, h⟩ := zob h
        refine z_istI B hS hx dX12_bookLine_149 (fun H locs hS => ?_)
        refine lv_iconst (v := (1 : Int32)) he hb dX12_bookLine_150 (by decide) ?_
        obtain ⟨y, hx, h⟩ := zob h
        obtain ⟨hz, rfl⟩ := zbl_i hx
        obtain ⟨rfl, rfl⟩ := Prod.mk.inj (Option.some.inj h)
        exact z_zret B hS hz dX12_bookLine_151
      · rw [if_pos hc] at h
        refine lv_iconst (v := (0 : Int32)) he hb dX12_bookLine_136 (by decide) ?_
        obtain ⟨y, hx, h⟩ := zob h
        obtain ⟨hz, rfl⟩ := zbl_i hx
        obtain ⟨rfl, rfl⟩ := Prod.mk.inj (Option.some.inj h)
        exact z_zret B hS hz dX12_bookLine_137
  · rw [if_pos hc] at h
    refine z_aload_n he hb dX12_bookLine_99 rfl (lv_at hl 0 rfl) (zref_r _ _) ?_
    refine lv_iconst (v := (4 : Int32)) he hb dX12_bookLine_100 (by decide) ?_
    obtain ⟨_, hc, h⟩ := zob h
    obtain ⟨f31, x30, hx, h⟩ := zbd_i h
    refine z_callV (ci := 12) (T := TX12) (N := 50) (rest := []) B hS (mX12_bad l G hx) zy_X12_bad zk_1533 (by decide) hc rfl rfl hl rfl (Nat.le_of_ble_eq_true rfl) dX12_bookLine_101 (kk := (fun H locs hS => ?_))
    obtain ⟨y, hx, h⟩ := zob h
    obtain ⟨hz, rfl⟩ := zbl_i hx
    obtain ⟨rfl, rfl⟩ := Prod.mk.inj (Option.some.inj h)
    exact z_zret B hS hz dX12_bookLine_104
def fX12_bookLine_71 (N n : Nat) (f : zF) (a0 : Nat) (a1 : Int32) (a2 : Int32) (a3 : Int32) : Option (zF × Int32) :=
    (if a3 = 0 then (fX12_bookLine_90 N n f a0 a1 a2 a3) else ((zgR n f 12 a0 6).bind fun x32 => ((zlI n f 0 x32 (3 : Int32)).bind fun x33 => ((zck n f 12 a0).bind fun _ => ((fX12_seek N n f a0 (4 : Int32) x33).bind fun x34 => ((zpI n f 12 a0 18 x34).bind fun f35 => (fX12_bookLine_90 N n f35 a0 a1 a2 a3)))))))
set_option maxRecDepth 100000 in
set_option maxHeartbeats 4000000 in
theorem gX12_bookLine_71 (l : Launch) {G : zG} {p : Program} {e : Env} {s : State} {m : MethodId} {args : Array Value} {below : List Frame} {meth : Method} {c : Code} {N n : Nat} {f9 : zF} {r : Int32} (B : zB G p s m args meth c RX12 cX12_bookLine 7 (some .boolean)) : ∀ (f : zF) (a0 : Nat) (a1 : Int32) (a2 : Int32) (a3 : Int32) (H : Heap) (locs : List Loc) (ls : Array Slot), fX12_bookLine_71 N n f a0 a1 a2 a3 = some (f9, r) → zS G n f H locs → lv_has ls 7 [(0, zr G a0), (1, .int a1), (2, .int a2), (3, .int a3)] → W p l e (zrm 3) s m args below meth c H locs 0 0 (MQ below (zQc G n f9 (some (.int r))) args s 0 0 (zA G)) (F0 m 71 ls []) := by
  have he := B.1
  have hb := B.2.1
  intro f a0 a1 a2 a3 H locs ls h hS hl
  unfold fX12_bookLine_71 at h
  refine lv_iload_n he hb dX12_bookLine_71 rfl (lv_at hl 3 rfl) ?_
  refine lv_if_eq (tgt := 90) he hb dX12_bookLine_72 (by decide) (fun hc => ?_) (fun hc => ?_)
  · rw [if_pos hc] at h
    exact gX12_bookLine_90 l B _ _ _ _ _ _ _ _ h hS (lv_sub hl [0, 1, 2, 3] rfl)
  · rw [if_neg hc] at h
    refine z_aload_n he hb dX12_bookLine_75 rfl (lv_at hl 0 rfl) (zref_r _ _) ?_
    refine z_aload_n he hb dX12_bookLine_76 rfl (lv_at hl 0 rfl) (zref_r _ _) ?_
    refine lv_iconst (v := (4 : Int32)) he hb dX12_bookLine_77 (by decide) ?_
    refine z_aload_n he hb dX12_bookLine_78 rfl (lv_at hl 0 rfl) (zref_r _ _) ?_
    obtain ⟨x32, hx, h⟩ := zob h
    refine z_getR (ci := 12) (T := TX12) (N := 50) (j := 6) B hS hx rfl zin_X12 (by decide) zk_1353 dX12_bookLine_79 ?_
    refine lv_iconst (v := (3 : Int32)) he hb dX12_bookLine_82 (by decide) ?_
    obtain ⟨x33, hx, h⟩ := zob h
    refine z_ildI B hS hx dX12_bookLine_83 ?_
    obtain ⟨_, hc, h⟩ := zob h
    obtain ⟨x34, hx, h⟩ := zob h
    refine z_callV (ci := 12) (T := TX12) (N := 50) (rest := [_]) B hS (mX12_seek l G hx) zy_X12_seek zk_1568 (by decide) hc rfl rfl hl rfl (Nat.le_of_ble_eq_true rfl) dX12_bookLine_84 (kk := (fun H locs hS => ?_))
    obtain ⟨f35, hx, h⟩ := zob h
    refine z_putI (ci := 12) (T := TX12) (N := 50) (j := 18) B hS hx rfl zin_X12 tyX12 tyX12_ok nmX12 (by decide) zk_1365 rfl rfl dX12_bookLine_87 (fun H locs hS => ?_)
    exact gX12_bookLine_90 l B _ _ _ _ _ _ _ _ h hS (lv_sub hl [0, 1, 2, 3] rfl)
def fX12_bookLine_45 (N n : Nat) (f : zF) (a0 : Nat) (a1 : Int32) (a2 : Int32) (t0 : Int32) : Option (zF × Int32) :=
    (if a2 = 0 then (if t0 = 0 then ((zgR n f 12 a0 6).bind fun x36 => ((zlI n f 0 x36 (4 : Int32)).bind fun x37 => ((zck n f 12 a0).bind fun _ => (zbd (fX12_looksAt N n f a0 (10 : Int32) x37) fun f39 x38 => (if x38 = 0 then ((zbl (0 : Int32)).bind fun y => some (f39, y)) else (fX12_bookLine_71 N n f39 a0 a1 a2 t0)))))) else (fX12_bookLine_71 N n f a0 a1 a2 t0)) else (fX12_bookLine_71 N n f a0 a1 a2 t0))
set_option maxRecDepth 100000 in
set_option maxHeartbeats 4000000 in
theorem gX12_bookLine_45 (l : Launch) {G : zG} {p : Program} {e : Env} {s : State} {m : MethodId} {args : Array Value} {below : List Frame} {meth : Method} {c : Code} {N n : Nat} {f9 : zF} {r : Int32} (B : zB G p s m args meth c RX12 cX12_bookLine 7 (some .boolean)) : ∀ (f : zF) (a0 : Nat) (a1 : Int32) (a2 : Int32) (t0 : Int32) (H : Heap) (locs : List Loc) (ls : Array Slot), fX12_bookLine_45 N n f a0 a1 a2 t0 = some (f9, r) → zS G n f H locs → lv_has ls 7 [(0, zr G a0), (1, .int a1), (2, .int a2)] → W p l e (zrm 3) s m args below meth c H locs 0 0 (MQ below (zQc G n f9 (some (.int r))) args s 0 0 (zA G)) (F0 m 45 ls [.int t0]) := by
  have he := B.1
  have hb := B.2.1
  intro f a0 a1 a2 t0 H locs ls h hS hl
  unfold fX12_bookLine_45 at h
  refine lv_istore_n (lv' := [(3, _), (0, _), (1, _), (2, _)]) he hb dX12_bookLine_45 rfl hl (by decide) rfl (fun ls hl => ?_)
  refine lv_iload_n he hb dX12_bookLine_46 rfl (lv_at hl 3 rfl) ?_
  refine lv_if_ne (tgt := 71) he hb dX12_bookLine_47 (by decide) (fun hc => ?_) (fun hc => ?_)
  · rw [if_neg hc] at h
    exact gX12_bookLine_71 l B _ _ _ _ _ _ _ _ h hS (lv_sub hl [1, 2, 3, 0] rfl)
  · rw [if_pos hc] at h
    refine lv_iload_n he hb dX12_bookLine_50 rfl (lv_at hl 0 rfl) ?_
    refine lv_if_ne (tgt := 71) he hb dX12_bookLine_51 (by decide) (fun hc => ?_) (fun hc => ?_)
    · rw [if_neg hc] at h
      exact gX12_bookLine_71 l B _ _ _ _ _ _ _ _ h hS (lv_sub hl [1, 2, 3, 0] rfl)
    · rw [if_pos hc] at h
      refine z_aload_n he hb dX12_bookLine_54 rfl (lv_at hl 1 rfl) (zref_r _ _) ?_
      refine lv_bipush (v := (10 : Int32)) he hb dX12_bookLine_55 (by decide) ?_
      refine z_aload_n he hb dX12_bookLine_57 rfl (lv_at hl 1 rfl) (zref_r _ _) ?_
      obtain ⟨x36, hx, h⟩ := zob h
      refine z_getR (ci := 12) (T := TX12) (N := 50) (j := 6) B hS hx rfl zin_X12 (by decide) zk_1353 dX12_bookLine_58 ?_
      refine lv_iconst (v := (4 : Int32)) he hb dX12_bookLine_61 (by decide) ?_
      obtain ⟨x37, hx, h⟩ := zob h
      refine z_ildI B hS hx dX12_bookLine_62 ?_
      obtain ⟨_, hc, h⟩ := zob h
      obtain ⟨f39, x38, hx, h⟩ := zbd_i h
      refine z_callV (ci := 12) (T := TX12) (N := 50) (rest := []) B hS (mX12_looksAt l G hx) zy_X12_looksAt zk_1580 (by decide) hc rfl rfl hl rfl (Nat.le_of_ble_eq_true rfl) dX12_bookLine_63 (kk := (fun H locs hS => ?_))
      refine lv_if_ne (tgt := 71) he hb dX12_bookLine_66 (by decide) (fun hc => ?_) (fun hc => ?_)
      · rw [if_neg hc] at h
        exact gX12_bookLine_71 l B _ _ _ _ _ _ _ _ h hS (lv_sub hl [1, 2, 3, 0] rfl)
      · rw [if_pos hc] at h
        refine lv_iconst (v := (0 : Int32)) he hb dX12_bookLine_69 (by decide) ?_
        obtain ⟨y, hx, h⟩ := zob h
        obtain ⟨hz, rfl⟩ := zbl_i hx
        obtain ⟨rfl, rfl⟩ := Prod.mk.inj (Option.some.inj h)
        exact z_zret B hS hz dX12_bookLine_70
def fX12_bookLine_44 (N n : Nat) (f : zF) (a0 : Nat) (a1 : Int32) (a2 : Int32) : Option (zF × Int32) :=
    (fX12_bookLine_45 N n f a0 a1 a2 (0 : Int32))
set_option maxRecDepth 100000 in
set_option maxHeartbeats 4000000 in
theorem gX12_bookLine_44 (l : Launch) {G : zG} {p : Program} {e : Env} {s : State} {m : MethodId} {args : Array Value} {below : List Frame} {meth : Method} {c : Code} {N n : Nat} {f9 : zF} {r : Int32} (B : zB G p s m args meth c RX12 cX12_bookLine 7 (some .boolean)) : ∀ (f : zF) (a0 : Nat) (a1 : Int32) (a2 : Int32) (H : Heap) (locs : List Loc) (ls : Array Slot), fX12_bookLine_44 N n f a0 a1 a2 = some (f9, r) → zS G n f H locs → lv_has ls 7 [(0, zr G a0), (1, .int a1), (2, .int a2)] → W p l e (zrm 3) s m args below meth c H locs 0 0 (MQ below (zQc G n f9 (some (.int r))) args s 0 0 (zA G)) (F0 m 44 ls []) := by
  have he := B.1
  have hb := B.2.1
  intro f a0 a1 a2 H locs ls h hS hl
  unfold fX12_bookLine_44 at h
  refine lv_iconst (v := (0 : Int32)) he hb dX12_bookLine_44 (by decide) ?_
  exact gX12_bookLine_45 l B _ _ _ _ _ _ _ _ h hS (lv_sub hl [0, 1, 2] rfl)
def fX12_bookLine (N n : Nat) (f : zF) (a0 : Nat) : Option (zF × Int32) :=
    ((zgI n f 12 a0 37).bind fun x1 => ((zck n f 12 a0).bind fun _ => ((fX12_isWord N n f a0 (1752135026 : Int64)).bind fun x2 => (if x2 = 0 then ((zck n f 12 a0).bind fun _ => ((fX12_isName N n f a0).bind fun x40 => (if x40 = 0 then (fX12_bookLine_44 N n f a0 ((3 : Int32) * x1) x2) else ((zgR n f 12 a0 6).bind fun x41 => ((zlI n f 0 x41 (3 : Int32)).bind fun x42 => ((zck n f 12 a0).bind fun _ => ((fX12_seek N n f a0 (4 : Int32) x42).bind fun x43 => (if x43 < 0 then (fX12_bookLine_44 N n f a0 ((3 : Int32) * x1) x2) else (fX12_bookLine_45 N n f a0 ((3 : Int32) * x1) x2 (1 : Int32)))))))))) else (fX12_bookLine_44 N n f a0 ((3 : Int32) * x1) x2)))))
set_option maxRecDepth 100000 in
set_option maxHeartbeats 4000000 in
theorem mX12_bookLine (l : Launch) (G : zG) {N n : Nat} {f : zF} {f9 : zF} {r : Int32} {a0 : Nat} (h : fX12_bookLine N n f a0 = some (f9, r)) : zM l G yX12_bookLine cX12_bookLine 7 (some .boolean) 3 n f [zr G a0] (some (.int r)) f9 := by
  refine zM.of (by decide) (Nat.le_of_ble_eq_true rfl) ?_
  intro p e s m args below meth c locs ls B hS hl
  have he := B.1
  have hb := B.2.1
  have hl : lv_has ls 7 [(0, zr G a0)] := hl
  unfold fX12_bookLine at h
  generalize s.heap = H at hS ⊢
  refine lv_iconst (v := (3 : Int32)) he hb dX12_bookLine_0 (by decide) ?_
  refine z_aload_n he hb dX12_bookLine_1 rfl (lv_at hl 0 rfl) (zref_r _ _) ?_
  obtain ⟨x1, hx, h⟩ := zob h
  refine z_getI (ci := 12) (T := TX12) (N := 50) (j := 37) B hS hx rfl zin_X12 (by decide) zk_1384 dX12_bookLine_2 ?_
  refine lv_imul he hb dX12_bookLine_5 ?_
  refine lv_istore_n (lv' := [(1, _), (0, _)]) he hb dX12_bookLine_6 rfl hl (by decide) rfl (fun ls hl => ?_)
  refine z_aload_n he hb dX12_bookLine_7 rfl (lv_at hl 1 rfl) (zref_r _ _) ?_
  refine lv_ldc2 (v := (1752135026 : Int64)) he hb B.2.2.2.1 (B.2.2.2.2.1 _ zk_1331) dX12_bookLine_8 ?_
  obtain ⟨_, hc, h⟩ := zob h
  obtain ⟨x2, hx, h⟩ := zob h
  refine z_callV (ci := 12) (T := TX12) (N := 50) (rest := []) B hS (mX12_isWord l G hx) zy_X12_isWord zk_1525 (by decide) hc rfl rfl hl rfl (Nat.le_of_ble_eq_true rfl) dX12_bookLine_11 (kk := (fun H locs hS => ?_))
  refine lv_istore_n (lv' := [(2, _), (1, _), (0, _)]) he hb dX12_bookLine_14 rfl hl (by decide) rfl (fun ls hl => ?_)
  refine lv_iload_n he hb dX12_bookLine_15 rfl (lv_at hl 0 rfl) ?_
  refine lv_if_ne (tgt := 44) he hb dX12_bookLine_16 (by decide) (fun hc => ?_) (fun hc => ?_)
  · rw [if_neg hc] at h
    exact gX12_bookLine_44 l B _ _ _ _ _ _ _ h hS (lv_sub hl [2, 1, 0] rfl)
  · rw [if_pos hc] at h
    refine z_aload_n he hb dX12_bookLine_19 rfl (lv_at hl 2 rfl) (zref_r _ _) ?_
    obtain ⟨_, hc, h⟩ := zob h
    obtain ⟨x40, hx, h⟩ := zob h
    refine z_callV (ci := 12) (T := TX12) (N := 50) (rest := []) B hS (mX12_isName l G hx) zy_X12_isName zk_1564 (by decide) hc rfl rfl hl rfl (Nat.le_of_ble_eq_true rfl) dX12_bookLine_20 (kk := (fun H locs hS => ?_))
    refine lv_if_eq (tgt := 44) he hb dX12_bookLine_23 (by decide) (fun hc => ?_) (fun hc => ?_)
    · rw [if_pos hc] at h
      exact gX12_bookLine_44 l B _ _ _ _ _ _ _ h hS (lv_sub hl [2, 1, 0] rfl)
    · rw [if_neg hc] at h
      refine z_aload_n he hb dX12_bookLine_26 rfl (lv_at hl 2 rfl) (zref_r _ _) ?_
      refine lv_iconst (v := (4 : Int32)) he hb dX12_bookLine_27 (by decide) ?_
      refine z_aload_n he hb dX12_bookLine_28 rfl (lv_at hl 2 rfl) (zref_r _ _) ?_
      obtain ⟨x41, hx, h⟩ := zob h
      refine z_getR (ci := 12) (T := TX12) (N := 50) (j := 6) B hS hx rfl zin_X12 (by decide) zk_1353 dX12_bookLine_29 ?_
      refine lv_iconst (v := (3 : Int32)) he hb dX12_bookLine_32 (by decide) ?_
      obtain ⟨x42, hx, h⟩ := zob h
      refine z_ildI B hS hx dX12_bookLine_33 ?_
      obtain ⟨_, hc, h⟩ := zob h
      obtain ⟨x43, hx, h⟩ := zob h
      refine z_callV (ci := 12) (T := TX12) (N := 50) (rest := []) B hS (mX12_seek l G hx) zy_X12_seek zk_1568 (by decide) hc rfl rfl hl rfl (Nat.le_of_ble_eq_true rfl) dX12_bookLine_34 (kk := (fun H locs hS => ?_))
      refine lv_if_lt (tgt := 44) he hb dX12_bookLine_37 (by decide) (fun hc => ?_) (fun hc => ?_)
      · rw [if_pos hc] at h
        exact gX12_bookLine_44 l B _ _ _ _ _ _ _ h hS (lv_sub hl [2, 1, 0] rfl)
      · rw [if_neg hc] at h
        refine lv_iconst (v := (1 : Int32)) he hb dX12_bookLine_40 (by decide) ?_
        refine lv_goto (tgt := 45) he hb dX12_bookLine_41 (by decide) ?_
        exact gX12_bookLine_45 l B _ _ _ _ _ _ _ _ h hS (lv_sub hl [2, 1, 0] rfl)
