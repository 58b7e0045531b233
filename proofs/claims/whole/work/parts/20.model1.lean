/-! methods: what they do to the small heap, and that their bytecode does it -/
theorem dX12_readLooker_0 : decode cX12_readLooker 0 = .ok (.aload_n 0, 1) := by decide +kernel
theorem dX12_readLooker_1 : decode cX12_readLooker 1 = .ok (.getfield 37, 3) := by decide +kernel
theorem dX12_readLooker_4 : decode cX12_readLooker 4 = .ok (.iconst 4, 1) := by decide +kernel
theorem dX12_readLooker_5 : decode cX12_readLooker 5 = .ok (.iaload, 1) := by decide +kernel
theorem dX12_readLooker_6 : decode cX12_readLooker 6 = .ok (.istore_n 1, 1) := by decide +kernel
theorem dX12_readLooker_7 : decode cX12_readLooker 7 = .ok (.iload_n 1, 1) := by decide +kernel
theorem dX12_readLooker_8 : decode cX12_readLooker 8 = .ok (.iconst 5, 1) := by decide +kernel
theorem dX12_readLooker_9 : decode cX12_readLooker 9 = .ok (.if_icmp .ne 9, 3) := by decide +kernel
theorem dX12_readLooker_12 : decode cX12_readLooker 12 = .ok (.aload_n 0, 1) := by decide +kernel
theorem dX12_readLooker_13 : decode cX12_readLooker 13 = .ok (.iconst 4, 1) := by decide +kernel
theorem dX12_readLooker_14 : decode cX12_readLooker 14 = .ok (.invokevirtual 186, 3) := by decide +kernel
theorem dX12_readLooker_17 : decode cX12_readLooker 17 = .ok (.ireturn, 1) := by decide +kernel
theorem dX12_readLooker_18 : decode cX12_readLooker 18 = .ok (.aload_n 0, 1) := by decide +kernel
theorem dX12_readLooker_19 : decode cX12_readLooker 19 = .ok (.invokevirtual 189, 3) := by decide +kernel
theorem dX12_readLooker_22 : decode cX12_readLooker 22 = .ok (.aload_n 0, 1) := by decide +kernel
theorem dX12_readLooker_23 : decode cX12_readLooker 23 = .ok (.bipush 25, 2) := by decide +kernel
theorem dX12_readLooker_25 : decode cX12_readLooker 25 = .ok (.iload_n 1, 1) := by decide +kernel
theorem dX12_readLooker_26 : decode cX12_readLooker 26 = .ok (.iadd, 1) := by decide +kernel
theorem dX12_readLooker_27 : decode cX12_readLooker 27 = .ok (.invokevirtual 249, 3) := by decide +kernel
theorem dX12_readLooker_30 : decode cX12_readLooker 30 = .ok (.ifCond .eq 10, 3) := by decide +kernel
theorem dX12_readLooker_33 : decode cX12_readLooker 33 = .ok (.aload_n 0, 1) := by decide +kernel
theorem dX12_readLooker_34 : decode cX12_readLooker 34 = .ok (.invokevirtual 246, 3) := by decide +kernel
theorem dX12_readLooker_37 : decode cX12_readLooker 37 = .ok (.ifCond .ne 5, 3) := by decide +kernel
theorem dX12_readLooker_40 : decode cX12_readLooker 40 = .ok (.iconst 0, 1) := by decide +kernel
theorem dX12_readLooker_41 : decode cX12_readLooker 41 = .ok (.ireturn, 1) := by decide +kernel
theorem dX12_readLooker_42 : decode cX12_readLooker 42 = .ok (.aload_n 0, 1) := by decide +kernel
theorem dX12_readLooker_43 : decode cX12_readLooker 43 = .ok (.getfield 37, 3) := by decide +kernel
theorem dX12_readLooker_46 : decode cX12_readLooker 46 = .ok (.bipush 119, 2) := by decide +kernel
theorem dX12_readLooker_48 : decode cX12_readLooker 48 = .ok (.iload_n 1, 1) := by decide +kernel
theorem dX12_readLooker_49 : decode cX12_readLooker 49 = .ok (.iadd, 1) := by decide +kernel
theorem dX12_readLooker_50 : decode cX12_readLooker 50 = .ok (.aload_n 0, 1) := by decide +kernel
theorem dX12_readLooker_51 : decode cX12_readLooker 51 = .ok (.getfield 196, 3) := by decide +kernel
theorem dX12_readLooker_54 : decode cX12_readLooker 54 = .ok (.iastore, 1) := by decide +kernel
theorem dX12_readLooker_55 : decode cX12_readLooker 55 = .ok (.aload_n 0, 1) := by decide +kernel
theorem dX12_readLooker_56 : decode cX12_readLooker 56 = .ok (.invokevirtual 255, 3) := by decide +kernel
theorem dX12_readLooker_59 : decode cX12_readLooker 59 = .ok (.ifCond .ne 5, 3) := by decide +kernel
theorem dX12_readLooker_62 : decode cX12_readLooker 62 = .ok (.iconst 0, 1) := by decide +kernel
theorem dX12_readLooker_63 : decode cX12_readLooker 63 = .ok (.ireturn, 1) := by decide +kernel
theorem dX12_readLooker_64 : decode cX12_readLooker 64 = .ok (.aload_n 0, 1) := by decide +kernel
theorem dX12_readLooker_65 : decode cX12_readLooker 65 = .ok (.getfield 37, 3) := by decide +kernel
theorem dX12_readLooker_68 : decode cX12_readLooker 68 = .ok (.bipush 124, 2) := by decide +kernel
theorem dX12_readLooker_70 : decode cX12_readLooker 70 = .ok (.iload_n 1, 1) := by decide +kernel
theorem dX12_readLooker_71 : decode cX12_readLooker 71 = .ok (.iadd, 1) := by decide +kernel
theorem dX12_readLooker_72 : decode cX12_readLooker 72 = .ok (.aload_n 0, 1) := by decide +kernel
theorem dX12_readLooker_73 : decode cX12_readLooker 73 = .ok (.getfield 196, 3) := by decide +kernel
theorem dX12_readLooker_76 : decode cX12_readLooker 76 = .ok (.iastore, 1) := by decide +kernel
theorem dX12_readLooker_77 : decode cX12_readLooker 77 = .ok (.aload_n 0, 1) := by decide +kernel
theorem dX12_readLooker_78 : decode cX12_readLooker 78 = .ok (.getfield 37, 3) := by decide +kernel
theorem dX12_readLooker_81 : decode cX12_readLooker 81 = .ok (.sipush 129, 3) := by decide +kernel
theorem dX12_readLooker_84 : decode cX12_readLooker 84 = .ok (.iload_n 1, 1) := by decide +kernel
theorem dX12_readLooker_85 : decode cX12_readLooker 85 = .ok (.iadd, 1) := by decide +kernel
theorem dX12_readLooker_86 : decode cX12_readLooker 86 = .ok (.iconst 0, 1) := by decide +kernel
theorem dX12_readLooker_87 : decode cX12_readLooker 87 = .ok (.iastore, 1) := by decide +kernel
theorem dX12_readLooker_88 : decode cX12_readLooker 88 = .ok (.aload_n 0, 1) := by decide +kernel
theorem dX12_readLooker_89 : decode cX12_readLooker 89 = .ok (.getfield 37, 3) := by decide +kernel
theorem dX12_readLooker_92 : decode cX12_readLooker 92 = .ok (.sipush 134, 3) := by decide +kernel
theorem dX12_readLooker_95 : decode cX12_readLooker 95 = .ok (.iload_n 1, 1) := by decide +kernel
theorem dX12_readLooker_96 : decode cX12_readLooker 96 = .ok (.iadd, 1) := by decide +kernel
theorem dX12_readLooker_97 : decode cX12_readLooker 97 = .ok (.bipush 24, 2) := by decide +kernel
theorem dX12_readLooker_99 : decode cX12_readLooker 99 = .ok (.iastore, 1) := by decide +kernel
theorem dX12_readLooker_100 : decode cX12_readLooker 100 = .ok (.aload_n 0, 1) := by decide +kernel
theorem dX12_readLooker_101 : decode cX12_readLooker 101 = .ok (.getfield 160, 3) := by decide +kernel
theorem dX12_readLooker_104 : decode cX12_readLooker 104 = .ok (.iconst 2, 1) := by decide +kernel
theorem dX12_readLooker_105 : decode cX12_readLooker 105 = .ok (.if_icmp .ne 35, 3) := by decide +kernel
theorem dX12_readLooker_108 : decode cX12_readLooker 108 = .ok (.aload_n 0, 1) := by decide +kernel
theorem dX12_readLooker_109 : decode cX12_readLooker 109 = .ok (.sipush 129, 3) := by decide +kernel
theorem dX12_readLooker_112 : decode cX12_readLooker 112 = .ok (.iload_n 1, 1) := by decide +kernel
theorem dX12_readLooker_113 : decode cX12_readLooker 113 = .ok (.iadd, 1) := by decide +kernel
theorem dX12_readLooker_114 : decode cX12_readLooker 114 = .ok (.iconst 0, 1) := by decide +kernel
theorem dX12_readLooker_115 : decode cX12_readLooker 115 = .ok (.bipush 23, 2) := by decide +kernel
theorem dX12_readLooker_117 : decode cX12_readLooker 117 = .ok (.invokevirtual 243, 3) := by decide +kernel
theorem dX12_readLooker_120 : decode cX12_readLooker 120 = .ok (.ifCond .eq 18, 3) := by decide +kernel
theorem dX12_readLooker_123 : decode cX12_readLooker 123 = .ok (.aload_n 0, 1) := by decide +kernel
theorem dX12_readLooker_124 : decode cX12_readLooker 124 = .ok (.sipush 134, 3) := by decide +kernel
theorem dX12_readLooker_127 : decode cX12_readLooker 127 = .ok (.iload_n 1, 1) := by decide +kernel
theorem dX12_readLooker_128 : decode cX12_readLooker 128 = .ok (.iadd, 1) := by decide +kernel
theorem dX12_readLooker_129 : decode cX12_readLooker 129 = .ok (.iconst 1, 1) := by decide +kernel
theorem dX12_readLooker_130 : decode cX12_readLooker 130 = .ok (.bipush 24, 2) := by decide +kernel
theorem dX12_readLooker_132 : decode cX12_readLooker 132 = .ok (.invokevirtual 243, 3) := by decide +kernel
theorem dX12_readLooker_135 : decode cX12_readLooker 135 = .ok (.ifCond .ne 5, 3) := by decide +kernel
theorem dX12_readLooker_138 : decode cX12_readLooker 138 = .ok (.iconst 0, 1) := by decide +kernel
theorem dX12_readLooker_139 : decode cX12_readLooker 139 = .ok (.ireturn, 1) := by decide +kernel
theorem dX12_readLooker_140 : decode cX12_readLooker 140 = .ok (.aload_n 0, 1) := by decide +kernel
theorem dX12_readLooker_141 : decode cX12_readLooker 141 = .ok (.getfield 37, 3) := by decide +kernel
theorem dX12_readLooker_144 : decode cX12_readLooker 144 = .ok (.iconst 4, 1) := by decide +kernel
theorem dX12_readLooker_145 : decode cX12_readLooker 145 = .ok (.dup2, 1) := by decide +kernel
theorem dX12_readLooker_146 : decode cX12_readLooker 146 = .ok (.iaload, 1) := by decide +kernel
theorem dX12_readLooker_147 : decode cX12_readLooker 147 = .ok (.iconst 1, 1) := by decide +kernel
theorem dX12_readLooker_148 : decode cX12_readLooker 148 = .ok (.iadd, 1) := by decide +kernel
theorem dX12_readLooker_149 : decode cX12_readLooker 149 = .ok (.iastore, 1) := by decide +kernel
theorem dX12_readLooker_150 : decode cX12_readLooker 150 = .ok (.iconst 1, 1) := by decide +kernel
theorem dX12_readLooker_151 : decode cX12_readLooker 151 = .ok (.ireturn, 1) := by decide +kernel
def fX12_readLooker_140 (N n : Nat) (f : zF) (a0 : Nat) : Option (zF × Int32) :=
    ((zgR n f 12 a0 7).bind fun x21 => ((zlI n f 0 x21 (4 : Int32)).bind fun x22 => ((zsI n f 0 x21 (4 : Int32) (x22 + (1 : Int32))).bind fun f23 => ((zbl (1 : Int32)).bind fun y => some (f23, y)))))
set_option maxRecDepth 100000 in
set_option maxHeartbeats 4000000 in
theorem gX12_readLooker_140 (l : Launch) {G : zG} {p : Program} {e : Env} {s : State} {m : MethodId} {args : Array Value} {below : List Frame} {meth : Method} {c : Code} {N n : Nat} {f9 : zF} {r : Int32} (B : zB G p s m args meth c RX12 cX12_readLooker 2 (some .boolean)) : ∀ (f : zF) (a0 : Nat) (H : Heap) (locs : List Loc) (ls : Array Slot), fX12_readLooker_140 N n f a0 = some (f9, r) → zS G n f H locs → lv_has ls 2 [(0, zr G a0)] → W p l e (zrm 4) s m args below meth c H locs 0 0 (MQ below (zQc G n f9 (some (.int r))) args s 0 0 (zA G)) (F0 m 140 ls []) := by
  have he := B.1
  have hb := B.2.1
  intro f a0 H locs ls h hS hl
  unfold fX12_readLooker_140 at h
  refine z_aload_n he hb dX12_readLooker_140 rfl (lv_at hl 0 rfl) (zref_r _ _) ?_
  obtain ⟨x21, hx, h⟩ := zob h
  refine z_getR (ci := 12) (T := TX12) (N := 50) (j := 7) B hS hx rfl zin_X12 (by decide) zk_1354 dX12_readLooker_141 ?_
  refine lv_iconst (v := (4 : Int32)) he hb dX12_readLooker_144 (by decide) ?_
  refine lv_dup2_11 he hb dX12_readLooker_145 rfl rfl ?_
  obtain ⟨x22, hx, h⟩ := zob h
  refine z_ildI B hS hx dX12_readLooker_146 ?_
  refine lv_iconst (v := (1 : Int32)) he hb dX12_readLooker_147 (by decide) ?_
  refine lv_iadd he hb dX12_readLooker_148 ?_
  obtain ⟨f23, hx, h⟩ := zob h
  refine z_istI B hS hx dX12_readLooker_149 (fun H locs hS => ?_)
  refine lv_iconst (v := (1 : Int32)) he hb dX12_readLooker_150 (by decide) ?_
  obtain ⟨y, hx, h⟩ := zob h
  obtain ⟨hz, rfl⟩ := zbl_i hx
  obtain ⟨rfl, rfl⟩ := Prod.mk.inj (Option.some.inj h)
  exact z_zret B hS hz dX12_readLooker_151
def fX12_readLooker (N n : Nat) (f : zF) (a0 : Nat) : Option (zF × Int32) :=
    ((zgR n f 12 a0 7).bind fun x1 => ((zlI n f 0 x1 (4 : Int32)).bind fun x2 => (if x2 = (5 : Int32) then ((zck n f 12 a0).bind fun _ => (zbd (fX12_bad N n f a0 (4 : Int32)) fun f29 x28 => ((zbl x28).bind fun y => some (f29, y)))) else ((zck n f 12 a0).bind fun _ => ((fX12_next N n f a0).bind fun f3 => ((zck n f3 12 a0).bind fun _ => (zbd (fX12_fresh N n f3 a0 ((25 : Int32) + x2)) fun f5 x4 => (if x4 = 0 then ((zbl (0 : Int32)).bind fun y => some (f5, y)) else ((zck n f5 12 a0).bind fun _ => (zbd (fX12_takesCell N n f5 a0) fun f7 x6 => (if x6 = 0 then ((zbl (0 : Int32)).bind fun y => some (f7, y)) else ((zgR n f7 12 a0 7).bind fun x8 => ((zgI n f7 12 a0 18).bind fun x9 => ((zsI n f7 0 x8 ((119 : Int32) + x2) x9).bind fun f10 => ((zck n f10 12 a0).bind fun _ => (zbd (fX12_takesSide N n f10 a0) fun f12 x11 => (if x11 = 0 then ((zbl (0 : Int32)).bind fun y => some (f12, y)) else ((zgR n f12 12 a0 7).bind fun x13 => ((zgI n f12 12 a0 18).bind fun x14 => ((zsI n f12 0 x13 ((124 : Int32) + x2) x14).bind fun f15 => ((zgR n f15 12 a0 7).bind fun x16 => ((zsI n f15 0 x16 ((129 : Int32) + x2) (0 : Int32)).bind fun f17 => ((zgR n f17 12 a0 7).bind fun x18 => ((zsI n f17 0 x18 ((134 : Int32) + x2) (24 : Int32)).bind fun f19 => ((zgI n f19 12 a0 11).bind fun x20 => (if x20 = (2 : Int32) then ((zck n f19 12 a0).bind fun _ => (zbd (fX12_puts N n f19 a0 ((129 : Int32) + x2) (0 : Int32) (23 : Int32)) fun f25 x24 => (if x24 = 0 then ((zbl (0 : Int32)).bind fun y => some (f25, y)) else ((zck n f25 12 a0).bind fun _ => (zbd (fX12_puts N n f25 a0 ((134 : Int32) + x2) (1 : Int32) (24 : Int32)) fun f27 x26 => (if x26 = 0 then ((zbl (0 : Int32)).bind fun y => some (f27, y)) else (fX12_readLooker_140 N n f27 a0))))))) else (fX12_readLooker_140 N n f19 a0)))))))))))))))))))))))))))
set_option maxRecDepth 100000 in
set_option maxHeartbeats 4000000 in
theorem mX12_readLooker (l : Launch) (G : zG) {N n : Nat} {f : zF} {f9 : zF} {r : Int32} {a0 : Nat} (h : fX12_readLooker N n f a0 = some (f9, r)) : zM l G yX12_readLooker cX12_readLooker 2 (some .boolean) 4 n f [zr G a0] (some (.int r)) f9 := by
  refine zM.of (by decide) (Nat.le_of_ble_eq_true rfl) ?_
  intro p e s m args below meth c locs ls B hS hl
  have he := B.1
  have hb := B.2.1
  have hl : lv_has ls 2 [(0, zr G a0)] := hl
  unfold fX12_readLooker at h
  generalize s.heap = H at hS ⊢
  refine z_aload_n he hb dX12_readLooker_0 rfl (lv_at hl 0 rfl) (zref_r _ _) ?_
  obtain ⟨x1, hx, h⟩ := zob h
  refine z_getR (ci := 12) (T := TX12) (N := 50) (j := 7) B hS hx rfl zin_X12 (by decide) zk_1354 dX12_readLooker_1 ?_
  refine lv_iconst (v := (4 : Int32)) he hb dX12_readLooker_4 (by decide) ?_
  obtain ⟨x2, hx, h⟩ := zob h
  refine z_ildI B hS hx dX12_readLooker_5 ?_
  refine lv_istore_n (lv' := [(1, _), (0, _)]) he hb dX12_readLooker_6 rfl hl (by decide) rfl (fun ls hl => ?_)
  refine lv_iload_n he hb dX12_readLooker_7 rfl (lv_at hl 0 rfl) ?_
  refine lv_iconst (v := (5 : Int32)) he hb dX12_readLooker_8 (by decide) ?_
  refine lv_icmp_ne (tgt := 18) he hb dX12_readLooker_9 (by decide) (fun hc => ?_) (fun hc => ?_)
  · rw [if_neg hc] at h
    refine z_aload_n he hb dX12_readLooker_18 rfl (lv_at hl 1 rfl) (zref_r _ _) ?_
    obtain ⟨_, hc, h⟩ := zob h
    obtain ⟨f3, hx, h⟩ := zob h
    refine z_callV (ci := 12) (T := TX12) (N := 50) (rest := []) B hS (mX12_next l G hx) zy_X12_next zk_1507 (by decide) hc rfl rfl hl rfl (Nat.le_of_ble_eq_true rfl) dX12_readLooker_19 (kk := (fun H locs hS => ?_))
    refine z_aload_n he hb dX12_readLooker_22 rfl (lv_at hl 1 rfl) (zref_r _ _) ?_
    refine lv_bipush (v := (25 : Int32)) he hb dX12_readLooker_23 (by decide) ?_
    refine lv_iload_n he hb dX12_readLooker_25 rfl (lv_at hl 0 rfl) ?_
    refine lv_iadd he hb dX12_readLooker_26 ?_
    obtain ⟨_, hc, h⟩ := zob h
    obtain ⟨f5, x4, hx, h⟩ := zbd_i h
    refine z_callV (ci := 12) (T := TX12) (N := 50) (rest := []) B hS (mX12_fresh l G hx) zy_X12_fresh zk_1560 (by decide) hc rfl rfl hl rfl (Nat.le_of_ble_eq_true rfl) dX12_readLooker_27 (kk := (fun H locs hS => ?_))
    refine lv_if_eq (tgt := 40) he hb dX12_readLooker_30 (by decide) (fun hc => ?_) (fun hc => ?_)
    · rw [if_pos hc] at h
      refine lv_iconst (v := (0 : Int32)) he hb dX12_readLooker_40 (by decide) ?_
      obtain ⟨y, hx, h⟩ := zob h
      obtain ⟨hz, rfl⟩ := zbl_i hx
      obtain ⟨rfl, rfl⟩ := Prod.mk.inj (Option.some.inj h)
      exact z_zret B hS hz dX12_readLooker_41
    · rw [if_neg hc] at h
      refine z_aload_n he hb dX12_readLooker_33 rfl (lv_at hl 1 rfl) (zref_r _ _) ?_
      obtain ⟨_, hc, h⟩ := zob h
      obtain ⟨f7, x6, hx, h⟩ := zbd_i h
      refine z_callV (ci := 12) (T := TX12) (N := 50) (rest := []) B hS (mX12_takesCell l G hx) zy_X12_takesCell zk_1552 (by decide) hc rfl rfl hl rfl (Nat.le_of_ble_eq_true rfl) dX12_readLooker_34 (kk := (fun H locs hS => ?_))
      refine lv_if_ne (tgt := 42) he hb dX12_readLooker_37 (by decide) (fun hc => ?_) (fun hc => ?_)
      · rw [if_neg hc] at h
        refine z_aload_n he hb dX12_readLooker_42 rfl (lv_at hl 1 rfl) (zref_r _ _) ?_
        obtain ⟨x8, hx, h⟩ := zob h
        refine z_getR (ci := 12) (T := TX12) (N := 50) (j := 7) B hS hx rfl zin_X12 (by decide) zk_1354 dX12_readLooker_43 ?_
        refine lv_bipush (v := (119 : Int32)) he hb dX12_readLooker_46 (by decide) ?_
        refine lv_iload_n he hb dX12_readLooker_48 rfl (lv_at hl 0 rfl) ?_
        refine lv_iadd he hb dX12_readLooker_49 ?_
        refine z_aload_n he hb dX12_readLooker_50 rfl (lv_at hl 1 rfl) (zref_r _ _) ?_
        obtain ⟨x9, hx, h⟩ := zob h
        refine z_getI (ci := 12) (T := TX12) (N := 50) (j := 18) B hS hx rfl zin_X12 (by decide) zk_1365 dX12_readLooker_51 ?_
        obtain ⟨f10, hx, h⟩ := zob h
        refine z_istI B hS hx dX12_readLooker_54 (fun H locs hS => ?_)
        refine z_aload_n he hb dX12_readLooker_55 rfl (lv_at hl 1 rfl) (zref_r _ _) ?_
        obtain ⟨_, hc, h⟩ := zob h
        obtain ⟨f12, x11, hx, h⟩ := zbd_i h
        refine z_callV (ci := 12) (T := TX12) (N := 50) (rest := []) B hS (mX12_takesSide l G hx) zy_X12_takesSide zk_1588 (by decide) hc rfl rfl hl rfl (Nat.le_of_ble_eq_true rfl) dX12_readLooker_56 (kk := (fun H locs hS => ?_))
        refine lv_if_ne (tgt := 64) he hb dX12_readLooker_59 (by decide) (fun hc => ?_) (fun hc => ?_)
        · rw [if_neg hc] at h
          refine z_aload_n he hb dX12_readLooker_64 rfl (lv_at hl 1 rfl) (zref_r _ _) ?_
          obtain ⟨x13, hx, h⟩ := zob h
          refine z_getR (ci := 12) (T := TX12) (N := 50) (j := 7) B hS hx rfl zin_X12 (by decide) zk_1354 dX12_readLooker_65 ?_
          refine lv_bipush (v := (124 : Int32)) he hb dX12_readLooker_68 (by decide) ?_
          refine lv_iload_n he hb dX12_readLooker_70 rfl (lv_at hl 0 rfl) ?_
          refine lv_iadd he hb dX12_readLooker_71 ?_
          refine z_aload_n he hb dX12_readLooker_72 rfl (lv_at hl 1 rfl) (zref_r _ _) ?_
          obtain ⟨x14, hx, h⟩ := zob h
          refine z_getI (ci := 12) (T := TX12) (N := 50) (j := 18) B hS hx rfl zin_X12 (by decide) zk_1365 dX12_readLooker_73 ?_
          obtain ⟨f15, hx, h⟩ := zob h
          refine z_istI B hS hx dX12_readLooker_76 (fun H locs hS => ?_)
          refine z_aload_n he hb dX12_readLooker_77 rfl (lv_at hl 1 rfl) (zref_r _ _) ?_
          obtain ⟨x16, hx, h⟩ := zob h
          refine z_getR (ci := 12) (T := TX12) (N := 50) (j := 7) B hS hx rfl zin_X12 (by decide) zk_1354 dX12_readLooker_78 ?_
          refine lv_sipush (v := (129 : Int32)) he hb dX12_readLooker_81 (by decide) ?_
          refine lv_iload_n he hb dX12_readLooker_84 rfl (lv_at hl 0 rfl) ?_
          refine lv_iadd he hb dX12_readLooker_85 ?_
          refine lv_iconst (v := (0 : Int32)) he hb dX12_readLooker_86 (by decide) ?_
          obtain ⟨f17, hx, h⟩ := zob h
          refine z_istI B hS hx dX12_readLooker_87 (fun H locs hS => ?_)
          refine z_aload_n he hb dX12_readLooker_88 rfl (lv_at hl 1 rfl) (zref_r _ _) ?_
          obtain ⟨x18, hx, h⟩ := zob h
          refine z_getR (ci := 12) (T := TX12) (N := 50) (j := 7) B hS hx rfl zin_X12 (by decide) zk_1354 dX12_readLooker_89 ?_
          refine lv_sipush (v := (134 : Int32)) he hb dX12_readLooker_92 (by decide) ?_
          refine lv_iload_n he hb dX12_readLooker_95 rfl (lv_at hl 0 rfl) ?_
          refine lv_iadd he hb dX12_readLooker_96 ?_
          refine lv_bipush (v := (24 : Int32)) he hb dX12_readLooker_97 (by decide) ?_
          obtain ⟨f19, hx, h⟩ := zob h
          refine z_istI B hS hx dX12_readLooker_99 (fun H locs hS => ?_)
          refine z_aload_n he hb dX12_readLooker_100 rfl (lv_at hl 1 rfl) (zref_r _ _) ?_
          obtain ⟨x20, hx, h⟩ := zob h
          refine z_getI (ci := 12) (T := TX12) (N := 50) (j := 11) B hS hx rfl zin_X12 (by decide) zk_1358 dX12_readLooker_101 ?_
          refine lv_iconst (v := (2 : Int32)) he hb dX12_readLooker_104 (by decide) ?_
          refine lv_icmp_ne (tgt := 140) he hb dX12_readLooker_105 (by decide) (fun hc => ?_) (fun hc => ?_)
          · rw [if_neg hc] at h
            exact gX12_readLooker_140 l B _ _ _ _ _ h hS (lv_sub hl [1] rfl)
          · rw [if_pos hc] at h
            refine z_aload_n he hb dX12_readLooker_108 rfl (lv_at hl 1 rfl) (zref_r _ _) ?_
            refine lv_sipush (v := (129 : Int32)) he hb dX12_readLooker_109 (by decide) ?_
            refine lv_iload_n he hb dX12_readLooker_112 rfl (lv_at hl 0 rfl) ?_
            refine lv_iadd he hb dX12_readLooker_113 ?_
            refine lv_iconst (v := (0 : Int32)) he hb dX12_readLooker_114 (by decide) ?_
            refine lv_bipush (v := (23 : Int32)) he hb dX12_readLooker_115 (by decide) ?_
            obtain ⟨_, hc, h⟩ := zob h
            obtain ⟨f25, x24, hx, h⟩ := zbd_i h
            refine z_callV (ci := 12) (T := TX12) (N := 50) (rest := []) B hS (mX12_puts l G hx) zy_X12_puts zk_1537 (by decide) hc rfl rfl hl rfl (Nat.le_of_ble_eq_true rfl) dX12_readLooker_117 (kk := (fun H locs hS => ?_))
            refine lv_if_eq (tgt := 138) he hb dX12_readLooker_120 (by decide) (fun hc => ?_) (fun hc => ?_)
            · rw [if_pos hc] at h
              refine lv_iconst (v := (0 : Int32)) he hb dX12_readLooker_138 (by decide) ?_
              obtain ⟨y, hx, h⟩ := zob h
              obtain ⟨hz, rfl⟩ := zbl_i hx
              obtain ⟨rfl, rfl⟩ := Prod.mk.inj (Option.some.inj h)
              exact z_zret B hS hz dX12_readLooker_139
            · rw [if_neg hc] at h
              refine z_aload_n he hb dX12_readLooker_123 rfl (lv_at hl 1 rfl) (zref_r _ _) ?_
              refine lv_sipush (v := (134 : Int32)) he hb dX12_readLooker_124 (by decide) ?_
              refine lv_iload_n he hb dX12_readLooker_127 rfl (lv_at hl 0 rfl) ?_
              refine lv_iadd he hb dX12_readLooker_128 ?_
              refine lv_iconst (v := (1 : Int32)) he hb dX12_readLooker_129 (by decide) ?_
              refine lv_bipush (v := (24 : Int32)) he hb dX12_readLooker_130 (by decide) ?_
              obtain ⟨_, hc, h⟩ := zob h
              obtain ⟨f27, x26, hx, h⟩ := zbd_i h
              refine z_callV (ci := 12) (T := TX12) (N := 50) (rest := []) B hS (mX12_puts l G hx) zy_X12_puts zk_1537 (by decide) hc rfl rfl hl rfl (Nat.le_of_ble_eq_true rfl) dX12_readLooker_132 (kk := (fun H locs hS => ?_))
              refine lv_if_ne (tgt := 140) he hb dX12_readLooker_135 (by decide) (fun hc => ?_) (fun hc => ?_)
              · rw [if_neg hc] at h
                exact gX12_readLooker_140 l B _ _ _ _ _ h hS (lv_sub hl [1] rfl)
              · rw [if_pos hc] at h
                refine lv_iconst (v := (0 : Int32)) he hb dX12_readLooker_138 (by decide) ?_
                obtain ⟨y, hx, h⟩ := zob h
                obtain ⟨hz, rfl⟩ := zbl_i hx
                obtain ⟨rfl, rfl⟩ := Prod.mk.inj (Option.some.inj h)
                exact z_zret B hS hz dX12_readLooker_139
        · rw [if_pos hc] at h
          refine lv_iconst (v := (0 : Int32)) he hb dX12_readLooker_62 (by decide) ?_
          obtain ⟨y, hx, h⟩ := zob h
          obtain ⟨hz, rfl⟩ := zbl_i hx
          obtain ⟨rfl, rfl⟩ := Prod.mk.inj (Option.some.inj h)
          exact z_zret B hS hz dX12_readLooker_63
      · rw [if_pos hc] at h
        refine lv_iconst (v := (0 : Int32)) he hb dX12_readLooker_40 (by decide) ?_
        obtain ⟨y, hx, h⟩ := zob h
        obtain ⟨hz, rfl⟩ := zbl_i hx
        obtain ⟨rfl, rfl⟩ := Prod.mk.inj (Option.some.inj h)
        exact z_zret B hS hz dX12_readLooker_41
  · rw [if_pos hc] at h
    refine z_aload_n he hb dX12_readLooker_12 rfl (lv_at hl 1 rfl) (zref_r _ _) ?_
    refine lv_iconst (v := (4 : Int32)) he hb dX12_readLooker_13 (by decide) ?_
    obtain ⟨_, hc, h⟩ := zob h
    obtain ⟨f29, x28, hx, h⟩ := zbd_i h
    refine z_callV (ci := 12) (T := TX12) (N := 50) (rest := []) B hS (mX12_bad l G hx) zy_X12_bad zk_1533 (by decide) hc rfl rfl hl rfl (Nat.le_of_ble_eq_true rfl) dX12_readLooker_14 (kk := (fun H locs hS => ?_))
    obtain ⟨y, hx, h⟩ := zob h
    obtain ⟨hz, rfl⟩ := zbl_i hx
    obtain ⟨rfl, rfl⟩ := Prod.mk.inj (Option.some.inj h)
    exact z_zret B hS hz dX12_readLooker_17
theorem dX12_readLine_0 : decode cX12_readLine 0 = .ok (.aload_n 0, 1) := by decide +kernel
theorem dX12_readLine_1 : decode cX12_readLine 1 = .ok (.ldc2_w 93, 3) := by decide +kernel
theorem dX12_readLine_4 : decode cX12_readLine 4 = .ok (.invokevirtual 203, 3) := by decide +kernel
theorem dX12_readLine_7 : decode cX12_readLine 7 = .ok (.ifCond .eq 8, 3) := by decide +kernel
theorem dX12_readLine_10 : decode cX12_readLine 10 = .ok (.aload_n 0, 1) := by decide +kernel
theorem dX12_readLine_11 : decode cX12_readLine 11 = .ok (.invokevirtual 221, 3) := by decide +kernel
theorem dX12_readLine_14 : decode cX12_readLine 14 = .ok (.ireturn, 1) := by decide +kernel
theorem dX12_readLine_15 : decode cX12_readLine 15 = .ok (.aload_n 0, 1) := by decide +kernel
theorem dX12_readLine_16 : decode cX12_readLine 16 = .ok (.dup, 1) := by decide +kernel
theorem dX12_readLine_17 : decode cX12_readLine 17 = .ok (.getfield 224, 3) := by decide +kernel
theorem dX12_readLine_20 : decode cX12_readLine 20 = .ok (.aload_n 0, 1) := by decide +kernel
theorem dX12_readLine_21 : decode cX12_readLine 21 = .ok (.ldc2_w 97, 3) := by decide +kernel
theorem dX12_readLine_24 : decode cX12_readLine 24 = .ok (.invokevirtual 203, 3) := by decide +kernel
theorem dX12_readLine_27 : decode cX12_readLine 27 = .ok (.ifCond .ne 7, 3) := by decide +kernel
theorem dX12_readLine_30 : decode cX12_readLine 30 = .ok (.iconst 1, 1) := by decide +kernel
theorem dX12_readLine_31 : decode cX12_readLine 31 = .ok (.goto 4, 3) := by decide +kernel
theorem dX12_readLine_34 : decode cX12_readLine 34 = .ok (.iconst 0, 1) := by decide +kernel
theorem dX12_readLine_35 : decode cX12_readLine 35 = .ok (.ior, 1) := by decide +kernel
theorem dX12_readLine_36 : decode cX12_readLine 36 = .ok (.putfield 224, 3) := by decide +kernel
theorem dX12_readLine_39 : decode cX12_readLine 39 = .ok (.aload_n 0, 1) := by decide +kernel
theorem dX12_readLine_40 : decode cX12_readLine 40 = .ok (.ldc2_w 95, 3) := by decide +kernel
theorem dX12_readLine_43 : decode cX12_readLine 43 = .ok (.invokevirtual 203, 3) := by decide +kernel
theorem dX12_readLine_46 : decode cX12_readLine 46 = .ok (.ifCond .eq 8, 3) := by decide +kernel
theorem dX12_readLine_49 : decode cX12_readLine 49 = .ok (.aload_n 0, 1) := by decide +kernel
theorem dX12_readLine_50 : decode cX12_readLine 50 = .ok (.invokevirtual 228, 3) := by decide +kernel
theorem dX12_readLine_53 : decode cX12_readLine 53 = .ok (.ireturn, 1) := by decide +kernel
theorem dX12_readLine_54 : decode cX12_readLine 54 = .ok (.aload_n 0, 1) := by decide +kernel
theorem dX12_readLine_55 : decode cX12_readLine 55 = .ok (.ldc2_w 97, 3) := by decide +kernel
theorem dX12_readLine_58 : decode cX12_readLine 58 = .ok (.invokevirtual 203, 3) := by decide +kernel
theorem dX12_readLine_61 : decode cX12_readLine 61 = .ok (.ifCond .eq 8, 3) := by decide +kernel
theorem dX12_readLine_64 : decode cX12_readLine 64 = .ok (.aload_n 0, 1) := by decide +kernel
theorem dX12_readLine_65 : decode cX12_readLine 65 = .ok (.invokevirtual 231, 3) := by decide +kernel
theorem dX12_readLine_68 : decode cX12_readLine 68 = .ok (.ireturn, 1) := by decide +kernel
theorem dX12_readLine_69 : decode cX12_readLine 69 = .ok (.aload_n 0, 1) := by decide +kernel
theorem dX12_readLine_70 : decode cX12_readLine 70 = .ok (.ldc2_w 99, 3) := by decide +kernel
theorem dX12_readLine_73 : decode cX12_readLine 73 = .ok (.invokevirtual 203, 3) := by decide +kernel
theorem dX12_readLine_76 : decode cX12_readLine 76 = .ok (.ifCond .eq 8, 3) := by decide +kernel
theorem dX12_readLine_79 : decode cX12_readLine 79 = .ok (.aload_n 0, 1) := by decide +kernel
theorem dX12_readLine_80 : decode cX12_readLine 80 = .ok (.invokevirtual 234, 3) := by decide +kernel
theorem dX12_readLine_83 : decode cX12_readLine 83 = .ok (.ireturn, 1) := by decide +kernel
theorem dX12_readLine_84 : decode cX12_readLine 84 = .ok (.aload_n 0, 1) := by decide +kernel
theorem dX12_readLine_85 : decode cX12_readLine 85 = .ok (.ldc2_w 101, 3) := by decide +kernel
theorem dX12_readLine_88 : decode cX12_readLine 88 = .ok (.invokevirtual 203, 3) := by decide +kernel
theorem dX12_readLine_91 : decode cX12_readLine 91 = .ok (.ifCond .eq 8, 3) := by decide +kernel
theorem dX12_readLine_94 : decode cX12_readLine 94 = .ok (.aload_n 0, 1) := by decide +kernel
theorem dX12_readLine_95 : decode cX12_readLine 95 = .ok (.invokevirtual 237, 3) := by decide +kernel
theorem dX12_readLine_98 : decode cX12_readLine 98 = .ok (.ireturn, 1) := by decide +kernel
theorem dX12_readLine_99 : decode cX12_readLine 99 = .ok (.aload_n 0, 1) := by decide +kernel
theorem dX12_readLine_100 : decode cX12_readLine 100 = .ok (.ldc2_w 103, 3) := by decide +kernel
theorem dX12_readLine_103 : decode cX12_readLine 103 = .ok (.invokevirtual 203, 3) := by decide +kernel
theorem dX12_readLine_106 : decode cX12_readLine 106 = .ok (.ifCond .eq 10, 3) := by decide +kernel
theorem dX12_readLine_109 : decode cX12_readLine 109 = .ok (.aload_n 0, 1) := by decide +kernel
theorem dX12_readLine_110 : decode cX12_readLine 110 = .ok (.invokevirtual 240, 3) := by decide +kernel
theorem dX12_readLine_113 : decode cX12_readLine 113 = .ok (.goto 8, 3) := by decide +kernel
theorem dX12_readLine_116 : decode cX12_readLine 116 = .ok (.aload_n 0, 1) := by decide +kernel
theorem dX12_readLine_117 : decode cX12_readLine 117 = .ok (.iconst 1, 1) := by decide +kernel
theorem dX12_readLine_118 : decode cX12_readLine 118 = .ok (.invokevirtual 186, 3) := by decide +kernel
theorem dX12_readLine_121 : decode cX12_readLine 121 = .ok (.ireturn, 1) := by decide +kernel
def fX12_readLine_35 (N n : Nat) (f : zF) (a0 : Nat) (t0 : Nat) (t1 : Int32) (t2 : Int32) : Option (zF × Int32) :=
    ((zpZ n f 12 t0 20 (t1 ||| t2)).bind fun f4 => ((zck n f4 12 a0).bind fun _ => ((fX12_isWord N n f4 a0 (448377677669 : Int64)).bind fun x5 => (if x5 = 0 then ((zck n f4 12 a0).bind fun _ => ((fX12_isWord N n f4 a0 (478745093490 : Int64)).bind fun x6 => (if x6 = 0 then ((zck n f4 12 a0).bind fun _ => ((fX12_isWord N n f4 a0 (1818324580 : Int64)).bind fun x7 => (if x7 = 0 then ((zck n f4 12 a0).bind fun _ => ((fX12_isWord N n f4 a0 (112602893349477 : Int64)).bind fun x8 => (if x8 = 0 then ((zck n f4 12 a0).bind fun _ => ((fX12_isWord N n f4 a0 (119225866478962 : Int64)).bind fun x9 => (if x9 = 0 then ((zck n f4 12 a0).bind fun _ => (zbd (fX12_bad N n f4 a0 (1 : Int32)) fun f11 x10 => ((zbl x10).bind fun y => some (f11, y)))) else ((zck n f4 12 a0).bind fun _ => (zbd (fX12_readLooker N n f4 a0) fun f13 x12 => ((zbl x12).bind fun y => some (f13, y))))))) else ((zck n f4 12 a0).bind fun _ => (zbd (fX12_readFigure N n f4 a0) fun f15 x14 => ((zbl x14).bind fun y => some (f15, y))))))) else ((zck n f4 12 a0).bind fun _ => (zbd (fX12_readLand N n f4 a0) fun f17 x16 => ((zbl x16).bind fun y => some (f17, y))))))) else ((zck n f4 12 a0).bind fun _ => (zbd (fX12_readOwner N n f4 a0) fun f19 x18 => ((zbl x18).bind fun y => some (f19, y))))))) else ((zck n f4 12 a0).bind fun _ => (zbd (fX12_readHedge N n f4 a0) fun f21 x20 => ((zbl x20).bind fun y => some (f21, y))))))))
set_option maxRecDepth 100000 in
set_option maxHeartbeats 4000000 in
theorem gX12_readLine_35 (l : Launch) {G : zG} {p : Program} {e : Env} {s : State} {m : MethodId} {args : Array Value} {below : List Frame} {meth : Method} {c : Code} {N n : Nat} {f9 : zF} {r : Int32} (B : zB G p s m args meth c RX12 cX12_readLine 1 (some .boolean)) : ∀ (f : zF) (a0 : Nat) (t0 : Nat) (t1 : Int32) (t2 : Int32) (H : Heap) (locs : List Loc) (ls : Array Slot), fX12_readLine_35 N n f a0 t0 t1 t2 = some (f9, r) → zS G n f H locs → lv_has ls 1 [(0, zr G a0)] → W p l e (zrm 5) s m args below meth c H locs 0 0 (MQ below (zQc G n f9 (some (.int r))) args s 0 0 (zA G)) (F0 m 35 ls [.int t2, .int t1, zr G t0]) := by
  have he := B.1
  have hb := B.2.1
  intro f a0 t0 t1 t2 H locs ls h hS hl
  unfold fX12_readLine_35 at h
  refine lv_ior he hb dX12_readLine_35 ?_
  obtain ⟨f4, hx, h⟩ := zob h
  refine z_putZ (ci := 12) (T := TX12) (N := 50) (j := 20) B hS hx rfl zin_X12 tyX12 tyX12_ok nmX12 (by decide) zk_1367 rfl rfl dX12_readLine_36 (fun H locs hS => ?_)
  refine z_aload_n he hb dX12_readLine_39 rfl (lv_at hl 0 rfl) (zref_r _ _) ?_
  refine lv_ldc2 (v := (448377677669 : Int64)) he hb B.2.2.2.1 (B.2.2.2.2.1 _ zk_1317) dX12_readLine_40 ?_
  obtain ⟨_, hc, h⟩ := zob h
  obtain ⟨x5, hx, h⟩ := zob h
  refine z_callV (ci := 12) (T := TX12) (N := 50) (rest := []) B hS (mX12_isWord l G hx) zy_X12_isWord zk_1525 (by decide) hc rfl rfl hl rfl (Nat.le_of_ble_eq_true rfl) dX12_readLine_43 (kk := (fun H locs hS => ?_))
  refine lv_if_eq (tgt := 54) he hb dX12_readLine_46 (by decide) (fun hc => ?_) (fun hc => ?_)
  · rw [if_pos hc] at h
    refine z_aload_n he hb dX12_readLine_54 rfl (lv_at hl 0 rfl) (zref_r _ _) ?_
    refine lv_ldc2 (v := (478745093490 : Int64)) he hb B.2.2.2.1 (B.2.2.2.2.1 _ zk_1318) dX12_readLine_55 ?_
    obtain ⟨_, hc, h⟩ := zob h
    obtain ⟨x6, hx, h⟩ := zob h
    refine z_callV (ci := 12) (T := TX12) (N := 50) (rest := []) B hS (mX12_isWord l G hx) zy_X12_isWord zk_1525 (by decide) hc rfl rfl hl rfl (Nat.le_of_ble_eq_true rfl) dX12_readLine_58 (kk := (fun H locs hS => ?_))
    refine lv_if_eq (tgt := 69) he hb dX12_readLine_61 (by decide) (fun hc => ?_) (fun hc => ?_)
    · rw [if_pos hc] at h
      refine z_aload_n he hb dX12_readLine_69 rfl (lv_at hl 0 rfl) (zref_r _ _) ?_
      refine lv_ldc2 (v := (1818324580 : Int64)) he hb B.2.2.2.1 (B.2.2.2.2.1 _ zk_1319) dX12_readLine_70 ?_
      obtain ⟨_, hc, h⟩ := zob h
      obtain ⟨x7, hx, h⟩ := zob h
      refine z_callV (ci := 12) (T := TX12) (N := 50) (rest := []) B hS (mX12_isWord l G hx) zy_X12_isWord zk_1525 (by decide) hc rfl rfl hl rfl (Nat.le_of_ble_eq_true rfl) dX12_readLine_73 (kk := (fun H locs hS => ?_))
      refine lv_if_eq (tgt := 84) he hb dX12_readLine_76 (by decide) (fun hc => ?_) (fun hc => ?_)
      · rw [if_pos hc] at h
        refine z_aload_n he hb dX12_readLine_84 rfl (lv_at hl 0 rfl) (zref_r _ _) ?_
        refine lv_ldc2 (v := (112602893349477 : Int64)) he hb B.2.2.2.1 (B.2.2.2.2.1 _ zk_1320) dX12_readLine_85 ?_
        obtain ⟨_, hc, h⟩ := zob h
        obtain ⟨x8, hx, h⟩ := zob h
        refine z_callV (ci := 12) (T := TX12) (N := 50) (rest := []) B hS (mX12_isWord l G hx) zy_X12_isWord zk_1525 (by decide) hc rfl rfl hl rfl (Nat.le_of_ble_eq_true rfl) dX12_readLine_88 (kk := (fun H locs hS => ?_))
        refine lv_if_eq (tgt := 99) he hb dX12_readLine_91 (by decide) (fun hc => ?_) (fun hc => ?_)
        · rw [if_pos hc] at h
          refine z_aload_n he hb dX12_readLine_99 rfl (lv_at hl 0 rfl) (zref_r _ _) ?_
          refine lv_ldc2 (v := (119225866478962 : Int64)) he hb B.2.2.2.1 (B.2.2.2.2.1 _ zk_1321) dX12_readLine_100 ?_
          obtain ⟨_, hc, h⟩ := zob h
          obtain ⟨x9, hx, h⟩ := zob h
          refine z_callV (ci := 12) (T := TX12) (N := 50) (rest := []) B hS (mX12_isWord l G hx) zy_X12_isWord zk_1525 (by decide) hc rfl rfl hl rfl (Nat.le_of_ble_eq_true rfl) dX12_readLine_103 (kk := (fun H locs hS => ?_))
          refine lv_if_eq (tgt := 116) he hb dX12_readLine_106 (by decide) (fun hc => ?_) (fun hc => ?_)
          · rw [if_pos hc] at h
            refine z_aload_n he hb dX12_readLine_116 rfl (lv_at hl 0 rfl) (zref_r _ _) ?_
            refine lv_iconst (v := (1 : Int32)) he hb dX12_readLine_117 (by decide) ?_
            obtain ⟨_, hc, h⟩ := zob h
            obtain ⟨f11, x10, hx, h⟩ := zbd_i h
            refine z_callV (ci := 12) (T := TX12) (N := 50) (rest := []) B hS (mX12_bad l G hx) zy_X12_bad zk_1533 (by decide) hc rfl rfl hl rfl (Nat.le_of_ble_eq_true rfl) dX12_readLine_118 (kk := (fun H locs hS => ?_))
            obtain ⟨y, hx, h⟩ := zob h
            obtain ⟨hz, rfl⟩ := zbl_i hx
            obtain ⟨rfl, rfl⟩ := Prod.mk.inj (Option.some.inj h)
            exact z_zret B hS hz dX12_readLine_121
          · rw [if_neg hc] at h
            refine z_aload_n he hb dX12_readLine_109 rfl (lv_at hl 0 rfl) (zref_r _ _) ?_
            obtain ⟨_, hc, h⟩ := zob h
            obtain ⟨f13, x12, hx, h⟩ := zbd_i h
            refine z_callV (ci := 12) (T := TX12) (N := 50) (rest := []) B hS (mX12_readLooker l G hx) zy_X12_readLooker zk_1596 (by decide) hc rfl rfl hl rfl (Nat.le_of_ble_eq_true rfl) dX12_readLine_110 (kk := (fun H locs hS => ?_))
            refine lv_goto (tgt := 121) he hb dX12_readLine_113 (by decide) ?_
            obtain ⟨y, hx, h⟩ := zob h
            obtain ⟨hz, rfl⟩ := zbl_i hx
            obtain ⟨rfl, rfl⟩ := Prod.mk.inj (Option.some.inj h)
            exact z_zret B hS hz dX12_readLine_121
        · rw [if_neg hc] at h
          refine z_aload_n he hb dX12_readLine_94 rfl (lv_at hl 0 rfl) (zref_r _ _) ?_
          obtain ⟨_, hc, h⟩ := zob h
          obtain ⟨f15, x14, hx, h⟩ := zbd_i h
          refine z_callV (ci := 12) (T := TX12) (N := 50) (rest := []) B hS (mX12_readFigure l G hx) zy_X12_readFigure zk_1584 (by decide) hc rfl rfl hl rfl (Nat.le_of_ble_eq_true rfl) dX12_readLine_95 (kk := (fun H locs hS => ?_))
          obtain ⟨y, hx, h⟩ := zob h
          obtain ⟨hz, rfl⟩ := zbl_i hx
          obtain ⟨rfl, rfl⟩ := Prod.mk.inj (Option.some.inj h)
          exact z_zret B hS hz dX12_readLine_98
      · rw [if_neg hc] at h
        refine z_aload_n he hb dX12_readLine_79 rfl (lv_at hl 0 rfl) (zref_r _ _) ?_
        obtain ⟨_, hc, h⟩ := zob h
        obtain ⟨f17, x16, hx, h⟩ := zbd_i h
        refine z_callV (ci := 12) (T := TX12) (N := 50) (rest := []) B hS (mX12_readLand l G hx) zy_X12_readLand zk_1572 (by decide) hc rfl rfl hl rfl (Nat.le_of_ble_eq_true rfl) dX12_readLine_80 (kk := (fun H locs hS => ?_))
        obtain ⟨y, hx, h⟩ := zob h
        obtain ⟨hz, rfl⟩ := zbl_i hx
        obtain ⟨rfl, rfl⟩ := Prod.mk.inj (Option.some.inj h)
        exact z_zret B hS hz dX12_readLine_83
    · rw [if_neg hc] at h
      refine z_aload_n he hb dX12_readLine_64 rfl (lv_at hl 0 rfl) (zref_r _ _) ?_
      obtain ⟨_, hc, h⟩ := zob h
      obtain ⟨f19, x18, hx, h⟩ := zbd_i h
      refine z_callV (ci := 12) (T := TX12) (N := 50) (rest := []) B hS (mX12_readOwner l G hx) zy_X12_readOwner zk_1556 (by decide) hc rfl rfl hl rfl (Nat.le_of_ble_eq_true rfl) dX12_readLine_65 (kk := (fun H locs hS => ?_))
      obtain ⟨y, hx, h⟩ := zob h
      obtain ⟨hz, rfl⟩ := zbl_i hx
      obtain ⟨rfl, rfl⟩ := Prod.mk.inj (Option.some.inj h)
      exact z_zret B hS hz dX12_readLine_68
  · rw [if_neg hc] at h
    refine z_aload_n he hb dX12_readLine_49 rfl (lv_at hl 0 rfl) (zref_r _ _) ?_
    obtain ⟨_, hc, h⟩ := zob h
    obtain ⟨f21, x20, hx, h⟩ := zbd_i h
    refine z_callV (ci := 12) (T := TX12) (N := 50) (rest := []) B hS (mX12_readHedge l G hx) zy_X12_readHedge zk_1548 (by decide) hc rfl rfl hl rfl (Nat.le_of_ble_eq_true rfl) dX12_readLine_50 (kk := (fun H locs hS => ?_))
    obtain ⟨y, hx, h⟩ := zob h
    obtain ⟨hz, rfl⟩ := zbl_i hx
    obtain ⟨rfl, rfl⟩ := Prod.mk.inj (Option.some.inj h)
    exact z_zret B hS hz dX12_readLine_53
def fX12_readLine (N n : Nat) (f : zF) (a0 : Nat) : Option (zF × Int32) :=
    ((zck n f 12 a0).bind fun _ => ((fX12_isWord N n f a0 (439854918756 : Int64)).bind fun x1 => (if x1 = 0 then ((zgI n f 12 a0 20).bind fun x2 => ((zck n f 12 a0).bind fun _ => ((fX12_isWord N n f a0 (478745093490 : Int64)).bind fun x3 => (if x3 = 0 then (fX12_readLine_35 N n f a0 a0 x2 (1 : Int32)) else (fX12_readLine_35 N n f a0 a0 x2 (0 : Int32)))))) else ((zck n f 12 a0).bind fun _ => (zbd (fX12_readField N n f a0) fun f23 x22 => ((zbl x22).bind fun y => some (f23, y)))))))
set_option maxRecDepth 100000 in
set_option maxHeartbeats 4000000 in
theorem mX12_readLine (l : Launch) (G : zG) {N n : Nat} {f : zF} {f9 : zF} {r : Int32} {a0 : Nat} (h : fX12_readLine N n f a0 = some (f9, r)) : zM l G yX12_readLine cX12_readLine 1 (some .boolean) 5 n f [zr G a0] (some (.int r)) f9 := by
  refine zM.of (by decide) (Nat.le_of_ble_eq_true rfl) ?_
  intro p e s m args below meth c locs ls B hS hl
  have he := B.1
  have hb := B.2.1
  have hl : lv_has ls 1 [(0, zr G a0)] := hl
  unfold fX12_readLine at h
  generalize s.heap = H at hS ⊢
  refine z_aload_n he hb dX12_readLine_0 rfl (lv_at hl 0 rfl) (zref_r _ _) ?_
  refine lv_ldc2 (v := (439854918756 : Int64)) he hb B.2.2.2.1 (B.2.2.2.2.1 _ zk_1316) dX12_readLine_1 ?_
  obtain ⟨_, hc, h⟩ := zob h
  obtain ⟨x1, hx, h⟩ := zob h
  refine z_callV (ci := 12) (T := TX12) (N := 50) (rest := []) B hS (mX12_isWord l G hx) zy_X12_isWord zk_1525 (by decide) hc rfl rfl hl rfl (Nat.le_of_ble_eq_true rfl) dX12_readLine_4 (kk := (fun H locs hS => ?_))
  refine lv_if_eq (tgt := 15) he hb dX12_readLine_7 (by decide) (fun hc => ?_) (fun hc => ?_)
  · rw [if_pos hc] at h
    refine z_aload_n he hb dX12_readLine_15 rfl (lv_at hl 0 rfl) (zref_r _ _) ?_
    refine lv_dup he hb dX12_readLine_16 rfl ?_
    obtain ⟨x2, hx, h⟩ := zob h
    refine z_getI (ci := 12) (T := TX12) (N := 50) (j := 20) B hS hx rfl zin_X12 (by decide) zk_1367 dX12_readLine_17 ?_
    refine z_aload_n he hb dX12_readLine_20 rfl (lv_at hl 0 rfl) (zref_r _ _) ?_
    refine lv_ldc2 (v := (478745093490 : Int64)) he hb B.2.2.2.1 (B.2.2.2.2.1 _ zk_1318) dX12_readLine_21 ?_
    obtain ⟨_, hc, h⟩ := zob h
    obtain ⟨x3, hx, h⟩ := zob h
    refine z_callV (ci := 12) (T := TX12) (N := 50) (rest := [_, _]) B hS (mX12_isWord l G hx) zy_X12_isWord zk_1525 (by decide) hc rfl rfl hl rfl (Nat.le_of_ble_eq_true rfl) dX12_readLine_24 (kk := (fun H locs hS => ?_))
    refine lv_if_ne (tgt := 34) he hb dX12_readLine_27 (by decide) (fun hc => ?_) (fun hc => ?_)
    · rw [if_neg hc] at h
      refine lv_iconst (v := (0 : Int32)) he hb dX12_readLine_34 (by decide) ?_
      exact gX12_readLine_35 l B _ _ _ _ _ _ _ _ h hS (lv_sub hl [0] rfl)
    · rw [if_pos hc] at h
      refine lv_iconst (v := (1 : Int32)) he hb dX12_readLine_30 (by decide) ?_
      refine lv_goto (tgt := 35) he hb dX12_readLine_31 (by decide) ?_
      exact gX12_readLine_35 l B _ _ _ _ _ _ _ _ h hS (lv_sub hl [0] rfl)
  · rw [if_neg hc] at h
    refine z_aload_n he hb dX12_readLine_10 rfl (lv_at hl 0 rfl) (zref_r _ _) ?_
    obtain ⟨_, hc, h⟩ := zob h
    obtain ⟨f23, x22, hx, h⟩ := zbd_i h
    refine z_callV (ci := 12) (T := TX12) (N := 50) (rest := []) B hS (mX12_readField l G hx) zy_X12_readField zk_1529 (by decide) hc rfl rfl hl rfl (Nat.le_of_ble_eq_true rfl) dX12_readLine_11 (kk := (fun H locs hS => ?_))
    obtain ⟨y, hx, h⟩ := zob h
    obtain ⟨hz, rfl⟩ := zbl_i hx
    obtain ⟨rfl, rfl⟩ := Prod.mk.inj (Option.some.inj h)
    exact z_zret B hS hz dX12_readLine_14
theorem dX12_isCell_0 : decode cX12_isCell 0 = .ok (.iload_n 1, 1) := by decide +kernel
theorem dX12_isCell_1 : decode cX12_isCell 1 = .ok (.iconst 0, 1) := by decide +kernel
theorem dX12_isCell_2 : decode cX12_isCell 2 = .ok (.aload_n 0, 1) := by decide +kernel
theorem dX12_isCell_3 : decode cX12_isCell 3 = .ok (.getfield 33, 3) := by decide +kernel
theorem dX12_isCell_6 : decode cX12_isCell 6 = .ok (.iconst 0, 1) := by decide +kernel
theorem dX12_isCell_7 : decode cX12_isCell 7 = .ok (.iaload, 1) := by decide +kernel
theorem dX12_isCell_8 : decode cX12_isCell 8 = .ok (.iconst 1, 1) := by decide +kernel
theorem dX12_isCell_9 : decode cX12_isCell 9 = .ok (.isub, 1) := by decide +kernel
theorem dX12_isCell_10 : decode cX12_isCell 10 = .ok (.invokestatic 192, 3) := by decide +kernel
theorem dX12_isCell_13 : decode cX12_isCell 13 = .ok (.ifCond .eq 23, 3) := by decide +kernel
theorem dX12_isCell_16 : decode cX12_isCell 16 = .ok (.iload_n 2, 1) := by decide +kernel
theorem dX12_isCell_17 : decode cX12_isCell 17 = .ok (.iconst 0, 1) := by decide +kernel
theorem dX12_isCell_18 : decode cX12_isCell 18 = .ok (.aload_n 0, 1) := by decide +kernel
theorem dX12_isCell_19 : decode cX12_isCell 19 = .ok (.getfield 33, 3) := by decide +kernel
theorem dX12_isCell_22 : decode cX12_isCell 22 = .ok (.iconst 1, 1) := by decide +kernel
theorem dX12_isCell_23 : decode cX12_isCell 23 = .ok (.iaload, 1) := by decide +kernel
theorem dX12_isCell_24 : decode cX12_isCell 24 = .ok (.iconst 1, 1) := by decide +kernel
theorem dX12_isCell_25 : decode cX12_isCell 25 = .ok (.isub, 1) := by decide +kernel
theorem dX12_isCell_26 : decode cX12_isCell 26 = .ok (.invokestatic 192, 3) := by decide +kernel
theorem dX12_isCell_29 : decode cX12_isCell 29 = .ok (.ifCond .eq 7, 3) := by decide +kernel
theorem dX12_isCell_32 : decode cX12_isCell 32 = .ok (.iconst 1, 1) := by decide +kernel
theorem dX12_isCell_33 : decode cX12_isCell 33 = .ok (.goto 4, 3) := by decide +kernel
theorem dX12_isCell_36 : decode cX12_isCell 36 = .ok (.iconst 0, 1) := by decide +kernel
theorem dX12_isCell_37 : decode cX12_isCell 37 = .ok (.ireturn, 1) := by decide +kernel
def fX12_isCell (N n : Nat) (f : zF) (a0 : Nat) (a1 : Int32) (a2 : Int32) : Option Int32 :=
    ((zgR n f 12 a0 6).bind fun x1 => ((zlI n f 0 x1 (0 : Int32)).bind fun x2 => ((fX12_isIn N n f a1 (0 : Int32) (x2 - (1 : Int32))).bind fun x3 => (if x3 = 0 then zbl (0 : Int32) else ((zgR n f 12 a0 6).bind fun x4 => ((zlI n f 0 x4 (1 : Int32)).bind fun x5 => ((fX12_isIn N n f a2 (0 : Int32) (x5 - (1 : Int32))).bind fun x6 => (if x6 = 0 then zbl (0 : Int32) else zbl (1 : Int32)))))))))
set_option maxRecDepth 100000 in
set_option maxHeartbeats 4000000 in
theorem mX12_isCell (l : Launch) (G : zG) {N n : Nat} {f : zF} {r : Int32} {a0 : Nat} {a1 : Int32} {a2 : Int32} (h : fX12_isCell N n f a0 a1 a2 = some r) : zM l G yX12_isCell cX12_isCell 3 (some .boolean) 1 n f [zr G a0, .int a1, .int a2] (some (.int r)) f := by
  refine zM.of (by decide) (Nat.le_of_ble_eq_true rfl) ?_
  intro p e s m args below meth c locs ls B hS hl
  have he := B.1
  have hb := B.2.1
  have hl : lv_has ls 3 [(0, zr G a0), (1, .int a1), (2, .int a2)] := hl
  unfold fX12_isCell at h
  generalize s.heap = H at hS ⊢
  refine lv_iload_n he hb dX12_isCell_0 rfl (lv_at hl 1 rfl) ?_
  refine lv_iconst (v := (0 : Int32)) he hb dX12_isCell_1 (by decide) ?_
  refine z_aload_n he hb dX12_isCell_2 rfl (lv_at hl 0 rfl) (zref_r _ _) ?_
  obtain ⟨x1, hx, h⟩ := zob h
  refine z_getR (ci := 12) (T := TX12) (N := 50) (j := 6) B hS hx rfl zin_X12 (by decide) zk_1353 dX12_isCell_3 ?_
  refine lv_iconst (v := (0 : Int32)) he hb dX12_isCell_6 (by decide) ?_
  obtain ⟨x2, hx, h⟩ := zob h
  refine z_ildI B hS hx dX12_isCell_7 ?_
  refine lv_iconst (v := (1 : Int32)) he hb dX12_isCell_8 (by decide) ?_
  refine lv_isub he hb dX12_isCell_9 ?_
  obtain ⟨x3, hx, h⟩ := zob h
  refine z_callS (rest := []) B hS (mX12_isIn l G hx) zy_X12_isIn zk_1545 (by decide) rfl hl rfl (Nat.le_of_ble_eq_true rfl) dX12_isCell_10 (kk := (fun H locs hS => ?_))
  refine lv_if_eq (tgt := 36) he hb dX12_isCell_13 (by decide) (fun hc => ?_) (fun hc => ?_)
  · rw [if_pos hc] at h
    refine lv_iconst (v := (0 : Int32)) he hb dX12_isCell_36 (by decide) ?_
    obtain ⟨hz, rfl⟩ := zbl_i h
    exact z_zret B hS hz dX12_isCell_37
  · rw [if_neg hc] at h
    refine lv_iload_n he hb dX12_isCell_16 rfl (lv_at hl 2 rfl) ?_
    refine lv_iconst (v := (0 : Int32)) he hb dX12_isCell_17 (by decide) ?_
    refine z_aload_n he hb dX12_isCell_18 rfl (lv_at hl 0 rfl) (zref_r _ _) ?_
    obtain ⟨x4, hx, h⟩ := zob h
    refine z_getR (ci := 12) (T := TX12) (N := 50) (j := 6) B hS hx rfl zin_X12 (by decide) zk_1353 dX12_isCell_19 ?_
    refine lv_iconst (v := (1 : Int32)) he hb dX12_isCell_22 (by decide) ?_
    obtain ⟨x5, hx, h⟩ := zob h
    refine z_ildI B hS hx dX12_isCell_23 ?_
    refine lv_iconst (v := (1 : Int32)) he hb dX12_isCell_24 (by decide) ?_
    refine lv_isub he hb dX12_isCell_25 ?_
    obtain ⟨x6, hx, h⟩ := zob h
    refine z_callS (rest := []) B hS (mX12_isIn l G hx) zy_X12_isIn zk_1545 (by decide) rfl hl rfl (Nat.le_of_ble_eq_true rfl) dX12_isCell_26 (kk := (fun H locs hS => ?_))
    refine lv_if_eq (tgt := 36) he hb dX12_isCell_29 (by decide) (fun hc => ?_) (fun hc => ?_)
    · rw [if_pos hc] at h
      refine lv_iconst (v := (0 : Int32)) he hb dX12_isCell_36 (by decide) ?_
      obtain ⟨hz, rfl⟩ := zbl_i h
      exact z_zret B hS hz dX12_isCell_37
    · rw [if_neg hc] at h
      refine lv_iconst (v := (1 : Int32)) he hb dX12_isCell_32 (by decide) ?_
      refine lv_goto (tgt := 37) he hb dX12_isCell_33 (by decide) ?_
      obtain ⟨hz, rfl⟩ := zbl_i h
      exact z_zret B hS hz dX12_isCell_37
theorem dX12_firstOwner_0 : decode cX12_firstOwner 0 = .ok (.aload_n 0, 1) := by decide +kernel
theorem dX12_firstOwner_1 : decode cX12_firstOwner 1 = .ok (.iload_n 1, 1) := by decide +kernel
theorem dX12_firstOwner_2 : decode cX12_firstOwner 2 = .ok (.bipush 9, 2) := by decide +kernel
theorem dX12_firstOwner_4 : decode cX12_firstOwner 4 = .ok (.irem, 1) := by decide +kernel
theorem dX12_firstOwner_5 : decode cX12_firstOwner 5 = .ok (.iload_n 1, 1) := by decide +kernel
theorem dX12_firstOwner_6 : decode cX12_firstOwner 6 = .ok (.bipush 9, 2) := by decide +kernel
theorem dX12_firstOwner_8 : decode cX12_firstOwner 8 = .ok (.idiv, 1) := by decide +kernel
theorem dX12_firstOwner_9 : decode cX12_firstOwner 9 = .ok (.invokevirtual 277, 3) := by decide +kernel
theorem dX12_firstOwner_12 : decode cX12_firstOwner 12 = .ok (.ifCond .ne 5, 3) := by decide +kernel
theorem dX12_firstOwner_15 : decode cX12_firstOwner 15 = .ok (.iconst (-1), 1) := by decide +kernel
theorem dX12_firstOwner_16 : decode cX12_firstOwner 16 = .ok (.ireturn, 1) := by decide +kernel
theorem dX12_firstOwner_17 : decode cX12_firstOwner 17 = .ok (.iconst 0, 1) := by decide +kernel
theorem dX12_firstOwner_18 : decode cX12_firstOwner 18 = .ok (.istore_n 2, 1) := by decide +kernel
theorem dX12_firstOwner_19 : decode cX12_firstOwner 19 = .ok (.iload_n 2, 1) := by decide +kernel
theorem dX12_firstOwner_20 : decode cX12_firstOwner 20 = .ok (.aload_n 0, 1) := by decide +kernel
theorem dX12_firstOwner_21 : decode cX12_firstOwner 21 = .ok (.getfield 33, 3) := by decide +kernel
theorem dX12_firstOwner_24 : decode cX12_firstOwner 24 = .ok (.iconst 3, 1) := by decide +kernel
theorem dX12_firstOwner_25 : decode cX12_firstOwner 25 = .ok (.iaload, 1) := by decide +kernel
theorem dX12_firstOwner_26 : decode cX12_firstOwner 26 = .ok (.if_icmp .ge 32, 3) := by decide +kernel
theorem dX12_firstOwner_29 : decode cX12_firstOwner 29 = .ok (.aload_n 0, 1) := by decide +kernel
theorem dX12_firstOwner_30 : decode cX12_firstOwner 30 = .ok (.getfield 33, 3) := by decide +kernel
theorem dX12_firstOwner_33 : decode cX12_firstOwner 33 = .ok (.bipush 101, 2) := by decide +kernel
theorem dX12_firstOwner_35 : decode cX12_firstOwner 35 = .ok (.iload_n 2, 1) := by decide +kernel
theorem dX12_firstOwner_36 : decode cX12_firstOwner 36 = .ok (.iadd, 1) := by decide +kernel
theorem dX12_firstOwner_37 : decode cX12_firstOwner 37 = .ok (.iaload, 1) := by decide +kernel
theorem dX12_firstOwner_38 : decode cX12_firstOwner 38 = .ok (.iload_n 1, 1) := by decide +kernel
theorem dX12_firstOwner_39 : decode cX12_firstOwner 39 = .ok (.if_icmp .ne 13, 3) := by decide +kernel
theorem dX12_firstOwner_42 : decode cX12_firstOwner 42 = .ok (.aload_n 0, 1) := by decide +kernel
theorem dX12_firstOwner_43 : decode cX12_firstOwner 43 = .ok (.getfield 33, 3) := by decide +kernel
theorem dX12_firstOwner_46 : decode cX12_firstOwner 46 = .ok (.bipush 95, 2) := by decide +kernel
theorem dX12_firstOwner_48 : decode cX12_firstOwner 48 = .ok (.iload_n 2, 1) := by decide +kernel
theorem dX12_firstOwner_49 : decode cX12_firstOwner 49 = .ok (.iadd, 1) := by decide +kernel
theorem dX12_firstOwner_50 : decode cX12_firstOwner 50 = .ok (.iaload, 1) := by decide +kernel
theorem dX12_firstOwner_51 : decode cX12_firstOwner 51 = .ok (.ireturn, 1) := by decide +kernel
theorem dX12_firstOwner_52 : decode cX12_firstOwner 52 = .ok (.iinc 2 1, 3) := by decide +kernel
theorem dX12_firstOwner_55 : decode cX12_firstOwner 55 = .ok (.goto (-36), 3) := by decide +kernel
theorem dX12_firstOwner_58 : decode cX12_firstOwner 58 = .ok (.aload_n 0, 1) := by decide +kernel
theorem dX12_firstOwner_59 : decode cX12_firstOwner 59 = .ok (.getfield 33, 3) := by decide +kernel
theorem dX12_firstOwner_62 : decode cX12_firstOwner 62 = .ok (.bipush 86, 2) := by decide +kernel
theorem dX12_firstOwner_64 : decode cX12_firstOwner 64 = .ok (.iload_n 1, 1) := by decide +kernel
theorem dX12_firstOwner_65 : decode cX12_firstOwner 65 = .ok (.bipush 9, 2) := by decide +kernel
theorem dX12_firstOwner_67 : decode cX12_firstOwner 67 = .ok (.idiv, 1) := by decide +kernel
theorem dX12_firstOwner_68 : decode cX12_firstOwner 68 = .ok (.iadd, 1) := by decide +kernel
theorem dX12_firstOwner_69 : decode cX12_firstOwner 69 = .ok (.iaload, 1) := by decide +kernel
theorem dX12_firstOwner_70 : decode cX12_firstOwner 70 = .ok (.iconst 1, 1) := by decide +kernel
theorem dX12_firstOwner_71 : decode cX12_firstOwner 71 = .ok (.isub, 1) := by decide +kernel
theorem dX12_firstOwner_72 : decode cX12_firstOwner 72 = .ok (.ireturn, 1) := by decide +kernel
def fX12_firstOwner_19 (N n : Nat) (f : zF) : Nat → Nat → Int32 → Int32 → Option Int32
  | 0, _, _, _ => none
  | k + 1, a0, a1, a2 =>
    ((zgR n f 12 a0 6).bind fun x2 => ((zlI n f 0 x2 (3 : Int32)).bind fun x3 => (if x3 ≤ a2 then ((zgR n f 12 a0 6).bind fun x4 => ((zlI n f 0 x4 ((86 : Int32) + (a1 / (9 : Int32)))).bind fun x5 => some (x5 - (1 : Int32)))) else ((zgR n f 12 a0 6).bind fun x6 => ((zlI n f 0 x6 ((101 : Int32) + a2)).bind fun x7 => (if x7 = a1 then ((zgR n f 12 a0 6).bind fun x8 => ((zlI n f 0 x8 ((95 : Int32) + a2)).bind fun x9 => some x9)) else (fX12_firstOwner_19 N n f k a0 a1 (a2 + 1))))))))
set_option maxRecDepth 100000 in
set_option maxHeartbeats 4000000 in
theorem gX12_firstOwner_19 (l : Launch) {G : zG} {p : Program} {e : Env} {s : State} {m : MethodId} {args : Array Value} {below : List Frame} {meth : Method} {c : Code} {f : zF} {N n : Nat} {r : Int32} (B : zB G p s m args meth c RX12 cX12_firstOwner 3 (some .int)) : ∀ (k : Nat), ∀ (a0 : Nat) (a1 : Int32) (a2 : Int32) (H : Heap) (locs : List Loc) (ls : Array Slot), fX12_firstOwner_19 N n f k a0 a1 a2 = some r → zS G n f H locs → lv_has ls 3 [(0, zr G a0), (1, .int a1), (2, .int a2)] → W p l e (zrm 2) s m args below meth c H locs 0 0 (MQ below (zQc G n f (some (.int r))) args s 0 0 (zA G)) (F0 m 19 ls []) := by
  have he := B.1
  have hb := B.2.1
  intro k
  induction k with
  | zero =>
    intro a0 a1 a2 H locs ls h
    unfold fX12_firstOwner_19 at h
    cases h
  | succ k ih =>
    intro a0 a1 a2 H locs ls h hS hl
    unfold fX12_firstOwner_19 at h
    refine lv_iload_n he hb dX12_firstOwner_19 rfl (lv_at hl 2 rfl) ?_
    refine z_aload_n he hb dX12_firstOwner_20 rfl (lv_at hl 0 rfl) (zref_r _ _) ?_
    obtain ⟨x2, hx, h⟩ := zob h
    refine z_getR (ci := 12) (T := TX12) (N := 50) (j := 6) B hS hx rfl zin_X12 (by decide) zk_1353 dX12_firstOwner_21 ?_
    refine lv_iconst (v := (3 : Int32)) he hb dX12_firstOwner_24 (by decide) ?_
    obtain ⟨x3, hx, h⟩ := zob h
    refine z_ildI B hS hx dX12_firstOwner_25 ?_
    refine lv_icmp_ge (tgt := 58) he hb dX12_firstOwner_26 (by decide) (fun hc => ?_) (fun hc => ?_)
    · rw [if_pos hc] at h
      refine z_aload_n he hb dX12_firstOwner_58 rfl (lv_at hl 0 rfl) (zref_r _ _) ?_
      obtain ⟨x4, hx, h⟩ := zob h
      refine z_getR (ci := 12) (T := TX12) (N := 50) (j := 6) B hS hx rfl zin_X12 (by decide) zk_1353 dX12_firstOwner_59 ?_
      refine lv_bipush (v := (86 : Int32)) he hb dX12_firstOwner_62 (by decide) ?_
      refine lv_iload_n he hb dX12_firstOwner_64 rfl (lv_at hl 1 rfl) ?_
      refine lv_bipush (v := (9 : Int32)) he hb dX12_firstOwner_65 (by decide) ?_
      refine lv_idiv he hb dX12_firstOwner_67 (by decide) ?_
      refine lv_iadd he hb dX12_firstOwner_68 ?_
      obtain ⟨x5, hx, h⟩ := zob h
      refine z_ildI B hS hx dX12_firstOwner_69 ?_
      refine lv_iconst (v := (1 : Int32)) he hb dX12_firstOwner_70 (by decide) ?_
      refine lv_isub he hb dX12_firstOwner_71 ?_
      obtain rfl := Option.some.inj h
      exact z_iret B hS dX12_firstOwner_72
    · rw [if_neg hc] at h
      refine z_aload_n he hb dX12_firstOwner_29 rfl (lv_at hl 0 rfl) (zref_r _ _) ?_
      obtain ⟨x6, hx, h⟩ := zob h
      refine z_getR (ci := 12) (T := TX12) (N := 50) (j := 6) B hS hx rfl zin_X12 (by decide) zk_1353 dX12_firstOwner_30 ?_
      refine lv_bipush (v := (101 : Int32)) he hb dX12_firstOwner_33 (by decide) ?_
      refine lv_iload_n he hb dX12_firstOwner_35 rfl (lv_at hl 2 rfl) ?_
      refine lv_iadd he hb dX12_firstOwner_36 ?_
      obtain ⟨x7, hx, h⟩ := zob h
      refine z_ildI B hS hx dX12_firstOwner_37 ?_
      refine lv_iload_n he hb dX12_firstOwner_38 rfl (lv_at hl 1 rfl) ?_
      refine lv_icmp_ne (tgt := 52) he hb dX12_firstOwner_39 (by decide) (fun hc => ?_) (fun hc => ?_)
      · rw [if_neg hc] at h
        refine lv_iinc (v := (a2 + 1)) (lv' := [(2, _), (0, _), (1, _)]) he hb dX12_firstOwner_52 hl (k := 2) rfl rfl (by decide) rfl (fun ls hl => ?_)
        refine lv_goto (tgt := 19) he hb dX12_firstOwner_55 (by decide) ?_
        exact ih _ _ _ _ _ _ h hS (lv_sub hl [1, 2, 0] rfl)
      · rw [if_pos hc] at h
        refine z_aload_n he hb dX12_firstOwner_42 rfl (lv_at hl 0 rfl) (zref_r _ _) ?_
        obtain ⟨x8, hx, h⟩ := zob h
        refine z_getR (ci := 12) (T := TX12) (N := 50) (j := 6) B hS hx rfl zin_X12 (by decide) zk_1353 dX12_firstOwner_43 ?_
        refine lv_bipush (v := (95 : Int32)) he hb dX12_firstOwner_46 (by decide) ?_
        refine lv_iload_n he hb dX12_firstOwner_48 rfl (lv_at hl 2 rfl) ?_
        refine lv_iadd he hb dX12_firstOwner_49 ?_
        obtain ⟨x9, hx, h⟩ := zob h
        refine z_ildI B hS hx dX12_firstOwner_50 ?_
        obtain rfl := Option.some.inj h
        exact z_iret B hS dX12_firstOwner_51
def fX12_firstOwner (N n : Nat) (f : zF) (a0 : Nat) (a1 : Int32) : Option Int32 :=
    ((zck n f 12 a0).bind fun _ => ((fX12_isCell N n f a0 (zrem a1 (9 : Int32)) (a1 / (9 : Int32))).bind fun x1 => (if x1 = 0 then some (-1 : Int32) else (fX12_firstOwner_19 N n f N a0 a1 (0 : Int32)))))
set_option maxRecDepth 100000 in
set_option maxHeartbeats 4000000 in
theorem mX12_firstOwner (l : Launch) (G : zG) {N n : Nat} {f : zF} {r : Int32} {a0 : Nat} {a1 : Int32} (h : fX12_firstOwner N n f a0 a1 = some r) : zM l G yX12_firstOwner cX12_firstOwner 3 (some .int) 2 n f [zr G a0, .int a1] (some (.int r)) f := by
  refine zM.of (by decide) (Nat.le_of_ble_eq_true rfl) ?_
  intro p e s m args below meth c locs ls B hS hl
  have he := B.1
  have hb := B.2.1
  have hl : lv_has ls 3 [(0, zr G a0), (1, .int a1)] := hl
  unfold fX12_firstOwner at h
  generalize s.heap = H at hS ⊢
  refine z_aload_n he hb dX12_firstOwner_0 rfl (lv_at hl 0 rfl) (zref_r _ _) ?_
  refine lv_iload_n he hb dX12_firstOwner_1 rfl (lv_at hl 1 rfl) ?_
  refine lv_bipush (v := (9 : Int32)) he hb dX12_firstOwner_2 (by decide) ?_
  refine z_irem he hb dX12_firstOwner_4 (by decide) ?_
  refine lv_iload_n he hb dX12_firstOwner_5 rfl (lv_at hl 1 rfl) ?_
  refine lv_bipush (v := (9 : Int32)) he hb dX12_firstOwner_6 (by decide) ?_
  refine lv_idiv he hb dX12_firstOwner_8 (by decide) ?_
  obtain ⟨_, hc, h⟩ := zob h
  obtain ⟨x1, hx, h⟩ := zob h
  refine z_callV (ci := 12) (T := TX12) (N := 50) (rest := []) B hS (mX12_isCell l G hx) zy_X12_isCell zk_1612 (by decide) hc rfl rfl hl rfl (Nat.le_of_ble_eq_true rfl) dX12_firstOwner_9 (kk := (fun H locs hS => ?_))
  refine lv_if_ne (tgt := 17) he hb dX12_firstOwner_12 (by decide) (fun hc => ?_) (fun hc => ?_)
  · rw [if_neg hc] at h
    refine lv_iconst (v := (0 : Int32)) he hb dX12_firstOwner_17 (by decide) ?_
    refine lv_istore_n (lv' := [(2, _), (0, _), (1, _)]) he hb dX12_firstOwner_18 rfl hl (by decide) rfl (fun ls hl => ?_)
    exact gX12_firstOwner_19 l B N _ _ _ _ _ _ h hS (lv_sub hl [1, 2, 0] rfl)
  · rw [if_pos hc] at h
    refine lv_iconst (v := (-1 : Int32)) he hb dX12_firstOwner_15 (by decide) ?_
    obtain rfl := Option.some.inj h
    exact z_iret B hS dX12_firstOwner_16
theorem dX12_field_0 : decode cX12_field 0 = .ok (.aload_n 0, 1) := by decide +kernel
theorem dX12_field_1 : decode cX12_field 1 = .ok (.iconst 0, 1) := by decide +kernel
theorem dX12_field_2 : decode cX12_field 2 = .ok (.putfield 1, 3) := by decide +kernel
theorem dX12_field_5 : decode cX12_field 5 = .ok (.aload_n 0, 1) := by decide +kernel
theorem dX12_field_6 : decode cX12_field 6 = .ok (.sipush 900, 3) := by decide +kernel
theorem dX12_field_9 : decode cX12_field 9 = .ok (.invokevirtual 258, 3) := by decide +kernel
theorem dX12_field_12 : decode cX12_field 12 = .ok (.aload_n 0, 1) := by decide +kernel
theorem dX12_field_13 : decode cX12_field 13 = .ok (.iconst 0, 1) := by decide +kernel
theorem dX12_field_14 : decode cX12_field 14 = .ok (.putfield 177, 3) := by decide +kernel
theorem dX12_field_17 : decode cX12_field 17 = .ok (.aload_n 0, 1) := by decide +kernel
theorem dX12_field_18 : decode cX12_field 18 = .ok (.iconst 0, 1) := by decide +kernel
theorem dX12_field_19 : decode cX12_field 19 = .ok (.putfield 261, 3) := by decide +kernel
theorem dX12_field_22 : decode cX12_field 22 = .ok (.aload_n 0, 1) := by decide +kernel
theorem dX12_field_23 : decode cX12_field 23 = .ok (.iconst 0, 1) := by decide +kernel
theorem dX12_field_24 : decode cX12_field 24 = .ok (.putfield 224, 3) := by decide +kernel
theorem dX12_field_27 : decode cX12_field 27 = .ok (.aload_n 0, 1) := by decide +kernel
theorem dX12_field_28 : decode cX12_field 28 = .ok (.invokevirtual 147, 3) := by decide +kernel
theorem dX12_field_31 : decode cX12_field 31 = .ok (.aload_n 0, 1) := by decide +kernel
theorem dX12_field_32 : decode cX12_field 32 = .ok (.invokevirtual 189, 3) := by decide +kernel
theorem dX12_field_35 : decode cX12_field 35 = .ok (.aload_n 0, 1) := by decide +kernel
theorem dX12_field_36 : decode cX12_field 36 = .ok (.getfield 160, 3) := by decide +kernel
theorem dX12_field_39 : decode cX12_field 39 = .ok (.ifCond .eq 39, 3) := by decide +kernel
theorem dX12_field_42 : decode cX12_field 42 = .ok (.aload_n 0, 1) := by decide +kernel
theorem dX12_field_43 : decode cX12_field 43 = .ok (.invokevirtual 264, 3) := by decide +kernel
theorem dX12_field_46 : decode cX12_field 46 = .ok (.ifCond .eq 12, 3) := by decide +kernel
theorem dX12_field_49 : decode cX12_field 49 = .ok (.aload_n 0, 1) := by decide +kernel
theorem dX12_field_50 : decode cX12_field 50 = .ok (.bipush 59, 2) := by decide +kernel
theorem dX12_field_52 : decode cX12_field 52 = .ok (.invokevirtual 267, 3) := by decide +kernel
theorem dX12_field_55 : decode cX12_field 55 = .ok (.ifCond .ne 10, 3) := by decide +kernel
theorem dX12_field_58 : decode cX12_field 58 = .ok (.iconst (-1), 1) := by decide +kernel
theorem dX12_field_59 : decode cX12_field 59 = .ok (.aload_n 0, 1) := by decide +kernel
theorem dX12_field_60 : decode cX12_field 60 = .ok (.getfield 180, 3) := by decide +kernel
theorem dX12_field_63 : decode cX12_field 63 = .ok (.isub, 1) := by decide +kernel
theorem dX12_field_64 : decode cX12_field 64 = .ok (.ireturn, 1) := by decide +kernel
theorem dX12_field_65 : decode cX12_field 65 = .ok (.aload_n 0, 1) := by decide +kernel
theorem dX12_field_66 : decode cX12_field 66 = .ok (.dup, 1) := by decide +kernel
theorem dX12_field_67 : decode cX12_field 67 = .ok (.getfield 261, 3) := by decide +kernel
theorem dX12_field_70 : decode cX12_field 70 = .ok (.iconst 1, 1) := by decide +kernel
theorem dX12_field_71 : decode cX12_field 71 = .ok (.iadd, 1) := by decide +kernel
theorem dX12_field_72 : decode cX12_field 72 = .ok (.putfield 261, 3) := by decide +kernel
theorem dX12_field_75 : decode cX12_field 75 = .ok (.goto (-40), 3) := by decide +kernel
theorem dX12_field_78 : decode cX12_field 78 = .ok (.iconst 0, 1) := by decide +kernel
theorem dX12_field_79 : decode cX12_field 79 = .ok (.istore_n 1, 1) := by decide +kernel
theorem dX12_field_80 : decode cX12_field 80 = .ok (.iload_n 1, 1) := by decide +kernel
theorem dX12_field_81 : decode cX12_field 81 = .ok (.sipush 431, 3) := by decide +kernel
theorem dX12_field_84 : decode cX12_field 84 = .ok (.if_icmp .ge 32, 3) := by decide +kernel
theorem dX12_field_87 : decode cX12_field 87 = .ok (.aload_n 0, 1) := by decide +kernel
theorem dX12_field_88 : decode cX12_field 88 = .ok (.getfield 33, 3) := by decide +kernel
theorem dX12_field_91 : decode cX12_field 91 = .ok (.iload_n 1, 1) := by decide +kernel
theorem dX12_field_92 : decode cX12_field 92 = .ok (.iload_n 1, 1) := by decide +kernel
theorem dX12_field_93 : decode cX12_field 93 = .ok (.sipush 139, 3) := by decide +kernel
theorem dX12_field_96 : decode cX12_field 96 = .ok (.if_icmp .ge 12, 3) := by decide +kernel
theorem dX12_field_99 : decode cX12_field 99 = .ok (.aload_n 0, 1) := by decide +kernel
theorem dX12_field_100 : decode cX12_field 100 = .ok (.getfield 37, 3) := by decide +kernel
theorem dX12_field_103 : decode cX12_field 103 = .ok (.iload_n 1, 1) := by decide +kernel
theorem dX12_field_104 : decode cX12_field 104 = .ok (.iaload, 1) := by decide +kernel
theorem dX12_field_105 : decode cX12_field 105 = .ok (.goto 4, 3) := by decide +kernel
theorem dX12_field_108 : decode cX12_field 108 = .ok (.iconst 0, 1) := by decide +kernel
theorem dX12_field_109 : decode cX12_field 109 = .ok (.iastore, 1) := by decide +kernel
theorem dX12_field_110 : decode cX12_field 110 = .ok (.iinc 1 1, 3) := by decide +kernel
theorem dX12_field_113 : decode cX12_field 113 = .ok (.goto (-33), 3) := by decide +kernel
theorem dX12_field_116 : decode cX12_field 116 = .ok (.iconst 0, 1) := by decide +kernel
theorem dX12_field_117 : decode cX12_field 117 = .ok (.istore_n 1, 1) := by decide +kernel
theorem dX12_field_118 : decode cX12_field 118 = .ok (.iload_n 1, 1) := by decide +kernel
theorem dX12_field_119 : decode cX12_field 119 = .ok (.bipush 15, 2) := by decide +kernel
theorem dX12_field_121 : decode cX12_field 121 = .ok (.if_icmp .ge 24, 3) := by decide +kernel
theorem dX12_field_124 : decode cX12_field 124 = .ok (.aload_n 0, 1) := by decide +kernel
theorem dX12_field_125 : decode cX12_field 125 = .ok (.getfield 43, 3) := by decide +kernel
theorem dX12_field_128 : decode cX12_field 128 = .ok (.iload_n 1, 1) := by decide +kernel
theorem dX12_field_129 : decode cX12_field 129 = .ok (.aload_n 0, 1) := by decide +kernel
theorem dX12_field_130 : decode cX12_field 130 = .ok (.getfield 43, 3) := by decide +kernel
theorem dX12_field_133 : decode cX12_field 133 = .ok (.bipush 15, 2) := by decide +kernel
theorem dX12_field_135 : decode cX12_field 135 = .ok (.iload_n 1, 1) := by decide +kernel
theorem dX12_field_136 : decode cX12_field 136 = .ok (.iadd, 1) := by decide +kernel
theorem dX12_field_137 : decode cX12_field 137 = .ok (.laload, 1) := by decide +kernel
theorem dX12_field_138 : decode cX12_field 138 = .ok (.lastore, 1) := by decide +kernel
theorem dX12_field_139 : decode cX12_field 139 = .ok (.iinc 1 1, 3) := by decide +kernel
theorem dX12_field_142 : decode cX12_field 142 = .ok (.goto (-24), 3) := by decide +kernel
theorem dX12_field_145 : decode cX12_field 145 = .ok (.iconst 0, 1) := by decide +kernel
theorem dX12_field_146 : decode cX12_field 146 = .ok (.istore_n 1, 1) := by decide +kernel
theorem dX12_field_147 : decode cX12_field 147 = .ok (.iload_n 1, 1) := by decide +kernel
theorem dX12_field_148 : decode cX12_field 148 = .ok (.bipush 6, 2) := by decide +kernel
theorem dX12_field_150 : decode cX12_field 150 = .ok (.if_icmp .ge 47, 3) := by decide +kernel
theorem dX12_field_153 : decode cX12_field 153 = .ok (.aload_n 0, 1) := by decide +kernel
theorem dX12_field_154 : decode cX12_field 154 = .ok (.getfield 33, 3) := by decide +kernel
theorem dX12_field_157 : decode cX12_field 157 = .ok (.sipush 141, 3) := by decide +kernel
theorem dX12_field_160 : decode cX12_field 160 = .ok (.iload_n 1, 1) := by decide +kernel
theorem dX12_field_161 : decode cX12_field 161 = .ok (.iadd, 1) := by decide +kernel
theorem dX12_field_162 : decode cX12_field 162 = .ok (.aload_n 0, 1) := by decide +kernel
theorem dX12_field_163 : decode cX12_field 163 = .ok (.getfield 33, 3) := by decide +kernel
theorem dX12_field_166 : decode cX12_field 166 = .ok (.bipush 101, 2) := by decide +kernel
theorem dX12_field_168 : decode cX12_field 168 = .ok (.iload_n 1, 1) := by decide +kernel
theorem dX12_field_169 : decode cX12_field 169 = .ok (.iadd, 1) := by decide +kernel
theorem dX12_field_170 : decode cX12_field 170 = .ok (.iaload, 1) := by decide +kernel
theorem dX12_field_171 : decode cX12_field 171 = .ok (.iastore, 1) := by decide +kernel
theorem dX12_field_172 : decode cX12_field 172 = .ok (.aload_n 0, 1) := by decide +kernel
theorem dX12_field_173 : decode cX12_field 173 = .ok (.getfield 33, 3) := by decide +kernel
theorem dX12_field_176 : decode cX12_field 176 = .ok (.sipush 147, 3) := by decide +kernel
theorem dX12_field_179 : decode cX12_field 179 = .ok (.iload_n 1, 1) := by decide +kernel
theorem dX12_field_180 : decode cX12_field 180 = .ok (.iadd, 1) := by decide +kernel
theorem dX12_field_181 : decode cX12_field 181 = .ok (.aload_n 0, 1) := by decide +kernel
theorem dX12_field_182 : decode cX12_field 182 = .ok (.getfield 33, 3) := by decide +kernel
theorem dX12_field_185 : decode cX12_field 185 = .ok (.bipush 107, 2) := by decide +kernel
theorem dX12_field_187 : decode cX12_field 187 = .ok (.iload_n 1, 1) := by decide +kernel
theorem dX12_field_188 : decode cX12_field 188 = .ok (.iadd, 1) := by decide +kernel
theorem dX12_field_189 : decode cX12_field 189 = .ok (.iaload, 1) := by decide +kernel
theorem dX12_field_190 : decode cX12_field 190 = .ok (.iastore, 1) := by decide +kernel
theorem dX12_field_191 : decode cX12_field 191 = .ok (.iinc 1 1, 3) := by decide +kernel
theorem dX12_field_194 : decode cX12_field 194 = .ok (.goto (-47), 3) := by decide +kernel
theorem dX12_field_197 : decode cX12_field 197 = .ok (.iconst 0, 1) := by decide +kernel
theorem dX12_field_198 : decode cX12_field 198 = .ok (.istore_n 1, 1) := by decide +kernel
theorem dX12_field_199 : decode cX12_field 199 = .ok (.iload_n 1, 1) := by decide +kernel
theorem dX12_field_200 : decode cX12_field 200 = .ok (.iconst 5, 1) := by decide +kernel
theorem dX12_field_201 : decode cX12_field 201 = .ok (.if_icmp .ge 47, 3) := by decide +kernel
theorem dX12_field_204 : decode cX12_field 204 = .ok (.aload_n 0, 1) := by decide +kernel
theorem dX12_field_205 : decode cX12_field 205 = .ok (.getfield 33, 3) := by decide +kernel
theorem dX12_field_208 : decode cX12_field 208 = .ok (.sipush 159, 3) := by decide +kernel
theorem dX12_field_211 : decode cX12_field 211 = .ok (.iload_n 1, 1) := by decide +kernel
theorem dX12_field_212 : decode cX12_field 212 = .ok (.iadd, 1) := by decide +kernel
theorem dX12_field_213 : decode cX12_field 213 = .ok (.aload_n 0, 1) := by decide +kernel
theorem dX12_field_214 : decode cX12_field 214 = .ok (.getfield 33, 3) := by decide +kernel
theorem dX12_field_217 : decode cX12_field 217 = .ok (.bipush 119, 2) := by decide +kernel
theorem dX12_field_219 : decode cX12_field 219 = .ok (.iload_n 1, 1) := by decide +kernel
theorem dX12_field_220 : decode cX12_field 220 = .ok (.iadd, 1) := by decide +kernel
theorem dX12_field_221 : decode cX12_field 221 = .ok (.iaload, 1) := by decide +kernel
theorem dX12_field_222 : decode cX12_field 222 = .ok (.iastore, 1) := by decide +kernel
theorem dX12_field_223 : decode cX12_field 223 = .ok (.aload_n 0, 1) := by decide +kernel
theorem dX12_field_224 : decode cX12_field 224 = .ok (.getfield 33, 3) := by decide +kernel
theorem dX12_field_227 : decode cX12_field 227 = .ok (.sipush 164, 3) := by decide +kernel
theorem dX12_field_230 : decode cX12_field 230 = .ok (.iload_n 1, 1) := by decide +kernel
theorem dX12_field_231 : decode cX12_field 231 = .ok (.iadd, 1) := by decide +kernel
theorem dX12_field_232 : decode cX12_field 232 = .ok (.aload_n 0, 1) := by decide +kernel
theorem dX12_field_233 : decode cX12_field 233 = .ok (.getfield 33, 3) := by decide +kernel
theorem dX12_field_236 : decode cX12_field 236 = .ok (.bipush 124, 2) := by decide +kernel
theorem dX12_field_238 : decode cX12_field 238 = .ok (.iload_n 1, 1) := by decide +kernel
theorem dX12_field_239 : decode cX12_field 239 = .ok (.iadd, 1) := by decide +kernel
theorem dX12_field_240 : decode cX12_field 240 = .ok (.iaload, 1) := by decide +kernel
theorem dX12_field_241 : decode cX12_field 241 = .ok (.iastore, 1) := by decide +kernel
theorem dX12_field_242 : decode cX12_field 242 = .ok (.iinc 1 1, 3) := by decide +kernel
theorem dX12_field_245 : decode cX12_field 245 = .ok (.goto (-46), 3) := by decide +kernel
theorem dX12_field_248 : decode cX12_field 248 = .ok (.iconst 0, 1) := by decide +kernel
theorem dX12_field_249 : decode cX12_field 249 = .ok (.istore_n 1, 1) := by decide +kernel
theorem dX12_field_250 : decode cX12_field 250 = .ok (.iload_n 1, 1) := by decide +kernel
theorem dX12_field_251 : decode cX12_field 251 = .ok (.bipush 81, 2) := by decide +kernel
theorem dX12_field_253 : decode cX12_field 253 = .ok (.if_icmp .ge 26, 3) := by decide +kernel
theorem dX12_field_256 : decode cX12_field 256 = .ok (.aload_n 0, 1) := by decide +kernel
theorem dX12_field_257 : decode cX12_field 257 = .ok (.getfield 33, 3) := by decide +kernel
theorem dX12_field_260 : decode cX12_field 260 = .ok (.sipush 169, 3) := by decide +kernel
theorem dX12_field_263 : decode cX12_field 263 = .ok (.iload_n 1, 1) := by decide +kernel
theorem dX12_field_264 : decode cX12_field 264 = .ok (.iadd, 1) := by decide +kernel
theorem dX12_field_265 : decode cX12_field 265 = .ok (.aload_n 0, 1) := by decide +kernel
theorem dX12_field_266 : decode cX12_field 266 = .ok (.iload_n 1, 1) := by decide +kernel
theorem dX12_field_267 : decode cX12_field 267 = .ok (.invokevirtual 270, 3) := by decide +kernel
theorem dX12_field_270 : decode cX12_field 270 = .ok (.iconst 1, 1) := by decide +kernel
theorem dX12_field_271 : decode cX12_field 271 = .ok (.iadd, 1) := by decide +kernel
theorem dX12_field_272 : decode cX12_field 272 = .ok (.iastore, 1) := by decide +kernel
theorem dX12_field_273 : decode cX12_field 273 = .ok (.iinc 1 1, 3) := by decide +kernel
theorem dX12_field_276 : decode cX12_field 276 = .ok (.goto (-26), 3) := by decide +kernel
theorem dX12_field_279 : decode cX12_field 279 = .ok (.aload_n 0, 1) := by decide +kernel
theorem dX12_field_280 : decode cX12_field 280 = .ok (.iconst 0, 1) := by decide +kernel
theorem dX12_field_281 : decode cX12_field 281 = .ok (.putfield 274, 3) := by decide +kernel
theorem dX12_field_284 : decode cX12_field 284 = .ok (.aload_n 0, 1) := by decide +kernel
theorem dX12_field_285 : decode cX12_field 285 = .ok (.getfield 261, 3) := by decide +kernel
theorem dX12_field_288 : decode cX12_field 288 = .ok (.ireturn, 1) := by decide +kernel
def fX12_field_250 (N n : Nat) : Nat → zF → Nat → Int32 → Option (zF × Int32)
  | 0, _, _, _ => none
  | k + 1, f, a0, a1 =>
    (if (81 : Int32) ≤ a1 then ((zpI n f 12 a0 23 (0 : Int32)).bind fun f9 => ((zgI n f9 12 a0 19).bind fun x10 => some (f9, x10))) else ((zgR n f 12 a0 6).bind fun x11 => ((zck n f 12 a0).bind fun _ => ((fX12_firstOwner N n f a0 a1).bind fun x12 => ((zsI n f 0 x11 ((169 : Int32) + a1) (x12 + (1 : Int32))).bind fun f13 => (fX12_field_250 N n k f13 a0 (a1 + 1)))))))
set_option maxRecDepth 100000 in
set_option maxHeartbeats 4000000 in
theorem gX12_field_250 (l : Launch) {G : zG} {p : Program} {e : Env} {s : State} {m : MethodId} {args : Array Value} {below : List Frame} {meth : Method} {c : Code} {N n : Nat} {f9 : zF} {r : Int32} (B : zB G p s m args meth c RX12 cX12_field 2 (some .int)) : ∀ (k : Nat), ∀ (f : zF) (a0 : Nat) (a1 : Int32) (H : Heap) (locs : List Loc) (ls : Array Slot), fX12_field_250 N n k f a0 a1 = some (f9, r) → zS G n f H locs → lv_has ls 2 [(0, zr G a0), (1, .int a1)] → W p l e (zrm 6) s m args below meth c H locs 0 0 (MQ below (zQc G n f9 (some (.int r))) args s 0 0 (zA G)) (F0 m 250 ls []) := by
  have he := B.1
  have hb := B.2.1
  intro k
  induction k with
  | zero =>
    intro f a0 a1 H locs ls h
    unfold fX12_field_250 at h
    cases h
  | succ k ih =>
    intro f a0 a1 H locs ls h hS hl
    unfold fX12_field_250 at h
    refine lv_iload_n he hb dX12_field_250 rfl (lv_at hl 1 rfl) ?_
    refine lv_bipush (v := (81 : Int32)) he hb dX12_field_251 (by decide) ?_
    refine lv_icmp_ge (tgt := 279) he hb dX12_field_253 (by decide) (fun hc => ?_) (fun hc => ?_)
    · rw [if_pos hc] at h
      refine z_aload_n he hb dX12_field_279 rfl (lv_at hl 0 rfl) (zref_r _ _) ?_
      refine lv_iconst (v := (0 : Int32)) he hb dX12_field_280 (by decide) ?_
      obtain ⟨f9, hx, h⟩ := zob h
      refine z_putI (ci := 12) (T := TX12) (N := 50) (j := 23) B hS hx rfl zin_X12 tyX12 tyX12_ok nmX12 (by decide) zk_1370 rfl rfl dX12_field_281 (fun H locs hS => ?_)
      refine z_aload_n he hb dX12_field_284 rfl (lv_at hl 0 rfl) (zref_r _ _) ?_
      obtain ⟨x10, hx, h⟩ := zob h
      refine z_getI (ci := 12) (T := TX12) (N := 50) (j := 19) B hS hx rfl zin_X12 (by decide) zk_1366 dX12_field_285 ?_
      obtain ⟨rfl, rfl⟩ := Prod.mk.inj (Option.some.inj h)
      exact z_iret B hS dX12_field_288
    · rw [if_neg hc] at h
      refine z_aload_n he hb dX12_field_256 rfl (lv_at hl 0 rfl) (zref_r _ _) ?_
      obtain ⟨x11, hx, h⟩ := zob h
      refine z_getR (ci := 12) (T := TX12) (N := 50) (j := 6) B hS hx rfl zin_X12 (by decide) zk_1353 dX12_field_257 ?_
      refine lv_sipush (v := (169 : Int32)) he hb dX12_field_260 (by decide) ?_
      refine lv_iload_n he hb dX12_field_263 rfl (lv_at hl 1 rfl) ?_
      refine lv_iadd he hb dX12_field_264 ?_
      refine z_aload_n he hb dX12_field_265 rfl (lv_at hl 0 rfl) (zref_r _ _) ?_
      refine lv_iload_n he hb dX12_field_266 rfl (lv_at hl 1 rfl) ?_
      obtain ⟨_, hc, h⟩ := zob h
      obtain ⟨x12, hx, h⟩ := zob h
      refine z_callV (ci := 12) (T := TX12) (N := 50) (rest := [_, _]) B hS (mX12_firstOwner l G hx) zy_X12_firstOwner zk_1608 (by decide) hc rfl rfl hl rfl (Nat.le_of_ble_eq_true rfl) dX12_field_267 (kk := (fun H locs hS => ?_))
      refine lv_iconst (v := (1 : Int32)) he hb dX12_field_270 (by decide) ?_
      refine lv_iadd he hb dX12_field_271 ?_
      obtain ⟨f13, hx, h⟩ := zob h
      refine z_istI B hS hx dX12_field_272 (fun H locs hS => ?_)
      refine lv_iinc (v := (a1 + 1)) (lv' := [(1, _), (0, _)]) he hb dX12_field_273 hl (k := 1) rfl rfl (by decide) rfl (fun ls hl => ?_)
      refine lv_goto (tgt := 250) he hb dX12_field_276 (by decide) ?_
      exact ih _ _ _ _ _ _ h hS (lv_sub hl [1, 0] rfl)
def fX12_field_199 (N n : Nat) : Nat → zF → Nat → Int32 → Option (zF × Int32)
  | 0, _, _, _ => none
  | k + 1, f, a0, a1 =>
    (if (5 : Int32) ≤ a1 then (fX12_field_250 N n N f a0 (0 : Int32)) else ((zgR n f 12 a0 6).bind fun x14 => ((zgR n f 12 a0 6).bind fun x15 => ((zlI n f 0 x15 ((119 : Int32) + a1)).bind fun x16 => ((zsI n f 0 x14 ((159 : Int32) + a1) x16).bind fun f17 => ((zgR n f17 12 a0 6).bind fun x18 => ((zgR n f17 12 a0 6).bind fun x19 => ((zlI n f17 0 x19 ((124 : Int32) + a1)).bind fun x20 => ((zsI n f17 0 x18 ((164 : Int32) + a1) x20).bind fun f21 => (fX12_field_199 N n k f21 a0 (a1 + 1)))))))))))
set_option maxRecDepth 100000 in
set_option maxHeartbeats 4000000 in
theorem gX12_field_199 (l : Launch) {G : zG} {p : Program} {e : Env} {s : State} {m : MethodId} {args : Array Value} {below : List Frame} {meth : Method} {c : Code} {N n : Nat} {f9 : zF} {r : Int32} (B : zB G p s m args meth c RX12 cX12_field 2 (some .int)) : ∀ (k : Nat), ∀ (f : zF) (a0 : Nat) (a1 : Int32) (H : Heap) (locs : List Loc) (ls : Array Slot), fX12_field_199 N n k f a0 a1 = some (f9, r) → zS G n f H locs → lv_has ls 2 [(0, zr G a0), (1, .int a1)] → W p l e (zrm 6) s m args below meth c H locs 0 0 (MQ below (zQc G n f9 (some (.int r))) args s 0 0 (zA G)) (F0 m 199 ls []) := by
  have he := B.1
  have hb := B.2.1
  intro k
  induction k with
  | zero =>
    intro f a0 a1 H locs ls h
    unfold fX12_field_199 at h
    cases h
  | succ k ih =>
    intro f a0 a1 H locs ls h hS hl
    unfold fX12_field_199 at h
    refine lv_iload_n he hb dX12_field_199 rfl (lv_at hl 1 rfl) ?_
    refine lv_iconst (v := (5 : Int32)) he hb dX12_field_200 (by decide) ?_
    refine lv_icmp_ge (tgt := 248) he hb dX12_field_201 (by decide) (fun hc => ?_) (fun hc => ?_)
    · rw [if_pos hc] at h
      refine lv_iconst (v := (0 : Int32)) he hb dX12_field_248 (by decide) ?_
      refine lv_istore_n (lv' := [(1, _), (0, _)]) he hb dX12_field_249 rfl hl (by decide) rfl (fun ls hl => ?_)
      exact gX12_field_250 l B N _ _ _ _ _ _ h hS (lv_sub hl [1, 0] rfl)
    · rw [if_neg hc] at h
      refine z_aload_n he hb dX12_field_204 rfl (lv_at hl 0 rfl) (zref_r _ _) ?_
      obtain ⟨x14, hx, h⟩ := zob h
      refine z_getR (ci := 12) (T := TX12) (N := 50) (j := 6) B hS hx rfl zin_X12 (by decide) zk_1353 dX12_field_205 ?_
      refine lv_sipush (v := (159 : Int32)) he hb dX12_field_208 (by decide) ?_
      refine lv_iload_n he hb dX12_field_211 rfl (lv_at hl 1 rfl) ?_
      refine lv_iadd he hb dX12_field_212 ?_
      refine z_aload_n he hb dX12_field_213 rfl (lv_at hl 0 rfl) (zref_r _ _) ?_
      obtain ⟨x15, hx, h⟩ := zob h
      refine z_getR (ci := 12) (T := TX12) (N := 50) (j := 6) B hS hx rfl zin_X12 (by decide) zk_1353 dX12_field_214 ?_
      refine lv_bipush (v := (119 : Int32)) he hb dX12_field_217 (by decide) ?_
      refine lv_iload_n he hb dX12_field_219 rfl (lv_at hl 1 rfl) ?_
      refine lv_iadd he hb dX12_field_220 ?_
      obtain ⟨x16, hx, h⟩ := zob h
      refine z_ildI B hS hx dX12_field_221 ?_
      obtain ⟨f17, hx, h⟩ := zob h
      refine z_istI B hS hx dX12_field_222 (fun H locs hS => ?_)
      refine z_aload_n he hb dX12_field_223 rfl (lv_at hl 0 rfl) (zref_r _ _) ?_
      obtain ⟨x18, hx, h⟩ := zob h
      refine z_getR (ci := 12) (T := TX12) (N := 50) (j := 6) B hS hx rfl zin_X12 (by decide) zk_1353 dX12_field_224 ?_
      refine lv_sipush (v := (164 : Int32)) he hb dX12_field_227 (by decide) ?_
      refine lv_iload_n he hb dX12_field_230 rfl (lv_at hl 1 rfl) ?_
      refine lv_iadd he hb dX12_field_231 ?_
      refine z_aload_n he hb dX12_field_232 rfl (lv_at hl 0 rfl) (zref_r _ _) ?_
      obtain ⟨x19, hx, h⟩ := zob h
      refine z_getR (ci := 12) (T := TX12) (N := 50) (j := 6) B hS hx rfl zin_X12 (by decide) zk_1353 dX12_field_233 ?_
      refine lv_bipush (v := (124 : Int32)) he hb dX12_field_236 (by decide) ?_
      refine lv_iload_n he hb dX12_field_238 rfl (lv_at hl 1 rfl) ?_
      refine lv_iadd he hb dX12_field_239 ?_
      obtain ⟨x20, hx, h⟩ := zob h
      refine z_ildI B hS hx dX12_field_240 ?_
      obtain ⟨f21, hx, h⟩ := zob h
      refine z_istI B hS hx dX12_field_241 (fun H locs hS => ?_)
      refine lv_iinc (v := (a1 + 1)) (lv' := [(1, _), (0, _)]) he hb dX12_field_242 hl (k := 1) rfl rfl (by decide) rfl (fun ls hl => ?_)
      refine lv_goto (tgt := 199) he hb dX12_field_245 (by decide) ?_
      exact ih _ _ _ _ _ _ h hS (lv_sub hl [1, 0] rfl)
def fX12_field_147 (N n : Nat) : Nat → zF → Nat → Int32 → Option (zF × Int32)
  | 0, _, _, _ => none
  | k + 1, f, a0, a1 =>
    (if (6 : Int32) ≤ a1 then (fX12_field_199 N n N f a0 (0 : Int32)) else ((zgR n f 12 a0 6).bind fun x22 => ((zgR n f 12 a0 6).bind fun x23 => ((zlI n f 0 x23 ((101 : Int32) + a1)).bind fun x24 => ((zsI n f 0 x22 ((141 : Int32) + a1) x24).bind fun f25 => ((zgR n f25 12 a0 6).bind fun x26 => ((zgR n f25 12 a0 6).bind fun x27 => ((zlI n f25 0 x27 ((107 : Int32) + a1)).bind fun x28 => ((zsI n f25 0 x26 ((147 : Int32) + a1) x28).bind fun f29 => (fX12_field_147 N n k f29 a0 (a1 + 1)))))))))))
set_option maxRecDepth 100000 in
set_option maxHeartbeats 4000000 in
theorem gX12_field_147 (l : Launch) {G : zG} {p : Program} {e : Env} {s : State} {m : MethodId} {args : Array Value} {below : List Frame} {meth : Method} {c : Code} {N n : Nat} {f9 : zF} {r : Int32} (B : zB G p s m args meth c RX12 cX12_field 2 (some .int)) : ∀ (k : Nat), ∀ (f : zF) (a0 : Nat) (a1 : Int32) (H : Heap) (locs : List Loc) (ls : Array Slot), fX12_field_147 N n k f a0 a1 = some (f9, r) → zS G n f H locs → lv_has ls 2 [(0, zr G a0), (1, .int a1)] → W p l e (zrm 6) s m args below meth c H locs 0 0 (MQ below (zQc G n f9 (some (.int r))) args s 0 0 (zA G)) (F0 m 147 ls []) := by
  have he := B.1
  have hb := B.2.1
  intro k
  induction k with
  | zero =>
    intro f a0 a1 H locs ls h
    unfold fX12_field_147 at h
    cases h
  | succ k ih =>
    intro f a0 a1 H locs ls h hS hl
    unfold fX12_field_147 at h
    refine lv_iload_n he hb dX12_field_147 rfl (lv_at hl 1 rfl) ?_
    refine lv_bipush (v := (6 : Int32)) he hb dX12_field_148 (by decide) ?_
    refine lv_icmp_ge (tgt := 197) he hb dX12_field_150 (by decide) (fun hc => ?_) (fun hc => ?_)
    · rw [if_pos hc] at h
      refine lv_iconst (v := (0 : Int32)) he hb dX12_field_197 (by decide) ?_
      refine lv_istore_n (lv' := [(1, _), (0, _)]) he hb dX12_field_198 rfl hl (by decide) rfl (fun ls hl => ?_)
      exact gX12_field_199 l B N _ _ _ _ _ _ h hS (lv_sub hl [1, 0] rfl)
    · rw [if_neg hc] at h
      refine z_aload_n he hb dX12_field_153 rfl (lv_at hl 0 rfl) (zref_r _ _) ?_
      obtain ⟨x22, hx, h⟩ := zob h
      refine z_getR (ci := 12) (T := TX12) (N := 50) (j := 6) B hS hx rfl zin_X12 (by decide) zk_1353 dX12_field_154 ?_
      refine lv_sipush (v := (141 : Int32)) he hb dX12_field_157 (by decide) ?_
      refine lv_iload_n he hb dX12_field_160 rfl (lv_at hl 1 rfl) ?_
      refine lv_iadd he hb dX12_field_161 ?_
      refine z_aload_n he hb dX12_field_162 rfl (lv_at hl 0 rfl) (zref_r _ _) ?_
      obtain ⟨x23, hx, h⟩ := zob h
      refine z_getR (ci := 12) (T := TX12) (N := 50) (j := 6) B hS hx rfl zin_X12 (by decide) zk_1353 dX12_field_163 ?_
      refine lv_bipush (v := (101 : Int32)) he hb dX12_field_166 (by decide) ?_
      refine lv_iload_n he hb dX12_field_168 rfl (lv_at hl 1 rfl) ?_
      refine lv_iadd he hb dX12_field_169 ?_
      obtain ⟨x24, hx, h⟩ := zob h
      refine z_ildI B hS hx dX12_field_170 ?_
      obtain ⟨f25, hx, h⟩ := zob h
      refine z_istI B hS hx dX12_field_171 (fun H locs hS => ?_)
      refine z_aload_n he hb dX12_field_172 rfl (lv_at hl 0 rfl) (zref_r _ _) ?_
      obtain ⟨x26, hx, h⟩ := zob h
      refine z_getR (ci := 12) (T := TX12) (N := 50) (j := 6) B hS hx rfl zin_X12 (by decide) zk_1353 dX12_field_173 ?_
      refine lv_sipush (v := (147 : Int32)) he hb dX12_field_176 (by decide) ?_
      refine lv_iload_n he hb dX12_field_179 rfl (lv_at hl 1 rfl) ?_
      refine lv_iadd he hb dX12_field_180 ?_
      refine z_aload_n he hb dX12_field_181 rfl (lv_at hl 0 rfl) (zref_r _ _) ?_
      obtain ⟨x27, hx, h⟩ := zob h
      refine z_getR (ci := 12) (T := TX12) (N := 50) (j := 6) B hS hx rfl zin_X12 (by decide) zk_1353 dX12_field_182 ?_
      refine lv_bipush (v := (107 : Int32)) he hb dX12_field_185 (by decide) ?_
      refine lv_iload_n he hb dX12_field_187 rfl (lv_at hl 1 rfl) ?_
      refine lv_iadd he hb dX12_field_188 ?_
      obtain ⟨x28, hx, h⟩ := zob h
      refine z_ildI B hS hx dX12_field_189 ?_
      obtain ⟨f29, hx, h⟩ := zob h
      refine z_istI B hS hx dX12_field_190 (fun H locs hS => ?_)
      refine lv_iinc (v := (a1 + 1)) (lv' := [(1, _), (0, _)]) he hb dX12_field_191 hl (k := 1) rfl rfl (by decide) rfl (fun ls hl => ?_)
      refine lv_goto (tgt := 147) he hb dX12_field_194 (by decide) ?_
      exact ih _ _ _ _ _ _ h hS (lv_sub hl [1, 0] rfl)
def fX12_field_118 (N n : Nat) : Nat → zF → Nat → Int32 → Option (zF × Int32)
  | 0, _, _, _ => none
  | k + 1, f, a0, a1 =>
    (if (15 : Int32) ≤ a1 then (fX12_field_147 N n N f a0 (0 : Int32)) else ((zgR n f 12 a0 9).bind fun x30 => ((zgR n f 12 a0 9).bind fun x31 => ((zlL n f 1 x31 ((15 : Int32) + a1)).bind fun x32 => ((zsL n f 1 x30 a1 x32).bind fun f33 => (fX12_field_118 N n k f33 a0 (a1 + 1)))))))
set_option maxRecDepth 100000 in
set_option maxHeartbeats 4000000 in
theorem gX12_field_118 (l : Launch) {G : zG} {p : Program} {e : Env} {s : State} {m : MethodId} {args : Array Value} {below : List Frame} {meth : Method} {c : Code} {N n : Nat} {f9 : zF} {r : Int32} (B : zB G p s m args meth c RX12 cX12_field 2 (some .int)) : ∀ (k : Nat), ∀ (f : zF) (a0 : Nat) (a1 : Int32) (H : Heap) (locs : List Loc) (ls : Array Slot), fX12_field_118 N n k f a0 a1 = some (f9, r) → zS G n f H locs → lv_has ls 2 [(0, zr G a0), (1, .int a1)] → W p l e (zrm 6) s m args below meth c H locs 0 0 (MQ below (zQc G n f9 (some (.int r))) args s 0 0 (zA G)) (F0 m 118 ls []) := by
  have he := B.1
  have hb := B.2.1
  intro k
  induction k with
  | zero =>
    intro f a0 a1 H locs ls h
    unfold fX12_field_118 at h
    cases h
  | succ k ih =>
    intro f a0 a1 H locs ls h hS hl
    unfold fX12_field_118 at h
    refine lv_iload_n he hb dX12_field_118 rfl (lv_at hl 1 rfl) ?_
    refine lv_bipush (v := (15 : Int32)) he hb dX12_field_119 (by decide) ?_
    refine lv_icmp_ge (tgt := 145) he hb dX12_field_121 (by decide) (fun hc => ?_) (fun hc => ?_)
    · rw [if_pos hc] at h
      refine lv_iconst (v := (0 : Int32)) he hb dX12_field_145 (by decide) ?_
      refine lv_istore_n (lv' := [(1, _), (0, _)]) he hb dX12_field_146 rfl hl (by decide) rfl (fun ls hl => ?_)
      exact gX12_field_147 l B N _ _ _ _ _ _ h hS (lv_sub hl [1, 0] rfl)
    · rw [if_neg hc] at h
      refine z_aload_n he hb dX12_field_124 rfl (lv_at hl 0 rfl) (zref_r _ _) ?_
      obtain ⟨x30, hx, h⟩ := zob h
      refine z_getR (ci := 12) (T := TX12) (N := 50) (j := 9) B hS hx rfl zin_X12 (by decide) zk_1356 dX12_field_125 ?_
      refine lv_iload_n he hb dX12_field_128 rfl (lv_at hl 1 rfl) ?_
      refine z_aload_n he hb dX12_field_129 rfl (lv_at hl 0 rfl) (zref_r _ _) ?_
      obtain ⟨x31, hx, h⟩ := zob h
      refine z_getR (ci := 12) (T := TX12) (N := 50) (j := 9) B hS hx rfl zin_X12 (by decide) zk_1356 dX12_field_130 ?_
      refine lv_bipush (v := (15 : Int32)) he hb dX12_field_133 (by decide) ?_
      refine lv_iload_n he hb dX12_field_135 rfl (lv_at hl 1 rfl) ?_
      refine lv_iadd he hb dX12_field_136 ?_
      obtain ⟨x32, hx, h⟩ := zob h
      refine z_ildL B hS hx dX12_field_137 ?_
      obtain ⟨f33, hx, h⟩ := zob h
      refine z_istL B hS hx dX12_field_138 (fun H locs hS => ?_)
      refine lv_iinc (v := (a1 + 1)) (lv' := [(1, _), (0, _)]) he hb dX12_field_139 hl (k := 1) rfl rfl (by decide) rfl (fun ls hl => ?_)
      refine lv_goto (tgt := 118) he hb dX12_field_142 (by decide) ?_
      exact ih _ _ _ _ _ _ h hS (lv_sub hl [1, 0] rfl)
def fX12_field_109 (r80 : zF → Nat → Int32 → Option (zF × Int32)) (N n : Nat) (f : zF) (a0 : Nat) (a1 : Int32) (t0 : Nat) (t1 : Int32) (t2 : Int32) : Option (zF × Int32) :=
    ((zsI n f 0 t0 t1 t2).bind fun f35 => (r80 f35 a0 (a1 + 1)))
set_option maxRecDepth 100000 in
set_option maxHeartbeats 4000000 in
theorem gX12_field_109 (l : Launch) {G : zG} {p : Program} {e : Env} {s : State} {m : MethodId} {args : Array Value} {below : List Frame} {meth : Method} {c : Code} {N n : Nat} {f9 : zF} {r : Int32} {r80 : zF → Nat → Int32 → Option (zF × Int32)} (B : zB G p s m args meth c RX12 cX12_field 2 (some .int)) (hr80 : ∀ (f : zF) (a0 : Nat) (a1 : Int32) (H : Heap) (locs : List Loc) (ls : Array Slot), r80 f a0 a1 = some (f9, r) → zS G n f H locs → lv_has ls 2 [(0, zr G a0), (1, .int a1)] → W p l e (zrm 6) s m args below meth c H locs 0 0 (MQ below (zQc G n f9 (some (.int r))) args s 0 0 (zA G)) (F0 m 80 ls [])) : ∀ (f : zF) (a0 : Nat) (a1 : Int32) (t0 : Nat) (t1 : Int32) (t2 : Int32) (H : Heap) (locs : List Loc) (ls : Array Slot), fX12_field_109 r80 N n f a0 a1 t0 t1 t2 = some (f9, r) → zS G n f H locs → lv_has ls 2 [(0, zr G a0), (1, .int a1)] → W p l e (zrm 6) s m args below meth c H locs 0 0 (MQ below (zQc G n f9 (some (.int r))) args s 0 0 (zA G)) (F0 m 109 ls [.int t2, .int t1, zr G t0]) := by
  have he := B.1
  have hb := B.2.1
  intro f a0 a1 t0 t1 t2 H locs ls h hS hl
  unfold fX12_field_109 at h
  obtain ⟨f35, hx, h⟩ := zob h
  refine z_istI B hS hx dX12_field_109 (fun H locs hS => ?_)
  refine lv_iinc (v := (a1 + 1)) (lv' := [(1, _), (0, _)]) he hb dX12_field_110 hl (k := 1) rfl rfl (by decide) rfl (fun ls hl => ?_)
  refine lv_goto (tgt := 80) he hb dX12_field_113 (by decide) ?_
  exact hr80 _ _ _ _ _ _ h hS (lv_sub hl [1, 0] rfl)
def fX12_field_80 (N n : Nat) : Nat → zF → Nat → Int32 → Option (zF × Int32)
  | 0, _, _, _ => none
  | k + 1, f, a0, a1 =>
    (if (431 : Int32) ≤ a1 then (fX12_field_118 N n N f a0 (0 : Int32)) else ((zgR n f 12 a0 6).bind fun x34 => (if (139 : Int32) ≤ a1 then (fX12_field_109 (fX12_field_80 N n k) N n f a0 a1 x34 a1 (0 : Int32)) else ((zgR n f 12 a0 7).bind fun x36 => ((zlI n f 0 x36 a1).bind fun x37 => (fX12_field_109 (fX12_field_80 N n k) N n f a0 a1 x34 a1 x37))))))
set_option maxRecDepth 100000 in
set_option maxHeartbeats 4000000 in
theorem gX12_field_80 (l : Launch) {G : zG} {p : Program} {e : Env} {s : State} {m : MethodId} {args : Array Value} {below : List Frame} {meth : Method} {c : Code} {N n : Nat} {f9 : zF} {r : Int32} (B : zB G p s m args meth c RX12 cX12_field 2 (some .int)) : ∀ (k : Nat), ∀ (f : zF) (a0 : Nat) (a1 : Int32) (H : Heap) (locs : List Loc) (ls : Array Slot), fX12_field_80 N n k f a0 a1 = some (f9, r) → zS G n f H locs → lv_has ls 2 [(0, zr G a0), (1, .int a1)] → W p l e (zrm 6) s m args below meth c H locs 0 0 (MQ below (zQc G n f9 (some (.int r))) args s 0 0 (zA G)) (F0 m 80 ls []) := by
  have he := B.1
  have hb := B.2.1
  intro k
  induction k with
  | zero =>
    intro f a0 a1 H locs ls h
    unfold fX12_field_80 at h
    cases h
  | succ k ih =>
    intro f a0 a1 H locs ls h hS hl
    unfold fX12_field_80 at h
    refine lv_iload_n he hb dX12_field_80 rfl (lv_at hl 1 rfl) ?_
    refine lv_sipush (v := (431 : Int32)) he hb dX12_field_81 (by decide) ?_
    refine lv_icmp_ge (tgt := 116) he hb dX12_field_84 (by decide) (fun hc => ?_) (fun hc => ?_)
    · rw [if_pos hc] at h
      refine lv_iconst (v := (0 : Int32)) he hb dX12_field_116 (by decide) ?_
      refine lv_istore_n (lv' := [(1, _), (0, _)]) he hb dX12_field_117 rfl hl (by decide) rfl (fun ls hl => ?_)
      exact gX12_field_118 l B N _ _ _ _ _ _ h hS (lv_sub hl [1, 0] rfl)
    · rw [if_neg hc] at h
      refine z_aload_n he hb dX12_field_87 rfl (lv_at hl 0 rfl) (zref_r _ _) ?_
      obtain ⟨x34, hx, h⟩ := zob h
      refine z_getR (ci := 12) (T := TX12) (N := 50) (j := 6) B hS hx rfl zin_X12 (by decide) zk_1353 dX12_field_88 ?_
      refine lv_iload_n he hb dX12_field_91 rfl (lv_at hl 1 rfl) ?_
      refine lv_iload_n he hb dX12_field_92 rfl (lv_at hl 1 rfl) ?_
      refine lv_sipush (v := (139 : Int32)) he hb dX12_field_93 (by decide) ?_
      refine lv_icmp_ge (tgt := 108) he hb dX12_field_96 (by decide) (fun hc => ?_) (fun hc => ?_)
      · rw [if_pos hc] at h
        refine lv_iconst (v := (0 : Int32)) he hb dX12_field_108 (by decide) ?_
        exact gX12_field_109 l B ih _ _ _ _ _ _ _ _ _ h hS (lv_sub hl [0, 1] rfl)
      · rw [if_neg hc] at h
        refine z_aload_n he hb dX12_field_99 rfl (lv_at hl 0 rfl) (zref_r _ _) ?_
        obtain ⟨x36, hx, h⟩ := zob h
        refine z_getR (ci := 12) (T := TX12) (N := 50) (j := 7) B hS hx rfl zin_X12 (by decide) zk_1354 dX12_field_100 ?_
        refine lv_iload_n he hb dX12_field_103 rfl (lv_at hl 1 rfl) ?_
        obtain ⟨x37, hx, h⟩ := zob h
        refine z_ildI B hS hx dX12_field_104 ?_
        refine lv_goto (tgt := 109) he hb dX12_field_105 (by decide) ?_
        exact gX12_field_109 l B ih _ _ _ _ _ _ _ _ _ h hS (lv_sub hl [0, 1] rfl)
def fX12_field_58 (N n : Nat) (f : zF) (a0 : Nat) : Option (zF × Int32) :=
    ((zgI n f 12 a0 16).bind fun x40 => some (f, ((-1 : Int32) - x40)))
set_option maxRecDepth 100000 in
set_option maxHeartbeats 4000000 in
theorem gX12_field_58 (l : Launch) {G : zG} {p : Program} {e : Env} {s : State} {m : MethodId} {args : Array Value} {below : List Frame} {meth : Method} {c : Code} {N n : Nat} {f9 : zF} {r : Int32} (B : zB G p s m args meth c RX12 cX12_field 2 (some .int)) : ∀ (f : zF) (a0 : Nat) (H : Heap) (locs : List Loc) (ls : Array Slot), fX12_field_58 N n f a0 = some (f9, r) → zS G n f H locs → lv_has ls 2 [(0, zr G a0)] → W p l e (zrm 6) s m args below meth c H locs 0 0 (MQ below (zQc G n f9 (some (.int r))) args s 0 0 (zA G)) (F0 m 58 ls []) := by
  have he := B.1
  have hb := B.2.1
  intro f a0 H locs ls h hS hl
  unfold fX12_field_58 at h
  refine lv_iconst (v := (-1 : Int32)) he hb dX12_field_58 (by decide) ?_
  refine z_aload_n he hb dX12_field_59 rfl (lv_at hl 0 rfl) (zref_r _ _) ?_
  obtain ⟨x40, hx, h⟩ := zob h
  refine z_getI (ci := 12) (T := TX12) (N := 50) (j := 16) B hS hx rfl zin_X12 (by decide) zk_1363 dX12_field_60 ?_
  refine lv_isub he hb dX12_field_63 ?_
  obtain ⟨rfl, rfl⟩ := Prod.mk.inj (Option.some.inj h)
  exact z_iret B hS dX12_field_64
def fX12_field_35 (N n : Nat) : Nat → zF → Nat → Option (zF × Int32)
  | 0, _, _ => none
  | k + 1, f, a0 =>
    ((zgI n f 12 a0 11).bind fun x8 => (if x8 = 0 then (fX12_field_80 N n N f a0 (0 : Int32)) else ((zck n f 12 a0).bind fun _ => (zbd (fX12_readLine N n f a0) fun f39 x38 => (if x38 = 0 then (fX12_field_58 N n f39 a0) else ((zck n f39 12 a0).bind fun _ => (zbd (fX12_sign N n f39 a0 (59 : Int32)) fun f42 x41 => (if x41 = 0 then (fX12_field_58 N n f42 a0) else ((zgI n f42 12 a0 19).bind fun x43 => ((zpI n f42 12 a0 19 (x43 + (1 : Int32))).bind fun f44 => (fX12_field_35 N n k f44 a0)))))))))))
set_option maxRecDepth 100000 in
set_option maxHeartbeats 4000000 in
theorem gX12_field_35 (l : Launch) {G : zG} {p : Program} {e : Env} {s : State} {m : MethodId} {args : Array Value} {below : List Frame} {meth : Method} {c : Code} {N n : Nat} {f9 : zF} {r : Int32} (B : zB G p s m args meth c RX12 cX12_field 2 (some .int)) : ∀ (k : Nat), ∀ (f : zF) (a0 : Nat) (H : Heap) (locs : List Loc) (ls : Array Slot), fX12_field_35 N n k f a0 = some (f9, r) → zS G n f H locs → lv_has ls 2 [(0, zr G a0)] → W p l e (zrm 6) s m args below meth c H locs 0 0 (MQ below (zQc G n f9 (some (.int r))) args s 0 0 (zA G)) (F0 m 35 ls []) := by
  have he := B.1
  have hb := B.2.1
  intro k
  induction k with
  | zero =>
    intro f a0 H locs ls h
    unfold fX12_field_35 at h
    cases h
  | succ k ih =>
    intro f a0 H locs ls h hS hl
    unfold fX12_field_35 at h
    refine z_aload_n he hb dX12_field_35 rfl (lv_at hl 0 rfl) (zref_r _ _) ?_
    obtain ⟨x8, hx, h⟩ := zob h
    refine z_getI (ci := 12) (T := TX12) (N := 50) (j := 11) B hS hx rfl zin_X12 (by decide) zk_1358 dX12_field_36 ?_
    refine lv_if_eq (tgt := 78) he hb dX12_field_39 (by decide) (fun hc => ?_) (fun hc => ?_)
    · rw [if_pos hc] at h
      refine lv_iconst (v := (0 : Int32)) he hb dX12_field_78 (by decide) ?_
      refine lv_istore_n (lv' := [(1, _), (0, _)]) he hb dX12_field_79 rfl hl (by decide) rfl (fun ls hl => ?_)
      exact gX12_field_80 l B N _ _ _ _ _ _ h hS (lv_sub hl [1, 0] rfl)
    · rw [if_neg hc] at h
      refine z_aload_n he hb dX12_field_42 rfl (lv_at hl 0 rfl) (zref_r _ _) ?_
      obtain ⟨_, hc, h⟩ := zob h
      obtain ⟨f39, x38, hx, h⟩ := zbd_i h
      refine z_callV (ci := 12) (T := TX12) (N := 50) (rest := []) B hS (mX12_readLine l G hx) zy_X12_readLine zk_1521 (by decide) hc rfl rfl hl rfl (Nat.le_of_ble_eq_true rfl) dX12_field_43 (kk := (fun H locs hS => ?_))
      refine lv_if_eq (tgt := 58) he hb dX12_field_46 (by decide) (fun hc => ?_) (fun hc => ?_)
      · rw [if_pos hc] at h
        exact gX12_field_58 l B _ _ _ _ _ h hS (lv_sub hl [0] rfl)
      · rw [if_neg hc] at h
        refine z_aload_n he hb dX12_field_49 rfl (lv_at hl 0 rfl) (zref_r _ _) ?_
        refine lv_bipush (v := (59 : Int32)) he hb dX12_field_50 (by decide) ?_
        obtain ⟨_, hc, h⟩ := zob h
        obtain ⟨f42, x41, hx, h⟩ := zbd_i h
        refine z_callV (ci := 12) (T := TX12) (N := 50) (rest := []) B hS (mX12_sign l G hx) zy_X12_sign zk_1600 (by decide) hc rfl rfl hl rfl (Nat.le_of_ble_eq_true rfl) dX12_field_52 (kk := (fun H locs hS => ?_))
        refine lv_if_ne (tgt := 65) he hb dX12_field_55 (by decide) (fun hc => ?_) (fun hc => ?_)
        · rw [if_neg hc] at h
          refine z_aload_n he hb dX12_field_65 rfl (lv_at hl 0 rfl) (zref_r _ _) ?_
          refine lv_dup he hb dX12_field_66 rfl ?_
          obtain ⟨x43, hx, h⟩ := zob h
          refine z_getI (ci := 12) (T := TX12) (N := 50) (j := 19) B hS hx rfl zin_X12 (by decide) zk_1366 dX12_field_67 ?_
          refine lv_iconst (v := (1 : Int32)) he hb dX12_field_70 (by decide) ?_
          refine lv_iadd he hb dX12_field_71 ?_
          obtain ⟨f44, hx, h⟩ := zob h
          refine z_putI (ci := 12) (T := TX12) (N := 50) (j := 19) B hS hx rfl zin_X12 tyX12 tyX12_ok nmX12 (by decide) zk_1366 rfl rfl dX12_field_72 (fun H locs hS => ?_)
          refine lv_goto (tgt := 35) he hb dX12_field_75 (by decide) ?_
          exact ih _ _ _ _ _ h hS (lv_sub hl [0] rfl)
        · rw [if_pos hc] at h
          exact gX12_field_58 l B _ _ _ _ _ h hS (lv_sub hl [0] rfl)
def fX12_field (N n : Nat) (f : zF) (a0 : Nat) : Option (zF × Int32) :=
    ((zpI n f 12 a0 0 (0 : Int32)).bind fun f1 => ((zck n f1 12 a0).bind fun _ => ((fX12_taken N n f1 a0 (900 : Int32)).bind fun f2 => ((zpI n f2 12 a0 15 (0 : Int32)).bind fun f3 => ((zpI n f3 12 a0 19 (0 : Int32)).bind fun f4 => ((zpZ n f4 12 a0 20 (0 : Int32)).bind fun f5 => ((zck n f5 12 a0).bind fun _ => ((fX12_clears N n f5 a0).bind fun f6 => ((zck n f6 12 a0).bind fun _ => ((fX12_next N n f6 a0).bind fun f7 => (fX12_field_35 N n N f7 a0)))))))))))
set_option maxRecDepth 100000 in
set_option maxHeartbeats 4000000 in
theorem mX12_field (l : Launch) (G : zG) {N n : Nat} {f : zF} {f9 : zF} {r : Int32} {a0 : Nat} (h : fX12_field N n f a0 = some (f9, r)) : zM l G yX12_field cX12_field 2 (some .int) 6 n f [zr G a0] (some (.int r)) f9 := by
  refine zM.of (by decide) (Nat.le_of_ble_eq_true rfl) ?_
  intro p e s m args below meth c locs ls B hS hl
  have he := B.1
  have hb := B.2.1
  have hl : lv_has ls 2 [(0, zr G a0)] := hl
  unfold fX12_field at h
  generalize s.heap = H at hS ⊢
  refine z_aload_n he hb dX12_field_0 rfl (lv_at hl 0 rfl) (zref_r _ _) ?_
  refine lv_iconst (v := (0 : Int32)) he hb dX12_field_1 (by decide) ?_
  obtain ⟨f1, hx, h⟩ := zob h
  refine z_putI (ci := 12) (T := TX12) (N := 50) (j := 0) B hS hx rfl zin_X12 tyX12 tyX12_ok nmX12 (by decide) zk_1347 rfl rfl dX12_field_2 (fun H locs hS => ?_)
  refine z_aload_n he hb dX12_field_5 rfl (lv_at hl 0 rfl) (zref_r _ _) ?_
  refine lv_sipush (v := (900 : Int32)) he hb dX12_field_6 (by decide) ?_
  obtain ⟨_, hc, h⟩ := zob h
  obtain ⟨f2, hx, h⟩ := zob h
  refine z_callV (ci := 12) (T := TX12) (N := 50) (rest := []) B hS (mX12_taken l G hx) zy_X12_taken zk_1503 (by decide) hc rfl rfl hl rfl (Nat.le_of_ble_eq_true rfl) dX12_field_9 (kk := (fun H locs hS => ?_))
  refine z_aload_n he hb dX12_field_12 rfl (lv_at hl 0 rfl) (zref_r _ _) ?_
  refine lv_iconst (v := (0 : Int32)) he hb dX12_field_13 (by decide) ?_
  obtain ⟨f3, hx, h⟩ := zob h
  refine z_putI (ci := 12) (T := TX12) (N := 50) (j := 15) B hS hx rfl zin_X12 tyX12 tyX12_ok nmX12 (by decide) zk_1362 rfl rfl dX12_field_14 (fun H locs hS => ?_)
  refine z_aload_n he hb dX12_field_17 rfl (lv_at hl 0 rfl) (zref_r _ _) ?_
  refine lv_iconst (v := (0 : Int32)) he hb dX12_field_18 (by decide) ?_
  obtain ⟨f4, hx, h⟩ := zob h
  refine z_putI (ci := 12) (T := TX12) (N := 50) (j := 19) B hS hx rfl zin_X12 tyX12 tyX12_ok nmX12 (by decide) zk_1366 rfl rfl dX12_field_19 (fun H locs hS => ?_)
  refine z_aload_n he hb dX12_field_22 rfl (lv_at hl 0 rfl) (zref_r _ _) ?_
  refine lv_iconst (v := (0 : Int32)) he hb dX12_field_23 (by decide) ?_
  obtain ⟨f5, hx, h⟩ := zob h
  refine z_putZ (ci := 12) (T := TX12) (N := 50) (j := 20) B hS hx rfl zin_X12 tyX12 tyX12_ok nmX12 (by decide) zk_1367 rfl rfl dX12_field_24 (fun H locs hS => ?_)
  refine z_aload_n he hb dX12_field_27 rfl (lv_at hl 0 rfl) (zref_r _ _) ?_
  obtain ⟨_, hc, h⟩ := zob h
  obtain ⟨f6, hx, h⟩ := zob h
  refine z_callV (ci := 12) (T := TX12) (N := 50) (rest := []) B hS (mX12_clears l G hx) zy_X12_clears zk_1343 (by decide) hc rfl rfl hl rfl (Nat.le_of_ble_eq_true rfl) dX12_field_28 (kk := (fun H locs hS => ?_))
  refine z_aload_n he hb dX12_field_31 rfl (lv_at hl 0 rfl) (zref_r _ _) ?_
  obtain ⟨_, hc, h⟩ := zob h
  obtain ⟨f7, hx, h⟩ := zob h
  refine z_callV (ci := 12) (T := TX12) (N := 50) (rest := []) B hS (mX12_next l G hx) zy_X12_next zk_1507 (by decide) hc rfl rfl hl rfl (Nat.le_of_ble_eq_true rfl) dX12_field_32 (kk := (fun H locs hS => ?_))
  exact gX12_field_35 l B N _ _ _ _ _ h hS (lv_sub hl [0] rfl)
theorem dX12_fault_0 : decode cX12_fault 0 = .ok (.aload_n 0, 1) := by decide +kernel
theorem dX12_fault_1 : decode cX12_fault 1 = .ok (.iconst 0, 1) := by decide +kernel
theorem dX12_fault_2 : decode cX12_fault 2 = .ok (.putfield 1, 3) := by decide +kernel
theorem dX12_fault_5 : decode cX12_fault 5 = .ok (.aload_n 0, 1) := by decide +kernel
theorem dX12_fault_6 : decode cX12_fault 6 = .ok (.getfield 177, 3) := by decide +kernel
theorem dX12_fault_9 : decode cX12_fault 9 = .ok (.ireturn, 1) := by decide +kernel
def fX12_fault (N n : Nat) (f : zF) (a0 : Nat) : Option (zF × Int32) :=
    ((zpI n f 12 a0 0 (0 : Int32)).bind fun f1 => ((zgI n f1 12 a0 15).bind fun x2 => some (f1, x2)))
set_option maxRecDepth 100000 in
set_option maxHeartbeats 4000000 in
theorem mX12_fault (l : Launch) (G : zG) {N n : Nat} {f : zF} {f9 : zF} {r : Int32} {a0 : Nat} (h : fX12_fault N n f a0 = some (f9, r)) : zM l G yX12_fault cX12_fault 1 (some .int) 0 n f [zr G a0] (some (.int r)) f9 := by
  refine zM.of (by decide) (Nat.le_of_ble_eq_true rfl) ?_
  intro p e s m args below meth c locs ls B hS hl
  have he := B.1
  have hb := B.2.1
  have hl : lv_has ls 1 [(0, zr G a0)] := hl
  unfold fX12_fault at h
  generalize s.heap = H at hS ⊢
  refine z_aload_n he hb dX12_fault_0 rfl (lv_at hl 0 rfl) (zref_r _ _) ?_
  refine lv_iconst (v := (0 : Int32)) he hb dX12_fault_1 (by decide) ?_
  obtain ⟨f1, hx, h⟩ := zob h
  refine z_putI (ci := 12) (T := TX12) (N := 50) (j := 0) B hS hx rfl zin_X12 tyX12 tyX12_ok nmX12 (by decide) zk_1347 rfl rfl dX12_fault_2 (fun H locs hS => ?_)
  refine z_aload_n he hb dX12_fault_5 rfl (lv_at hl 0 rfl) (zref_r _ _) ?_
  obtain ⟨x2, hx, h⟩ := zob h
  refine z_getI (ci := 12) (T := TX12) (N := 50) (j := 15) B hS hx rfl zin_X12 (by decide) zk_1362 dX12_fault_6 ?_
  obtain ⟨rfl, rfl⟩ := Prod.mk.inj (Option.some.inj h)
  exact z_iret B hS dX12_fault_9
theorem dX12_isFigure_0 : decode cX12_isFigure 0 = .ok (.iload_n 1, 1) := by decide +kernel
theorem dX12_isFigure_1 : decode cX12_isFigure 1 = .ok (.iconst 0, 1) := by decide +kernel
theorem dX12_isFigure_2 : decode cX12_isFigure 2 = .ok (.aload_n 0, 1) := by decide +kernel
theorem dX12_isFigure_3 : decode cX12_isFigure 3 = .ok (.getfield 33, 3) := by decide +kernel
theorem dX12_isFigure_6 : decode cX12_isFigure 6 = .ok (.iconst 3, 1) := by decide +kernel
theorem dX12_isFigure_7 : decode cX12_isFigure 7 = .ok (.iaload, 1) := by decide +kernel
theorem dX12_isFigure_8 : decode cX12_isFigure 8 = .ok (.iconst 1, 1) := by decide +kernel
theorem dX12_isFigure_9 : decode cX12_isFigure 9 = .ok (.isub, 1) := by decide +kernel
theorem dX12_isFigure_10 : decode cX12_isFigure 10 = .ok (.invokestatic 192, 3) := by decide +kernel
theorem dX12_isFigure_13 : decode cX12_isFigure 13 = .ok (.ireturn, 1) := by decide +kernel
def fX12_isFigure (N n : Nat) (f : zF) (a0 : Nat) (a1 : Int32) : Option Int32 :=
    ((zgR n f 12 a0 6).bind fun x1 => ((zlI n f 0 x1 (3 : Int32)).bind fun x2 => ((fX12_isIn N n f a1 (0 : Int32) (x2 - (1 : Int32))).bind fun x3 => zbl x3)))
set_option maxRecDepth 100000 in
set_option maxHeartbeats 4000000 in
theorem mX12_isFigure (l : Launch) (G : zG) {N n : Nat} {f : zF} {r : Int32} {a0 : Nat} {a1 : Int32} (h : fX12_isFigure N n f a0 a1 = some r) : zM l G yX12_isFigure cX12_isFigure 2 (some .boolean) 1 n f [zr G a0, .int a1] (some (.int r)) f := by
  refine zM.of (by decide) (Nat.le_of_ble_eq_true rfl) ?_
  intro p e s m args below meth c locs ls B hS hl
  have he := B.1
  have hb := B.2.1
  have hl : lv_has ls 2 [(0, zr G a0), (1, .int a1)] := hl
  unfold fX12_isFigure at h
  generalize s.heap = H at hS ⊢
  refine lv_iload_n he hb dX12_isFigure_0 rfl (lv_at hl 1 rfl) ?_
  refine lv_iconst (v := (0 : Int32)) he hb dX12_isFigure_1 (by decide) ?_
  refine z_aload_n he hb dX12_isFigure_2 rfl (lv_at hl 0 rfl) (zref_r _ _) ?_
  obtain ⟨x1, hx, h⟩ := zob h
  refine z_getR (ci := 12) (T := TX12) (N := 50) (j := 6) B hS hx rfl zin_X12 (by decide) zk_1353 dX12_isFigure_3 ?_
  refine lv_iconst (v := (3 : Int32)) he hb dX12_isFigure_6 (by decide) ?_
  obtain ⟨x2, hx, h⟩ := zob h
  refine z_ildI B hS hx dX12_isFigure_7 ?_
  refine lv_iconst (v := (1 : Int32)) he hb dX12_isFigure_8 (by decide) ?_
  refine lv_isub he hb dX12_isFigure_9 ?_
  obtain ⟨x3, hx, h⟩ := zob h
  refine z_callS (rest := []) B hS (mX12_isIn l G hx) zy_X12_isIn zk_1545 (by decide) rfl hl rfl (Nat.le_of_ble_eq_true rfl) dX12_isFigure_10 (kk := (fun H locs hS => ?_))
  obtain ⟨hz, rfl⟩ := zbl_i h
  exact z_zret B hS hz dX12_isFigure_13
theorem dX12_isLooker_0 : decode cX12_isLooker 0 = .ok (.iload_n 1, 1) := by decide +kernel
theorem dX12_isLooker_1 : decode cX12_isLooker 1 = .ok (.iconst 0, 1) := by decide +kernel
theorem dX12_isLooker_2 : decode cX12_isLooker 2 = .ok (.aload_n 0, 1) := by decide +kernel
theorem dX12_isLooker_3 : decode cX12_isLooker 3 = .ok (.getfield 33, 3) := by decide +kernel
theorem dX12_isLooker_6 : decode cX12_isLooker 6 = .ok (.iconst 4, 1) := by decide +kernel
theorem dX12_isLooker_7 : decode cX12_isLooker 7 = .ok (.iaload, 1) := by decide +kernel
theorem dX12_isLooker_8 : decode cX12_isLooker 8 = .ok (.iconst 1, 1) := by decide +kernel
theorem dX12_isLooker_9 : decode cX12_isLooker 9 = .ok (.isub, 1) := by decide +kernel
theorem dX12_isLooker_10 : decode cX12_isLooker 10 = .ok (.invokestatic 192, 3) := by decide +kernel
theorem dX12_isLooker_13 : decode cX12_isLooker 13 = .ok (.ireturn, 1) := by decide +kernel
def fX12_isLooker (N n : Nat) (f : zF) (a0 : Nat) (a1 : Int32) : Option Int32 :=
    ((zgR n f 12 a0 6).bind fun x1 => ((zlI n f 0 x1 (4 : Int32)).bind fun x2 => ((fX12_isIn N n f a1 (0 : Int32) (x2 - (1 : Int32))).bind fun x3 => zbl x3)))
set_option maxRecDepth 100000 in
set_option maxHeartbeats 4000000 in
theorem mX12_isLooker (l : Launch) (G : zG) {N n : Nat} {f : zF} {r : Int32} {a0 : Nat} {a1 : Int32} (h : fX12_isLooker N n f a0 a1 = some r) : zM l G yX12_isLooker cX12_isLooker 2 (some .boolean) 1 n f [zr G a0, .int a1] (some (.int r)) f := by
  refine zM.of (by decide) (Nat.le_of_ble_eq_true rfl) ?_
  intro p e s m args below meth c locs ls B hS hl
  have he := B.1
  have hb := B.2.1
  have hl : lv_has ls 2 [(0, zr G a0), (1, .int a1)] := hl
  unfold fX12_isLooker at h
  generalize s.heap = H at hS ⊢
  refine lv_iload_n he hb dX12_isLooker_0 rfl (lv_at hl 1 rfl) ?_
  refine lv_iconst (v := (0 : Int32)) he hb dX12_isLooker_1 (by decide) ?_
  refine z_aload_n he hb dX12_isLooker_2 rfl (lv_at hl 0 rfl) (zref_r _ _) ?_
  obtain ⟨x1, hx, h⟩ := zob h
  refine z_getR (ci := 12) (T := TX12) (N := 50) (j := 6) B hS hx rfl zin_X12 (by decide) zk_1353 dX12_isLooker_3 ?_
  refine lv_iconst (v := (4 : Int32)) he hb dX12_isLooker_6 (by decide) ?_
  obtain ⟨x2, hx, h⟩ := zob h
  refine z_ildI B hS hx dX12_isLooker_7 ?_
  refine lv_iconst (v := (1 : Int32)) he hb dX12_isLooker_8 (by decide) ?_
  refine lv_isub he hb dX12_isLooker_9 ?_
  obtain ⟨x3, hx, h⟩ := zob h
  refine z_callS (rest := []) B hS (mX12_isIn l G hx) zy_X12_isIn zk_1545 (by decide) rfl hl rfl (Nat.le_of_ble_eq_true rfl) dX12_isLooker_10 (kk := (fun H locs hS => ?_))
  obtain ⟨hz, rfl⟩ := zbl_i h
  exact z_zret B hS hz dX12_isLooker_13
theorem dX12_figureAt_0 : decode cX12_figureAt 0 = .ok (.iconst 0, 1) := by decide +kernel
theorem dX12_figureAt_1 : decode cX12_figureAt 1 = .ok (.istore_n 2, 1) := by decide +kernel
theorem dX12_figureAt_2 : decode cX12_figureAt 2 = .ok (.iload_n 2, 1) := by decide +kernel
theorem dX12_figureAt_3 : decode cX12_figureAt 3 = .ok (.aload_n 0, 1) := by decide +kernel
theorem dX12_figureAt_4 : decode cX12_figureAt 4 = .ok (.getfield 33, 3) := by decide +kernel
theorem dX12_figureAt_7 : decode cX12_figureAt 7 = .ok (.iconst 3, 1) := by decide +kernel
theorem dX12_figureAt_8 : decode cX12_figureAt 8 = .ok (.iaload, 1) := by decide +kernel
theorem dX12_figureAt_9 : decode cX12_figureAt 9 = .ok (.if_icmp .ge 25, 3) := by decide +kernel
theorem dX12_figureAt_12 : decode cX12_figureAt 12 = .ok (.aload_n 0, 1) := by decide +kernel
theorem dX12_figureAt_13 : decode cX12_figureAt 13 = .ok (.getfield 33, 3) := by decide +kernel
theorem dX12_figureAt_16 : decode cX12_figureAt 16 = .ok (.sipush 141, 3) := by decide +kernel
theorem dX12_figureAt_19 : decode cX12_figureAt 19 = .ok (.iload_n 2, 1) := by decide +kernel
theorem dX12_figureAt_20 : decode cX12_figureAt 20 = .ok (.iadd, 1) := by decide +kernel
theorem dX12_figureAt_21 : decode cX12_figureAt 21 = .ok (.iaload, 1) := by decide +kernel
theorem dX12_figureAt_22 : decode cX12_figureAt 22 = .ok (.iload_n 1, 1) := by decide +kernel
theorem dX12_figureAt_23 : decode cX12_figureAt 23 = .ok (.if_icmp .ne 5, 3) := by decide +kernel
theorem dX12_figureAt_26 : decode cX12_figureAt 26 = .ok (.iload_n 2, 1) := by decide +kernel
theorem dX12_figureAt_27 : decode cX12_figureAt 27 = .ok (.ireturn, 1) := by decide +kernel
theorem dX12_figureAt_28 : decode cX12_figureAt 28 = .ok (.iinc 2 1, 3) := by decide +kernel
theorem dX12_figureAt_31 : decode cX12_figureAt 31 = .ok (.goto (-29), 3) := by decide +kernel
theorem dX12_figureAt_34 : decode cX12_figureAt 34 = .ok (.iconst (-1), 1) := by decide +kernel
theorem dX12_figureAt_35 : decode cX12_figureAt 35 = .ok (.ireturn, 1) := by decide +kernel
def fX12_figureAt_2 (N n : Nat) (f : zF) : Nat → Nat → Int32 → Int32 → Option Int32
  | 0, _, _, _ => none
  | k + 1, a0, a1, a2 =>
    ((zgR n f 12 a0 6).bind fun x1 => ((zlI n f 0 x1 (3 : Int32)).bind fun x2 => (if x2 ≤ a2 then some (-1 : Int32) else ((zgR n f 12 a0 6).bind fun x3 => ((zlI n f 0 x3 ((141 : Int32) + a2)).bind fun x4 => (if x4 = a1 then some a2 else (fX12_figureAt_2 N n f k a0 a1 (a2 + 1))))))))
set_option maxRecDepth 100000 in
set_option maxHeartbeats 4000000 in
theorem gX12_figureAt_2 (l : Launch) {G : zG} {p : Program} {e : Env} {s : State} {m : MethodId} {args : Array Value} {below : List Frame} {meth : Method} {c : Code} {f : zF} {N n : Nat} {r : Int32} (B : zB G p s m args meth c RX12 cX12_figureAt 3 (some .int)) : ∀ (k : Nat), ∀ (a0 : Nat) (a1 : Int32) (a2 : Int32) (H : Heap) (locs : List Loc) (ls : Array Slot), fX12_figureAt_2 N n f k a0 a1 a2 = some r → zS G n f H locs → lv_has ls 3 [(0, zr G a0), (1, .int a1), (2, .int a2)] → W p l e (zrm 0) s m args below meth c H locs 0 0 (MQ below (zQc G n f (some (.int r))) args s 0 0 (zA G)) (F0 m 2 ls []) := by
  have he := B.1
  have hb := B.2.1
  intro k
  induction k with
  | zero =>
    intro a0 a1 a2 H locs ls h
    unfold fX12_figureAt_2 at h
    cases h
  | succ k ih =>
    intro a0 a1 a2 H locs ls h hS hl
    unfold fX12_figureAt_2 at h
    refine lv_iload_n he hb dX12_figureAt_2 rfl (lv_at hl 2 rfl) ?_
    refine z_aload_n he hb dX12_figureAt_3 rfl (lv_at hl 0 rfl) (zref_r _ _) ?_
    obtain ⟨x1, hx, h⟩ := zob h
    refine z_getR (ci := 12) (T := TX12) (N := 50) (j := 6) B hS hx rfl zin_X12 (by decide) zk_1353 dX12_figureAt_4 ?_
    refine lv_iconst (v := (3 : Int32)) he hb dX12_figureAt_7 (by decide) ?_
    obtain ⟨x2, hx, h⟩ := zob h
    refine z_ildI B hS hx dX12_figureAt_8 ?_
    refine lv_icmp_ge (tgt := 34) he hb dX12_figureAt_9 (by decide) (fun hc => ?_) (fun hc => ?_)
    · rw [if_pos hc] at h
      refine lv_iconst (v := (-1 : Int32)) he hb dX12_figureAt_34 (by decide) ?_
      obtain rfl := Option.some.inj h
      exact z_iret B hS dX12_figureAt_35
    · rw [if_neg hc] at h
      refine z_aload_n he hb dX12_figureAt_12 rfl (lv_at hl 0 rfl) (zref_r _ _) ?_
      obtain ⟨x3, hx, h⟩ := zob h
      refine z_getR (ci := 12) (T := TX12) (N := 50) (j := 6) B hS hx rfl zin_X12 (by decide) zk_1353 dX12_figureAt_13 ?_
      refine lv_sipush (v := (141 : Int32)) he hb dX12_figureAt_16 (by decide) ?_
      refine lv_iload_n he hb dX12_figureAt_19 rfl (lv_at hl 2 rfl) ?_
      refine lv_iadd he hb dX12_figureAt_20 ?_
      obtain ⟨x4, hx, h⟩ := zob h
      refine z_ildI B hS hx dX12_figureAt_21 ?_
      refine lv_iload_n he hb dX12_figureAt_22 rfl (lv_at hl 1 rfl) ?_
      refine lv_icmp_ne (tgt := 28) he hb dX12_figureAt_23 (by decide) (fun hc => ?_) (fun hc => ?_)
      · rw [if_neg hc] at h
        refine lv_iinc (v := (a2 + 1)) (lv' := [(2, _), (0, _), (1, _)]) he hb dX12_figureAt_28 hl (k := 2) rfl rfl (by decide) rfl (fun ls hl => ?_)
        refine lv_goto (tgt := 2) he hb dX12_figureAt_31 (by decide) ?_
        exact ih _ _ _ _ _ _ h hS (lv_sub hl [1, 2, 0] rfl)
      · rw [if_pos hc] at h
        refine lv_iload_n he hb dX12_figureAt_26 rfl (lv_at hl 2 rfl) ?_
        obtain rfl := Option.some.inj h
        exact z_iret B hS dX12_figureAt_27
def fX12_figureAt (N n : Nat) (f : zF) (a0 : Nat) (a1 : Int32) : Option Int32 :=
    (fX12_figureAt_2 N n f N a0 a1 (0 : Int32))
set_option maxRecDepth 100000 in
set_option maxHeartbeats 4000000 in
theorem mX12_figureAt (l : Launch) (G : zG) {N n : Nat} {f : zF} {r : Int32} {a0 : Nat} {a1 : Int32} (h : fX12_figureAt N n f a0 a1 = some r) : zM l G yX12_figureAt cX12_figureAt 3 (some .int) 0 n f [zr G a0, .int a1] (some (.int r)) f := by
  refine zM.of (by decide) (Nat.le_of_ble_eq_true rfl) ?_
  intro p e s m args below meth c locs ls B hS hl
  have he := B.1
  have hb := B.2.1
  have hl : lv_has ls 3 [(0, zr G a0), (1, .int a1)] := hl
  unfold fX12_figureAt at h
  generalize s.heap = H at hS ⊢
  refine lv_iconst (v := (0 : Int32)) he hb dX12_figureAt_0 (by decide) ?_
  refine lv_istore_n (lv' := [(2, _), (0, _), (1, _)]) he hb dX12_figureAt_1 rfl hl (by decide) rfl (fun ls hl => ?_)
  exact gX12_figureAt_2 l B N _ _ _ _ _ _ h hS (lv_sub hl [1, 2, 0] rfl)
theorem dX12_lookerAt_0 : decode cX12_lookerAt 0 = .ok (.iconst 0, 1) := by decide +kernel
theorem dX12_lookerAt_1 : decode cX12_lookerAt 1 = .ok (.istore_n 2, 1) := by decide +kernel
theorem dX12_lookerAt_2 : decode cX12_lookerAt 2 = .ok (.iload_n 2, 1) := by decide +kernel
theorem dX12_lookerAt_3 : decode cX12_lookerAt 3 = .ok (.aload_n 0, 1) := by decide +kernel
theorem dX12_lookerAt_4 : decode cX12_lookerAt 4 = .ok (.getfield 33, 3) := by decide +kernel
theorem dX12_lookerAt_7 : decode cX12_lookerAt 7 = .ok (.iconst 4, 1) := by decide +kernel
theorem dX12_lookerAt_8 : decode cX12_lookerAt 8 = .ok (.iaload, 1) := by decide +kernel
theorem dX12_lookerAt_9 : decode cX12_lookerAt 9 = .ok (.if_icmp .ge 25, 3) := by decide +kernel
theorem dX12_lookerAt_12 : decode cX12_lookerAt 12 = .ok (.aload_n 0, 1) := by decide +kernel
theorem dX12_lookerAt_13 : decode cX12_lookerAt 13 = .ok (.getfield 33, 3) := by decide +kernel
theorem dX12_lookerAt_16 : decode cX12_lookerAt 16 = .ok (.sipush 159, 3) := by decide +kernel
theorem dX12_lookerAt_19 : decode cX12_lookerAt 19 = .ok (.iload_n 2, 1) := by decide +kernel
theorem dX12_lookerAt_20 : decode cX12_lookerAt 20 = .ok (.iadd, 1) := by decide +kernel
theorem dX12_lookerAt_21 : decode cX12_lookerAt 21 = .ok (.iaload, 1) := by decide +kernel
theorem dX12_lookerAt_22 : decode cX12_lookerAt 22 = .ok (.iload_n 1, 1) := by decide +kernel
theorem dX12_lookerAt_23 : decode cX12_lookerAt 23 = .ok (.if_icmp .ne 5, 3) := by decide +kernel
theorem dX12_lookerAt_26 : decode cX12_lookerAt 26 = .ok (.iload_n 2, 1) := by decide +kernel
theorem dX12_lookerAt_27 : decode cX12_lookerAt 27 = .ok (.ireturn, 1) := by decide +kernel
theorem dX12_lookerAt_28 : decode cX12_lookerAt 28 = .ok (.iinc 2 1, 3) := by decide +kernel
theorem dX12_lookerAt_31 : decode cX12_lookerAt 31 = .ok (.goto (-29), 3) := by decide +kernel
theorem dX12_lookerAt_34 : decode cX12_lookerAt 34 = .ok (.iconst (-1), 1) := by decide +kernel
theorem dX12_lookerAt_35 : decode cX12_lookerAt 35 = .ok (.ireturn, 1) := by decide +kernel
def fX12_lookerAt_2 (N n : Nat) (f : zF) : Nat → Nat → Int32 → Int32 → Option Int32
  | 0, _, _, _ => none
  | k + 1, a0, a1, a2 =>
    ((zgR n f 12 a0 6).bind fun x1 => ((zlI n f 0 x1 (4 : Int32)).bind fun x2 => (if x2 ≤ a2 then some (-1 : Int32) else ((zgR n f 12 a0 6).bind fun x3 => ((zlI n f 0 x3 ((159 : Int32) + a2)).bind fun x4 => (if x4 = a1 then some a2 else (fX12_lookerAt_2 N n f k a0 a1 (a2 + 1))))))))
set_option maxRecDepth 100000 in
set_option maxHeartbeats 4000000 in
theorem gX12_lookerAt_2 (l : Launch) {G : zG} {p : Program} {e : Env} {s : State} {m : MethodId} {args : Array Value} {below : List Frame} {meth : Method} {c : Code} {f : zF} {N n : Nat} {r : Int32} (B : zB G p s m args meth c RX12 cX12_lookerAt 3 (some .int)) : ∀ (k : Nat), ∀ (a0 : Nat) (a1 : Int32) (a2 : Int32) (H : Heap) (locs : List Loc) (ls : Array Slot), fX12_lookerAt_2 N n f k a0 a1 a2 = some r → zS G n f H locs → lv_has ls 3 [(0, zr G a0), (1, .int a1), (2, .int a2)] → W p l e (zrm 0) s m args below meth c H locs 0 0 (MQ below (zQc G n f (some (.int r))) args s 0 0 (zA G)) (F0 m 2 ls []) := by
  have he := B.1
  have hb := B.2.1
  intro k
  induction k with
  | zero =>
    intro a0 a1 a2 H locs ls h
    unfold fX12_lookerAt_2 at h
    cases h
  | succ k ih =>
    intro a0 a1 a2 H locs ls h hS hl
    unfold fX12_lookerAt_2 at h
    refine lv_iload_n he hb dX12_lookerAt_2 rfl (lv_at hl 2 rfl) ?_
    refine z_aload_n he hb dX12_lookerAt_3 rfl (lv_at hl 0 rfl) (zref_r _ _) ?_
    obtain ⟨x1, hx, h⟩ := zob h
    refine z_getR (ci := 12) (T := TX12) (N := 50) (j := 6) B hS hx rfl zin_X12 (by decide) zk_1353 dX12_lookerAt_4 ?_
    refine lv_iconst (v := (4 : Int32)) he hb dX12_lookerAt_7 (by decide) ?_
    obtain ⟨x2, hx, h⟩ := zob h
    refine z_ildI B hS hx dX12_lookerAt_8 ?_
    refine lv_icmp_ge (tgt := 34) he hb dX12_lookerAt_9 (by decide) (fun hc => ?_) (fun hc => ?_)
    · rw [if_pos hc] at h
      refine lv_iconst (v := (-1 : Int32)) he hb dX12_lookerAt_34 (by decide) ?_
      obtain rfl := Option.some.inj h
      exact z_iret B hS dX12_lookerAt_35
    · rw [if_neg hc] at h
      refine z_aload_n he hb dX12_lookerAt_12 rfl (lv_at hl 0 rfl) (zref_r _ _) ?_
      obtain ⟨x3, hx, h⟩ := zob h
      refine z_getR (ci := 12) (T := TX12) (N := 50) (j := 6) B hS hx rfl zin_X12 (by decide) zk_1353 dX12_lookerAt_13 ?_
      refine lv_sipush (v := (159 : Int32)) he hb dX12_lookerAt_16 (by decide) ?_
      refine lv_iload_n he hb dX12_lookerAt_19 rfl (lv_at hl 2 rfl) ?_
      refine lv_iadd he hb dX12_lookerAt_20 ?_
      obtain ⟨x4, hx, h⟩ := zob h
      refine z_ildI B hS hx dX12_lookerAt_21 ?_
      refine lv_iload_n he hb dX12_lookerAt_22 rfl (lv_at hl 1 rfl) ?_
      refine lv_icmp_ne (tgt := 28) he hb dX12_lookerAt_23 (by decide) (fun hc => ?_) (fun hc => ?_)
      · rw [if_neg hc] at h
        refine lv_iinc (v := (a2 + 1)) (lv' := [(2, _), (0, _), (1, _)]) he hb dX12_lookerAt_28 hl (k := 2) rfl rfl (by decide) rfl (fun ls hl => ?_)
        refine lv_goto (tgt := 2) he hb dX12_lookerAt_31 (by decide) ?_
        exact ih _ _ _ _ _ _ h hS (lv_sub hl [1, 2, 0] rfl)
      · rw [if_pos hc] at h
        refine lv_iload_n he hb dX12_lookerAt_26 rfl (lv_at hl 2 rfl) ?_
        obtain rfl := Option.some.inj h
        exact z_iret B hS dX12_lookerAt_27
def fX12_lookerAt (N n : Nat) (f : zF) (a0 : Nat) (a1 : Int32) : Option Int32 :=
    (fX12_lookerAt_2 N n f N a0 a1 (0 : Int32))
set_option maxRecDepth 100000 in
set_option maxHeartbeats 4000000 in
theorem mX12_lookerAt (l : Launch) (G : zG) {N n : Nat} {f : zF} {r : Int32} {a0 : Nat} {a1 : Int32} (h : fX12_lookerAt N n f a0 a1 = some r) : zM l G yX12_lookerAt cX12_lookerAt 3 (some .int) 0 n f [zr G a0, .int a1] (some (.int r)) f := by
  refine zM.of (by decide) (Nat.le_of_ble_eq_true rfl) ?_
  intro p e s m args below meth c locs ls B hS hl
  have he := B.1
  have hb := B.2.1
  have hl : lv_has ls 3 [(0, zr G a0), (1, .int a1)] := hl
  unfold fX12_lookerAt at h
  generalize s.heap = H at hS ⊢
  refine lv_iconst (v := (0 : Int32)) he hb dX12_lookerAt_0 (by decide) ?_
  refine lv_istore_n (lv' := [(2, _), (0, _), (1, _)]) he hb dX12_lookerAt_1 rfl hl (by decide) rfl (fun ls hl => ?_)
  exact gX12_lookerAt_2 l B N _ _ _ _ _ _ h hS (lv_sub hl [1, 2, 0] rfl)
theorem dX12_beside_0 : decode cX12_beside 0 = .ok (.iload_n 1, 1) := by decide +kernel
theorem dX12_beside_1 : decode cX12_beside 1 = .ok (.bipush 9, 2) := by decide +kernel
theorem dX12_beside_3 : decode cX12_beside 3 = .ok (.irem, 1) := by decide +kernel
theorem dX12_beside_4 : decode cX12_beside 4 = .ok (.iload_n 2, 1) := by decide +kernel
theorem dX12_beside_5 : decode cX12_beside 5 = .ok (.ifCond .ne 7, 3) := by decide +kernel
theorem dX12_beside_8 : decode cX12_beside 8 = .ok (.iconst 1, 1) := by decide +kernel
theorem dX12_beside_9 : decode cX12_beside 9 = .ok (.goto 13, 3) := by decide +kernel
theorem dX12_beside_12 : decode cX12_beside 12 = .ok (.iload_n 2, 1) := by decide +kernel
theorem dX12_beside_13 : decode cX12_beside 13 = .ok (.iconst 2, 1) := by decide +kernel
theorem dX12_beside_14 : decode cX12_beside 14 = .ok (.if_icmp .ne 7, 3) := by decide +kernel
theorem dX12_beside_17 : decode cX12_beside 17 = .ok (.iconst (-1), 1) := by decide +kernel
theorem dX12_beside_18 : decode cX12_beside 18 = .ok (.goto 4, 3) := by decide +kernel
theorem dX12_beside_21 : decode cX12_beside 21 = .ok (.iconst 0, 1) := by decide +kernel
theorem dX12_beside_22 : decode cX12_beside 22 = .ok (.iadd, 1) := by decide +kernel
theorem dX12_beside_23 : decode cX12_beside 23 = .ok (.istore_n 3, 1) := by decide +kernel
theorem dX12_beside_24 : decode cX12_beside 24 = .ok (.iload_n 1, 1) := by decide +kernel
theorem dX12_beside_25 : decode cX12_beside 25 = .ok (.bipush 9, 2) := by decide +kernel
theorem dX12_beside_27 : decode cX12_beside 27 = .ok (.idiv, 1) := by decide +kernel
theorem dX12_beside_28 : decode cX12_beside 28 = .ok (.iload_n 2, 1) := by decide +kernel
theorem dX12_beside_29 : decode cX12_beside 29 = .ok (.iconst 1, 1) := by decide +kernel
theorem dX12_beside_30 : decode cX12_beside 30 = .ok (.if_icmp .ne 7, 3) := by decide +kernel
theorem dX12_beside_33 : decode cX12_beside 33 = .ok (.iconst 1, 1) := by decide +kernel
theorem dX12_beside_34 : decode cX12_beside 34 = .ok (.goto 13, 3) := by decide +kernel
theorem dX12_beside_37 : decode cX12_beside 37 = .ok (.iload_n 2, 1) := by decide +kernel
theorem dX12_beside_38 : decode cX12_beside 38 = .ok (.iconst 3, 1) := by decide +kernel
theorem dX12_beside_39 : decode cX12_beside 39 = .ok (.if_icmp .ne 7, 3) := by decide +kernel
theorem dX12_beside_42 : decode cX12_beside 42 = .ok (.iconst (-1), 1) := by decide +kernel
theorem dX12_beside_43 : decode cX12_beside 43 = .ok (.goto 4, 3) := by decide +kernel
theorem dX12_beside_46 : decode cX12_beside 46 = .ok (.iconst 0, 1) := by decide +kernel
theorem dX12_beside_47 : decode cX12_beside 47 = .ok (.iadd, 1) := by decide +kernel
theorem dX12_beside_48 : decode cX12_beside 48 = .ok (.istore 4, 2) := by decide +kernel
theorem dX12_beside_50 : decode cX12_beside 50 = .ok (.aload_n 0, 1) := by decide +kernel
theorem dX12_beside_51 : decode cX12_beside 51 = .ok (.iload_n 3, 1) := by decide +kernel
theorem dX12_beside_52 : decode cX12_beside 52 = .ok (.iload 4, 2) := by decide +kernel
theorem dX12_beside_54 : decode cX12_beside 54 = .ok (.invokevirtual 277, 3) := by decide +kernel
theorem dX12_beside_57 : decode cX12_beside 57 = .ok (.ifCond .eq 13, 3) := by decide +kernel
theorem dX12_beside_60 : decode cX12_beside 60 = .ok (.bipush 9, 2) := by decide +kernel
theorem dX12_beside_62 : decode cX12_beside 62 = .ok (.iload 4, 2) := by decide +kernel
theorem dX12_beside_64 : decode cX12_beside 64 = .ok (.imul, 1) := by decide +kernel
theorem dX12_beside_65 : decode cX12_beside 65 = .ok (.iload_n 3, 1) := by decide +kernel
theorem dX12_beside_66 : decode cX12_beside 66 = .ok (.iadd, 1) := by decide +kernel
theorem dX12_beside_67 : decode cX12_beside 67 = .ok (.goto 4, 3) := by decide +kernel
theorem dX12_beside_70 : decode cX12_beside 70 = .ok (.iconst (-1), 1) := by decide +kernel
theorem dX12_beside_71 : decode cX12_beside 71 = .ok (.ireturn, 1) := by decide +kernel
def fX12_beside_47 (N n : Nat) (f : zF) (a0 : Nat) (a3 : Int32) (t0 : Int32) (t1 : Int32) : Option Int32 :=
    ((zck n f 12 a0).bind fun _ => ((fX12_isCell N n f a0 a3 (t0 + t1)).bind fun x1 => (if x1 = 0 then some (-1 : Int32) else some (((9 : Int32) * (t0 + t1)) + a3))))
set_option maxRecDepth 100000 in
set_option maxHeartbeats 4000000 in
theorem gX12_beside_47 (l : Launch) {G : zG} {p : Program} {e : Env} {s : State} {m : MethodId} {args : Array Value} {below : List Frame} {meth : Method} {c : Code} {f : zF} {N n : Nat} {r : Int32} (B : zB G p s m args meth c RX12 cX12_beside 5 (some .int)) : ∀ (a0 : Nat) (a3 : Int32) (t0 : Int32) (t1 : Int32) (H : Heap) (locs : List Loc) (ls : Array Slot), fX12_beside_47 N n f a0 a3 t0 t1 = some r → zS G n f H locs → lv_has ls 5 [(0, zr G a0), (3, .int a3)] → W p l e (zrm 2) s m args below meth c H locs 0 0 (MQ below (zQc G n f (some (.int r))) args s 0 0 (zA G)) (F0 m 47 ls [.int t1, .int t0]) := by
  have he := B.1
  have hb := B.2.1
  intro a0 a3 t0 t1 H locs ls h hS hl
  unfold fX12_beside_47 at h
  refine lv_iadd he hb dX12_beside_47 ?_
  refine lv_istore (lv' := [(4, _), (0, _), (3, _)]) he hb dX12_beside_48 hl (by decide) rfl (fun ls hl => ?_)
  refine z_aload_n he hb dX12_beside_50 rfl (lv_at hl 1 rfl) (zref_r _ _) ?_
  refine lv_iload_n he hb dX12_beside_51 rfl (lv_at hl 2 rfl) ?_
  refine lv_iload he hb dX12_beside_52 (lv_at hl 0 rfl) ?_
  obtain ⟨_, hc, h⟩ := zob h
  obtain ⟨x1, hx, h⟩ := zob h
  refine z_callV (ci := 12) (T := TX12) (N := 50) (rest := []) B hS (mX12_isCell l G hx) zy_X12_isCell zk_1612 (by decide) hc rfl rfl hl rfl (Nat.le_of_ble_eq_true rfl) dX12_beside_54 (kk := (fun H locs hS => ?_))
  refine lv_if_eq (tgt := 70) he hb dX12_beside_57 (by decide) (fun hc => ?_) (fun hc => ?_)
  · rw [if_pos hc] at h
    refine lv_iconst (v := (-1 : Int32)) he hb dX12_beside_70 (by decide) ?_
    obtain rfl := Option.some.inj h
    exact z_iret B hS dX12_beside_71
  · rw [if_neg hc] at h
    refine lv_bipush (v := (9 : Int32)) he hb dX12_beside_60 (by decide) ?_
    refine lv_iload he hb dX12_beside_62 (lv_at hl 0 rfl) ?_
    refine lv_imul he hb dX12_beside_64 ?_
    refine lv_iload_n he hb dX12_beside_65 rfl (lv_at hl 2 rfl) ?_
    refine lv_iadd he hb dX12_beside_66 ?_
    refine lv_goto (tgt := 71) he hb dX12_beside_67 (by decide) ?_
    obtain rfl := Option.some.inj h
    exact z_iret B hS dX12_beside_71
def fX12_beside_22 (N n : Nat) (f : zF) (a0 : Nat) (a1 : Int32) (a2 : Int32) (t0 : Int32) (t1 : Int32) : Option Int32 :=
    (if a2 = (1 : Int32) then (fX12_beside_47 N n f a0 (t0 + t1) (a1 / (9 : Int32)) (1 : Int32)) else (if a2 = (3 : Int32) then (fX12_beside_47 N n f a0 (t0 + t1) (a1 / (9 : Int32)) (-1 : Int32)) else (fX12_beside_47 N n f a0 (t0 + t1) (a1 / (9 : Int32)) (0 : Int32))))
set_option maxRecDepth 100000 in
set_option maxHeartbeats 4000000 in
theorem gX12_beside_22 (l : Launch) {G : zG} {p : Program} {e : Env} {s : State} {m : MethodId} {args : Array Value} {below : List Frame} {meth : Method} {c : Code} {f : zF} {N n : Nat} {r : Int32} (B : zB G p s m args meth c RX12 cX12_beside 5 (some .int)) : ∀ (a0 : Nat) (a1 : Int32) (a2 : Int32) (t0 : Int32) (t1 : Int32) (H : Heap) (locs : List Loc) (ls : Array Slot), fX12_beside_22 N n f a0 a1 a2 t0 t1 = some r → zS G n f H locs → lv_has ls 5 [(0, zr G a0), (1, .int a1), (2, .int a2)] → W p l e (zrm 2) s m args below meth c H locs 0 0 (MQ below (zQc G n f (some (.int r))) args s 0 0 (zA G)) (F0 m 22 ls [.int t1, .int t0]) := by
  have he := B.1
  have hb := B.2.1
  intro a0 a1 a2 t0 t1 H locs ls h hS hl
  unfold fX12_beside_22 at h
  refine lv_iadd he hb dX12_beside_22 ?_
  refine lv_istore_n (lv' := [(3, _), (0, _), (1, _), (2, _)]) he hb dX12_beside_23 rfl hl (by decide) rfl (fun ls hl => ?_)
  refine lv_iload_n he hb dX12_beside_24 rfl (lv_at hl 2 rfl) ?_
  refine lv_bipush (v := (9 : Int32)) he hb dX12_beside_25 (by decide) ?_
  refine lv_idiv he hb dX12_beside_27 (by decide) ?_
  refine lv_iload_n he hb dX12_beside_28 rfl (lv_at hl 3 rfl) ?_
  refine lv_iconst (v := (1 : Int32)) he hb dX12_beside_29 (by decide) ?_
  refine lv_icmp_ne (tgt := 37) he hb dX12_beside_30 (by decide) (fun hc => ?_) (fun hc => ?_)
  · rw [if_neg hc] at h
    refine lv_iload_n he hb dX12_beside_37 rfl (lv_at hl 3 rfl) ?_
    refine lv_iconst (v := (3 : Int32)) he hb dX12_beside_38 (by decide) ?_
    refine lv_icmp_ne (tgt := 46) he hb dX12_beside_39 (by decide) (fun hc => ?_) (fun hc => ?_)
    · rw [if_neg hc] at h
      refine lv_iconst (v := (0 : Int32)) he hb dX12_beside_46 (by decide) ?_
      exact gX12_beside_47 l B _ _ _ _ _ _ _ h hS (lv_sub hl [1, 0] rfl)
    · rw [if_pos hc] at h
      refine lv_iconst (v := (-1 : Int32)) he hb dX12_beside_42 (by decide) ?_
      refine lv_goto (tgt := 47) he hb dX12_beside_43 (by decide) ?_
      exact gX12_beside_47 l B _ _ _ _ _ _ _ h hS (lv_sub hl [1, 0] rfl)
  · rw [if_pos hc] at h
    refine lv_iconst (v := (1 : Int32)) he hb dX12_beside_33 (by decide) ?_
    refine lv_goto (tgt := 47) he hb dX12_beside_34 (by decide) ?_
    exact gX12_beside_47 l B _ _ _ _ _ _ _ h hS (lv_sub hl [1, 0] rfl)
def fX12_beside (N n : Nat) (f : zF) (a0 : Nat) (a1 : Int32) (a2 : Int32) : Option Int32 :=
    (if a2 = 0 then (fX12_beside_22 N n f a0 a1 a2 (zrem a1 (9 : Int32)) (1 : Int32)) else (if a2 = (2 : Int32) then (fX12_beside_22 N n f a0 a1 a2 (zrem a1 (9 : Int32)) (-1 : Int32)) else (fX12_beside_22 N n f a0 a1 a2 (zrem a1 (9 : Int32)) (0 : Int32))))
set_option maxRecDepth 100000 in
set_option maxHeartbeats 4000000 in
theorem mX12_beside (l : Launch) (G : zG) {N n : Nat} {f : zF} {r : Int32} {a0 : Nat} {a1 : Int32} {a2 : Int32} (h : fX12_beside N n f a0 a1 a2 = some r) : zM l G yX12_beside cX12_beside 5 (some .int) 2 n f [zr G a0, .int a1, .int a2] (some (.int r)) f := by
  refine zM.of (by decide) (Nat.le_of_ble_eq_true rfl) ?_
  intro p e s m args below meth c locs ls B hS hl
  have he := B.1
  have hb := B.2.1
  have hl : lv_has ls 5 [(0, zr G a0), (1, .int a1), (2, .int a2)] := hl
  unfold fX12_beside at h
  generalize s.heap = H at hS ⊢
  refine lv_iload_n he hb dX12_beside_0 rfl (lv_at hl 1 rfl) ?_
  refine lv_bipush (v := (9 : Int32)) he hb dX12_beside_1 (by decide) ?_
  refine z_irem he hb dX12_beside_3 (by decide) ?_
  refine lv_iload_n he hb dX12_beside_4 rfl (lv_at hl 2 rfl) ?_
  refine lv_if_ne (tgt := 12) he hb dX12_beside_5 (by decide) (fun hc => ?_) (fun hc => ?_)
  · rw [if_neg hc] at h
    refine lv_iload_n he hb dX12_beside_12 rfl (lv_at hl 2 rfl) ?_
    refine lv_iconst (v := (2 : Int32)) he hb dX12_beside_13 (by decide) ?_
    refine lv_icmp_ne (tgt := 21) he hb dX12_beside_14 (by decide) (fun hc => ?_) (fun hc => ?_)
    · rw [if_neg hc] at h
      refine lv_iconst (v := (0 : Int32)) he hb dX12_beside_21 (by decide) ?_
      exact gX12_beside_22 l B _ _ _ _ _ _ _ _ h hS (lv_sub hl [0, 1, 2] rfl)
    · rw [if_pos hc] at h
      refine lv_iconst (v := (-1 : Int32)) he hb dX12_beside_17 (by decide) ?_
      refine lv_goto (tgt := 22) he hb dX12_beside_18 (by decide) ?_
      exact gX12_beside_22 l B _ _ _ _ _ _ _ _ h hS (lv_sub hl [0, 1, 2] rfl)
  · rw [if_pos hc] at h
    refine lv_iconst (v := (1 : Int32)) he hb dX12_beside_8 (by decide) ?_
    refine lv_goto (tgt := 22) he hb dX12_beside_9 (by decide) ?_
    exact gX12_beside_22 l B _ _ _ _ _ _ _ _ h hS (lv_sub hl [0, 1, 2] rfl)
theorem dX12_canGo_0 : decode cX12_canGo 0 = .ok (.aload_n 0, 1) := by decide +kernel
theorem dX12_canGo_1 : decode cX12_canGo 1 = .ok (.aload_n 0, 1) := by decide +kernel
theorem dX12_canGo_2 : decode cX12_canGo 2 = .ok (.getfield 33, 3) := by decide +kernel
theorem dX12_canGo_5 : decode cX12_canGo 5 = .ok (.sipush 141, 3) := by decide +kernel
theorem dX12_canGo_8 : decode cX12_canGo 8 = .ok (.iload_n 1, 1) := by decide +kernel
theorem dX12_canGo_9 : decode cX12_canGo 9 = .ok (.iadd, 1) := by decide +kernel
theorem dX12_canGo_10 : decode cX12_canGo 10 = .ok (.iaload, 1) := by decide +kernel
theorem dX12_canGo_11 : decode cX12_canGo 11 = .ok (.aload_n 0, 1) := by decide +kernel
theorem dX12_canGo_12 : decode cX12_canGo 12 = .ok (.getfield 33, 3) := by decide +kernel
theorem dX12_canGo_15 : decode cX12_canGo 15 = .ok (.sipush 147, 3) := by decide +kernel
theorem dX12_canGo_18 : decode cX12_canGo 18 = .ok (.iload_n 1, 1) := by decide +kernel
theorem dX12_canGo_19 : decode cX12_canGo 19 = .ok (.iadd, 1) := by decide +kernel
theorem dX12_canGo_20 : decode cX12_canGo 20 = .ok (.iaload, 1) := by decide +kernel
theorem dX12_canGo_21 : decode cX12_canGo 21 = .ok (.invokevirtual 280, 3) := by decide +kernel
theorem dX12_canGo_24 : decode cX12_canGo 24 = .ok (.istore_n 2, 1) := by decide +kernel
theorem dX12_canGo_25 : decode cX12_canGo 25 = .ok (.iload_n 2, 1) := by decide +kernel
theorem dX12_canGo_26 : decode cX12_canGo 26 = .ok (.ifCond .lt 34, 3) := by decide +kernel
theorem dX12_canGo_29 : decode cX12_canGo 29 = .ok (.aload_n 0, 1) := by decide +kernel
theorem dX12_canGo_30 : decode cX12_canGo 30 = .ok (.getfield 33, 3) := by decide +kernel
theorem dX12_canGo_33 : decode cX12_canGo 33 = .ok (.iconst 5, 1) := by decide +kernel
theorem dX12_canGo_34 : decode cX12_canGo 34 = .ok (.iload_n 2, 1) := by decide +kernel
theorem dX12_canGo_35 : decode cX12_canGo 35 = .ok (.iadd, 1) := by decide +kernel
theorem dX12_canGo_36 : decode cX12_canGo 36 = .ok (.iaload, 1) := by decide +kernel
theorem dX12_canGo_37 : decode cX12_canGo 37 = .ok (.ifCond .ne 23, 3) := by decide +kernel
theorem dX12_canGo_40 : decode cX12_canGo 40 = .ok (.aload_n 0, 1) := by decide +kernel
theorem dX12_canGo_41 : decode cX12_canGo 41 = .ok (.iload_n 2, 1) := by decide +kernel
theorem dX12_canGo_42 : decode cX12_canGo 42 = .ok (.invokevirtual 283, 3) := by decide +kernel
theorem dX12_canGo_45 : decode cX12_canGo 45 = .ok (.ifCond .ge 15, 3) := by decide +kernel
theorem dX12_canGo_48 : decode cX12_canGo 48 = .ok (.aload_n 0, 1) := by decide +kernel
theorem dX12_canGo_49 : decode cX12_canGo 49 = .ok (.iload_n 2, 1) := by decide +kernel
theorem dX12_canGo_50 : decode cX12_canGo 50 = .ok (.invokevirtual 286, 3) := by decide +kernel
theorem dX12_canGo_53 : decode cX12_canGo 53 = .ok (.ifCond .ge 7, 3) := by decide +kernel
theorem dX12_canGo_56 : decode cX12_canGo 56 = .ok (.iconst 1, 1) := by decide +kernel
theorem dX12_canGo_57 : decode cX12_canGo 57 = .ok (.goto 4, 3) := by decide +kernel
theorem dX12_canGo_60 : decode cX12_canGo 60 = .ok (.iconst 0, 1) := by decide +kernel
theorem dX12_canGo_61 : decode cX12_canGo 61 = .ok (.ireturn, 1) := by decide +kernel
def fX12_canGo (N n : Nat) (f : zF) (a0 : Nat) (a1 : Int32) : Option Int32 :=
    ((zgR n f 12 a0 6).bind fun x1 => ((zlI n f 0 x1 ((141 : Int32) + a1)).bind fun x2 => ((zgR n f 12 a0 6).bind fun x3 => ((zlI n f 0 x3 ((147 : Int32) + a1)).bind fun x4 => ((zck n f 12 a0).bind fun _ => ((fX12_beside N n f a0 x2 x4).bind fun x5 => (if x5 < 0 then zbl (0 : Int32) else ((zgR n f 12 a0 6).bind fun x6 => ((zlI n f 0 x6 ((5 : Int32) + x5)).bind fun x7 => (if x7 = 0 then ((zck n f 12 a0).bind fun _ => ((fX12_figureAt N n f a0 x5).bind fun x8 => (if 0 ≤ x8 then zbl (0 : Int32) else ((zck n f 12 a0).bind fun _ => ((fX12_lookerAt N n f a0 x5).bind fun x9 => (if 0 ≤ x9 then zbl (0 : Int32) else zbl (1 : Int32))))))) else zbl (0 : Int32)))))))))))
set_option maxRecDepth 100000 in
set_option maxHeartbeats 4000000 in
theorem mX12_canGo (l : Launch) (G : zG) {N n : Nat} {f : zF} {r : Int32} {a0 : Nat} {a1 : Int32} (h : fX12_canGo N n f a0 a1 = some r) : zM l G yX12_canGo cX12_canGo 3 (some .boolean) 3 n f [zr G a0, .int a1] (some (.int r)) f := by
  refine zM.of (by decide) (Nat.le_of_ble_eq_true rfl) ?_
  intro p e s m args below meth c locs ls B hS hl
  have he := B.1
  have hb := B.2.1
  have hl : lv_has ls 3 [(0, zr G a0), (1, .int a1)] := hl
  unfold fX12_canGo at h
  generalize s.heap = H at hS ⊢
  refine z_aload_n he hb dX12_canGo_0 rfl (lv_at hl 0 rfl) (zref_r _ _) ?_
  refine z_aload_n he hb dX12_canGo_1 rfl (lv_at hl 0 rfl) (zref_r _ _) ?_
  obtain ⟨x1, hx, h⟩ := zob h
  refine z_getR (ci := 12) (T := TX12) (N := 50) (j := 6) B hS hx rfl zin_X12 (by decide) zk_1353 dX12_canGo_2 ?_
  refine lv_sipush (v := (141 : Int32)) he hb dX12_canGo_5 (by decide) ?_
  refine lv_iload_n he hb dX12_canGo_8 rfl (lv_at hl 1 rfl) ?_
  refine lv_iadd he hb dX12_canGo_9 ?_
  obtain ⟨x2, hx, h⟩ := zob h
  refine z_ildI B hS hx dX12_canGo_10 ?_
  refine z_aload_n he hb dX12_canGo_11 rfl (lv_at hl 0 rfl) (zref_r _ _) ?_
  obtain ⟨x3, hx, h⟩ := zob h
  refine z_getR (ci := 12) (T := TX12) (N := 50) (j := 6) B hS hx rfl zin_X12 (by decide) zk_1353 dX12_canGo_12 ?_
  refine lv_sipush (v := (147 : Int32)) he hb dX12_canGo_15 (by decide) ?_
  refine lv_iload_n he hb dX12_canGo_18 rfl (lv_at hl 1 rfl) ?_
  refine lv_iadd he hb dX12_canGo_19 ?_
  obtain ⟨x4, hx, h⟩ := zob h
  refine z_ildI B hS hx dX12_canGo_20 ?_
  obtain ⟨_, hc, h⟩ := zob h
  obtain ⟨x5, hx, h⟩ := zob h
  refine z_callV (ci := 12) (T := TX12) (N := 50) (rest := []) B hS (mX12_beside l G hx) zy_X12_beside zk_1659 (by decide) hc rfl rfl hl rfl (Nat.le_of_ble_eq_true rfl) dX12_canGo_21 (kk := (fun H locs hS => ?_))
  refine lv_istore_n (lv' := [(2, _), (0, _), (1, _)]) he hb dX12_canGo_24 rfl hl (by decide) rfl (fun ls hl => ?_)
  refine lv_iload_n he hb dX12_canGo_25 rfl (lv_at hl 0 rfl) ?_
  refine lv_if_lt (tgt := 60) he hb dX12_canGo_26 (by decide) (fun hc => ?_) (fun hc => ?_)
  · rw [if_pos hc] at h
    refine lv_iconst (v := (0 : Int32)) he hb dX12_canGo_60 (by decide) ?_
    obtain ⟨hz, rfl⟩ := zbl_i h
    exact z_zret B hS hz dX12_canGo_61
  · rw [if_neg hc] at h
    refine z_aload_n he hb dX12_canGo_29 rfl (lv_at hl 1 rfl) (zref_r _ _) ?_
    obtain ⟨x6, hx, h⟩ := zob h
    refine z_getR (ci := 12) (T := TX12) (N := 50) (j := 6) B hS hx rfl zin_X12 (by decide) zk_1353 dX12_canGo_30 ?_
    refine lv_iconst (v := (5 : Int32)) he hb dX12_canGo_33 (by decide) ?_
    refine lv_iload_n he hb dX12_canGo_34 rfl (lv_at hl 0 rfl) ?_
    refine lv_iadd he hb dX12_canGo_35 ?_
    obtain ⟨x7, hx, h⟩ := zob h
    refine z_ildI B hS hx dX12_canGo_36 ?_
    refine lv_if_ne (tgt := 60) he hb dX12_canGo_37 (by decide) (fun hc => ?_) (fun hc => ?_)
    · rw [if_neg hc] at h
      refine lv_iconst (v := (0 : Int32)) he hb dX12_canGo_60 (by decide) ?_
      obtain ⟨hz, rfl⟩ := zbl_i h
      exact z_zret B hS hz dX12_canGo_61
    · rw [if_pos hc] at h
      refine z_aload_n he hb dX12_canGo_40 rfl (lv_at hl 1 rfl) (zref_r _ _) ?_
      refine lv_iload_n he hb dX12_canGo_41 rfl (lv_at hl 0 rfl) ?_
      obtain ⟨_, hc, h⟩ := zob h
      obtain ⟨x8, hx, h⟩ := zob h
      refine z_callV (ci := 12) (T := TX12) (N := 50) (rest := []) B hS (mX12_figureAt l G hx) zy_X12_figureAt zk_1655 (by decide) hc rfl rfl hl rfl (Nat.le_of_ble_eq_true rfl) dX12_canGo_42 (kk := (fun H locs hS => ?_))
      refine lv_if_ge (tgt := 60) he hb dX12_canGo_45 (by decide) (fun hc => ?_) (fun hc => ?_)
      · rw [if_pos hc] at h
        refine lv_iconst (v := (0 : Int32)) he hb dX12_canGo_60 (by decide) ?_
        obtain ⟨hz, rfl⟩ := zbl_i h
        exact z_zret B hS hz dX12_canGo_61
      · rw [if_neg hc] at h
        refine z_aload_n he hb dX12_canGo_48 rfl (lv_at hl 1 rfl) (zref_r _ _) ?_
        refine lv_iload_n he hb dX12_canGo_49 rfl (lv_at hl 0 rfl) ?_
        obtain ⟨_, hc, h⟩ := zob h
        obtain ⟨x9, hx, h⟩ := zob h
        refine z_callV (ci := 12) (T := TX12) (N := 50) (rest := []) B hS (mX12_lookerAt l G hx) zy_X12_lookerAt zk_1667 (by decide) hc rfl rfl hl rfl (Nat.le_of_ble_eq_true rfl) dX12_canGo_50 (kk := (fun H locs hS => ?_))
        refine lv_if_ge (tgt := 60) he hb dX12_canGo_53 (by decide) (fun hc => ?_) (fun hc => ?_)
        · rw [if_pos hc] at h
          refine lv_iconst (v := (0 : Int32)) he hb dX12_canGo_60 (by decide) ?_
          obtain ⟨hz, rfl⟩ := zbl_i h
          exact z_zret B hS hz dX12_canGo_61
        · rw [if_neg hc] at h
          refine lv_iconst (v := (1 : Int32)) he hb dX12_canGo_56 (by decide) ?_
          refine lv_goto (tgt := 61) he hb dX12_canGo_57 (by decide) ?_
          obtain ⟨hz, rfl⟩ := zbl_i h
          exact z_zret B hS hz dX12_canGo_61
theorem dX12_figuresTo_0 : decode cX12_figuresTo 0 = .ok (.iconst 0, 1) := by decide +kernel
theorem dX12_figuresTo_1 : decode cX12_figuresTo 1 = .ok (.istore_n 3, 1) := by decide +kernel
theorem dX12_figuresTo_2 : decode cX12_figuresTo 2 = .ok (.iload_n 1, 1) := by decide +kernel
theorem dX12_figuresTo_3 : decode cX12_figuresTo 3 = .ok (.istore 4, 2) := by decide +kernel
theorem dX12_figuresTo_5 : decode cX12_figuresTo 5 = .ok (.iload 4, 2) := by decide +kernel
theorem dX12_figuresTo_7 : decode cX12_figuresTo 7 = .ok (.ifCond .lt 51, 3) := by decide +kernel
theorem dX12_figuresTo_10 : decode cX12_figuresTo 10 = .ok (.aload_n 0, 1) := by decide +kernel
theorem dX12_figuresTo_11 : decode cX12_figuresTo 11 = .ok (.getfield 33, 3) := by decide +kernel
theorem dX12_figuresTo_14 : decode cX12_figuresTo 14 = .ok (.iconst 5, 1) := by decide +kernel
theorem dX12_figuresTo_15 : decode cX12_figuresTo 15 = .ok (.iload 4, 2) := by decide +kernel
theorem dX12_figuresTo_17 : decode cX12_figuresTo 17 = .ok (.iadd, 1) := by decide +kernel
theorem dX12_figuresTo_18 : decode cX12_figuresTo 18 = .ok (.iaload, 1) := by decide +kernel
theorem dX12_figuresTo_19 : decode cX12_figuresTo 19 = .ok (.ifCond .ne 39, 3) := by decide +kernel
theorem dX12_figuresTo_22 : decode cX12_figuresTo 22 = .ok (.iload_n 3, 1) := by decide +kernel
theorem dX12_figuresTo_23 : decode cX12_figuresTo 23 = .ok (.aload_n 0, 1) := by decide +kernel
theorem dX12_figuresTo_24 : decode cX12_figuresTo 24 = .ok (.iload 4, 2) := by decide +kernel
theorem dX12_figuresTo_26 : decode cX12_figuresTo 26 = .ok (.invokevirtual 283, 3) := by decide +kernel
theorem dX12_figuresTo_29 : decode cX12_figuresTo 29 = .ok (.ifCond .ge 7, 3) := by decide +kernel
theorem dX12_figuresTo_32 : decode cX12_figuresTo 32 = .ok (.iconst 0, 1) := by decide +kernel
theorem dX12_figuresTo_33 : decode cX12_figuresTo 33 = .ok (.goto 11, 3) := by decide +kernel
theorem dX12_figuresTo_36 : decode cX12_figuresTo 36 = .ok (.iconst 1, 1) := by decide +kernel
theorem dX12_figuresTo_37 : decode cX12_figuresTo 37 = .ok (.aload_n 0, 1) := by decide +kernel
theorem dX12_figuresTo_38 : decode cX12_figuresTo 38 = .ok (.iload 4, 2) := by decide +kernel
theorem dX12_figuresTo_40 : decode cX12_figuresTo 40 = .ok (.invokevirtual 283, 3) := by decide +kernel
theorem dX12_figuresTo_43 : decode cX12_figuresTo 43 = .ok (.ishl, 1) := by decide +kernel
theorem dX12_figuresTo_44 : decode cX12_figuresTo 44 = .ok (.ior, 1) := by decide +kernel
theorem dX12_figuresTo_45 : decode cX12_figuresTo 45 = .ok (.istore_n 3, 1) := by decide +kernel
theorem dX12_figuresTo_46 : decode cX12_figuresTo 46 = .ok (.aload_n 0, 1) := by decide +kernel
theorem dX12_figuresTo_47 : decode cX12_figuresTo 47 = .ok (.iload 4, 2) := by decide +kernel
theorem dX12_figuresTo_49 : decode cX12_figuresTo 49 = .ok (.iload_n 2, 1) := by decide +kernel
theorem dX12_figuresTo_50 : decode cX12_figuresTo 50 = .ok (.invokevirtual 280, 3) := by decide +kernel
theorem dX12_figuresTo_53 : decode cX12_figuresTo 53 = .ok (.istore 4, 2) := by decide +kernel
theorem dX12_figuresTo_55 : decode cX12_figuresTo 55 = .ok (.goto (-50), 3) := by decide +kernel
theorem dX12_figuresTo_58 : decode cX12_figuresTo 58 = .ok (.iload_n 3, 1) := by decide +kernel
theorem dX12_figuresTo_59 : decode cX12_figuresTo 59 = .ok (.ireturn, 1) := by decide +kernel
def fX12_figuresTo_44 (r5 : Nat → Int32 → Int32 → Int32 → Option Int32) (N n : Nat) (f : zF) (a0 : Nat) (a2 : Int32) (a4 : Int32) (t0 : Int32) (t1 : Int32) : Option Int32 :=
    ((zck n f 12 a0).bind fun _ => ((fX12_beside N n f a0 a4 a2).bind fun x5 => (r5 a0 a2 (t0 ||| t1) x5)))
set_option maxRecDepth 100000 in
set_option maxHeartbeats 4000000 in
theorem gX12_figuresTo_44 (l : Launch) {G : zG} {p : Program} {e : Env} {s : State} {m : MethodId} {args : Array Value} {below : List Frame} {meth : Method} {c : Code} {f : zF} {N n : Nat} {r : Int32} {r5 : Nat → Int32 → Int32 → Int32 → Option Int32} (B : zB G p s m args meth c RX12 cX12_figuresTo 5 (some .int)) (hr5 : ∀ (a0 : Nat) (a2 : Int32) (a3 : Int32) (a4 : Int32) (H : Heap) (locs : List Loc) (ls : Array Slot), r5 a0 a2 a3 a4 = some r → zS G n f H locs → lv_has ls 5 [(0, zr G a0), (2, .int a2), (3, .int a3), (4, .int a4)] → W p l e (zrm 3) s m args below meth c H locs 0 0 (MQ below (zQc G n f (some (.int r))) args s 0 0 (zA G)) (F0 m 5 ls [])) : ∀ (a0 : Nat) (a2 : Int32) (a4 : Int32) (t0 : Int32) (t1 : Int32) (H : Heap) (locs : List Loc) (ls : Array Slot), fX12_figuresTo_44 r5 N n f a0 a2 a4 t0 t1 = some r → zS G n f H locs → lv_has ls 5 [(0, zr G a0), (2, .int a2), (4, .int a4)] → W p l e (zrm 3) s m args below meth c H locs 0 0 (MQ below (zQc G n f (some (.int r))) args s 0 0 (zA G)) (F0 m 44 ls [.int t1, .int t0]) := by
  have he := B.1
  have hb := B.2.1
  intro a0 a2 a4 t0 t1 H locs ls h hS hl
  unfold fX12_figuresTo_44 at h
  refine lv_ior he hb dX12_figuresTo_44 ?_
  refine lv_istore_n (lv' := [(3, _), (0, _), (2, _), (4, _)]) he hb dX12_figuresTo_45 rfl hl (by decide) rfl (fun ls hl => ?_)
  refine z_aload_n he hb dX12_figuresTo_46 rfl (lv_at hl 1 rfl) (zref_r _ _) ?_
  refine lv_iload he hb dX12_figuresTo_47 (lv_at hl 3 rfl) ?_
  refine lv_iload_n he hb dX12_figuresTo_49 rfl (lv_at hl 2 rfl) ?_
  obtain ⟨_, hc, h⟩ := zob h
  obtain ⟨x5, hx, h⟩ := zob h
  refine z_callV (ci := 12) (T := TX12) (N := 50) (rest := []) B hS (mX12_beside l G hx) zy_X12_beside zk_1659 (by decide) hc rfl rfl hl rfl (Nat.le_of_ble_eq_true rfl) dX12_figuresTo_50 (kk := (fun H locs hS => ?_))
  refine lv_istore (lv' := [(4, _), (3, _), (0, _), (2, _)]) he hb dX12_figuresTo_53 hl (by decide) rfl (fun ls hl => ?_)
  refine lv_goto (tgt := 5) he hb dX12_figuresTo_55 (by decide) ?_
  exact hr5 _ _ _ _ _ _ _ h hS (lv_sub hl [2, 3, 1, 0] rfl)
def fX12_figuresTo_5 (N n : Nat) (f : zF) : Nat → Nat → Int32 → Int32 → Int32 → Option Int32
  | 0, _, _, _, _ => none
  | k + 1, a0, a2, a3, a4 =>
    (if a4 < 0 then some a3 else ((zgR n f 12 a0 6).bind fun x1 => ((zlI n f 0 x1 ((5 : Int32) + a4)).bind fun x2 => (if x2 = 0 then ((zck n f 12 a0).bind fun _ => ((fX12_figureAt N n f a0 a4).bind fun x3 => (if 0 ≤ x3 then ((zck n f 12 a0).bind fun _ => ((fX12_figureAt N n f a0 a4).bind fun x4 => (fX12_figuresTo_44 (fX12_figuresTo_5 N n f k) N n f a0 a2 a4 a3 (zishl (1 : Int32) x4)))) else (fX12_figuresTo_44 (fX12_figuresTo_5 N n f k) N n f a0 a2 a4 a3 (0 : Int32))))) else some a3))))
set_option maxRecDepth 100000 in
set_option maxHeartbeats 4000000 in
theorem gX12_figuresTo_5 (l : Launch) {G : zG} {p : Program} {e : Env} {s : State} {m : MethodId} {args : Array Value} {below : List Frame} {meth : Method} {c : Code} {f : zF} {N n : Nat} {r : Int32} (B : zB G p s m args meth c RX12 cX12_figuresTo 5 (some .int)) : ∀ (k : Nat), ∀ (a0 : Nat) (a2 : Int32) (a3 : Int32) (a4 : Int32) (H : Heap) (locs : List Loc) (ls : Array Slot), fX12_figuresTo_5 N n f k a0 a2 a3 a4 = some r → zS G n f H locs → lv_has ls 5 [(0, zr G a0), (2, .int a2), (3, .int a3), (4, .int a4)] → W p l e (zrm 3) s m args below meth c H locs 0 0 (MQ below (zQc G n f (some (.int r))) args s 0 0 (zA G)) (F0 m 5 ls []) := by
  have he := B.1
  have hb := B.2.1
  intro k
  induction k with
  | zero =>
    intro a0 a2 a3 a4 H locs ls h
    unfold fX12_figuresTo_5 at h
    cases h
  | succ k ih =>
    intro a0 a2 a3 a4 H locs ls h hS hl
    unfold fX12_figuresTo_5 at h
    refine lv_iload he hb dX12_figuresTo_5 (lv_at hl 3 rfl) ?_
    refine lv_if_lt (tgt := 58) he hb dX12_figuresTo_7 (by decide) (fun hc => ?_) (fun hc => ?_)
    · rw [if_pos hc] at h
      refine lv_iload_n he hb dX12_figuresTo_58 rfl (lv_at hl 2 rfl) ?_
      obtain rfl := Option.some.inj h
      exact z_iret B hS dX12_figuresTo_59
    · rw [if_neg hc] at h
      refine z_aload_n he hb dX12_figuresTo_10 rfl (lv_at hl 0 rfl) (zref_r _ _) ?_
      obtain ⟨x1, hx, h⟩ := zob h
      refine z_getR (ci := 12) (T := TX12) (N := 50) (j := 6) B hS hx rfl zin_X12 (by decide) zk_1353 dX12_figuresTo_11 ?_
      refine lv_iconst (v := (5 : Int32)) he hb dX12_figuresTo_14 (by decide) ?_
      refine lv_iload he hb dX12_figuresTo_15 (lv_at hl 3 rfl) ?_
      refine lv_iadd he hb dX12_figuresTo_17 ?_
      obtain ⟨x2, hx, h⟩ := zob h
      refine z_ildI B hS hx dX12_figuresTo_18 ?_
      refine lv_if_ne (tgt := 58) he hb dX12_figuresTo_19 (by decide) (fun hc => ?_) (fun hc => ?_)
      · rw [if_neg hc] at h
        refine lv_iload_n he hb dX12_figuresTo_58 rfl (lv_at hl 2 rfl) ?_
        obtain rfl := Option.some.inj h
        exact z_iret B hS dX12_figuresTo_59
      · rw [if_pos hc] at h
        refine lv_iload_n he hb dX12_figuresTo_22 rfl (lv_at hl 2 rfl) ?_
        refine z_aload_n he hb dX12_figuresTo_23 rfl (lv_at hl 0 rfl) (zref_r _ _) ?_
        refine lv_iload he hb dX12_figuresTo_24 (lv_at hl 3 rfl) ?_
        obtain ⟨_, hc, h⟩ := zob h
        obtain ⟨x3, hx, h⟩ := zob h
        refine z_callV (ci := 12) (T := TX12) (N := 50) (rest := [_]) B hS (mX12_figureAt l G hx) zy_X12_figureAt zk_1655 (by decide) hc rfl rfl hl rfl (Nat.le_of_ble_eq_true rfl) dX12_figuresTo_26 (kk := (fun H locs hS => ?_))
        refine lv_if_ge (tgt := 36) he hb dX12_figuresTo_29 (by decide) (fun hc => ?_) (fun hc => ?_)
        · rw [if_pos hc] at h
          refine lv_iconst (v := (1 : Int32)) he hb dX12_figuresTo_36 (by decide) ?_
          refine z_aload_n he hb dX12_figuresTo_37 rfl (lv_at hl 0 rfl) (zref_r _ _) ?_
          refine lv_iload he hb dX12_figuresTo_38 (lv_at hl 3 rfl) ?_
          obtain ⟨_, hc, h⟩ := zob h
          obtain ⟨x4, hx, h⟩ := zob h
          refine z_callV (ci := 12) (T := TX12) (N := 50) (rest := [_, _]) B hS (mX12_figureAt l G hx) zy_X12_figureAt zk_1655 (by decide) hc rfl rfl hl rfl (Nat.le_of_ble_eq_true rfl) dX12_figuresTo_40 (kk := (fun H locs hS => ?_))
          refine z_ishl he hb dX12_figuresTo_43 ?_
          exact gX12_figuresTo_44 l B ih _ _ _ _ _ _ _ _ h hS (lv_sub hl [0, 1, 3] rfl)
        · rw [if_neg hc] at h
          refine lv_iconst (v := (0 : Int32)) he hb dX12_figuresTo_32 (by decide) ?_
          refine lv_goto (tgt := 44) he hb dX12_figuresTo_33 (by decide) ?_
          exact gX12_figuresTo_44 l B ih _ _ _ _ _ _ _ _ h hS (lv_sub hl [0, 1, 3] rfl)
def fX12_figuresTo (N n : Nat) (f : zF) (a0 : Nat) (a1 : Int32) (a2 : Int32) : Option Int32 :=
    (fX12_figuresTo_5 N n f N a0 a2 (0 : Int32) a1)
set_option maxRecDepth 100000 in
set_option maxHeartbeats 4000000 in
theorem mX12_figuresTo (l : Launch) (G : zG) {N n : Nat} {f : zF} {r : Int32} {a0 : Nat} {a1 : Int32} {a2 : Int32} (h : fX12_figuresTo N n f a0 a1 a2 = some r) : zM l G yX12_figuresTo cX12_figuresTo 5 (some .int) 3 n f [zr G a0, .int a1, .int a2] (some (.int r)) f := by
  refine zM.of (by decide) (Nat.le_of_ble_eq_true rfl) ?_
  intro p e s m args below meth c locs ls B hS hl
  have he := B.1
  have hb := B.2.1
  have hl : lv_has ls 5 [(0, zr G a0), (1, .int a1), (2, .int a2)] := hl
  unfold fX12_figuresTo at h
  generalize s.heap = H at hS ⊢
  refine lv_iconst (v := (0 : Int32)) he hb dX12_figuresTo_0 (by decide) ?_
  refine lv_istore_n (lv' := [(3, _), (0, _), (1, _), (2, _)]) he hb dX12_figuresTo_1 rfl hl (by decide) rfl (fun ls hl => ?_)
  refine lv_iload_n he hb dX12_figuresTo_2 rfl (lv_at hl 2 rfl) ?_
  refine lv_istore (lv' := [(4, _), (3, _), (0, _), (1, _), (2, _)]) he hb dX12_figuresTo_3 hl (by decide) rfl (fun ls hl => ?_)
  exact gX12_figuresTo_5 l B N _ _ _ _ _ _ _ h hS (lv_sub hl [2, 4, 1, 0] rfl)
theorem dX12_isShut_0 : decode cX12_isShut 0 = .ok (.aload_n 0, 1) := by decide +kernel
theorem dX12_isShut_1 : decode cX12_isShut 1 = .ok (.getfield 33, 3) := by decide +kernel
theorem dX12_isShut_4 : decode cX12_isShut 4 = .ok (.sipush 140, 3) := by decide +kernel
theorem dX12_isShut_7 : decode cX12_isShut 7 = .ok (.iaload, 1) := by decide +kernel
theorem dX12_isShut_8 : decode cX12_isShut 8 = .ok (.iload_n 1, 1) := by decide +kernel
theorem dX12_isShut_9 : decode cX12_isShut 9 = .ok (.invokestatic 289, 3) := by decide +kernel
theorem dX12_isShut_12 : decode cX12_isShut 12 = .ok (.ireturn, 1) := by decide +kernel
def fX12_isShut (N n : Nat) (f : zF) (a0 : Nat) (a1 : Int32) : Option Int32 :=
    ((zgR n f 12 a0 6).bind fun x1 => ((zlI n f 0 x1 (140 : Int32)).bind fun x2 => ((fX12_bitOf N n f x2 a1).bind fun x3 => zbl x3)))
set_option maxRecDepth 100000 in
set_option maxHeartbeats 4000000 in
theorem mX12_isShut (l : Launch) (G : zG) {N n : Nat} {f : zF} {r : Int32} {a0 : Nat} {a1 : Int32} (h : fX12_isShut N n f a0 a1 = some r) : zM l G yX12_isShut cX12_isShut 2 (some .boolean) 1 n f [zr G a0, .int a1] (some (.int r)) f := by
  refine zM.of (by decide) (Nat.le_of_ble_eq_true rfl) ?_
  intro p e s m args below meth c locs ls B hS hl
  have he := B.1
  have hb := B.2.1
  have hl : lv_has ls 2 [(0, zr G a0), (1, .int a1)] := hl
  unfold fX12_isShut at h
  generalize s.heap = H at hS ⊢
  refine z_aload_n he hb dX12_isShut_0 rfl (lv_at hl 0 rfl) (zref_r _ _) ?_
  obtain ⟨x1, hx, h⟩ := zob h
  refine z_getR (ci := 12) (T := TX12) (N := 50) (j := 6) B hS hx rfl zin_X12 (by decide) zk_1353 dX12_isShut_1 ?_
  refine lv_sipush (v := (140 : Int32)) he hb dX12_isShut_4 (by decide) ?_
  obtain ⟨x2, hx, h⟩ := zob h
  refine z_ildI B hS hx dX12_isShut_7 ?_
  refine lv_iload_n he hb dX12_isShut_8 rfl (lv_at hl 1 rfl) ?_
  obtain ⟨x3, hx, h⟩ := zob h
  refine z_callS (rest := []) B hS (mX12_bitOf l G hx) zy_X12_bitOf zk_1648 (by decide) rfl hl rfl (Nat.le_of_ble_eq_true rfl) dX12_isShut_9 (kk := (fun H locs hS => ?_))
  obtain ⟨hz, rfl⟩ := zbl_i h
  exact z_zret B hS hz dX12_isShut_12
theorem dX12_isLooking_0 : decode cX12_isLooking 0 = .ok (.aload_n 0, 1) := by decide +kernel
theorem dX12_isLooking_1 : decode cX12_isLooking 1 = .ok (.iload_n 1, 1) := by decide +kernel
theorem dX12_isLooking_2 : decode cX12_isLooking 2 = .ok (.invokevirtual 292, 3) := by decide +kernel
theorem dX12_isLooking_5 : decode cX12_isLooking 5 = .ok (.ifCond .ne 48, 3) := by decide +kernel
theorem dX12_isLooking_8 : decode cX12_isLooking 8 = .ok (.aload_n 0, 1) := by decide +kernel
theorem dX12_isLooking_9 : decode cX12_isLooking 9 = .ok (.getfield 33, 3) := by decide +kernel
theorem dX12_isLooking_12 : decode cX12_isLooking 12 = .ok (.sipush 139, 3) := by decide +kernel
theorem dX12_isLooking_15 : decode cX12_isLooking 15 = .ok (.iaload, 1) := by decide +kernel
theorem dX12_isLooking_16 : decode cX12_isLooking 16 = .ok (.bipush 24, 2) := by decide +kernel
theorem dX12_isLooking_18 : decode cX12_isLooking 18 = .ok (.irem, 1) := by decide +kernel
theorem dX12_isLooking_19 : decode cX12_isLooking 19 = .ok (.bipush 24, 2) := by decide +kernel
theorem dX12_isLooking_21 : decode cX12_isLooking 21 = .ok (.iadd, 1) := by decide +kernel
theorem dX12_isLooking_22 : decode cX12_isLooking 22 = .ok (.aload_n 0, 1) := by decide +kernel
theorem dX12_isLooking_23 : decode cX12_isLooking 23 = .ok (.getfield 33, 3) := by decide +kernel
theorem dX12_isLooking_26 : decode cX12_isLooking 26 = .ok (.sipush 129, 3) := by decide +kernel
theorem dX12_isLooking_29 : decode cX12_isLooking 29 = .ok (.iload_n 1, 1) := by decide +kernel
theorem dX12_isLooking_30 : decode cX12_isLooking 30 = .ok (.iadd, 1) := by decide +kernel
theorem dX12_isLooking_31 : decode cX12_isLooking 31 = .ok (.iaload, 1) := by decide +kernel
theorem dX12_isLooking_32 : decode cX12_isLooking 32 = .ok (.isub, 1) := by decide +kernel
theorem dX12_isLooking_33 : decode cX12_isLooking 33 = .ok (.bipush 24, 2) := by decide +kernel
theorem dX12_isLooking_35 : decode cX12_isLooking 35 = .ok (.irem, 1) := by decide +kernel
theorem dX12_isLooking_36 : decode cX12_isLooking 36 = .ok (.aload_n 0, 1) := by decide +kernel
theorem dX12_isLooking_37 : decode cX12_isLooking 37 = .ok (.getfield 33, 3) := by decide +kernel
theorem dX12_isLooking_40 : decode cX12_isLooking 40 = .ok (.sipush 134, 3) := by decide +kernel
theorem dX12_isLooking_43 : decode cX12_isLooking 43 = .ok (.iload_n 1, 1) := by decide +kernel
theorem dX12_isLooking_44 : decode cX12_isLooking 44 = .ok (.iadd, 1) := by decide +kernel
theorem dX12_isLooking_45 : decode cX12_isLooking 45 = .ok (.iaload, 1) := by decide +kernel
theorem dX12_isLooking_46 : decode cX12_isLooking 46 = .ok (.if_icmp .ge 7, 3) := by decide +kernel
theorem dX12_isLooking_49 : decode cX12_isLooking 49 = .ok (.iconst 1, 1) := by decide +kernel
theorem dX12_isLooking_50 : decode cX12_isLooking 50 = .ok (.goto 4, 3) := by decide +kernel
theorem dX12_isLooking_53 : decode cX12_isLooking 53 = .ok (.iconst 0, 1) := by decide +kernel
theorem dX12_isLooking_54 : decode cX12_isLooking 54 = .ok (.ireturn, 1) := by decide +kernel
def fX12_isLooking (N n : Nat) (f : zF) (a0 : Nat) (a1 : Int32) : Option Int32 :=
    ((zck n f 12 a0).bind fun _ => ((fX12_isShut N n f a0 a1).bind fun x1 => (if x1 = 0 then ((zgR n f 12 a0 6).bind fun x2 => ((zlI n f 0 x2 (139 : Int32)).bind fun x3 => ((zgR n f 12 a0 6).bind fun x4 => ((zlI n f 0 x4 ((129 : Int32) + a1)).bind fun x5 => ((zgR n f 12 a0 6).bind fun x6 => ((zlI n f 0 x6 ((134 : Int32) + a1)).bind fun x7 => (if x7 ≤ (zrem (((zrem x3 (24 : Int32)) + (24 : Int32)) - x5) (24 : Int32)) then zbl (0 : Int32) else zbl (1 : Int32)))))))) else zbl (0 : Int32))))
set_option maxRecDepth 100000 in
set_option maxHeartbeats 4000000 in
theorem mX12_isLooking (l : Launch) (G : zG) {N n : Nat} {f : zF} {r : Int32} {a0 : Nat} {a1 : Int32} (h : fX12_isLooking N n f a0 a1 = some r) : zM l G yX12_isLooking cX12_isLooking 2 (some .boolean) 2 n f [zr G a0, .int a1] (some (.int r)) f := by
  refine zM.of (by decide) (Nat.le_of_ble_eq_true rfl) ?_
  intro p e s m args below meth c locs ls B hS hl
  have he := B.1
  have hb := B.2.1
  have hl : lv_has ls 2 [(0, zr G a0), (1, .int a1)] := hl
  unfold fX12_isLooking at h
  generalize s.heap = H at hS ⊢
  refine z_aload_n he hb dX12_isLooking_0 rfl (lv_at hl 0 rfl) (zref_r _ _) ?_
  refine lv_iload_n he hb dX12_isLooking_1 rfl (lv_at hl 1 rfl) ?_
  obtain ⟨_, hc, h⟩ := zob h
  obtain ⟨x1, hx, h⟩ := zob h
  refine z_callV (ci := 12) (T := TX12) (N := 50) (rest := []) B hS (mX12_isShut l G hx) zy_X12_isShut zk_1644 (by decide) hc rfl rfl hl rfl (Nat.le_of_ble_eq_true rfl) dX12_isLooking_2 (kk := (fun H locs hS => ?_))
  refine lv_if_ne (tgt := 53) he hb dX12_isLooking_5 (by decide) (fun hc => ?_) (fun hc => ?_)
  · rw [if_neg hc] at h
    refine lv_iconst (v := (0 : Int32)) he hb dX12_isLooking_53 (by decide) ?_
    obtain ⟨hz, rfl⟩ := zbl_i h
    exact z_zret B hS hz dX12_isLooking_54
  · rw [if_pos hc] at h
    refine z_aload_n he hb dX12_isLooking_8 rfl (lv_at hl 0 rfl) (zref_r _ _) ?_
    obtain ⟨x2, hx, h⟩ := zob h
    refine z_getR (ci := 12) (T := TX12) (N := 50) (j := 6) B hS hx rfl zin_X12 (by decide) zk_1353 dX12_isLooking_9 ?_
    refine lv_sipush (v := (139 : Int32)) he hb dX12_isLooking_12 (by decide) ?_
    obtain ⟨x3, hx, h⟩ := zob h
    refine z_ildI B hS hx dX12_isLooking_15 ?_
    refine lv_bipush (v := (24 : Int32)) he hb dX12_isLooking_16 (by decide) ?_
    refine z_irem he hb dX12_isLooking_18 (by decide) ?_
    refine lv_bipush (v := (24 : Int32)) he hb dX12_isLooking_19 (by decide) ?_
    refine lv_iadd he hb dX12_isLooking_21 ?_
    refine z_aload_n he hb dX12_isLooking_22 rfl (lv_at hl 0 rfl) (zref_r _ _) ?_
    obtain ⟨x4, hx, h⟩ := zob h
    refine z_getR (ci := 12) (T := TX12) (N := 50) (j := 6) B hS hx rfl zin_X12 (by decide) zk_1353 dX12_isLooking_23 ?_
    refine lv_sipush (v := (129 : Int32)) he hb dX12_isLooking_26 (by decide) ?_
    refine lv_iload_n he hb dX12_isLooking_29 rfl (lv_at hl 1 rfl) ?_
    refine lv_iadd he hb dX12_isLooking_30 ?_
    obtain ⟨x5, hx, h⟩ := zob h
    refine z_ildI B hS hx dX12_isLooking_31 ?_
    refine lv_isub he hb dX12_isLooking_32 ?_
    refine lv_bipush (v := (24 : Int32)) he hb dX12_isLooking_33 (by decide) ?_
    refine z_irem he hb dX12_isLooking_35 (by decide) ?_
    refine z_aload_n he hb dX12_isLooking_36 rfl (lv_at hl 0 rfl) (zref_r _ _) ?_
    obtain ⟨x6, hx, h⟩ := zob h
    refine z_getR (ci := 12) (T := TX12) (N := 50) (j := 6) B hS hx rfl zin_X12 (by decide) zk_1353 dX12_isLooking_37 ?_
    refine lv_sipush (v := (134 : Int32)) he hb dX12_isLooking_40 (by decide) ?_
    refine lv_iload_n he hb dX12_isLooking_43 rfl (lv_at hl 1 rfl) ?_
    refine lv_iadd he hb dX12_isLooking_44 ?_
    obtain ⟨x7, hx, h⟩ := zob h
    refine z_ildI B hS hx dX12_isLooking_45 ?_
    refine lv_icmp_ge (tgt := 53) he hb dX12_isLooking_46 (by decide) (fun hc => ?_) (fun hc => ?_)
    · rw [if_pos hc] at h
      refine lv_iconst (v := (0 : Int32)) he hb dX12_isLooking_53 (by decide) ?_
      obtain ⟨hz, rfl⟩ := zbl_i h
      exact z_zret B hS hz dX12_isLooking_54
    · rw [if_neg hc] at h
      refine lv_iconst (v := (1 : Int32)) he hb dX12_isLooking_49 (by decide) ?_
      refine lv_goto (tgt := 54) he hb dX12_isLooking_50 (by decide) ?_
      obtain ⟨hz, rfl⟩ := zbl_i h
      exact z_zret B hS hz dX12_isLooking_54
theorem dX12_seesOf_0 : decode cX12_seesOf 0 = .ok (.aload_n 0, 1) := by decide +kernel
theorem dX12_seesOf_1 : decode cX12_seesOf 1 = .ok (.iload_n 1, 1) := by decide +kernel
theorem dX12_seesOf_2 : decode cX12_seesOf 2 = .ok (.invokevirtual 295, 3) := by decide +kernel
theorem dX12_seesOf_5 : decode cX12_seesOf 5 = .ok (.ifCond .eq 30, 3) := by decide +kernel
theorem dX12_seesOf_8 : decode cX12_seesOf 8 = .ok (.aload_n 0, 1) := by decide +kernel
theorem dX12_seesOf_9 : decode cX12_seesOf 9 = .ok (.aload_n 0, 1) := by decide +kernel
theorem dX12_seesOf_10 : decode cX12_seesOf 10 = .ok (.getfield 33, 3) := by decide +kernel
theorem dX12_seesOf_13 : decode cX12_seesOf 13 = .ok (.sipush 159, 3) := by decide +kernel
theorem dX12_seesOf_16 : decode cX12_seesOf 16 = .ok (.iload_n 1, 1) := by decide +kernel
theorem dX12_seesOf_17 : decode cX12_seesOf 17 = .ok (.iadd, 1) := by decide +kernel
theorem dX12_seesOf_18 : decode cX12_seesOf 18 = .ok (.iaload, 1) := by decide +kernel
theorem dX12_seesOf_19 : decode cX12_seesOf 19 = .ok (.aload_n 0, 1) := by decide +kernel
theorem dX12_seesOf_20 : decode cX12_seesOf 20 = .ok (.getfield 33, 3) := by decide +kernel
theorem dX12_seesOf_23 : decode cX12_seesOf 23 = .ok (.sipush 164, 3) := by decide +kernel
theorem dX12_seesOf_26 : decode cX12_seesOf 26 = .ok (.iload_n 1, 1) := by decide +kernel
theorem dX12_seesOf_27 : decode cX12_seesOf 27 = .ok (.iadd, 1) := by decide +kernel
theorem dX12_seesOf_28 : decode cX12_seesOf 28 = .ok (.iaload, 1) := by decide +kernel
theorem dX12_seesOf_29 : decode cX12_seesOf 29 = .ok (.invokevirtual 298, 3) := by decide +kernel
theorem dX12_seesOf_32 : decode cX12_seesOf 32 = .ok (.goto 4, 3) := by decide +kernel
theorem dX12_seesOf_35 : decode cX12_seesOf 35 = .ok (.iconst 0, 1) := by decide +kernel
theorem dX12_seesOf_36 : decode cX12_seesOf 36 = .ok (.ireturn, 1) := by decide +kernel
def fX12_seesOf (N n : Nat) (f : zF) (a0 : Nat) (a1 : Int32) : Option Int32 :=
    ((zck n f 12 a0).bind fun _ => ((fX12_isLooking N n f a0 a1).bind fun x1 => (if x1 = 0 then some (0 : Int32) else ((zgR n f 12 a0 6).bind fun x2 => ((zlI n f 0 x2 ((159 : Int32) + a1)).bind fun x3 => ((zgR n f 12 a0 6).bind fun x4 => ((zlI n f 0 x4 ((164 : Int32) + a1)).bind fun x5 => ((zck n f 12 a0).bind fun _ => ((fX12_figuresTo N n f a0 x3 x5).bind fun x6 => some x6)))))))))
set_option maxRecDepth 100000 in
set_option maxHeartbeats 4000000 in
theorem mX12_seesOf (l : Launch) (G : zG) {N n : Nat} {f : zF} {r : Int32} {a0 : Nat} {a1 : Int32} (h : fX12_seesOf N n f a0 a1 = some r) : zM l G yX12_seesOf cX12_seesOf 2 (some .int) 4 n f [zr G a0, .int a1] (some (.int r)) f := by
  refine zM.of (by decide) (Nat.le_of_ble_eq_true rfl) ?_
  intro p e s m args below meth c locs ls B hS hl
  have he := B.1
  have hb := B.2.1
  have hl : lv_has ls 2 [(0, zr G a0), (1, .int a1)] := hl
  unfold fX12_seesOf at h
  generalize s.heap = H at hS ⊢
  refine z_aload_n he hb dX12_seesOf_0 rfl (lv_at hl 0 rfl) (zref_r _ _) ?_
  refine lv_iload_n he hb dX12_seesOf_1 rfl (lv_at hl 1 rfl) ?_
  obtain ⟨_, hc, h⟩ := zob h
  obtain ⟨x1, hx, h⟩ := zob h
  refine z_callV (ci := 12) (T := TX12) (N := 50) (rest := []) B hS (mX12_isLooking l G hx) zy_X12_isLooking zk_1640 (by decide) hc rfl rfl hl rfl (Nat.le_of_ble_eq_true rfl) dX12_seesOf_2 (kk := (fun H locs hS => ?_))
  refine lv_if_eq (tgt := 35) he hb dX12_seesOf_5 (by decide) (fun hc => ?_) (fun hc => ?_)
  · rw [if_pos hc] at h
    refine lv_iconst (v := (0 : Int32)) he hb dX12_seesOf_35 (by decide) ?_
    obtain rfl := Option.some.inj h
    exact z_iret B hS dX12_seesOf_36
  · rw [if_neg hc] at h
    refine z_aload_n he hb dX12_seesOf_8 rfl (lv_at hl 0 rfl) (zref_r _ _) ?_
    refine z_aload_n he hb dX12_seesOf_9 rfl (lv_at hl 0 rfl) (zref_r _ _) ?_
    obtain ⟨x2, hx, h⟩ := zob h
    refine z_getR (ci := 12) (T := TX12) (N := 50) (j := 6) B hS hx rfl zin_X12 (by decide) zk_1353 dX12_seesOf_10 ?_
    refine lv_sipush (v := (159 : Int32)) he hb dX12_seesOf_13 (by decide) ?_
    refine lv_iload_n he hb dX12_seesOf_16 rfl (lv_at hl 1 rfl) ?_
    refine lv_iadd he hb dX12_seesOf_17 ?_
    obtain ⟨x3, hx, h⟩ := zob h
    refine z_ildI B hS hx dX12_seesOf_18 ?_
    refine z_aload_n he hb dX12_seesOf_19 rfl (lv_at hl 0 rfl) (zref_r _ _) ?_
    obtain ⟨x4, hx, h⟩ := zob h
    refine z_getR (ci := 12) (T := TX12) (N := 50) (j := 6) B hS hx rfl zin_X12 (by decide) zk_1353 dX12_seesOf_20 ?_
    refine lv_sipush (v := (164 : Int32)) he hb dX12_seesOf_23 (by decide) ?_
    refine lv_iload_n he hb dX12_seesOf_26 rfl (lv_at hl 1 rfl) ?_
    refine lv_iadd he hb dX12_seesOf_27 ?_
    obtain ⟨x5, hx, h⟩ := zob h
    refine z_ildI B hS hx dX12_seesOf_28 ?_
    obtain ⟨_, hc, h⟩ := zob h
    obtain ⟨x6, hx, h⟩ := zob h
    refine z_callV (ci := 12) (T := TX12) (N := 50) (rest := []) B hS (mX12_figuresTo l G hx) zy_X12_figuresTo zk_1651 (by decide) hc rfl rfl hl rfl (Nat.le_of_ble_eq_true rfl) dX12_seesOf_29 (kk := (fun H locs hS => ?_))
    refine lv_goto (tgt := 36) he hb dX12_seesOf_32 (by decide) ?_
    obtain rfl := Option.some.inj h
    exact z_iret B hS dX12_seesOf_36
theorem dX12_seenBy_0 : decode cX12_seenBy 0 = .ok (.iconst 0, 1) := by decide +kernel
theorem dX12_seenBy_1 : decode cX12_seenBy 1 = .ok (.istore_n 2, 1) := by decide +kernel
theorem dX12_seenBy_2 : decode cX12_seenBy 2 = .ok (.iconst 0, 1) := by decide +kernel
theorem dX12_seenBy_3 : decode cX12_seenBy 3 = .ok (.istore_n 3, 1) := by decide +kernel
theorem dX12_seenBy_4 : decode cX12_seenBy 4 = .ok (.iload_n 3, 1) := by decide +kernel
theorem dX12_seenBy_5 : decode cX12_seenBy 5 = .ok (.aload_n 0, 1) := by decide +kernel
theorem dX12_seenBy_6 : decode cX12_seenBy 6 = .ok (.getfield 33, 3) := by decide +kernel
theorem dX12_seenBy_9 : decode cX12_seenBy 9 = .ok (.iconst 4, 1) := by decide +kernel
theorem dX12_seenBy_10 : decode cX12_seenBy 10 = .ok (.iaload, 1) := by decide +kernel
theorem dX12_seenBy_11 : decode cX12_seenBy 11 = .ok (.if_icmp .ge 31, 3) := by decide +kernel
theorem dX12_seenBy_14 : decode cX12_seenBy 14 = .ok (.iload_n 2, 1) := by decide +kernel
theorem dX12_seenBy_15 : decode cX12_seenBy 15 = .ok (.aload_n 0, 1) := by decide +kernel
theorem dX12_seenBy_16 : decode cX12_seenBy 16 = .ok (.iload_n 3, 1) := by decide +kernel
theorem dX12_seenBy_17 : decode cX12_seenBy 17 = .ok (.invokevirtual 301, 3) := by decide +kernel
theorem dX12_seenBy_20 : decode cX12_seenBy 20 = .ok (.iload_n 1, 1) := by decide +kernel
theorem dX12_seenBy_21 : decode cX12_seenBy 21 = .ok (.invokestatic 289, 3) := by decide +kernel
theorem dX12_seenBy_24 : decode cX12_seenBy 24 = .ok (.ifCond .eq 9, 3) := by decide +kernel
theorem dX12_seenBy_27 : decode cX12_seenBy 27 = .ok (.iconst 1, 1) := by decide +kernel
theorem dX12_seenBy_28 : decode cX12_seenBy 28 = .ok (.iload_n 3, 1) := by decide +kernel
theorem dX12_seenBy_29 : decode cX12_seenBy 29 = .ok (.ishl, 1) := by decide +kernel
theorem dX12_seenBy_30 : decode cX12_seenBy 30 = .ok (.goto 4, 3) := by decide +kernel
theorem dX12_seenBy_33 : decode cX12_seenBy 33 = .ok (.iconst 0, 1) := by decide +kernel
theorem dX12_seenBy_34 : decode cX12_seenBy 34 = .ok (.ior, 1) := by decide +kernel
theorem dX12_seenBy_35 : decode cX12_seenBy 35 = .ok (.istore_n 2, 1) := by decide +kernel
theorem dX12_seenBy_36 : decode cX12_seenBy 36 = .ok (.iinc 3 1, 3) := by decide +kernel
theorem dX12_seenBy_39 : decode cX12_seenBy 39 = .ok (.goto (-35), 3) := by decide +kernel
theorem dX12_seenBy_42 : decode cX12_seenBy 42 = .ok (.iload_n 2, 1) := by decide +kernel
theorem dX12_seenBy_43 : decode cX12_seenBy 43 = .ok (.ireturn, 1) := by decide +kernel
def fX12_seenBy_34 (r4 : Nat → Int32 → Int32 → Int32 → Option Int32) (N n : Nat) (f : zF) (a0 : Nat) (a1 : Int32) (a3 : Int32) (t0 : Int32) (t1 : Int32) : Option Int32 :=
    (r4 a0 a1 (t0 ||| t1) (a3 + 1))
set_option maxRecDepth 100000 in
set_option maxHeartbeats 4000000 in
theorem gX12_seenBy_34 (l : Launch) {G : zG} {p : Program} {e : Env} {s : State} {m : MethodId} {args : Array Value} {below : List Frame} {meth : Method} {c : Code} {f : zF} {N n : Nat} {r : Int32} {r4 : Nat → Int32 → Int32 → Int32 → Option Int32} (B : zB G p s m args meth c RX12 cX12_seenBy 4 (some .int)) (hr4 : ∀ (a0 : Nat) (a1 : Int32) (a2 : Int32) (a3 : Int32) (H : Heap) (locs : List Loc) (ls : Array Slot), r4 a0 a1 a2 a3 = some r → zS G n f H locs → lv_has ls 4 [(0, zr G a0), (1, .int a1), (2, .int a2), (3, .int a3)] → W p l e (zrm 5) s m args below meth c H locs 0 0 (MQ below (zQc G n f (some (.int r))) args s 0 0 (zA G)) (F0 m 4 ls [])) : ∀ (a0 : Nat) (a1 : Int32) (a3 : Int32) (t0 : Int32) (t1 : Int32) (H : Heap) (locs : List Loc) (ls : Array Slot), fX12_seenBy_34 r4 N n f a0 a1 a3 t0 t1 = some r → zS G n f H locs → lv_has ls 4 [(0, zr G a0), (1, .int a1), (3, .int a3)] → W p l e (zrm 5) s m args below meth c H locs 0 0 (MQ below (zQc G n f (some (.int r))) args s 0 0 (zA G)) (F0 m 34 ls [.int t1, .int t0]) := by
  have he := B.1
  have hb := B.2.1
  intro a0 a1 a3 t0 t1 H locs ls h hS hl
  unfold fX12_seenBy_34 at h
  refine lv_ior he hb dX12_seenBy_34 ?_
  refine lv_istore_n (lv' := [(2, _), (0, _), (1, _), (3, _)]) he hb dX12_seenBy_35 rfl hl (by decide) rfl (fun ls hl => ?_)
  refine lv_iinc (v := (a3 + 1)) (lv' := [(3, _), (2, _), (0, _), (1, _)]) he hb dX12_seenBy_36 hl (k := 3) rfl rfl (by decide) rfl (fun ls hl => ?_)
  refine lv_goto (tgt := 4) he hb dX12_seenBy_39 (by decide) ?_
  exact hr4 _ _ _ _ _ _ _ h hS (lv_sub hl [2, 3, 1, 0] rfl)
def fX12_seenBy_4 (N n : Nat) (f : zF) : Nat → Nat → Int32 → Int32 → Int32 → Option Int32
  | 0, _, _, _, _ => none
  | k + 1, a0, a1, a2, a3 =>
    ((zgR n f 12 a0 6).bind fun x1 => ((zlI n f 0 x1 (4 : Int32)).bind fun x2 => (if x2 ≤ a3 then some a2 else ((zck n f 12 a0).bind fun _ => ((fX12_seesOf N n f a0 a3).bind fun x3 => ((fX12_bitOf N n f x3 a1).bind fun x4 => (if x4 = 0 then (fX12_seenBy_34 (fX12_seenBy_4 N n f k) N n f a0 a1 a3 a2 (0 : Int32)) else (fX12_seenBy_34 (fX12_seenBy_4 N n f k) N n f a0 a1 a3 a2 (zishl (1 : Int32) a3)))))))))
set_option maxRecDepth 100000 in
set_option maxHeartbeats 4000000 in
theorem gX12_seenBy_4 (l : Launch) {G : zG} {p : Program} {e : Env} {s : State} {m : MethodId} {args : Array Value} {below : List Frame} {meth : Method} {c : Code} {f : zF} {N n : Nat} {r : Int32} (B : zB G p s m args meth c RX12 cX12_seenBy 4 (some .int)) : ∀ (k : Nat), ∀ (a0 : Nat) (a1 : Int32) (a2 : Int32) (a3 : Int32) (H : Heap) (locs : List Loc) (ls : Array Slot), fX12_seenBy_4 N n f k a0 a1 a2 a3 = some r → zS G n f H locs → lv_has ls 4 [(0, zr G a0), (1, .int a1), (2, .int a2), (3, .int a3)] → W p l e (zrm 5) s m args below meth c H locs 0 0 (MQ below (zQc G n f (some (.int r))) args s 0 0 (zA G)) (F0 m 4 ls []) := by
  have he := B.1
  have hb := B.2.1
  intro k
  induction k with
  | zero =>
    intro a0 a1 a2 a3 H locs ls h
    unfold fX12_seenBy_4 at h
    cases h
  | succ k ih =>
    intro a0 a1 a2 a3 H locs ls h hS hl
    unfold fX12_seenBy_4 at h
    refine lv_iload_n he hb dX12_seenBy_4 rfl (lv_at hl 3 rfl) ?_
    refine z_aload_n he hb dX12_seenBy_5 rfl (lv_at hl 0 rfl) (zref_r _ _) ?_
    obtain ⟨x1, hx, h⟩ := zob h
    refine z_getR (ci := 12) (T := TX12) (N := 50) (j := 6) B hS hx rfl zin_X12 (by decide) zk_1353 dX12_seenBy_6 ?_
    refine lv_iconst (v := (4 : Int32)) he hb dX12_seenBy_9 (by decide) ?_
    obtain ⟨x2, hx, h⟩ := zob h
    refine z_ildI B hS hx dX12_seenBy_10 ?_
    refine lv_icmp_ge (tgt := 42) he hb dX12_seenBy_11 (by decide) (fun hc => ?_) (fun hc => ?_)
    · rw [if_pos hc] at h
      refine lv_iload_n he hb dX12_seenBy_42 rfl (lv_at hl 2 rfl) ?_
      obtain rfl := Option.some.inj h
      exact z_iret B hS dX12_seenBy_43
    · rw [if_neg hc] at h
      refine lv_iload_n he hb dX12_seenBy_14 rfl (lv_at hl 2 rfl) ?_
      refine z_aload_n he hb dX12_seenBy_15 rfl (lv_at hl 0 rfl) (zref_r _ _) ?_
      refine lv_iload_n he hb dX12_seenBy_16 rfl (lv_at hl 3 rfl) ?_
      obtain ⟨_, hc, h⟩ := zob h
      obtain ⟨x3, hx, h⟩ := zob h
      refine z_callV (ci := 12) (T := TX12) (N := 50) (rest := [_]) B hS (mX12_seesOf l G hx) zy_X12_seesOf zk_1636 (by decide) hc rfl rfl hl rfl (Nat.le_of_ble_eq_true rfl) dX12_seenBy_17 (kk := (fun H locs hS => ?_))
      refine lv_iload_n he hb dX12_seenBy_20 rfl (lv_at hl 1 rfl) ?_
      obtain ⟨x4, hx, h⟩ := zob h
      refine z_callS (rest := [_]) B hS (mX12_bitOf l G hx) zy_X12_bitOf zk_1648 (by decide) rfl hl rfl (Nat.le_of_ble_eq_true rfl) dX12_seenBy_21 (kk := (fun H locs hS => ?_))
      refine lv_if_eq (tgt := 33) he hb dX12_seenBy_24 (by decide) (fun hc => ?_) (fun hc => ?_)
      · rw [if_pos hc] at h
        refine lv_iconst (v := (0 : Int32)) he hb dX12_seenBy_33 (by decide) ?_
        exact gX12_seenBy_34 l B ih _ _ _ _ _ _ _ _ h hS (lv_sub hl [0, 1, 3] rfl)
      · rw [if_neg hc] at h
        refine lv_iconst (v := (1 : Int32)) he hb dX12_seenBy_27 (by decide) ?_
        refine lv_iload_n he hb dX12_seenBy_28 rfl (lv_at hl 3 rfl) ?_
        refine z_ishl he hb dX12_seenBy_29 ?_
        refine lv_goto (tgt := 34) he hb dX12_seenBy_30 (by decide) ?_
        exact gX12_seenBy_34 l B ih _ _ _ _ _ _ _ _ h hS (lv_sub hl [0, 1, 3] rfl)
def fX12_seenBy (N n : Nat) (f : zF) (a0 : Nat) (a1 : Int32) : Option Int32 :=
    (fX12_seenBy_4 N n f N a0 a1 (0 : Int32) (0 : Int32))
set_option maxRecDepth 100000 in
set_option maxHeartbeats 4000000 in
theorem mX12_seenBy (l : Launch) (G : zG) {N n : Nat} {f : zF} {r : Int32} {a0 : Nat} {a1 : Int32} (h : fX12_seenBy N n f a0 a1 = some r) : zM l G yX12_seenBy cX12_seenBy 4 (some .int) 5 n f [zr G a0, .int a1] (some (.int r)) f := by
  refine zM.of (by decide) (Nat.le_of_ble_eq_true rfl) ?_
  intro p e s m args below meth c locs ls B hS hl
  have he := B.1
  have hb := B.2.1
  have hl : lv_has ls 4 [(0, zr G a0), (1, .int a1)] := hl
  unfold fX12_seenBy at h
  generalize s.heap = H at hS ⊢
  refine lv_iconst (v := (0 : Int32)) he hb dX12_seenBy_0 (by decide) ?_
  refine lv_istore_n (lv' := [(2, _), (0, _), (1, _)]) he hb dX12_seenBy_1 rfl hl (by decide) rfl (fun ls hl => ?_)
  refine lv_iconst (v := (0 : Int32)) he hb dX12_seenBy_2 (by decide) ?_
  refine lv_istore_n (lv' := [(3, _), (2, _), (0, _), (1, _)]) he hb dX12_seenBy_3 rfl hl (by decide) rfl (fun ls hl => ?_)
  exact gX12_seenBy_4 l B N _ _ _ _ _ _ _ h hS (lv_sub hl [2, 3, 1, 0] rfl)
theorem dX12_wentInAll_0 : decode cX12_wentInAll 0 = .ok (.iconst 0, 1) := by decide +kernel
theorem dX12_wentInAll_1 : decode cX12_wentInAll 1 = .ok (.istore_n 1, 1) := by decide +kernel
theorem dX12_wentInAll_2 : decode cX12_wentInAll 2 = .ok (.iconst 0, 1) := by decide +kernel
theorem dX12_wentInAll_3 : decode cX12_wentInAll 3 = .ok (.istore_n 2, 1) := by decide +kernel
theorem dX12_wentInAll_4 : decode cX12_wentInAll 4 = .ok (.iload_n 2, 1) := by decide +kernel
theorem dX12_wentInAll_5 : decode cX12_wentInAll 5 = .ok (.aload_n 0, 1) := by decide +kernel
theorem dX12_wentInAll_6 : decode cX12_wentInAll 6 = .ok (.getfield 33, 3) := by decide +kernel
theorem dX12_wentInAll_9 : decode cX12_wentInAll 9 = .ok (.iconst 3, 1) := by decide +kernel
theorem dX12_wentInAll_10 : decode cX12_wentInAll 10 = .ok (.iaload, 1) := by decide +kernel
theorem dX12_wentInAll_11 : decode cX12_wentInAll 11 = .ok (.if_icmp .ge 22, 3) := by decide +kernel
theorem dX12_wentInAll_14 : decode cX12_wentInAll 14 = .ok (.iload_n 1, 1) := by decide +kernel
theorem dX12_wentInAll_15 : decode cX12_wentInAll 15 = .ok (.aload_n 0, 1) := by decide +kernel
theorem dX12_wentInAll_16 : decode cX12_wentInAll 16 = .ok (.getfield 33, 3) := by decide +kernel
theorem dX12_wentInAll_19 : decode cX12_wentInAll 19 = .ok (.sipush 153, 3) := by decide +kernel
theorem dX12_wentInAll_22 : decode cX12_wentInAll 22 = .ok (.iload_n 2, 1) := by decide +kernel
theorem dX12_wentInAll_23 : decode cX12_wentInAll 23 = .ok (.iadd, 1) := by decide +kernel
theorem dX12_wentInAll_24 : decode cX12_wentInAll 24 = .ok (.iaload, 1) := by decide +kernel
theorem dX12_wentInAll_25 : decode cX12_wentInAll 25 = .ok (.iadd, 1) := by decide +kernel
theorem dX12_wentInAll_26 : decode cX12_wentInAll 26 = .ok (.istore_n 1, 1) := by decide +kernel
theorem dX12_wentInAll_27 : decode cX12_wentInAll 27 = .ok (.iinc 2 1, 3) := by decide +kernel
theorem dX12_wentInAll_30 : decode cX12_wentInAll 30 = .ok (.goto (-26), 3) := by decide +kernel
theorem dX12_wentInAll_33 : decode cX12_wentInAll 33 = .ok (.iload_n 1, 1) := by decide +kernel
theorem dX12_wentInAll_34 : decode cX12_wentInAll 34 = .ok (.ireturn, 1) := by decide +kernel
def fX12_wentInAll_4 (N n : Nat) (f : zF) : Nat → Nat → Int32 → Int32 → Option Int32
  | 0, _, _, _ => none
  | k + 1, a0, a1, a2 =>
    ((zgR n f 12 a0 6).bind fun x1 => ((zlI n f 0 x1 (3 : Int32)).bind fun x2 => (if x2 ≤ a2 then some a1 else ((zgR n f 12 a0 6).bind fun x3 => ((zlI n f 0 x3 ((153 : Int32) + a2)).bind fun x4 => (fX12_wentInAll_4 N n f k a0 (a1 + x4) (a2 + 1)))))))
set_option maxRecDepth 100000 in
set_option maxHeartbeats 4000000 in
theorem gX12_wentInAll_4 (l : Launch) {G : zG} {p : Program} {e : Env} {s : State} {m : MethodId} {args : Array Value} {below : List Frame} {meth : Method} {c : Code} {f : zF} {N n : Nat} {r : Int32} (B : zB G p s m args meth c RX12 cX12_wentInAll 3 (some .int)) : ∀ (k : Nat), ∀ (a0 : Nat) (a1 : Int32) (a2 : Int32) (H : Heap) (locs : List Loc) (ls : Array Slot), fX12_wentInAll_4 N n f k a0 a1 a2 = some r → zS G n f H locs → lv_has ls 3 [(0, zr G a0), (1, .int a1), (2, .int a2)] → W p l e (zrm 0) s m args below meth c H locs 0 0 (MQ below (zQc G n f (some (.int r))) args s 0 0 (zA G)) (F0 m 4 ls []) := by
  have he := B.1
  have hb := B.2.1
  intro k
  induction k with
  | zero =>
    intro a0 a1 a2 H locs ls h
    unfold fX12_wentInAll_4 at h
    cases h
  | succ k ih =>
    intro a0 a1 a2 H locs ls h hS hl
    unfold fX12_wentInAll_4 at h
    refine lv_iload_n he hb dX12_wentInAll_4 rfl (lv_at hl 2 rfl) ?_
    refine z_aload_n he hb dX12_wentInAll_5 rfl (lv_at hl 0 rfl) (zref_r _ _) ?_
    obtain ⟨x1, hx, h⟩ := zob h
    refine z_getR (ci := 12) (T := TX12) (N := 50) (j := 6) B hS hx rfl zin_X12 (by decide) zk_1353 dX12_wentInAll_6 ?_
    refine lv_iconst (v := (3 : Int32)) he hb dX12_wentInAll_9 (by decide) ?_
    obtain ⟨x2, hx, h⟩ := zob h
    refine z_ildI B hS hx dX12_wentInAll_10 ?_
    refine lv_icmp_ge (tgt := 33) he hb dX12_wentInAll_11 (by decide) (fun hc => ?_) (fun hc => ?_)
    · rw [if_pos hc] at h
      refine lv_iload_n he hb dX12_wentInAll_33 rfl (lv_at hl 1 rfl) ?_
      obtain rfl := Option.some.inj h
      exact z_iret B hS dX12_wentInAll_34
    · rw [if_neg hc] at h
      refine lv_iload_n he hb dX12_wentInAll_14 rfl (lv_at hl 1 rfl) ?_
      refine z_aload_n he hb dX12_wentInAll_15 rfl (lv_at hl 0 rfl) (zref_r _ _) ?_
      obtain ⟨x3, hx, h⟩ := zob h
      refine z_getR (ci := 12) (T := TX12) (N := 50) (j := 6) B hS hx rfl zin_X12 (by decide) zk_1353 dX12_wentInAll_16 ?_
      refine lv_sipush (v := (153 : Int32)) he hb dX12_wentInAll_19 (by decide) ?_
      refine lv_iload_n he hb dX12_wentInAll_22 rfl (lv_at hl 2 rfl) ?_
      refine lv_iadd he hb dX12_wentInAll_23 ?_
      obtain ⟨x4, hx, h⟩ := zob h
      refine z_ildI B hS hx dX12_wentInAll_24 ?_
      refine lv_iadd he hb dX12_wentInAll_25 ?_
      refine lv_istore_n (lv' := [(1, _), (0, _), (2, _)]) he hb dX12_wentInAll_26 rfl hl (by decide) rfl (fun ls hl => ?_)
      refine lv_iinc (v := (a2 + 1)) (lv' := [(2, _), (1, _), (0, _)]) he hb dX12_wentInAll_27 hl (k := 2) rfl rfl (by decide) rfl (fun ls hl => ?_)
      refine lv_goto (tgt := 4) he hb dX12_wentInAll_30 (by decide) ?_
      exact ih _ _ _ _ _ _ h hS (lv_sub hl [2, 1, 0] rfl)
def fX12_wentInAll (N n : Nat) (f : zF) (a0 : Nat) : Option Int32 :=
    (fX12_wentInAll_4 N n f N a0 (0 : Int32) (0 : Int32))
set_option maxRecDepth 100000 in
set_option maxHeartbeats 4000000 in
theorem mX12_wentInAll (l : Launch) (G : zG) {N n : Nat} {f : zF} {r : Int32} {a0 : Nat} (h : fX12_wentInAll N n f a0 = some r) : zM l G yX12_wentInAll cX12_wentInAll 3 (some .int) 0 n f [zr G a0] (some (.int r)) f := by
  refine zM.of (by decide) (Nat.le_of_ble_eq_true rfl) ?_
  intro p e s m args below meth c locs ls B hS hl
  have he := B.1
  have hb := B.2.1
  have hl : lv_has ls 3 [(0, zr G a0)] := hl
  unfold fX12_wentInAll at h
  generalize s.heap = H at hS ⊢
  refine lv_iconst (v := (0 : Int32)) he hb dX12_wentInAll_0 (by decide) ?_
  refine lv_istore_n (lv' := [(1, _), (0, _)]) he hb dX12_wentInAll_1 rfl hl (by decide) rfl (fun ls hl => ?_)
  refine lv_iconst (v := (0 : Int32)) he hb dX12_wentInAll_2 (by decide) ?_
  refine lv_istore_n (lv' := [(2, _), (1, _), (0, _)]) he hb dX12_wentInAll_3 rfl hl (by decide) rfl (fun ls hl => ?_)
  exact gX12_wentInAll_4 l B N _ _ _ _ _ _ h hS (lv_sub hl [2, 1, 0] rfl)
theorem dX12_landOf_0 : decode cX12_landOf 0 = .ok (.iconst 0, 1) := by decide +kernel
theorem dX12_landOf_1 : decode cX12_landOf 1 = .ok (.istore_n 2, 1) := by decide +kernel
theorem dX12_landOf_2 : decode cX12_landOf 2 = .ok (.iconst 0, 1) := by decide +kernel
theorem dX12_landOf_3 : decode cX12_landOf 3 = .ok (.istore_n 3, 1) := by decide +kernel
theorem dX12_landOf_4 : decode cX12_landOf 4 = .ok (.iload_n 3, 1) := by decide +kernel
theorem dX12_landOf_5 : decode cX12_landOf 5 = .ok (.bipush 81, 2) := by decide +kernel
theorem dX12_landOf_7 : decode cX12_landOf 7 = .ok (.if_icmp .ge 33, 3) := by decide +kernel
theorem dX12_landOf_10 : decode cX12_landOf 10 = .ok (.iload_n 2, 1) := by decide +kernel
theorem dX12_landOf_11 : decode cX12_landOf 11 = .ok (.aload_n 0, 1) := by decide +kernel
theorem dX12_landOf_12 : decode cX12_landOf 12 = .ok (.getfield 33, 3) := by decide +kernel
theorem dX12_landOf_15 : decode cX12_landOf 15 = .ok (.sipush 169, 3) := by decide +kernel
theorem dX12_landOf_18 : decode cX12_landOf 18 = .ok (.iload_n 3, 1) := by decide +kernel
theorem dX12_landOf_19 : decode cX12_landOf 19 = .ok (.iadd, 1) := by decide +kernel
theorem dX12_landOf_20 : decode cX12_landOf 20 = .ok (.iaload, 1) := by decide +kernel
theorem dX12_landOf_21 : decode cX12_landOf 21 = .ok (.iload_n 1, 1) := by decide +kernel
theorem dX12_landOf_22 : decode cX12_landOf 22 = .ok (.iconst 1, 1) := by decide +kernel
theorem dX12_landOf_23 : decode cX12_landOf 23 = .ok (.iadd, 1) := by decide +kernel
theorem dX12_landOf_24 : decode cX12_landOf 24 = .ok (.if_icmp .ne 7, 3) := by decide +kernel
theorem dX12_landOf_27 : decode cX12_landOf 27 = .ok (.iconst 1, 1) := by decide +kernel
theorem dX12_landOf_28 : decode cX12_landOf 28 = .ok (.goto 4, 3) := by decide +kernel
theorem dX12_landOf_31 : decode cX12_landOf 31 = .ok (.iconst 0, 1) := by decide +kernel
theorem dX12_landOf_32 : decode cX12_landOf 32 = .ok (.iadd, 1) := by decide +kernel
theorem dX12_landOf_33 : decode cX12_landOf 33 = .ok (.istore_n 2, 1) := by decide +kernel
theorem dX12_landOf_34 : decode cX12_landOf 34 = .ok (.iinc 3 1, 3) := by decide +kernel
theorem dX12_landOf_37 : decode cX12_landOf 37 = .ok (.goto (-33), 3) := by decide +kernel
theorem dX12_landOf_40 : decode cX12_landOf 40 = .ok (.iload_n 2, 1) := by decide +kernel
theorem dX12_landOf_41 : decode cX12_landOf 41 = .ok (.ireturn, 1) := by decide +kernel
def fX12_landOf_32 (r4 : Nat → Int32 → Int32 → Int32 → Option Int32) (N n : Nat) (f : zF) (a0 : Nat) (a1 : Int32) (a3 : Int32) (t0 : Int32) (t1 : Int32) : Option Int32 :=
    (r4 a0 a1 (t0 + t1) (a3 + 1))
set_option maxRecDepth 100000 in
set_option maxHeartbeats 4000000 in
theorem gX12_landOf_32 (l : Launch) {G : zG} {p : Program} {e : Env} {s : State} {m : MethodId} {args : Array Value} {below : List Frame} {meth : Method} {c : Code} {f : zF} {N n : Nat} {r : Int32} {r4 : Nat → Int32 → Int32 → Int32 → Option Int32} (B : zB G p s m args meth c RX12 cX12_landOf 4 (some .int)) (hr4 : ∀ (a0 : Nat) (a1 : Int32) (a2 : Int32) (a3 : Int32) (H : Heap) (locs : List Loc) (ls : Array Slot), r4 a0 a1 a2 a3 = some r → zS G n f H locs → lv_has ls 4 [(0, zr G a0), (1, .int a1), (2, .int a2), (3, .int a3)] → W p l e (zrm 0) s m args below meth c H locs 0 0 (MQ below (zQc G n f (some (.int r))) args s 0 0 (zA G)) (F0 m 4 ls [])) : ∀ (a0 : Nat) (a1 : Int32) (a3 : Int32) (t0 : Int32) (t1 : Int32) (H : Heap) (locs : List Loc) (ls : Array Slot), fX12_landOf_32 r4 N n f a0 a1 a3 t0 t1 = some r → zS G n f H locs → lv_has ls 4 [(0, zr G a0), (1, .int a1), (3, .int a3)] → W p l e (zrm 0) s m args below meth c H locs 0 0 (MQ below (zQc G n f (some (.int r))) args s 0 0 (zA G)) (F0 m 32 ls [.int t1, .int t0]) := by
  have he := B.1
  have hb := B.2.1
  intro a0 a1 a3 t0 t1 H locs ls h hS hl
  unfold fX12_landOf_32 at h
  refine lv_iadd he hb dX12_landOf_32 ?_
  refine lv_istore_n (lv' := [(2, _), (0, _), (1, _), (3, _)]) he hb dX12_landOf_33 rfl hl (by decide) rfl (fun ls hl => ?_)
  refine lv_iinc (v := (a3 + 1)) (lv' := [(3, _), (2, _), (0, _), (1, _)]) he hb dX12_landOf_34 hl (k := 3) rfl rfl (by decide) rfl (fun ls hl => ?_)
  refine lv_goto (tgt := 4) he hb dX12_landOf_37 (by decide) ?_
  exact hr4 _ _ _ _ _ _ _ h hS (lv_sub hl [2, 3, 1, 0] rfl)
def fX12_landOf_4 (N n : Nat) (f : zF) : Nat → Nat → Int32 → Int32 → Int32 → Option Int32
  | 0, _, _, _, _ => none
  | k + 1, a0, a1, a2, a3 =>
    (if (81 : Int32) ≤ a3 then some a2 else ((zgR n f 12 a0 6).bind fun x1 => ((zlI n f 0 x1 ((169 : Int32) + a3)).bind fun x2 => (if x2 = (a1 + (1 : Int32)) then (fX12_landOf_32 (fX12_landOf_4 N n f k) N n f a0 a1 a3 a2 (1 : Int32)) else (fX12_landOf_32 (fX12_landOf_4 N n f k) N n f a0 a1 a3 a2 (0 : Int32))))))
set_option maxRecDepth 100000 in
set_option maxHeartbeats 4000000 in
theorem gX12_landOf_4 (l : Launch) {G : zG} {p : Program} {e : Env} {s : State} {m : MethodId} {args : Array Value} {below : List Frame} {meth : Method} {c : Code} {f : zF} {N n : Nat} {r : Int32} (B : zB G p s m args meth c RX12 cX12_landOf 4 (some .int)) : ∀ (k : Nat), ∀ (a0 : Nat) (a1 : Int32) (a2 : Int32) (a3 : Int32) (H : Heap) (locs : List Loc) (ls : Array Slot), fX12_landOf_4 N n f k a0 a1 a2 a3 = some r → zS G n f H locs → lv_has ls 4 [(0, zr G a0), (1, .int a1), (2, .int a2), (3, .int a3)] → W p l e (zrm 0) s m args below meth c H locs 0 0 (MQ below (zQc G n f (some (.int r))) args s 0 0 (zA G)) (F0 m 4 ls []) := by
  have he := B.1
  have hb := B.2.1
  intro k
  induction k with
  | zero =>
    intro a0 a1 a2 a3 H locs ls h
    unfold fX12_landOf_4 at h
    cases h
  | succ k ih =>
    intro a0 a1 a2 a3 H locs ls h hS hl
    unfold fX12_landOf_4 at h
    refine lv_iload_n he hb dX12_landOf_4 rfl (lv_at hl 3 rfl) ?_
    refine lv_bipush (v := (81 : Int32)) he hb dX12_landOf_5 (by decide) ?_
    refine lv_icmp_ge (tgt := 40) he hb dX12_landOf_7 (by decide) (fun hc => ?_) (fun hc => ?_)
    · rw [if_pos hc] at h
      refine lv_iload_n he hb dX12_landOf_40 rfl (lv_at hl 2 rfl) ?_
      obtain rfl := Option.some.inj h
      exact z_iret B hS dX12_landOf_41
    · rw [if_neg hc] at h
      refine lv_iload_n he hb dX12_landOf_10 rfl (lv_at hl 2 rfl) ?_
      refine z_aload_n he hb dX12_landOf_11 rfl (lv_at hl 0 rfl) (zref_r _ _) ?_
      obtain ⟨x1, hx, h⟩ := zob h
      refine z_getR (ci := 12) (T := TX12) (N := 50) (j := 6) B hS hx rfl zin_X12 (by decide) zk_1353 dX12_landOf_12 ?_
      refine lv_sipush (v := (169 : Int32)) he hb dX12_landOf_15 (by decide) ?_
      refine lv_iload_n he hb dX12_landOf_18 rfl (lv_at hl 3 rfl) ?_
      refine lv_iadd he hb dX12_landOf_19 ?_
      obtain ⟨x2, hx, h⟩ := zob h
      refine z_ildI B hS hx dX12_landOf_20 ?_
      refine lv_iload_n he hb dX12_landOf_21 rfl (lv_at hl 1 rfl) ?_
      refine lv_iconst (v := (1 : Int32)) he hb dX12_landOf_22 (by decide) ?_
      refine lv_iadd he hb dX12_landOf_23 ?_
      refine lv_icmp_ne (tgt := 31) he hb dX12_landOf_24 (by decide) (fun hc => ?_) (fun hc => ?_)
      · rw [if_neg hc] at h
        refine lv_iconst (v := (0 : Int32)) he hb dX12_landOf_31 (by decide) ?_
        exact gX12_landOf_32 l B ih _ _ _ _ _ _ _ _ h hS (lv_sub hl [0, 1, 3] rfl)
      · rw [if_pos hc] at h
        refine lv_iconst (v := (1 : Int32)) he hb dX12_landOf_27 (by decide) ?_
        refine lv_goto (tgt := 32) he hb dX12_landOf_28 (by decide) ?_
        exact gX12_landOf_32 l B ih _ _ _ _ _ _ _ _ h hS (lv_sub hl [0, 1, 3] rfl)
def fX12_landOf (N n : Nat) (f : zF) (a0 : Nat) (a1 : Int32) : Option Int32 :=
    (fX12_landOf_4 N n f N a0 a1 (0 : Int32) (0 : Int32))
set_option maxRecDepth 100000 in
set_option maxHeartbeats 4000000 in
theorem mX12_landOf (l : Launch) (G : zG) {N n : Nat} {f : zF} {r : Int32} {a0 : Nat} {a1 : Int32} (h : fX12_landOf N n f a0 a1 = some r) : zM l G yX12_landOf cX12_landOf 4 (some .int) 0 n f [zr G a0, .int a1] (some (.int r)) f := by
  refine zM.of (by decide) (Nat.le_of_ble_eq_true rfl) ?_
  intro p e s m args below meth c locs ls B hS hl
  have he := B.1
  have hb := B.2.1
  have hl : lv_has ls 4 [(0, zr G a0), (1, .int a1)] := hl
  unfold fX12_landOf at h
  generalize s.heap = H at hS ⊢
  refine lv_iconst (v := (0 : Int32)) he hb dX12_landOf_0 (by decide) ?_
  refine lv_istore_n (lv' := [(2, _), (0, _), (1, _)]) he hb dX12_landOf_1 rfl hl (by decide) rfl (fun ls hl => ?_)
  refine lv_iconst (v := (0 : Int32)) he hb dX12_landOf_2 (by decide) ?_
  refine lv_istore_n (lv' := [(3, _), (2, _), (0, _), (1, _)]) he hb dX12_landOf_3 rfl hl (by decide) rfl (fun ls hl => ?_)
  exact gX12_landOf_4 l B N _ _ _ _ _ _ _ h hS (lv_sub hl [2, 3, 1, 0] rfl)
theorem dX12_figure_0 : decode cX12_figure 0 = .ok (.aload_n 0, 1) := by decide +kernel
theorem dX12_figure_1 : decode cX12_figure 1 = .ok (.aload_n 0, 1) := by decide +kernel
theorem dX12_figure_2 : decode cX12_figure 2 = .ok (.iload_n 1, 1) := by decide +kernel
theorem dX12_figure_3 : decode cX12_figure 3 = .ok (.invokevirtual 304, 3) := by decide +kernel
theorem dX12_figure_6 : decode cX12_figure 6 = .ok (.ifCond .eq 13, 3) := by decide +kernel
theorem dX12_figure_9 : decode cX12_figure 9 = .ok (.iload_n 2, 1) := by decide +kernel
theorem dX12_figure_10 : decode cX12_figure 10 = .ok (.iconst 0, 1) := by decide +kernel
theorem dX12_figure_11 : decode cX12_figure 11 = .ok (.bipush 7, 2) := by decide +kernel
theorem dX12_figure_13 : decode cX12_figure 13 = .ok (.invokestatic 192, 3) := by decide +kernel
theorem dX12_figure_16 : decode cX12_figure 16 = .ok (.ifCond .ne 7, 3) := by decide +kernel
theorem dX12_figure_19 : decode cX12_figure 19 = .ok (.iconst 1, 1) := by decide +kernel
theorem dX12_figure_20 : decode cX12_figure 20 = .ok (.goto 4, 3) := by decide +kernel
theorem dX12_figure_23 : decode cX12_figure 23 = .ok (.iconst 0, 1) := by decide +kernel
theorem dX12_figure_24 : decode cX12_figure 24 = .ok (.invokevirtual 307, 3) := by decide +kernel
theorem dX12_figure_27 : decode cX12_figure 27 = .ok (.ifCond .eq 5, 3) := by decide +kernel
theorem dX12_figure_30 : decode cX12_figure 30 = .ok (.iconst 0, 1) := by decide +kernel
theorem dX12_figure_31 : decode cX12_figure 31 = .ok (.ireturn, 1) := by decide +kernel
theorem dX12_figure_32 : decode cX12_figure 32 = .ok (.iload_n 2, 1) := by decide +kernel
theorem dX12_figure_33 : decode cX12_figure 33 = .ok (.tableswitch 119 0 6 #[43, 57, 71, 82, 92, 102, 113], 43) := by decide +kernel
theorem dX12_figure_76 : decode cX12_figure 76 = .ok (.aload_n 0, 1) := by decide +kernel
theorem dX12_figure_77 : decode cX12_figure 77 = .ok (.getfield 33, 3) := by decide +kernel
theorem dX12_figure_80 : decode cX12_figure 80 = .ok (.sipush 141, 3) := by decide +kernel
theorem dX12_figure_83 : decode cX12_figure 83 = .ok (.iload_n 1, 1) := by decide +kernel
theorem dX12_figure_84 : decode cX12_figure 84 = .ok (.iadd, 1) := by decide +kernel
theorem dX12_figure_85 : decode cX12_figure 85 = .ok (.iaload, 1) := by decide +kernel
theorem dX12_figure_86 : decode cX12_figure 86 = .ok (.bipush 9, 2) := by decide +kernel
theorem dX12_figure_88 : decode cX12_figure 88 = .ok (.irem, 1) := by decide +kernel
theorem dX12_figure_89 : decode cX12_figure 89 = .ok (.ireturn, 1) := by decide +kernel
theorem dX12_figure_90 : decode cX12_figure 90 = .ok (.aload_n 0, 1) := by decide +kernel
theorem dX12_figure_91 : decode cX12_figure 91 = .ok (.getfield 33, 3) := by decide +kernel
theorem dX12_figure_94 : decode cX12_figure 94 = .ok (.sipush 141, 3) := by decide +kernel
theorem dX12_figure_97 : decode cX12_figure 97 = .ok (.iload_n 1, 1) := by decide +kernel
theorem dX12_figure_98 : decode cX12_figure 98 = .ok (.iadd, 1) := by decide +kernel
theorem dX12_figure_99 : decode cX12_figure 99 = .ok (.iaload, 1) := by decide +kernel
theorem dX12_figure_100 : decode cX12_figure 100 = .ok (.bipush 9, 2) := by decide +kernel
theorem dX12_figure_102 : decode cX12_figure 102 = .ok (.idiv, 1) := by decide +kernel
theorem dX12_figure_103 : decode cX12_figure 103 = .ok (.ireturn, 1) := by decide +kernel
theorem dX12_figure_104 : decode cX12_figure 104 = .ok (.aload_n 0, 1) := by decide +kernel
theorem dX12_figure_105 : decode cX12_figure 105 = .ok (.getfield 33, 3) := by decide +kernel
theorem dX12_figure_108 : decode cX12_figure 108 = .ok (.sipush 147, 3) := by decide +kernel
theorem dX12_figure_111 : decode cX12_figure 111 = .ok (.iload_n 1, 1) := by decide +kernel
theorem dX12_figure_112 : decode cX12_figure 112 = .ok (.iadd, 1) := by decide +kernel
theorem dX12_figure_113 : decode cX12_figure 113 = .ok (.iaload, 1) := by decide +kernel
theorem dX12_figure_114 : decode cX12_figure 114 = .ok (.ireturn, 1) := by decide +kernel
theorem dX12_figure_115 : decode cX12_figure 115 = .ok (.aload_n 0, 1) := by decide +kernel
theorem dX12_figure_116 : decode cX12_figure 116 = .ok (.getfield 33, 3) := by decide +kernel
theorem dX12_figure_119 : decode cX12_figure 119 = .ok (.bipush 95, 2) := by decide +kernel
theorem dX12_figure_121 : decode cX12_figure 121 = .ok (.iload_n 1, 1) := by decide +kernel
theorem dX12_figure_122 : decode cX12_figure 122 = .ok (.iadd, 1) := by decide +kernel
theorem dX12_figure_123 : decode cX12_figure 123 = .ok (.iaload, 1) := by decide +kernel
theorem dX12_figure_124 : decode cX12_figure 124 = .ok (.ireturn, 1) := by decide +kernel
theorem dX12_figure_125 : decode cX12_figure 125 = .ok (.aload_n 0, 1) := by decide +kernel
theorem dX12_figure_126 : decode cX12_figure 126 = .ok (.getfield 33, 3) := by decide +kernel
theorem dX12_figure_129 : decode cX12_figure 129 = .ok (.bipush 113, 2) := by decide +kernel
theorem dX12_figure_131 : decode cX12_figure 131 = .ok (.iload_n 1, 1) := by decide +kernel
theorem dX12_figure_132 : decode cX12_figure 132 = .ok (.iadd, 1) := by decide +kernel
theorem dX12_figure_133 : decode cX12_figure 133 = .ok (.iaload, 1) := by decide +kernel
theorem dX12_figure_134 : decode cX12_figure 134 = .ok (.ireturn, 1) := by decide +kernel
theorem dX12_figure_135 : decode cX12_figure 135 = .ok (.aload_n 0, 1) := by decide +kernel
theorem dX12_figure_136 : decode cX12_figure 136 = .ok (.getfield 33, 3) := by decide +kernel
theorem dX12_figure_139 : decode cX12_figure 139 = .ok (.sipush 153, 3) := by decide +kernel
theorem dX12_figure_142 : decode cX12_figure 142 = .ok (.iload_n 1, 1) := by decide +kernel
theorem dX12_figure_143 : decode cX12_figure 143 = .ok (.iadd, 1) := by decide +kernel
theorem dX12_figure_144 : decode cX12_figure 144 = .ok (.iaload, 1) := by decide +kernel
theorem dX12_figure_145 : decode cX12_figure 145 = .ok (.ireturn, 1) := by decide +kernel
theorem dX12_figure_146 : decode cX12_figure 146 = .ok (.aload_n 0, 1) := by decide +kernel
theorem dX12_figure_147 : decode cX12_figure 147 = .ok (.iload_n 1, 1) := by decide +kernel
theorem dX12_figure_148 : decode cX12_figure 148 = .ok (.invokevirtual 311, 3) := by decide +kernel
theorem dX12_figure_151 : decode cX12_figure 151 = .ok (.ireturn, 1) := by decide +kernel
theorem dX12_figure_152 : decode cX12_figure 152 = .ok (.aload_n 0, 1) := by decide +kernel
theorem dX12_figure_153 : decode cX12_figure 153 = .ok (.iload_n 1, 1) := by decide +kernel
theorem dX12_figure_154 : decode cX12_figure 154 = .ok (.invokevirtual 314, 3) := by decide +kernel
theorem dX12_figure_157 : decode cX12_figure 157 = .ok (.ifCond .eq 7, 3) := by decide +kernel
theorem dX12_figure_160 : decode cX12_figure 160 = .ok (.iconst 1, 1) := by decide +kernel
theorem dX12_figure_161 : decode cX12_figure 161 = .ok (.goto 4, 3) := by decide +kernel
theorem dX12_figure_164 : decode cX12_figure 164 = .ok (.iconst 0, 1) := by decide +kernel
theorem dX12_figure_165 : decode cX12_figure 165 = .ok (.ireturn, 1) := by decide +kernel
def fX12_figure_24 (N n : Nat) (f : zF) (a0 : Nat) (a1 : Int32) (a2 : Int32) (t0 : Nat) (t1 : Int32) : Option (zF × Int32) :=
    ((zck n f 12 t0).bind fun _ => (zbd (fX12_throwsIf N n f t0 t1) fun f3 x2 => (if x2 = 0 then (if a2 = (0 : Int32) then ((zgR n f3 12 a0 6).bind fun x4 => ((zlI n f3 0 x4 ((141 : Int32) + a1)).bind fun x5 => some (f3, (zrem x5 (9 : Int32))))) else (if a2 = (1 : Int32) then ((zgR n f3 12 a0 6).bind fun x6 => ((zlI n f3 0 x6 ((141 : Int32) + a1)).bind fun x7 => some (f3, (x7 / (9 : Int32))))) else (if a2 = (2 : Int32) then ((zgR n f3 12 a0 6).bind fun x8 => ((zlI n f3 0 x8 ((147 : Int32) + a1)).bind fun x9 => some (f3, x9))) else (if a2 = (3 : Int32) then ((zgR n f3 12 a0 6).bind fun x10 => ((zlI n f3 0 x10 ((95 : Int32) + a1)).bind fun x11 => some (f3, x11))) else (if a2 = (4 : Int32) then ((zgR n f3 12 a0 6).bind fun x12 => ((zlI n f3 0 x12 ((113 : Int32) + a1)).bind fun x13 => some (f3, x13))) else (if a2 = (5 : Int32) then ((zgR n f3 12 a0 6).bind fun x14 => ((zlI n f3 0 x14 ((153 : Int32) + a1)).bind fun x15 => some (f3, x15))) else (if a2 = (6 : Int32) then ((zck n f3 12 a0).bind fun _ => ((fX12_seenBy N n f3 a0 a1).bind fun x16 => some (f3, x16))) else ((zck n f3 12 a0).bind fun _ => ((fX12_canGo N n f3 a0 a1).bind fun x17 => (if x17 = 0 then some (f3, (0 : Int32)) else some (f3, (1 : Int32)))))))))))) else some (f3, (0 : Int32)))))
set_option maxRecDepth 100000 in
set_option maxHeartbeats 4000000 in
theorem gX12_figure_24 (l : Launch) {G : zG} {p : Program} {e : Env} {s : State} {m : MethodId} {args : Array Value} {below : List Frame} {meth : Method} {c : Code} {N n : Nat} {f9 : zF} {r : Int32} (B : zB G p s m args meth c RX12 cX12_figure 3 (some .int)) : ∀ (f : zF) (a0 : Nat) (a1 : Int32) (a2 : Int32) (t0 : Nat) (t1 : Int32) (H : Heap) (locs : List Loc) (ls : Array Slot), fX12_figure_24 N n f a0 a1 a2 t0 t1 = some (f9, r) → zS G n f H locs → lv_has ls 3 [(0, zr G a0), (1, .int a1), (2, .int a2)] → W p l e (zrm 6) s m args below meth c H locs 0 0 (MQ below (zQc G n f9 (some (.int r))) args s 0 0 (zA G)) (F0 m 24 ls [.int t1, zr G t0]) := by
  have he := B.1
  have hb := B.2.1
  intro f a0 a1 a2 t0 t1 H locs ls h hS hl
  unfold fX12_figure_24 at h
  obtain ⟨_, hc, h⟩ := zob h
  obtain ⟨f3, x2, hx, h⟩ := zbd_i h
  refine z_callV (ci := 12) (T := TX12) (N := 50) (rest := []) B hS (mX12_throwsIf l G hx) zy_X12_throwsIf zk_1628 (by decide) hc rfl rfl hl rfl (Nat.le_of_ble_eq_true rfl) dX12_figure_24 (kk := (fun H locs hS => ?_))
  refine lv_if_eq (tgt := 32) he hb dX12_figure_27 (by decide) (fun hc => ?_) (fun hc => ?_)
  · rw [if_pos hc] at h
    refine lv_iload_n he hb dX12_figure_32 rfl (lv_at hl 2 rfl) ?_
    by_cases hc0 : a2 = (0 : Int32)
    · rw [if_pos hc0] at h
      refine lv_tableIn (tgt := 76) he hb dX12_figure_33 (by rw [hc0]; decide) (by rw [hc0]; decide) (by rw [hc0]; rfl) (by decide) ?_
      refine z_aload_n he hb dX12_figure_76 rfl (lv_at hl 0 rfl) (zref_r _ _) ?_
      obtain ⟨x4, hx, h⟩ := zob h
      refine z_getR (ci := 12) (T := TX12) (N := 50) (j := 6) B hS hx rfl zin_X12 (by decide) zk_1353 dX12_figure_77 ?_
      refine lv_sipush (v := (141 : Int32)) he hb dX12_figure_80 (by decide) ?_
      refine lv_iload_n he hb dX12_figure_83 rfl (lv_at hl 1 rfl) ?_
      refine lv_iadd he hb dX12_figure_84 ?_
      obtain ⟨x5, hx, h⟩ := zob h
      refine z_ildI B hS hx dX12_figure_85 ?_
      refine lv_bipush (v := (9 : Int32)) he hb dX12_figure_86 (by decide) ?_
      refine z_irem he hb dX12_figure_88 (by decide) ?_
      obtain ⟨rfl, rfl⟩ := Prod.mk.inj (Option.some.inj h)
      exact z_iret B hS dX12_figure_89
    rw [if_neg hc0] at h
    by_cases hc1 : a2 = (1 : Int32)
    · rw [if_pos hc1] at h
      refine lv_tableIn (tgt := 90) he hb dX12_figure_33 (by rw [hc1]; decide) (by rw [hc1]; decide) (by rw [hc1]; rfl) (by decide) ?_
      refine z_aload_n he hb dX12_figure_90 rfl (lv_at hl 0 rfl) (zref_r _ _) ?_
      obtain ⟨x6, hx, h⟩ := zob h
      refine z_getR (ci := 12) (T := TX12) (N := 50) (j := 6) B hS hx rfl zin_X12 (by decide) zk_1353 dX12_figure_91 ?_
      refine lv_sipush (v := (141 : Int32)) he hb dX12_figure_94 (by decide) ?_
      refine lv_iload_n he hb dX12_figure_97 rfl (lv_at hl 1 rfl) ?_
      refine lv_iadd he hb dX12_figure_98 ?_
      obtain ⟨x7, hx, h⟩ := zob h
      refine z_ildI B hS hx dX12_figure_99 ?_
      refine lv_bipush (v := (9 : Int32)) he hb dX12_figure_100 (by decide) ?_
      refine lv_idiv he hb dX12_figure_102 (by decide) ?_
      obtain ⟨rfl, rfl⟩ := Prod.mk.inj (Option.some.inj h)
      exact z_iret B hS dX12_figure_103
    rw [if_neg hc1] at h
    by_cases hc2 : a2 = (2 : Int32)
    · rw [if_pos hc2] at h
      refine lv_tableIn (tgt := 104) he hb dX12_figure_33 (by rw [hc2]; decide) (by rw [hc2]; decide) (by rw [hc2]; rfl) (by decide) ?_
      refine z_aload_n he hb dX12_figure_104 rfl (lv_at hl 0 rfl) (zref_r _ _) ?_
      obtain ⟨x8, hx, h⟩ := zob h
      refine z_getR (ci := 12) (T := TX12) (N := 50) (j := 6) B hS hx rfl zin_X12 (by decide) zk_1353 dX12_figure_105 ?_
      refine lv_sipush (v := (147 : Int32)) he hb dX12_figure_108 (by decide) ?_
      refine lv_iload_n he hb dX12_figure_111 rfl (lv_at hl 1 rfl) ?_
      refine lv_iadd he hb dX12_figure_112 ?_
      obtain ⟨x9, hx, h⟩ := zob h
      refine z_ildI B hS hx dX12_figure_113 ?_
      obtain ⟨rfl, rfl⟩ := Prod.mk.inj (Option.some.inj h)
      exact z_iret B hS dX12_figure_114
    rw [if_neg hc2] at h
    by_cases hc3 : a2 = (3 : Int32)
    · rw [if_pos hc3] at h
      refine lv_tableIn (tgt := 115) he hb dX12_figure_33 (by rw [hc3]; decide) (by rw [hc3]; decide) (by rw [hc3]; rfl) (by decide) ?_
      refine z_aload_n he hb dX12_figure_115 rfl (lv_at hl 0 rfl) (zref_r _ _) ?_
      obtain ⟨x10, hx, h⟩ := zob h
      refine z_getR (ci := 12) (T := TX12) (N := 50) (j := 6) B hS hx rfl zin_X12 (by decide) zk_1353 dX12_figure_116 ?_
      refine lv_bipush (v := (95 : Int32)) he hb dX12_figure_119 (by decide) ?_
      refine lv_iload_n he hb dX12_figure_121 rfl (lv_at hl 1 rfl) ?_
      refine lv_iadd he hb dX12_figure_122 ?_
      obtain ⟨x11, hx, h⟩ := zob h
      refine z_ildI B hS hx dX12_figure_123 ?_
      obtain ⟨rfl, rfl⟩ := Prod.mk.inj (Option.some.inj h)
      exact z_iret B hS dX12_figure_124
    rw [if_neg hc3] at h
    by_cases hc4 : a2 = (4 : Int32)
    · rw [if_pos hc4] at h
      refine lv_tableIn (tgt := 125) he hb dX12_figure_33 (by rw [hc4]; decide) (by rw [hc4]; decide) (by rw [hc4]; rfl) (by decide) ?_
      refine z_aload_n he hb dX12_figure_125 rfl (lv_at hl 0 rfl) (zref_r _ _) ?_
      obtain ⟨x12, hx, h⟩ := zob h
      refine z_getR (ci := 12) (T := TX12) (N := 50) (j := 6) B hS hx rfl zin_X12 (by decide) zk_1353 dX12_figure_126 ?_
      refine lv_bipush (v := (113 : Int32)) he hb dX12_figure_129 (by decide) ?_
      refine lv_iload_n he hb dX12_figure_131 rfl (lv_at hl 1 rfl) ?_
      refine lv_iadd he hb dX12_figure_132 ?_
      obtain ⟨x13, hx, h⟩ := zob h
      refine z_ildI B hS hx dX12_figure_133 ?_
      obtain ⟨rfl, rfl⟩ := Prod.mk.inj (Option.some.inj h)
      exact z_iret B hS dX12_figure_134
    rw [if_neg hc4] at h
    by_cases hc5 : a2 = (5 : Int32)
    · rw [if_pos hc5] at h
      refine lv_tableIn (tgt := 135) he hb dX12_figure_33 (by rw [hc5]; decide) (by rw [hc5]; decide) (by rw [hc5]; rfl) (by decide) ?_
      refine z_aload_n he hb dX12_figure_135 rfl (lv_at hl 0 rfl) (zref_r _ _) ?_
      obtain ⟨x14, hx, h⟩ := zob h
      refine z_getR (ci := 12) (T := TX12) (N := 50) (j := 6) B hS hx rfl zin_X12 (by decide) zk_1353 dX12_figure_136 ?_
      refine lv_sipush (v := (153 : Int32)) he hb dX12_figure_139 (by decide) ?_
      refine lv_iload_n he hb dX12_figure_142 rfl (lv_at hl 1 rfl) ?_
      refine lv_iadd he hb dX12_figure_143 ?_
      obtain ⟨x15, hx, h⟩ := zob h
      refine z_ildI B hS hx dX12_figure_144 ?_
      obtain ⟨rfl, rfl⟩ := Prod.mk.inj (Option.some.inj h)
      exact z_iret B hS dX12_figure_145
    rw [if_neg hc5] at h
    by_cases hc6 : a2 = (6 : Int32)
    · rw [if_pos hc6] at h
      refine lv_tableIn (tgt := 146) he hb dX12_figure_33 (by rw [hc6]; decide) (by rw [hc6]; decide) (by rw [hc6]; rfl) (by decide) ?_
      refine z_aload_n he hb dX12_figure_146 rfl (lv_at hl 0 rfl) (zref_r _ _) ?_
      refine lv_iload_n he hb dX12_figure_147 rfl (lv_at hl 1 rfl) ?_
      obtain ⟨_, hc, h⟩ := zob h
      obtain ⟨x16, hx, h⟩ := zob h
      refine z_callV (ci := 12) (T := TX12) (N := 50) (rest := []) B hS (mX12_seenBy l G hx) zy_X12_seenBy zk_1632 (by decide) hc rfl rfl hl rfl (Nat.le_of_ble_eq_true rfl) dX12_figure_148 (kk := (fun H locs hS => ?_))
      obtain ⟨rfl, rfl⟩ := Prod.mk.inj (Option.some.inj h)
      exact z_iret B hS dX12_figure_151
    rw [if_neg hc6] at h
    refine lv_tableOut (tgt := 152) he hb dX12_figure_33 ?_ (by decide) ?_
    · have h0 := lv_neT hc0 (a := 0) rfl; have h1 := lv_neT hc1 (a := 1) rfl; have h2 := lv_neT hc2 (a := 2) rfl; have h3 := lv_neT hc3 (a := 3) rfl; have h4 := lv_neT hc4 (a := 4) rfl; have h5 := lv_neT hc5 (a := 5) rfl; have h6 := lv_neT hc6 (a := 6) rfl; omega
    · skip
      refine z_aload_n he hb dX12_figure_152 rfl (lv_at hl 0 rfl) (zref_r _ _) ?_
      refine lv_iload_n he hb dX12_figure_153 rfl (lv_at hl 1 rfl) ?_
      obtain ⟨_, hc, h⟩ := zob h
      obtain ⟨x17, hx, h⟩ := zob h
      refine z_callV (ci := 12) (T := TX12) (N := 50) (rest := []) B hS (mX12_canGo l G hx) zy_X12_canGo zk_1663 (by decide) hc rfl rfl hl rfl (Nat.le_of_ble_eq_true rfl) dX12_figure_154 (kk := (fun H locs hS => ?_))
      refine lv_if_eq (tgt := 164) he hb dX12_figure_157 (by decide) (fun hc => ?_) (fun hc => ?_)
      · rw [if_pos hc] at h
        refine lv_iconst (v := (0 : Int32)) he hb dX12_figure_164 (by decide) ?_
        obtain ⟨rfl, rfl⟩ := Prod.mk.inj (Option.some.inj h)
        exact z_iret B hS dX12_figure_165
      · rw [if_neg hc] at h
        refine lv_iconst (v := (1 : Int32)) he hb dX12_figure_160 (by decide) ?_
        refine lv_goto (tgt := 165) he hb dX12_figure_161 (by decide) ?_
        obtain ⟨rfl, rfl⟩ := Prod.mk.inj (Option.some.inj h)
        exact z_iret B hS dX12_figure_165
  · rw [if_neg hc] at h
    refine lv_iconst (v := (0 : Int32)) he hb dX12_figure_30 (by decide) ?_
    obtain ⟨rfl, rfl⟩ := Prod.mk.inj (Option.some.inj h)
    exact z_iret B hS dX12_figure_31
def fX12_figure_19 (N n : Nat) (f : zF) (a0 : Nat) (a1 : Int32) (a2 : Int32) (t0 : Nat) : Option (zF × Int32) :=
    (fX12_figure_24 N n f a0 a1 a2 t0 (1 : Int32))
set_option maxRecDepth 100000 in
set_option maxHeartbeats 4000000 in
theorem gX12_figure_19 (l : Launch) {G : zG} {p : Program} {e : Env} {s : State} {m : MethodId} {args : Array Value} {below : List Frame} {meth : Method} {c : Code} {N n : Nat} {f9 : zF} {r : Int32} (B : zB G p s m args meth c RX12 cX12_figure 3 (some .int)) : ∀ (f : zF) (a0 : Nat) (a1 : Int32) (a2 : Int32) (t0 : Nat) (H : Heap) (locs : List Loc) (ls : Array Slot), fX12_figure_19 N n f a0 a1 a2 t0 = some (f9, r) → zS G n f H locs → lv_has ls 3 [(0, zr G a0), (1, .int a1), (2, .int a2)] → W p l e (zrm 6) s m args below meth c H locs 0 0 (MQ below (zQc G n f9 (some (.int r))) args s 0 0 (zA G)) (F0 m 19 ls [zr G t0]) := by
  have he := B.1
  have hb := B.2.1
  intro f a0 a1 a2 t0 H locs ls h hS hl
  unfold fX12_figure_19 at h
  refine lv_iconst (v := (1 : Int32)) he hb dX12_figure_19 (by decide) ?_
  refine lv_goto (tgt := 24) he hb dX12_figure_20 (by decide) ?_
  exact gX12_figure_24 l B _ _ _ _ _ _ _ _ _ h hS (lv_sub hl [0, 1, 2] rfl)
def fX12_figure (N n : Nat) (f : zF) (a0 : Nat) (a1 : Int32) (a2 : Int32) : Option (zF × Int32) :=
    ((zck n f 12 a0).bind fun _ => ((fX12_isFigure N n f a0 a1).bind fun x1 => (if x1 = 0 then (fX12_figure_19 N n f a0 a1 a2 a0) else ((fX12_isIn N n f a2 (0 : Int32) (7 : Int32)).bind fun x18 => (if x18 = 0 then (fX12_figure_19 N n f a0 a1 a2 a0) else (fX12_figure_24 N n f a0 a1 a2 a0 (0 : Int32)))))))
set_option maxRecDepth 100000 in
set_option maxHeartbeats 4000000 in
theorem mX12_figure (l : Launch) (G : zG) {N n : Nat} {f : zF} {f9 : zF} {r : Int32} {a0 : Nat} {a1 : Int32} {a2 : Int32} (h : fX12_figure N n f a0 a1 a2 = some (f9, r)) : zM l G yX12_figure cX12_figure 3 (some .int) 6 n f [zr G a0, .int a1, .int a2] (some (.int r)) f9 := by
  refine zM.of (by decide) (Nat.le_of_ble_eq_true rfl) ?_
  intro p e s m args below meth c locs ls B hS hl
  have he := B.1
  have hb := B.2.1
  have hl : lv_has ls 3 [(0, zr G a0), (1, .int a1), (2, .int a2)] := hl
  unfold fX12_figure at h
  generalize s.heap = H at hS ⊢
  refine z_aload_n he hb dX12_figure_0 rfl (lv_at hl 0 rfl) (zref_r _ _) ?_
  refine z_aload_n he hb dX12_figure_1 rfl (lv_at hl 0 rfl) (zref_r _ _) ?_
  refine lv_iload_n he hb dX12_figure_2 rfl (lv_at hl 1 rfl) ?_
  obtain ⟨_, hc, h⟩ := zob h
  obtain ⟨x1, hx, h⟩ := zob h
  refine z_callV (ci := 12) (T := TX12) (N := 50) (rest := [_]) B hS (mX12_isFigure l G hx) zy_X12_isFigure zk_1624 (by decide) hc rfl rfl hl rfl (Nat.le_of_ble_eq_true rfl) dX12_figure_3 (kk := (fun H locs hS => ?_))
  refine lv_if_eq (tgt := 19) he hb dX12_figure_6 (by decide) (fun hc => ?_) (fun hc => ?_)
  · rw [if_pos hc] at h
    exact gX12_figure_19 l B _ _ _ _ _ _ _ _ h hS (lv_sub hl [0, 1, 2] rfl)
  · rw [if_neg hc] at h
    refine lv_iload_n he hb dX12_figure_9 rfl (lv_at hl 2 rfl) ?_
    refine lv_iconst (v := (0 : Int32)) he hb dX12_figure_10 (by decide) ?_
    refine lv_bipush (v := (7 : Int32)) he hb dX12_figure_11 (by decide) ?_
    obtain ⟨x18, hx, h⟩ := zob h
    refine z_callS (rest := [_]) B hS (mX12_isIn l G hx) zy_X12_isIn zk_1545 (by decide) rfl hl rfl (Nat.le_of_ble_eq_true rfl) dX12_figure_13 (kk := (fun H locs hS => ?_))
    refine lv_if_ne (tgt := 23) he hb dX12_figure_16 (by decide) (fun hc => ?_) (fun hc => ?_)
    · rw [if_neg hc] at h
      refine lv_iconst (v := (0 : Int32)) he hb dX12_figure_23 (by decide) ?_
      exact gX12_figure_24 l B _ _ _ _ _ _ _ _ _ h hS (lv_sub hl [0, 1, 2] rfl)
    · rw [if_pos hc] at h
      exact gX12_figure_19 l B _ _ _ _ _ _ _ _ h hS (lv_sub hl [0, 1, 2] rfl)
theorem dX12_looker_0 : decode cX12_looker 0 = .ok (.aload_n 0, 1) := by decide +kernel
theorem dX12_looker_1 : decode cX12_looker 1 = .ok (.iconst 0, 1) := by decide +kernel
theorem dX12_looker_2 : decode cX12_looker 2 = .ok (.putfield 1, 3) := by decide +kernel
theorem dX12_looker_5 : decode cX12_looker 5 = .ok (.aload_n 0, 1) := by decide +kernel
theorem dX12_looker_6 : decode cX12_looker 6 = .ok (.iload_n 1, 1) := by decide +kernel
theorem dX12_looker_7 : decode cX12_looker 7 = .ok (.invokevirtual 317, 3) := by decide +kernel
theorem dX12_looker_10 : decode cX12_looker 10 = .ok (.ifCond .ne 5, 3) := by decide +kernel
theorem dX12_looker_13 : decode cX12_looker 13 = .ok (.iconst (-1), 1) := by decide +kernel
theorem dX12_looker_14 : decode cX12_looker 14 = .ok (.ireturn, 1) := by decide +kernel
theorem dX12_looker_15 : decode cX12_looker 15 = .ok (.iload_n 2, 1) := by decide +kernel
theorem dX12_looker_16 : decode cX12_looker 16 = .ok (.tableswitch 113 0 5 #[40, 54, 68, 79, 93, 107], 40) := by decide +kernel
theorem dX12_looker_56 : decode cX12_looker 56 = .ok (.aload_n 0, 1) := by decide +kernel
theorem dX12_looker_57 : decode cX12_looker 57 = .ok (.getfield 33, 3) := by decide +kernel
theorem dX12_looker_60 : decode cX12_looker 60 = .ok (.sipush 159, 3) := by decide +kernel
theorem dX12_looker_63 : decode cX12_looker 63 = .ok (.iload_n 1, 1) := by decide +kernel
theorem dX12_looker_64 : decode cX12_looker 64 = .ok (.iadd, 1) := by decide +kernel
theorem dX12_looker_65 : decode cX12_looker 65 = .ok (.iaload, 1) := by decide +kernel
theorem dX12_looker_66 : decode cX12_looker 66 = .ok (.bipush 9, 2) := by decide +kernel
theorem dX12_looker_68 : decode cX12_looker 68 = .ok (.irem, 1) := by decide +kernel
theorem dX12_looker_69 : decode cX12_looker 69 = .ok (.ireturn, 1) := by decide +kernel
theorem dX12_looker_70 : decode cX12_looker 70 = .ok (.aload_n 0, 1) := by decide +kernel
theorem dX12_looker_71 : decode cX12_looker 71 = .ok (.getfield 33, 3) := by decide +kernel
theorem dX12_looker_74 : decode cX12_looker 74 = .ok (.sipush 159, 3) := by decide +kernel
theorem dX12_looker_77 : decode cX12_looker 77 = .ok (.iload_n 1, 1) := by decide +kernel
theorem dX12_looker_78 : decode cX12_looker 78 = .ok (.iadd, 1) := by decide +kernel
theorem dX12_looker_79 : decode cX12_looker 79 = .ok (.iaload, 1) := by decide +kernel
theorem dX12_looker_80 : decode cX12_looker 80 = .ok (.bipush 9, 2) := by decide +kernel
theorem dX12_looker_82 : decode cX12_looker 82 = .ok (.idiv, 1) := by decide +kernel
theorem dX12_looker_83 : decode cX12_looker 83 = .ok (.ireturn, 1) := by decide +kernel
theorem dX12_looker_84 : decode cX12_looker 84 = .ok (.aload_n 0, 1) := by decide +kernel
theorem dX12_looker_85 : decode cX12_looker 85 = .ok (.getfield 33, 3) := by decide +kernel
theorem dX12_looker_88 : decode cX12_looker 88 = .ok (.sipush 164, 3) := by decide +kernel
theorem dX12_looker_91 : decode cX12_looker 91 = .ok (.iload_n 1, 1) := by decide +kernel
theorem dX12_looker_92 : decode cX12_looker 92 = .ok (.iadd, 1) := by decide +kernel
theorem dX12_looker_93 : decode cX12_looker 93 = .ok (.iaload, 1) := by decide +kernel
theorem dX12_looker_94 : decode cX12_looker 94 = .ok (.ireturn, 1) := by decide +kernel
theorem dX12_looker_95 : decode cX12_looker 95 = .ok (.aload_n 0, 1) := by decide +kernel
theorem dX12_looker_96 : decode cX12_looker 96 = .ok (.iload_n 1, 1) := by decide +kernel
theorem dX12_looker_97 : decode cX12_looker 97 = .ok (.invokevirtual 292, 3) := by decide +kernel
theorem dX12_looker_100 : decode cX12_looker 100 = .ok (.ifCond .eq 7, 3) := by decide +kernel
theorem dX12_looker_103 : decode cX12_looker 103 = .ok (.iconst 1, 1) := by decide +kernel
theorem dX12_looker_104 : decode cX12_looker 104 = .ok (.goto 4, 3) := by decide +kernel
theorem dX12_looker_107 : decode cX12_looker 107 = .ok (.iconst 0, 1) := by decide +kernel
theorem dX12_looker_108 : decode cX12_looker 108 = .ok (.ireturn, 1) := by decide +kernel
theorem dX12_looker_109 : decode cX12_looker 109 = .ok (.aload_n 0, 1) := by decide +kernel
theorem dX12_looker_110 : decode cX12_looker 110 = .ok (.iload_n 1, 1) := by decide +kernel
theorem dX12_looker_111 : decode cX12_looker 111 = .ok (.invokevirtual 295, 3) := by decide +kernel
theorem dX12_looker_114 : decode cX12_looker 114 = .ok (.ifCond .eq 7, 3) := by decide +kernel
theorem dX12_looker_117 : decode cX12_looker 117 = .ok (.iconst 1, 1) := by decide +kernel
theorem dX12_looker_118 : decode cX12_looker 118 = .ok (.goto 4, 3) := by decide +kernel
theorem dX12_looker_121 : decode cX12_looker 121 = .ok (.iconst 0, 1) := by decide +kernel
theorem dX12_looker_122 : decode cX12_looker 122 = .ok (.ireturn, 1) := by decide +kernel
theorem dX12_looker_123 : decode cX12_looker 123 = .ok (.aload_n 0, 1) := by decide +kernel
theorem dX12_looker_124 : decode cX12_looker 124 = .ok (.iload_n 1, 1) := by decide +kernel
theorem dX12_looker_125 : decode cX12_looker 125 = .ok (.invokevirtual 301, 3) := by decide +kernel
theorem dX12_looker_128 : decode cX12_looker 128 = .ok (.ireturn, 1) := by decide +kernel
theorem dX12_looker_129 : decode cX12_looker 129 = .ok (.iconst (-1), 1) := by decide +kernel
theorem dX12_looker_130 : decode cX12_looker 130 = .ok (.ireturn, 1) := by decide +kernel
def fX12_looker (N n : Nat) (f : zF) (a0 : Nat) (a1 : Int32) (a2 : Int32) : Option (zF × Int32) :=
    ((zpI n f 12 a0 0 (0 : Int32)).bind fun f1 => ((zck n f1 12 a0).bind fun _ => ((fX12_isLooker N n f1 a0 a1).bind fun x2 => (if x2 = 0 then some (f1, (-1 : Int32)) else (if a2 = (0 : Int32) then ((zgR n f1 12 a0 6).bind fun x3 => ((zlI n f1 0 x3 ((159 : Int32) + a1)).bind fun x4 => some (f1, (zrem x4 (9 : Int32))))) else (if a2 = (1 : Int32) then ((zgR n f1 12 a0 6).bind fun x5 => ((zlI n f1 0 x5 ((159 : Int32) + a1)).bind fun x6 => some (f1, (x6 / (9 : Int32))))) else (if a2 = (2 : Int32) then ((zgR n f1 12 a0 6).bind fun x7 => ((zlI n f1 0 x7 ((164 : Int32) + a1)).bind fun x8 => some (f1, x8))) else (if a2 = (3 : Int32) then ((zck n f1 12 a0).bind fun _ => ((fX12_isShut N n f1 a0 a1).bind fun x9 => (if x9 = 0 then some (f1, (0 : Int32)) else some (f1, (1 : Int32))))) else (if a2 = (4 : Int32) then ((zck n f1 12 a0).bind fun _ => ((fX12_isLooking N n f1 a0 a1).bind fun x10 => (if x10 = 0 then some (f1, (0 : Int32)) else some (f1, (1 : Int32))))) else (if a2 = (5 : Int32) then ((zck n f1 12 a0).bind fun _ => ((fX12_seesOf N n f1 a0 a1).bind fun x11 => some (f1, x11))) else some (f1, (-1 : Int32))))))))))))
set_option maxRecDepth 100000 in
set_option maxHeartbeats 4000000 in
theorem mX12_looker (l : Launch) (G : zG) {N n : Nat} {f : zF} {f9 : zF} {r : Int32} {a0 : Nat} {a1 : Int32} {a2 : Int32} (h : fX12_looker N n f a0 a1 a2 = some (f9, r)) : zM l G yX12_looker cX12_looker 3 (some .int) 5 n f [zr G a0, .int a1, .int a2] (some (.int r)) f9 := by
  refine zM.of (by decide) (Nat.le_of_ble_eq_true rfl) ?_
  intro p e s m args below meth c locs ls B hS hl
  have he := B.1
  have hb := B.2.1
  have hl : lv_has ls 3 [(0, zr G a0), (1, .int a1), (2, .int a2)] := hl
  unfold fX12_looker at h
  generalize s.heap = H at hS ⊢
  refine z_aload_n he hb dX12_looker_0 rfl (lv_at hl 0 rfl) (zref_r _ _) ?_
  refine lv_iconst (v := (0 : Int32)) he hb dX12_looker_1 (by decide) ?_
  obtain ⟨f1, hx, h⟩ := zob h
  refine z_putI (ci := 12) (T := TX12) (N := 50) (j := 0) B hS hx rfl zin_X12 tyX12 tyX12_ok nmX12 (by decide) zk_1347 rfl rfl dX12_looker_2 (fun H locs hS => ?_)
  refine z_aload_n he hb dX12_looker_5 rfl (lv_at hl 0 rfl) (zref_r _ _) ?_
  refine lv_iload_n he hb dX12_looker_6 rfl (lv_at hl 1 rfl) ?_
  obtain ⟨_, hc, h⟩ := zob h
  obtain ⟨x2, hx, h⟩ := zob h
  refine z_callV (ci := 12) (T := TX12) (N := 50) (rest := []) B hS (mX12_isLooker l G hx) zy_X12_isLooker zk_1675 (by decide) hc rfl rfl hl rfl (Nat.le_of_ble_eq_true rfl) dX12_looker_7 (kk := (fun H locs hS => ?_))
  refine lv_if_ne (tgt := 15) he hb dX12_looker_10 (by decide) (fun hc => ?_) (fun hc => ?_)
  · rw [if_neg hc] at h
    refine lv_iload_n he hb dX12_looker_15 rfl (lv_at hl 2 rfl) ?_
    by_cases hc0 : a2 = (0 : Int32)
    · rw [if_pos hc0] at h
      refine lv_tableIn (tgt := 56) he hb dX12_looker_16 (by rw [hc0]; decide) (by rw [hc0]; decide) (by rw [hc0]; rfl) (by decide) ?_
      refine z_aload_n he hb dX12_looker_56 rfl (lv_at hl 0 rfl) (zref_r _ _) ?_
      obtain ⟨x3, hx, h⟩ := zob h
      refine z_getR (ci := 12) (T := TX12) (N := 50) (j := 6) B hS hx rfl zin_X12 (by decide) zk_1353 dX12_looker_57 ?_
      refine lv_sipush (v := (159 : Int32)) he hb dX12_looker_60 (by decide) ?_
      refine lv_iload_n he hb dX12_looker_63 rfl (lv_at hl 1 rfl) ?_
      refine lv_iadd he hb dX12_looker_64 ?_
      obtain ⟨x4, hx, h⟩ := zob h
      refine z_ildI B hS hx dX12_looker_65 ?_
      refine lv_bipush (v := (9 : Int32)) he hb dX12_looker_66 (by decide) ?_
      refine z_irem he hb dX12_looker_68 (by decide) ?_
      obtain ⟨rfl, rfl⟩ := Prod.mk.inj (Option.some.inj h)
      exact z_iret B hS dX12_looker_69
    rw [if_neg hc0] at h
    by_cases hc1 : a2 = (1 : Int32)
    · rw [if_pos hc1] at h
      refine lv_tableIn (tgt := 70) he hb dX12_looker_16 (by rw [hc1]; decide) (by rw [hc1]; decide) (by rw [hc1]; rfl) (by decide) ?_
      refine z_aload_n he hb dX12_looker_70 rfl (lv_at hl 0 rfl) (zref_r _ _) ?_
      obtain ⟨x5, hx, h⟩ := zob h
      refine z_getR (ci := 12) (T := TX12) (N := 50) (j := 6) B hS hx rfl zin_X12 (by decide) zk_1353 dX12_looker_71 ?_
      refine lv_sipush (v := (159 : Int32)) he hb dX12_looker_74 (by decide) ?_
      refine lv_iload_n he hb dX12_looker_77 rfl (lv_at hl 1 rfl) ?_
      refine lv_iadd he hb dX12_looker_78 ?_
      obtain ⟨x6, hx, h⟩ := zob h
      refine z_ildI B hS hx dX12_looker_79 ?_
      refine lv_bipush (v := (9 : Int32)) he hb dX12_looker_80 (by decide) ?_
      refine lv_idiv he hb dX12_looker_82 (by decide) ?_
      obtain ⟨rfl, rfl⟩ := Prod.mk.inj (Option.some.inj h)
      exact z_iret B hS dX12_looker_83
    rw [if_neg hc1] at h
    by_cases hc2 : a2 = (2 : Int32)
    · rw [if_pos hc2] at h
      refine lv_tableIn (tgt := 84) he hb dX12_looker_16 (by rw [hc2]; decide) (by rw [hc2]; decide) (by rw [hc2]; rfl) (by decide) ?_
      refine z_aload_n he hb dX12_looker_84 rfl (lv_at hl 0 rfl) (zref_r _ _) ?_
      obtain ⟨x7, hx, h⟩ := zob h
      refine z_getR (ci := 12) (T := TX12) (N := 50) (j := 6) B hS hx rfl zin_X12 (by decide) zk_1353 dX12_looker_85 ?_
      refine lv_sipush (v := (164 : Int32)) he hb dX12_looker_88 (by decide) ?_
      refine lv_iload_n he hb dX12_looker_91 rfl (lv_at hl 1 rfl) ?_
      refine lv_iadd he hb dX12_looker_92 ?_
      obtain ⟨x8, hx, h⟩ := zob h
      refine z_ildI B hS hx dX12_looker_93 ?_
      obtain ⟨rfl, rfl⟩ := Prod.mk.inj (Option.some.inj h)
      exact z_iret B hS dX12_looker_94
    rw [if_neg hc2] at h
    by_cases hc3 : a2 = (3 : Int32)
    · rw [if_pos hc3] at h
      refine lv_tableIn (tgt := 95) he hb dX12_looker_16 (by rw [hc3]; decide) (by rw [hc3]; decide) (by rw [hc3]; rfl) (by decide) ?_
      refine z_aload_n he hb dX12_looker_95 rfl (lv_at hl 0 rfl) (zref_r _ _) ?_
      refine lv_iload_n he hb dX12_looker_96 rfl (lv_at hl 1 rfl) ?_
      obtain ⟨_, hc, h⟩ := zob h
      obtain ⟨x9, hx, h⟩ := zob h
      refine z_callV (ci := 12) (T := TX12) (N := 50) (rest := []) B hS (mX12_isShut l G hx) zy_X12_isShut zk_1644 (by decide) hc rfl rfl hl rfl (Nat.le_of_ble_eq_true rfl) dX12_looker_97 (kk := (fun H locs hS => ?_))
      refine lv_if_eq (tgt := 107) he hb dX12_looker_100 (by decide) (fun hc => ?_) (fun hc => ?_)
      · rw [if_pos hc] at h
        refine lv_iconst (v := (0 : Int32)) he hb dX12_looker_107 (by decide) ?_
        obtain ⟨rfl, rfl⟩ := Prod.mk.inj (Option.some.inj h)
        exact z_iret B hS dX12_looker_108
      · rw [if_neg hc] at h
        refine lv_iconst (v := (1 : Int32)) he hb dX12_looker_103 (by decide) ?_
        refine lv_goto (tgt := 108) he hb dX12_looker_104 (by decide) ?_
        obtain ⟨rfl, rfl⟩ := Prod.mk.inj (Option.some.inj h)
        exact z_iret B hS dX12_looker_108
    rw [if_neg hc3] at h
    by_cases hc4 : a2 = (4 : Int32)
    · rw [if_pos hc4] at h
      refine lv_tableIn (tgt := 109) he hb dX12_looker_16 (by rw [hc4]; decide) (by rw [hc4]; decide) (by rw [hc4]; rfl) (by decide) ?_
      refine z_aload_n he hb dX12_looker_109 rfl (lv_at hl 0 rfl) (zref_r _ _) ?_
      refine lv_iload_n he hb dX12_looker_110 rfl (lv_at hl 1 rfl) ?_
      obtain ⟨_, hc, h⟩ := zob h
      obtain ⟨x10, hx, h⟩ := zob h
      refine z_callV (ci := 12) (T := TX12) (N := 50) (rest := []) B hS (mX12_isLooking l G hx) zy_X12_isLooking zk_1640 (by decide) hc rfl rfl hl rfl (Nat.le_of_ble_eq_true rfl) dX12_looker_111 (kk := (fun H locs hS => ?_))
      refine lv_if_eq (tgt := 121) he hb dX12_looker_114 (by decide) (fun hc => ?_) (fun hc => ?_)
      · rw [if_pos hc] at h
        refine lv_iconst (v := (0 : Int32)) he hb dX12_looker_121 (by decide) ?_
        obtain ⟨rfl, rfl⟩ := Prod.mk.inj (Option.some.inj h)
        exact z_iret B hS dX12_looker_122
      · rw [if_neg hc] at h
        refine lv_iconst (v := (1 : Int32)) he hb dX12_looker_117 (by decide) ?_
        refine lv_goto (tgt := 122) he hb dX12_looker_118 (by decide) ?_
        obtain ⟨rfl, rfl⟩ := Prod.mk.inj (Option.some.inj h)
        exact z_iret B hS dX12_looker_122
    rw [if_neg hc4] at h
    by_cases hc5 : a2 = (5 : Int32)
    · rw [if_pos hc5] at h
      refine lv_tableIn (tgt := 123) he hb dX12_looker_16 (by rw [hc5]; decide) (by rw [hc5]; decide) (by rw [hc5]; rfl) (by decide) ?_
      refine z_aload_n he hb dX12_looker_123 rfl (lv_at hl 0 rfl) (zref_r _ _) ?_
      refine lv_iload_n he hb dX12_looker_124 rfl (lv_at hl 1 rfl) ?_
      obtain ⟨_, hc, h⟩ := zob h
      obtain ⟨x11, hx, h⟩ := zob h
      refine z_callV (ci := 12) (T := TX12) (N := 50) (rest := []) B hS (mX12_seesOf l G hx) zy_X12_seesOf zk_1636 (by decide) hc rfl rfl hl rfl (Nat.le_of_ble_eq_true rfl) dX12_looker_125 (kk := (fun H locs hS => ?_))
      obtain ⟨rfl, rfl⟩ := Prod.mk.inj (Option.some.inj h)
      exact z_iret B hS dX12_looker_128
    rw [if_neg hc5] at h
    refine lv_tableOut (tgt := 129) he hb dX12_looker_16 ?_ (by decide) ?_
    · have h0 := lv_neT hc0 (a := 0) rfl; have h1 := lv_neT hc1 (a := 1) rfl; have h2 := lv_neT hc2 (a := 2) rfl; have h3 := lv_neT hc3 (a := 3) rfl; have h4 := lv_neT hc4 (a := 4) rfl; have h5 := lv_neT hc5 (a := 5) rfl; omega
    · skip
      refine lv_iconst (v := (-1 : Int32)) he hb dX12_looker_129 (by decide) ?_
      obtain ⟨rfl, rfl⟩ := Prod.mk.inj (Option.some.inj h)
      exact z_iret B hS dX12_looker_130
  · rw [if_pos hc] at h
    refine lv_iconst (v := (-1 : Int32)) he hb dX12_looker_13 (by decide) ?_
    obtain ⟨rfl, rfl⟩ := Prod.mk.inj (Option.some.inj h)
    exact z_iret B hS dX12_looker_14
theorem dX12_cell_0 : decode cX12_cell 0 = .ok (.aload_n 0, 1) := by decide +kernel
theorem dX12_cell_1 : decode cX12_cell 1 = .ok (.iconst 0, 1) := by decide +kernel
theorem dX12_cell_2 : decode cX12_cell 2 = .ok (.putfield 1, 3) := by decide +kernel
theorem dX12_cell_5 : decode cX12_cell 5 = .ok (.aload_n 0, 1) := by decide +kernel
theorem dX12_cell_6 : decode cX12_cell 6 = .ok (.iload_n 1, 1) := by decide +kernel
theorem dX12_cell_7 : decode cX12_cell 7 = .ok (.iload_n 2, 1) := by decide +kernel
theorem dX12_cell_8 : decode cX12_cell 8 = .ok (.invokevirtual 277, 3) := by decide +kernel
theorem dX12_cell_11 : decode cX12_cell 11 = .ok (.ifCond .ne 5, 3) := by decide +kernel
theorem dX12_cell_14 : decode cX12_cell 14 = .ok (.iconst (-1), 1) := by decide +kernel
theorem dX12_cell_15 : decode cX12_cell 15 = .ok (.ireturn, 1) := by decide +kernel
theorem dX12_cell_16 : decode cX12_cell 16 = .ok (.bipush 9, 2) := by decide +kernel
theorem dX12_cell_18 : decode cX12_cell 18 = .ok (.iload_n 2, 1) := by decide +kernel
theorem dX12_cell_19 : decode cX12_cell 19 = .ok (.imul, 1) := by decide +kernel
theorem dX12_cell_20 : decode cX12_cell 20 = .ok (.iload_n 1, 1) := by decide +kernel
theorem dX12_cell_21 : decode cX12_cell 21 = .ok (.iadd, 1) := by decide +kernel
theorem dX12_cell_22 : decode cX12_cell 22 = .ok (.istore 4, 2) := by decide +kernel
theorem dX12_cell_24 : decode cX12_cell 24 = .ok (.iload_n 3, 1) := by decide +kernel
theorem dX12_cell_25 : decode cX12_cell 25 = .ok (.tableswitch 69 0 3 #[31, 41, 48, 55], 31) := by decide +kernel
theorem dX12_cell_56 : decode cX12_cell 56 = .ok (.aload_n 0, 1) := by decide +kernel
theorem dX12_cell_57 : decode cX12_cell 57 = .ok (.getfield 33, 3) := by decide +kernel
theorem dX12_cell_60 : decode cX12_cell 60 = .ok (.iconst 5, 1) := by decide +kernel
theorem dX12_cell_61 : decode cX12_cell 61 = .ok (.iload 4, 2) := by decide +kernel
theorem dX12_cell_63 : decode cX12_cell 63 = .ok (.iadd, 1) := by decide +kernel
theorem dX12_cell_64 : decode cX12_cell 64 = .ok (.iaload, 1) := by decide +kernel
theorem dX12_cell_65 : decode cX12_cell 65 = .ok (.ireturn, 1) := by decide +kernel
theorem dX12_cell_66 : decode cX12_cell 66 = .ok (.aload_n 0, 1) := by decide +kernel
theorem dX12_cell_67 : decode cX12_cell 67 = .ok (.iload 4, 2) := by decide +kernel
theorem dX12_cell_69 : decode cX12_cell 69 = .ok (.invokevirtual 283, 3) := by decide +kernel
theorem dX12_cell_72 : decode cX12_cell 72 = .ok (.ireturn, 1) := by decide +kernel
theorem dX12_cell_73 : decode cX12_cell 73 = .ok (.aload_n 0, 1) := by decide +kernel
theorem dX12_cell_74 : decode cX12_cell 74 = .ok (.iload 4, 2) := by decide +kernel
theorem dX12_cell_76 : decode cX12_cell 76 = .ok (.invokevirtual 286, 3) := by decide +kernel
theorem dX12_cell_79 : decode cX12_cell 79 = .ok (.ireturn, 1) := by decide +kernel
theorem dX12_cell_80 : decode cX12_cell 80 = .ok (.aload_n 0, 1) := by decide +kernel
theorem dX12_cell_81 : decode cX12_cell 81 = .ok (.getfield 33, 3) := by decide +kernel
theorem dX12_cell_84 : decode cX12_cell 84 = .ok (.sipush 169, 3) := by decide +kernel
theorem dX12_cell_87 : decode cX12_cell 87 = .ok (.iload 4, 2) := by decide +kernel
theorem dX12_cell_89 : decode cX12_cell 89 = .ok (.iadd, 1) := by decide +kernel
theorem dX12_cell_90 : decode cX12_cell 90 = .ok (.iaload, 1) := by decide +kernel
theorem dX12_cell_91 : decode cX12_cell 91 = .ok (.iconst 1, 1) := by decide +kernel
theorem dX12_cell_92 : decode cX12_cell 92 = .ok (.isub, 1) := by decide +kernel
theorem dX12_cell_93 : decode cX12_cell 93 = .ok (.ireturn, 1) := by decide +kernel
theorem dX12_cell_94 : decode cX12_cell 94 = .ok (.iconst (-1), 1) := by decide +kernel
theorem dX12_cell_95 : decode cX12_cell 95 = .ok (.ireturn, 1) := by decide +kernel
def fX12_cell (N n : Nat) (f : zF) (a0 : Nat) (a1 : Int32) (a2 : Int32) (a3 : Int32) : Option (zF × Int32) :=
    ((zpI n f 12 a0 0 (0 : Int32)).bind fun f1 => ((zck n f1 12 a0).bind fun _ => ((fX12_isCell N n f1 a0 a1 a2).bind fun x2 => (if x2 = 0 then some (f1, (-1 : Int32)) else (if a3 = (0 : Int32) then ((zgR n f1 12 a0 6).bind fun x3 => ((zlI n f1 0 x3 ((5 : Int32) + (((9 : Int32) * a2) + a1))).bind fun x4 => some (f1, x4))) else (if a3 = (1 : Int32) then ((zck n f1 12 a0).bind fun _ => ((fX12_figureAt N n f1 a0 (((9 : Int32) * a2) + a1)).bind fun x5 => some (f1, x5))) else (if a3 = (2 : Int32) then ((zck n f1 12 a0).bind fun _ => ((fX12_lookerAt N n f1 a0 (((9 : Int32) * a2) + a1)).bind fun x6 => some (f1, x6))) else (if a3 = (3 : Int32) then ((zgR n f1 12 a0 6).bind fun x7 => ((zlI n f1 0 x7 ((169 : Int32) + (((9 : Int32) * a2) + a1))).bind fun x8 => some (f1, (x8 - (1 : Int32))))) else some (f1, (-1 : Int32))))))))))
set_option maxRecDepth 100000 in
set_option maxHeartbeats 4000000 in
theorem mX12_cell (l : Launch) (G : zG) {N n : Nat} {f : zF} {f9 : zF} {r : Int32} {a0 : Nat} {a1 : Int32} {a2 : Int32} {a3 : Int32} (h : fX12_cell N n f a0 a1 a2 a3 = some (f9, r)) : zM l G yX12_cell cX12_cell 5 (some .int) 2 n f [zr G a0, .int a1, .int a2, .int a3] (some (.int r)) f9 := by
  refine zM.of (by decide) (Nat.le_of_ble_eq_true rfl) ?_
  intro p e s m args below meth c locs ls B hS hl
  have he := B.1
  have hb := B.2.1
  have hl : lv_has ls 5 [(0, zr G a0), (1, .int a1), (2, .int a2), (3, .int a3)] := hl
  unfold fX12_cell at h
  generalize s.heap = H at hS ⊢
  refine z_aload_n he hb dX12_cell_0 rfl (lv_at hl 0 rfl) (zref_r _ _) ?_
  refine lv_iconst (v := (0 : Int32)) he hb dX12_cell_1 (by decide) ?_
  obtain ⟨f1, hx, h⟩ := zob h
  refine z_putI (ci := 12) (T := TX12) (N := 50) (j := 0) B hS hx rfl zin_X12 tyX12 tyX12_ok nmX12 (by decide) zk_1347 rfl rfl dX12_cell_2 (fun H locs hS => ?_)
  refine z_aload_n he hb dX12_cell_5 rfl (lv_at hl 0 rfl) (zref_r _ _) ?_
  refine lv_iload_n he hb dX12_cell_6 rfl (lv_at hl 1 rfl) ?_
  refine lv_iload_n he hb dX12_cell_7 rfl (lv_at hl 2 rfl) ?_
  obtain ⟨_, hc, h⟩ := zob h
  obtain ⟨x2, hx, h⟩ := zob h
  refine z_callV (ci := 12) (T := TX12) (N := 50) (rest := []) B hS (mX12_isCell l G hx) zy_X12_isCell zk_1612 (by decide) hc rfl rfl hl rfl (Nat.le_of_ble_eq_true rfl) dX12_cell_8 (kk := (fun H locs hS => ?_))
  refine lv_if_ne (tgt := 16) he hb dX12_cell_11 (by decide) (fun hc => ?_) (fun hc => ?_)
  · rw [if_neg hc] at h
    refine lv_bipush (v := (9 : Int32)) he hb dX12_cell_16 (by decide) ?_
    refine lv_iload_n he hb dX12_cell_18 rfl (lv_at hl 2 rfl) ?_
    refine lv_imul he hb dX12_cell_19 ?_
    refine lv_iload_n he hb dX12_cell_20 rfl (lv_at hl 1 rfl) ?_
    refine lv_iadd he hb dX12_cell_21 ?_
    refine lv_istore (lv' := [(4, _), (0, _), (1, _), (2, _), (3, _)]) he hb dX12_cell_22 hl (by decide) rfl (fun ls hl => ?_)
    refine lv_iload_n he hb dX12_cell_24 rfl (lv_at hl 4 rfl) ?_
    by_cases hc0 : a3 = (0 : Int32)
    · rw [if_pos hc0] at h
      refine lv_tableIn (tgt := 56) he hb dX12_cell_25 (by rw [hc0]; decide) (by rw [hc0]; decide) (by rw [hc0]; rfl) (by decide) ?_
      refine z_aload_n he hb dX12_cell_56 rfl (lv_at hl 1 rfl) (zref_r _ _) ?_
      obtain ⟨x3, hx, h⟩ := zob h
      refine z_getR (ci := 12) (T := TX12) (N := 50) (j := 6) B hS hx rfl zin_X12 (by decide) zk_1353 dX12_cell_57 ?_
      refine lv_iconst (v := (5 : Int32)) he hb dX12_cell_60 (by decide) ?_
      refine lv_iload he hb dX12_cell_61 (lv_at hl 0 rfl) ?_
      refine lv_iadd he hb dX12_cell_63 ?_
      obtain ⟨x4, hx, h⟩ := zob h
      refine z_ildI B hS hx dX12_cell_64 ?_
      obtain ⟨rfl, rfl⟩ := Prod.mk.inj (Option.some.inj h)
      exact z_iret B hS dX12_cell_65
    rw [if_neg hc0] at h
    by_cases hc1 : a3 = (1 : Int32)
    · rw [if_pos hc1] at h
      refine lv_tableIn (tgt := 66) he hb dX12_cell_25 (by rw [hc1]; decide) (by rw [hc1]; decide) (by rw [hc1]; rfl) (by decide) ?_
      refine z_aload_n he hb dX12_cell_66 rfl (lv_at hl 1 rfl) (zref_r _ _) ?_
      refine lv_iload he hb dX12_cell_67 (lv_at hl 0 rfl) ?_
      obtain ⟨_, hc, h⟩ := zob h
      obtain ⟨x5, hx, h⟩ := zob h
      refine z_callV (ci := 12) (T := TX12) (N := 50) (rest := []) B hS (mX12_figureAt l G hx) zy_X12_figureAt zk_1655 (by decide) hc rfl rfl hl rfl (Nat.le_of_ble_eq_true rfl) dX12_cell_69 (kk := (fun H locs hS => ?_))
      obtain ⟨rfl, rfl⟩ := Prod.mk.inj (Option.some.inj h)
      exact z_iret B hS dX12_cell_72
    rw [if_neg hc1] at h
    by_cases hc2 : a3 = (2 : Int32)
    · rw [if_pos hc2] at h
      refine lv_tableIn (tgt := 73) he hb dX12_cell_25 (by rw [hc2]; decide) (by rw [hc2]; decide) (by rw [hc2]; rfl) (by decide) ?_
      refine z_aload_n he hb dX12_cell_73 rfl (lv_at hl 1 rfl) (zref_r _ _) ?_
      refine lv_iload he hb dX12_cell_74 (lv_at hl 0 rfl) ?_
      obtain ⟨_, hc, h⟩ := zob h
      obtain ⟨x6, hx, h⟩ := zob h
      refine z_callV (ci := 12) (T := TX12) (N := 50) (rest := []) B hS (mX12_lookerAt l G hx) zy_X12_lookerAt zk_1667 (by decide) hc rfl rfl hl rfl (Nat.le_of_ble_eq_true rfl) dX12_cell_76 (kk := (fun H locs hS => ?_))
      obtain ⟨rfl, rfl⟩ := Prod.mk.inj (Option.some.inj h)
      exact z_iret B hS dX12_cell_79
    rw [if_neg hc2] at h
    by_cases hc3 : a3 = (3 : Int32)
    · rw [if_pos hc3] at h
      refine lv_tableIn (tgt := 80) he hb dX12_cell_25 (by rw [hc3]; decide) (by rw [hc3]; decide) (by rw [hc3]; rfl) (by decide) ?_
      refine z_aload_n he hb dX12_cell_80 rfl (lv_at hl 1 rfl) (zref_r _ _) ?_
      obtain ⟨x7, hx, h⟩ := zob h
      refine z_getR (ci := 12) (T := TX12) (N := 50) (j := 6) B hS hx rfl zin_X12 (by decide) zk_1353 dX12_cell_81 ?_
      refine lv_sipush (v := (169 : Int32)) he hb dX12_cell_84 (by decide) ?_
      refine lv_iload he hb dX12_cell_87 (lv_at hl 0 rfl) ?_
      refine lv_iadd he hb dX12_cell_89 ?_
      obtain ⟨x8, hx, h⟩ := zob h
      refine z_ildI B hS hx dX12_cell_90 ?_
      refine lv_iconst (v := (1 : Int32)) he hb dX12_cell_91 (by decide) ?_
      refine lv_isub he hb dX12_cell_92 ?_
      obtain ⟨rfl, rfl⟩ := Prod.mk.inj (Option.some.inj h)
      exact z_iret B hS dX12_cell_93
    rw [if_neg hc3] at h
    refine lv_tableOut (tgt := 94) he hb dX12_cell_25 ?_ (by decide) ?_
    · have h0 := lv_neT hc0 (a := 0) rfl; have h1 := lv_neT hc1 (a := 1) rfl; have h2 := lv_neT hc2 (a := 2) rfl; have h3 := lv_neT hc3 (a := 3) rfl; omega
    · skip
      refine lv_iconst (v := (-1 : Int32)) he hb dX12_cell_94 (by decide) ?_
      obtain ⟨rfl, rfl⟩ := Prod.mk.inj (Option.some.inj h)
      exact z_iret B hS dX12_cell_95
  · rw [if_pos hc] at h
    refine lv_iconst (v := (-1 : Int32)) he hb dX12_cell_14 (by decide) ?_
    obtain ⟨rfl, rfl⟩ := Prod.mk.inj (Option.some.inj h)
    exact z_iret B hS dX12_cell_15
theorem dX12_now_0 : decode cX12_now 0 = .ok (.aload_n 0, 1) := by decide +kernel
theorem dX12_now_1 : decode cX12_now 1 = .ok (.iconst 0, 1) := by decide +kernel
theorem dX12_now_2 : decode cX12_now 2 = .ok (.putfield 1, 3) := by decide +kernel
theorem dX12_now_5 : decode cX12_now 5 = .ok (.iconst 0, 1) := by decide +kernel
theorem dX12_now_6 : decode cX12_now 6 = .ok (.istore_n 2, 1) := by decide +kernel
theorem dX12_now_7 : decode cX12_now 7 = .ok (.iconst 0, 1) := by decide +kernel
theorem dX12_now_8 : decode cX12_now 8 = .ok (.istore_n 3, 1) := by decide +kernel
theorem dX12_now_9 : decode cX12_now 9 = .ok (.iconst 0, 1) := by decide +kernel
theorem dX12_now_10 : decode cX12_now 10 = .ok (.istore 4, 2) := by decide +kernel
theorem dX12_now_12 : decode cX12_now 12 = .ok (.iconst 0, 1) := by decide +kernel
theorem dX12_now_13 : decode cX12_now 13 = .ok (.istore 5, 2) := by decide +kernel
theorem dX12_now_15 : decode cX12_now 15 = .ok (.iload 5, 2) := by decide +kernel
theorem dX12_now_17 : decode cX12_now 17 = .ok (.aload_n 0, 1) := by decide +kernel
theorem dX12_now_18 : decode cX12_now 18 = .ok (.getfield 33, 3) := by decide +kernel
theorem dX12_now_21 : decode cX12_now 21 = .ok (.iconst 3, 1) := by decide +kernel
theorem dX12_now_22 : decode cX12_now 22 = .ok (.iaload, 1) := by decide +kernel
theorem dX12_now_23 : decode cX12_now 23 = .ok (.if_icmp .ge 49, 3) := by decide +kernel
theorem dX12_now_26 : decode cX12_now 26 = .ok (.iload_n 2, 1) := by decide +kernel
theorem dX12_now_27 : decode cX12_now 27 = .ok (.aload_n 0, 1) := by decide +kernel
theorem dX12_now_28 : decode cX12_now 28 = .ok (.iload 5, 2) := by decide +kernel
theorem dX12_now_30 : decode cX12_now 30 = .ok (.invokevirtual 311, 3) := by decide +kernel
theorem dX12_now_33 : decode cX12_now 33 = .ok (.ifCond .ne 7, 3) := by decide +kernel
theorem dX12_now_36 : decode cX12_now 36 = .ok (.iconst 0, 1) := by decide +kernel
theorem dX12_now_37 : decode cX12_now 37 = .ok (.goto 7, 3) := by decide +kernel
theorem dX12_now_40 : decode cX12_now 40 = .ok (.iconst 1, 1) := by decide +kernel
theorem dX12_now_41 : decode cX12_now 41 = .ok (.iload 5, 2) := by decide +kernel
theorem dX12_now_43 : decode cX12_now 43 = .ok (.ishl, 1) := by decide +kernel
theorem dX12_now_44 : decode cX12_now 44 = .ok (.ior, 1) := by decide +kernel
theorem dX12_now_45 : decode cX12_now 45 = .ok (.istore_n 2, 1) := by decide +kernel
theorem dX12_now_46 : decode cX12_now 46 = .ok (.iload_n 3, 1) := by decide +kernel
theorem dX12_now_47 : decode cX12_now 47 = .ok (.aload_n 0, 1) := by decide +kernel
theorem dX12_now_48 : decode cX12_now 48 = .ok (.iload 5, 2) := by decide +kernel
theorem dX12_now_50 : decode cX12_now 50 = .ok (.invokevirtual 314, 3) := by decide +kernel
theorem dX12_now_53 : decode cX12_now 53 = .ok (.ifCond .eq 10, 3) := by decide +kernel
theorem dX12_now_56 : decode cX12_now 56 = .ok (.iconst 1, 1) := by decide +kernel
theorem dX12_now_57 : decode cX12_now 57 = .ok (.iload 5, 2) := by decide +kernel
theorem dX12_now_59 : decode cX12_now 59 = .ok (.ishl, 1) := by decide +kernel
theorem dX12_now_60 : decode cX12_now 60 = .ok (.goto 4, 3) := by decide +kernel
theorem dX12_now_63 : decode cX12_now 63 = .ok (.iconst 0, 1) := by decide +kernel
theorem dX12_now_64 : decode cX12_now 64 = .ok (.ior, 1) := by decide +kernel
theorem dX12_now_65 : decode cX12_now 65 = .ok (.istore_n 3, 1) := by decide +kernel
theorem dX12_now_66 : decode cX12_now 66 = .ok (.iinc 5 1, 3) := by decide +kernel
theorem dX12_now_69 : decode cX12_now 69 = .ok (.goto (-54), 3) := by decide +kernel
theorem dX12_now_72 : decode cX12_now 72 = .ok (.iconst 0, 1) := by decide +kernel
theorem dX12_now_73 : decode cX12_now 73 = .ok (.istore 5, 2) := by decide +kernel
theorem dX12_now_75 : decode cX12_now 75 = .ok (.iload 5, 2) := by decide +kernel
theorem dX12_now_77 : decode cX12_now 77 = .ok (.aload_n 0, 1) := by decide +kernel
theorem dX12_now_78 : decode cX12_now 78 = .ok (.getfield 33, 3) := by decide +kernel
theorem dX12_now_81 : decode cX12_now 81 = .ok (.iconst 4, 1) := by decide +kernel
theorem dX12_now_82 : decode cX12_now 82 = .ok (.iaload, 1) := by decide +kernel
theorem dX12_now_83 : decode cX12_now 83 = .ok (.if_icmp .ge 31, 3) := by decide +kernel
theorem dX12_now_86 : decode cX12_now 86 = .ok (.iload 4, 2) := by decide +kernel
theorem dX12_now_88 : decode cX12_now 88 = .ok (.aload_n 0, 1) := by decide +kernel
theorem dX12_now_89 : decode cX12_now 89 = .ok (.iload 5, 2) := by decide +kernel
theorem dX12_now_91 : decode cX12_now 91 = .ok (.invokevirtual 295, 3) := by decide +kernel
theorem dX12_now_94 : decode cX12_now 94 = .ok (.ifCond .eq 10, 3) := by decide +kernel
theorem dX12_now_97 : decode cX12_now 97 = .ok (.iconst 1, 1) := by decide +kernel
theorem dX12_now_98 : decode cX12_now 98 = .ok (.iload 5, 2) := by decide +kernel
theorem dX12_now_100 : decode cX12_now 100 = .ok (.ishl, 1) := by decide +kernel
theorem dX12_now_101 : decode cX12_now 101 = .ok (.goto 4, 3) := by decide +kernel
theorem dX12_now_104 : decode cX12_now 104 = .ok (.iconst 0, 1) := by decide +kernel
theorem dX12_now_105 : decode cX12_now 105 = .ok (.ior, 1) := by decide +kernel
theorem dX12_now_106 : decode cX12_now 106 = .ok (.istore 4, 2) := by decide +kernel
theorem dX12_now_108 : decode cX12_now 108 = .ok (.iinc 5 1, 3) := by decide +kernel
theorem dX12_now_111 : decode cX12_now 111 = .ok (.goto (-36), 3) := by decide +kernel
theorem dX12_now_114 : decode cX12_now 114 = .ok (.iload_n 1, 1) := by decide +kernel
theorem dX12_now_115 : decode cX12_now 115 = .ok (.tableswitch 54 0 4 #[33, 42, 44, 46, 49], 33) := by decide +kernel
theorem dX12_now_148 : decode cX12_now 148 = .ok (.aload_n 0, 1) := by decide +kernel
theorem dX12_now_149 : decode cX12_now 149 = .ok (.getfield 33, 3) := by decide +kernel
theorem dX12_now_152 : decode cX12_now 152 = .ok (.sipush 139, 3) := by decide +kernel
theorem dX12_now_155 : decode cX12_now 155 = .ok (.iaload, 1) := by decide +kernel
theorem dX12_now_156 : decode cX12_now 156 = .ok (.ireturn, 1) := by decide +kernel
theorem dX12_now_157 : decode cX12_now 157 = .ok (.iload_n 2, 1) := by decide +kernel
theorem dX12_now_158 : decode cX12_now 158 = .ok (.ireturn, 1) := by decide +kernel
theorem dX12_now_159 : decode cX12_now 159 = .ok (.iload_n 3, 1) := by decide +kernel
theorem dX12_now_160 : decode cX12_now 160 = .ok (.ireturn, 1) := by decide +kernel
theorem dX12_now_161 : decode cX12_now 161 = .ok (.iload 4, 2) := by decide +kernel
theorem dX12_now_163 : decode cX12_now 163 = .ok (.ireturn, 1) := by decide +kernel
theorem dX12_now_164 : decode cX12_now 164 = .ok (.aload_n 0, 1) := by decide +kernel
theorem dX12_now_165 : decode cX12_now 165 = .ok (.invokevirtual 320, 3) := by decide +kernel
theorem dX12_now_168 : decode cX12_now 168 = .ok (.ireturn, 1) := by decide +kernel
theorem dX12_now_169 : decode cX12_now 169 = .ok (.iconst (-1), 1) := by decide +kernel
theorem dX12_now_170 : decode cX12_now 170 = .ok (.ireturn, 1) := by decide +kernel
def fX12_now_105 (r75 : zF → Nat → Int32 → Int32 → Int32 → Int32 → Int32 → Option (zF × Int32)) (N n : Nat) (f : zF) (a0 : Nat) (a1 : Int32) (a2 : Int32) (a3 : Int32) (a5 : Int32) (t0 : Int32) (t1 : Int32) : Option (zF × Int32) :=
    (r75 f a0 a1 a2 a3 (t0 ||| t1) (a5 + 1))
set_option maxRecDepth 100000 in
set_option maxHeartbeats 4000000 in
theorem gX12_now_105 (l : Launch) {G : zG} {p : Program} {e : Env} {s : State} {m : MethodId} {args : Array Value} {below : List Frame} {meth : Method} {c : Code} {N n : Nat} {f9 : zF} {r : Int32} {r75 : zF → Nat → Int32 → Int32 → Int32 → Int32 → Int32 → Option (zF × Int32)} (B : zB G p s m args meth c RX12 cX12_now 6 (some .int)) (hr75 : ∀ (f : zF) (a0 : Nat) (a1 : Int32) (a2 : Int32) (a3 : Int32) (a4 : Int32) (a5 : Int32) (H : Heap) (locs : List Loc) (ls : Array Slot), r75 f a0 a1 a2 a3 a4 a5 = some (f9, r) → zS G n f H locs → lv_has ls 6 [(0, zr G a0), (1, .int a1), (2, .int a2), (3, .int a3), (4, .int a4), (5, .int a5)] → W p l e (zrm 6) s m args below meth c H locs 0 0 (MQ below (zQc G n f9 (some (.int r))) args s 0 0 (zA G)) (F0 m 75 ls [])) : ∀ (f : zF) (a0 : Nat) (a1 : Int32) (a2 : Int32) (a3 : Int32) (a5 : Int32) (t0 : Int32) (t1 : Int32) (H : Heap) (locs : List Loc) (ls : Array Slot), fX12_now_105 r75 N n f a0 a1 a2 a3 a5 t0 t1 = some (f9, r) → zS G n f H locs → lv_has ls 6 [(0, zr G a0), (1, .int a1), (2, .int a2), (3, .int a3), (5, .int a5)] → W p l e (zrm 6) s m args below meth c H locs 0 0 (MQ below (zQc G n f9 (some (.int r))) args s 0 0 (zA G)) (F0 m 105 ls [.int t1, .int t0]) := by
  have he := B.1
  have hb := B.2.1
  intro f a0 a1 a2 a3 a5 t0 t1 H locs ls h hS hl
  unfold fX12_now_105 at h
  refine lv_ior he hb dX12_now_105 ?_
  refine lv_istore (lv' := [(4, _), (0, _), (1, _), (2, _), (3, _), (5, _)]) he hb dX12_now_106 hl (by decide) rfl (fun ls hl => ?_)
  refine lv_iinc (v := (a5 + 1)) (lv' := [(5, _), (4, _), (0, _), (1, _), (2, _), (3, _)]) he hb dX12_now_108 hl (k := 5) rfl rfl (by decide) rfl (fun ls hl => ?_)
  refine lv_goto (tgt := 75) he hb dX12_now_111 (by decide) ?_
  exact hr75 _ _ _ _ _ _ _ _ _ _ h hS (lv_sub hl [2, 3, 4, 5, 1, 0] rfl)
def fX12_now_75 (N n : Nat) : Nat → zF → Nat → Int32 → Int32 → Int32 → Int32 → Int32 → Option (zF × Int32)
  | 0, _, _, _, _, _, _, _ => none
  | k + 1, f, a0, a1, a2, a3, a4, a5 =>
    ((zgR n f 12 a0 6).bind fun x4 => ((zlI n f 0 x4 (4 : Int32)).bind fun x5 => (if x5 ≤ a5 then (if a1 = (0 : Int32) then ((zgR n f 12 a0 6).bind fun x6 => ((zlI n f 0 x6 (139 : Int32)).bind fun x7 => some (f, x7))) else (if a1 = (1 : Int32) then some (f, a2) else (if a1 = (2 : Int32) then some (f, a3) else (if a1 = (3 : Int32) then some (f, a4) else (if a1 = (4 : Int32) then ((zck n f 12 a0).bind fun _ => ((fX12_wentInAll N n f a0).bind fun x8 => some (f, x8))) else some (f, (-1 : Int32))))))) else ((zck n f 12 a0).bind fun _ => ((fX12_isLooking N n f a0 a5).bind fun x9 => (if x9 = 0 then (fX12_now_105 (fX12_now_75 N n k) N n f a0 a1 a2 a3 a5 a4 (0 : Int32)) else (fX12_now_105 (fX12_now_75 N n k) N n f a0 a1 a2 a3 a5 a4 (zishl (1 : Int32) a5))))))))
set_option maxRecDepth 100000 in
set_option maxHeartbeats 4000000 in
theorem gX12_now_75 (l : Launch) {G : zG} {p : Program} {e : Env} {s : State} {m : MethodId} {args : Array Value} {below : List Frame} {meth : Method} {c : Code} {N n : Nat} {f9 : zF} {r : Int32} (B : zB G p s m args meth c RX12 cX12_now 6 (some .int)) : ∀ (k : Nat), ∀ (f : zF) (a0 : Nat) (a1 : Int32) (a2 : Int32) (a3 : Int32) (a4 : Int32) (a5 : Int32) (H : Heap) (locs : List Loc) (ls : Array Slot), fX12_now_75 N n k f a0 a1 a2 a3 a4 a5 = some (f9, r) → zS G n f H locs → lv_has ls 6 [(0, zr G a0), (1, .int a1), (2, .int a2), (3, .int a3), (4, .int a4), (5, .int a5)] → W p l e (zrm 6) s m args below meth c H locs 0 0 (MQ below (zQc G n f9 (some (.int r))) args s 0 0 (zA G)) (F0 m 75 ls []) := by
  have he := B.1
  have hb := B.2.1
  intro k
  induction k with
  | zero =>
    intro f a0 a1 a2 a3 a4 a5 H locs ls h
    unfold fX12_now_75 at h
    cases h
  | succ k ih =>
    intro f a0 a1 a2 a3 a4 a5 H locs ls h hS hl
    unfold fX12_now_75 at h
    refine lv_iload he hb dX12_now_75 (lv_at hl 5 rfl) ?_
    refine z_aload_n he hb dX12_now_77 rfl (lv_at hl 0 rfl) (zref_r _ _) ?_
    obtain ⟨x4, hx, h⟩ := zob h
    refine z_getR (ci := 12) (T := TX12) (N := 50) (j := 6) B hS hx rfl zin_X12 (by decide) zk_1353 dX12_now_78 ?_
    refine lv_iconst (v := (4 : Int32)) he hb dX12_now_81 (by decide) ?_
    obtain ⟨x5, hx, h⟩ := zob h
    refine z_ildI B hS hx dX12_now_82 ?_
    refine lv_icmp_ge (tgt := 114) he hb dX12_now_83 (by decide) (fun hc => ?_) (fun hc => ?_)
    · rw [if_pos hc] at h
      refine lv_iload_n he hb dX12_now_114 rfl (lv_at hl 1 rfl) ?_
      by_cases hc0 : a1 = (0 : Int32)
      · rw [if_pos hc0] at h
        refine lv_tableIn (tgt := 148) he hb dX12_now_115 (by rw [hc0]; decide) (by rw [hc0]; decide) (by rw [hc0]; rfl) (by decide) ?_
        refine z_aload_n he hb dX12_now_148 rfl (lv_at hl 0 rfl) (zref_r _ _) ?_
        obtain ⟨x6, hx, h⟩ := zob h
        refine z_getR (ci := 12) (T := TX12) (N := 50) (j := 6) B hS hx rfl zin_X12 (by decide) zk_1353 dX12_now_149 ?_
        refine lv_sipush (v := (139 : Int32)) he hb dX12_now_152 (by decide) ?_
        obtain ⟨x7, hx, h⟩ := zob h
        refine z_ildI B hS hx dX12_now_155 ?_
        obtain ⟨rfl, rfl⟩ := Prod.mk.inj (Option.some.inj h)
        exact z_iret B hS dX12_now_156
      rw [if_neg hc0] at h
      by_cases hc1 : a1 = (1 : Int32)
      · rw [if_pos hc1] at h
        refine lv_tableIn (tgt := 157) he hb dX12_now_115 (by rw [hc1]; decide) (by rw [hc1]; decide) (by rw [hc1]; rfl) (by decide) ?_
        refine lv_iload_n he hb dX12_now_157 rfl (lv_at hl 2 rfl) ?_
        obtain ⟨rfl, rfl⟩ := Prod.mk.inj (Option.some.inj h)
        exact z_iret B hS dX12_now_158
      rw [if_neg hc1] at h
      by_cases hc2 : a1 = (2 : Int32)
      · rw [if_pos hc2] at h
        refine lv_tableIn (tgt := 159) he hb dX12_now_115 (by rw [hc2]; decide) (by rw [hc2]; decide) (by rw [hc2]; rfl) (by decide) ?_
        refine lv_iload_n he hb dX12_now_159 rfl (lv_at hl 3 rfl) ?_
        obtain ⟨rfl, rfl⟩ := Prod.mk.inj (Option.some.inj h)
        exact z_iret B hS dX12_now_160
      rw [if_neg hc2] at h
      by_cases hc3 : a1 = (3 : Int32)
      · rw [if_pos hc3] at h
        refine lv_tableIn (tgt := 161) he hb dX12_now_115 (by rw [hc3]; decide) (by rw [hc3]; decide) (by rw [hc3]; rfl) (by decide) ?_
        refine lv_iload he hb dX12_now_161 (lv_at hl 4 rfl) ?_
        obtain ⟨rfl, rfl⟩ := Prod.mk.inj (Option.some.inj h)
        exact z_iret B hS dX12_now_163
      rw [if_neg hc3] at h
      by_cases hc4 : a1 = (4 : Int32)
      · rw [if_pos hc4] at h
        refine lv_tableIn (tgt := 164) he hb dX12_now_115 (by rw [hc4]; decide) (by rw [hc4]; decide) (by rw [hc4]; rfl) (by decide) ?_
        refine z_aload_n he hb dX12_now_164 rfl (lv_at hl 0 rfl) (zref_r _ _) ?_
        obtain ⟨_, hc, h⟩ := zob h
        obtain ⟨x8, hx, h⟩ := zob h
        refine z_callV (ci := 12) (T := TX12) (N := 50) (rest := []) B hS (mX12_wentInAll l G hx) zy_X12_wentInAll zk_1687 (by decide) hc rfl rfl hl rfl (Nat.le_of_ble_eq_true rfl) dX12_now_165 (kk := (fun H locs hS => ?_))
        obtain ⟨rfl, rfl⟩ := Prod.mk.inj (Option.some.inj h)
        exact z_iret B hS dX12_now_168
      rw [if_neg hc4] at h
      refine lv_tableOut (tgt := 169) he hb dX12_now_115 ?_ (by decide) ?_
      · have h0 := lv_neT hc0 (a := 0) rfl; have h1 := lv_neT hc1 (a := 1) rfl; have h2 := lv_neT hc2 (a := 2) rfl; have h3 := lv_neT hc3 (a := 3) rfl; have h4 := lv_neT hc4 (a := 4) rfl; omega
      · skip
        refine lv_iconst (v := (-1 : Int32)) he hb dX12_now_169 (by decide) ?_
        obtain ⟨rfl, rfl⟩ := Prod.mk.inj (Option.some.inj h)
        exact z_iret B hS dX12_now_170
    · rw [if_neg hc] at h
      refine lv_iload he hb dX12_now_86 (lv_at hl 4 rfl) ?_
      refine z_aload_n he hb dX12_now_88 rfl (lv_at hl 0 rfl) (zref_r _ _) ?_
      refine lv_iload he hb dX12_now_89 (lv_at hl 5 rfl) ?_
      obtain ⟨_, hc, h⟩ := zob h
      obtain ⟨x9, hx, h⟩ := zob h
      refine z_callV (ci := 12) (T := TX12) (N := 50) (rest := [_]) B hS (mX12_isLooking l G hx) zy_X12_isLooking zk_1640 (by decide) hc rfl rfl hl rfl (Nat.le_of_ble_eq_true rfl) dX12_now_91 (kk := (fun H locs hS => ?_))
      refine lv_if_eq (tgt := 104) he hb dX12_now_94 (by decide) (fun hc => ?_) (fun hc => ?_)
      · rw [if_pos hc] at h
        refine lv_iconst (v := (0 : Int32)) he hb dX12_now_104 (by decide) ?_
        exact gX12_now_105 l B ih _ _ _ _ _ _ _ _ _ _ _ h hS (lv_sub hl [0, 1, 2, 3, 5] rfl)
      · rw [if_neg hc] at h
        refine lv_iconst (v := (1 : Int32)) he hb dX12_now_97 (by decide) ?_
        refine lv_iload he hb dX12_now_98 (lv_at hl 5 rfl) ?_
        refine z_ishl he hb dX12_now_100 ?_
        refine lv_goto (tgt := 105) he hb dX12_now_101 (by decide) ?_
        exact gX12_now_105 l B ih _ _ _ _ _ _ _ _ _ _ _ h hS (lv_sub hl [0, 1, 2, 3, 5] rfl)
def fX12_now_64 (r15 : zF → Nat → Int32 → Int32 → Int32 → Int32 → Int32 → Option (zF × Int32)) (N n : Nat) (f : zF) (a0 : Nat) (a1 : Int32) (a2 : Int32) (a4 : Int32) (a5 : Int32) (t0 : Int32) (t1 : Int32) : Option (zF × Int32) :=
    (r15 f a0 a1 a2 (t0 ||| t1) a4 (a5 + 1))
set_option maxRecDepth 100000 in
set_option maxHeartbeats 4000000 in
theorem gX12_now_64 (l : Launch) {G : zG} {p : Program} {e : Env} {s : State} {m : MethodId} {args : Array Value} {below : List Frame} {meth : Method} {c : Code} {N n : Nat} {f9 : zF} {r : Int32} {r15 : zF → Nat → Int32 → Int32 → Int32 → Int32 → Int32 → Option (zF × Int32)} (B : zB G p s m args meth c RX12 cX12_now 6 (some .int)) (hr15 : ∀ (f : zF) (a0 : Nat) (a1 : Int32) (a2 : Int32) (a3 : Int32) (a4 : Int32) (a5 : Int32) (H : Heap) (locs : List Loc) (ls : Array Slot), r15 f a0 a1 a2 a3 a4 a5 = some (f9, r) → zS G n f H locs → lv_has ls 6 [(0, zr G a0), (1, .int a1), (2, .int a2), (3, .int a3), (4, .int a4), (5, .int a5)] → W p l e (zrm 6) s m args below meth c H locs 0 0 (MQ below (zQc G n f9 (some (.int r))) args s 0 0 (zA G)) (F0 m 15 ls [])) : ∀ (f : zF) (a0 : Nat) (a1 : Int32) (a2 : Int32) (a4 : Int32) (a5 : Int32) (t0 : Int32) (t1 : Int32) (H : Heap) (locs : List Loc) (ls : Array Slot), fX12_now_64 r15 N n f a0 a1 a2 a4 a5 t0 t1 = some (f9, r) → zS G n f H locs → lv_has ls 6 [(0, zr G a0), (1, .int a1), (2, .int a2), (4, .int a4), (5, .int a5)] → W p l e (zrm 6) s m args below meth c H locs 0 0 (MQ below (zQc G n f9 (some (.int r))) args s 0 0 (zA G)) (F0 m 64 ls [.int t1, .int t0]) := by
  have he := B.1
  have hb := B.2.1
  intro f a0 a1 a2 a4 a5 t0 t1 H locs ls h hS hl
  unfold fX12_now_64 at h
  refine lv_ior he hb dX12_now_64 ?_
  refine lv_istore_n (lv' := [(3, _), (0, _), (1, _), (2, _), (4, _), (5, _)]) he hb dX12_now_65 rfl hl (by decide) rfl (fun ls hl => ?_)
  refine lv_iinc (v := (a5 + 1)) (lv' := [(5, _), (3, _), (0, _), (1, _), (2, _), (4, _)]) he hb dX12_now_66 hl (k := 5) rfl rfl (by decide) rfl (fun ls hl => ?_)
  refine lv_goto (tgt := 15) he hb dX12_now_69 (by decide) ?_
  exact hr15 _ _ _ _ _ _ _ _ _ _ h hS (lv_sub hl [2, 3, 4, 1, 5, 0] rfl)
def fX12_now_44 (r15 : zF → Nat → Int32 → Int32 → Int32 → Int32 → Int32 → Option (zF × Int32)) (N n : Nat) (f : zF) (a0 : Nat) (a1 : Int32) (a3 : Int32) (a4 : Int32) (a5 : Int32) (t0 : Int32) (t1 : Int32) : Option (zF × Int32) :=
    ((zck n f 12 a0).bind fun _ => ((fX12_canGo N n f a0 a5).bind fun x11 => (if x11 = 0 then (fX12_now_64 r15 N n f a0 a1 (t0 ||| t1) a4 a5 a3 (0 : Int32)) else (fX12_now_64 r15 N n f a0 a1 (t0 ||| t1) a4 a5 a3 (zishl (1 : Int32) a5)))))
set_option maxRecDepth 100000 in
set_option maxHeartbeats 4000000 in
theorem gX12_now_44 (l : Launch) {G : zG} {p : Program} {e : Env} {s : State} {m : MethodId} {args : Array Value} {below : List Frame} {meth : Method} {c : Code} {N n : Nat} {f9 : zF} {r : Int32} {r15 : zF → Nat → Int32 → Int32 → Int32 → Int32 → Int32 → Option (zF × Int32)} (B : zB G p s m args meth c RX12 cX12_now 6 (some .int)) (hr15 : ∀ (f : zF) (a0 : Nat) (a1 : Int32) (a2 : Int32) (a3 : Int32) (a4 : Int32) (a5 : Int32) (H : Heap) (locs : List Loc) (ls : Array Slot), r15 f a0 a1 a2 a3 a4 a5 = some (f9, r) → zS G n f H locs → lv_has ls 6 [(0, zr G a0), (1, .int a1), (2, .int a2), (3, .int a3), (4, .int a4), (5, .int a5)] → W p l e (zrm 6) s m args below meth c H locs 0 0 (MQ below (zQc G n f9 (some (.int r))) args s 0 0 (zA G)) (F0 m 15 ls [])) : ∀ (f : zF) (a0 : Nat) (a1 : Int32) (a3 : Int32) (a4 : Int32) (a5 : Int32) (t0 : Int32) (t1 : Int32) (H : Heap) (locs : List Loc) (ls : Array Slot), fX12_now_44 r15 N n f a0 a1 a3 a4 a5 t0 t1 = some (f9, r) → zS G n f H locs → lv_has ls 6 [(0, zr G a0), (1, .int a1), (3, .int a3), (4, .int a4), (5, .int a5)] → W p l e (zrm 6) s m args below meth c H locs 0 0 (MQ below (zQc G n f9 (some (.int r))) args s 0 0 (zA G)) (F0 m 44 ls [.int t1, .int t0]) := by
  have he := B.1
  have hb := B.2.1
  intro f a0 a1 a3 a4 a5 t0 t1 H locs ls h hS hl
  unfold fX12_now_44 at h
  refine lv_ior he hb dX12_now_44 ?_
  refine lv_istore_n (lv' := [(2, _), (0, _), (1, _), (3, _), (4, _), (5, _)]) he hb dX12_now_45 rfl hl (by decide) rfl (fun ls hl => ?_)
  refine lv_iload_n he hb dX12_now_46 rfl (lv_at hl 3 rfl) ?_
  refine z_aload_n he hb dX12_now_47 rfl (lv_at hl 1 rfl) (zref_r _ _) ?_
  refine lv_iload he hb dX12_now_48 (lv_at hl 5 rfl) ?_
  obtain ⟨_, hc, h⟩ := zob h
  obtain ⟨x11, hx, h⟩ := zob h
  refine z_callV (ci := 12) (T := TX12) (N := 50) (rest := [_]) B hS (mX12_canGo l G hx) zy_X12_canGo zk_1663 (by decide) hc rfl rfl hl rfl (Nat.le_of_ble_eq_true rfl) dX12_now_50 (kk := (fun H locs hS => ?_))
  refine lv_if_eq (tgt := 63) he hb dX12_now_53 (by decide) (fun hc => ?_) (fun hc => ?_)
  · rw [if_pos hc] at h
    refine lv_iconst (v := (0 : Int32)) he hb dX12_now_63 (by decide) ?_
    exact gX12_now_64 l B hr15 _ _ _ _ _ _ _ _ _ _ _ h hS (lv_sub hl [1, 2, 0, 4, 5] rfl)
  · rw [if_neg hc] at h
    refine lv_iconst (v := (1 : Int32)) he hb dX12_now_56 (by decide) ?_
    refine lv_iload he hb dX12_now_57 (lv_at hl 5 rfl) ?_
    refine z_ishl he hb dX12_now_59 ?_
    refine lv_goto (tgt := 64) he hb dX12_now_60 (by decide) ?_
    exact gX12_now_64 l B hr15 _ _ _ _ _ _ _ _ _ _ _ h hS (lv_sub hl [1, 2, 0, 4, 5] rfl)
def fX12_now_15 (N n : Nat) : Nat → zF → Nat → Int32 → Int32 → Int32 → Int32 → Int32 → Option (zF × Int32)
  | 0, _, _, _, _, _, _, _ => none
  | k + 1, f, a0, a1, a2, a3, a4, a5 =>
    ((zgR n f 12 a0 6).bind fun x2 => ((zlI n f 0 x2 (3 : Int32)).bind fun x3 => (if x3 ≤ a5 then (fX12_now_75 N n N f a0 a1 a2 a3 a4 (0 : Int32)) else ((zck n f 12 a0).bind fun _ => ((fX12_seenBy N n f a0 a5).bind fun x10 => (if x10 = 0 then (fX12_now_44 (fX12_now_15 N n k) N n f a0 a1 a3 a4 a5 a2 (0 : Int32)) else (fX12_now_44 (fX12_now_15 N n k) N n f a0 a1 a3 a4 a5 a2 (zishl (1 : Int32) a5))))))))
set_option maxRecDepth 100000 in
set_option maxHeartbeats 4000000 in
theorem gX12_now_15 (l : Launch) {G : zG} {p : Program} {e : Env} {s : State} {m : MethodId} {args : Array Value} {below : List Frame} {meth : Method} {c : Code} {N n : Nat} {f9 : zF} {r : Int32} (B : zB G p s m args meth c RX12 cX12_now 6 (some .int)) : ∀ (k : Nat), ∀ (f : zF) (a0 : Nat) (a1 : Int32) (a2 : Int32) (a3 : Int32) (a4 : Int32) (a5 : Int32) (H : Heap) (locs : List Loc) (ls : Array Slot), fX12_now_15 N n k f a0 a1 a2 a3 a4 a5 = some (f9, r) → zS G n f H locs → lv_has ls 6 [(0, zr G a0), (1, .int a1), (2, .int a2), (3, .int a3), (4, .int a4), (5, .int a5)] → W p l e (zrm 6) s m args below meth c H locs 0 0 (MQ below (zQc G n f9 (some (.int r))) args s 0 0 (zA G)) (F0 m 15 ls []) := by
  have he := B.1
  have hb := B.2.1
  intro k
  induction k with
  | zero =>
    intro f a0 a1 a2 a3 a4 a5 H locs ls h
    unfold fX12_now_15 at h
    cases h
  | succ k ih =>
    intro f a0 a1 a2 a3 a4 a5 H locs ls h hS hl
    unfold fX12_now_15 at h
    refine lv_iload he hb dX12_now_15 (lv_at hl 5 rfl) ?_
    refine z_aload_n he hb dX12_now_17 rfl (lv_at hl 0 rfl) (zref_r _ _) ?_
    obtain ⟨x2, hx, h⟩ := zob h
    refine z_getR (ci := 12) (T := TX12) (N := 50) (j := 6) B hS hx rfl zin_X12 (by decide) zk_1353 dX12_now_18 ?_
    refine lv_iconst (v := (3 : Int32)) he hb dX12_now_21 (by decide) ?_
    obtain ⟨x3, hx, h⟩ := zob h
    refine z_ildI B hS hx dX12_now_22 ?_
    refine lv_icmp_ge (tgt := 72) he hb dX12_now_23 (by decide) (fun hc => ?_) (fun hc => ?_)
    · rw [if_pos hc] at h
      refine lv_iconst (v := (0 : Int32)) he hb dX12_now_72 (by decide) ?_
      refine lv_istore (lv' := [(5, _), (0, _), (1, _), (2, _), (3, _), (4, _)]) he hb dX12_now_73 hl (by decide) rfl (fun ls hl => ?_)
      exact gX12_now_75 l B N _ _ _ _ _ _ _ _ _ _ h hS (lv_sub hl [1, 2, 3, 4, 5, 0] rfl)
    · rw [if_neg hc] at h
      refine lv_iload_n he hb dX12_now_26 rfl (lv_at hl 2 rfl) ?_
      refine z_aload_n he hb dX12_now_27 rfl (lv_at hl 0 rfl) (zref_r _ _) ?_
      refine lv_iload he hb dX12_now_28 (lv_at hl 5 rfl) ?_
      obtain ⟨_, hc, h⟩ := zob h
      obtain ⟨x10, hx, h⟩ := zob h
      refine z_callV (ci := 12) (T := TX12) (N := 50) (rest := [_]) B hS (mX12_seenBy l G hx) zy_X12_seenBy zk_1632 (by decide) hc rfl rfl hl rfl (Nat.le_of_ble_eq_true rfl) dX12_now_30 (kk := (fun H locs hS => ?_))
      refine lv_if_ne (tgt := 40) he hb dX12_now_33 (by decide) (fun hc => ?_) (fun hc => ?_)
      · rw [if_neg hc] at h
        refine lv_iconst (v := (1 : Int32)) he hb dX12_now_40 (by decide) ?_
        refine lv_iload he hb dX12_now_41 (lv_at hl 5 rfl) ?_
        refine z_ishl he hb dX12_now_43 ?_
        exact gX12_now_44 l B ih _ _ _ _ _ _ _ _ _ _ _ h hS (lv_sub hl [0, 1, 3, 4, 5] rfl)
      · rw [if_pos hc] at h
        refine lv_iconst (v := (0 : Int32)) he hb dX12_now_36 (by decide) ?_
        refine lv_goto (tgt := 44) he hb dX12_now_37 (by decide) ?_
        exact gX12_now_44 l B ih _ _ _ _ _ _ _ _ _ _ _ h hS (lv_sub hl [0, 1, 3, 4, 5] rfl)
def fX12_now (N n : Nat) (f : zF) (a0 : Nat) (a1 : Int32) : Option (zF × Int32) :=
    ((zpI n f 12 a0 0 (0 : Int32)).bind fun f1 => (fX12_now_15 N n N f1 a0 a1 (0 : Int32) (0 : Int32) (0 : Int32) (0 : Int32)))
set_option maxRecDepth 100000 in
set_option maxHeartbeats 4000000 in
theorem mX12_now (l : Launch) (G : zG) {N n : Nat} {f : zF} {f9 : zF} {r : Int32} {a0 : Nat} {a1 : Int32} (h : fX12_now N n f a0 a1 = some (f9, r)) : zM l G yX12_now cX12_now 6 (some .int) 6 n f [zr G a0, .int a1] (some (.int r)) f9 := by
  refine zM.of (by decide) (Nat.le_of_ble_eq_true rfl) ?_
  intro p e s m args below meth c locs ls B hS hl
  have he := B.1
  have hb := B.2.1
  have hl : lv_has ls 6 [(0, zr G a0), (1, .int a1)] := hl
  unfold fX12_now at h
  generalize s.heap = H at hS ⊢
  refine z_aload_n he hb dX12_now_0 rfl (lv_at hl 0 rfl) (zref_r _ _) ?_
  refine lv_iconst (v := (0 : Int32)) he hb dX12_now_1 (by decide) ?_
  obtain ⟨f1, hx, h⟩ := zob h
  refine z_putI (ci := 12) (T := TX12) (N := 50) (j := 0) B hS hx rfl zin_X12 tyX12 tyX12_ok nmX12 (by decide) zk_1347 rfl rfl dX12_now_2 (fun H locs hS => ?_)
  refine lv_iconst (v := (0 : Int32)) he hb dX12_now_5 (by decide) ?_
  refine lv_istore_n (lv' := [(2, _), (0, _), (1, _)]) he hb dX12_now_6 rfl hl (by decide) rfl (fun ls hl => ?_)
  refine lv_iconst (v := (0 : Int32)) he hb dX12_now_7 (by decide) ?_
  refine lv_istore_n (lv' := [(3, _), (2, _), (0, _), (1, _)]) he hb dX12_now_8 rfl hl (by decide) rfl (fun ls hl => ?_)
  refine lv_iconst (v := (0 : Int32)) he hb dX12_now_9 (by decide) ?_
  refine lv_istore (lv' := [(4, _), (3, _), (2, _), (0, _), (1, _)]) he hb dX12_now_10 hl (by decide) rfl (fun ls hl => ?_)
  refine lv_iconst (v := (0 : Int32)) he hb dX12_now_12 (by decide) ?_
  refine lv_istore (lv' := [(5, _), (4, _), (3, _), (2, _), (0, _), (1, _)]) he hb dX12_now_13 hl (by decide) rfl (fun ls hl => ?_)
  exact gX12_now_15 l B N _ _ _ _ _ _ _ _ _ _ h hS (lv_sub hl [4, 5, 3, 2, 1, 0] rfl)
