/-! constructors -/
theorem dX2_init_0 : decode cX2_init 0 = .ok (.aload_n 0, 1) := by decide +kernel
theorem dX2_init_1 : decode cX2_init 1 = .ok (.invokespecial 3, 3) := by decide +kernel
theorem dX2_init_4 : decode cX2_init 4 = .ok (.aload_n 0, 1) := by decide +kernel
theorem dX2_init_5 : decode cX2_init 5 = .ok (.bipush 6, 2) := by decide +kernel
theorem dX2_init_7 : decode cX2_init 7 = .ok (.putfield 9, 3) := by decide +kernel
theorem dX2_init_10 : decode cX2_init 10 = .ok (.aload_n 0, 1) := by decide +kernel
theorem dX2_init_11 : decode cX2_init 11 = .ok (.bipush 6, 2) := by decide +kernel
theorem dX2_init_13 : decode cX2_init 13 = .ok (.putfield 15, 3) := by decide +kernel
theorem dX2_init_16 : decode cX2_init 16 = .ok (.aload_n 0, 1) := by decide +kernel
theorem dX2_init_17 : decode cX2_init 17 = .ok (.iconst 4, 1) := by decide +kernel
theorem dX2_init_18 : decode cX2_init 18 = .ok (.newarray .long, 2) := by decide +kernel
theorem dX2_init_20 : decode cX2_init 20 = .ok (.putfield 18, 3) := by decide +kernel
theorem dX2_init_23 : decode cX2_init 23 = .ok (.aload_n 0, 1) := by decide +kernel
theorem dX2_init_24 : decode cX2_init 24 = .ok (.bipush 6, 2) := by decide +kernel
theorem dX2_init_26 : decode cX2_init 26 = .ok (.newarray .long, 2) := by decide +kernel
theorem dX2_init_28 : decode cX2_init 28 = .ok (.putfield 22, 3) := by decide +kernel
theorem dX2_init_31 : decode cX2_init 31 = .ok (.aload_n 0, 1) := by decide +kernel
theorem dX2_init_32 : decode cX2_init 32 = .ok (.iconst 5, 1) := by decide +kernel
theorem dX2_init_33 : decode cX2_init 33 = .ok (.newarray .long, 2) := by decide +kernel
theorem dX2_init_35 : decode cX2_init 35 = .ok (.putfield 25, 3) := by decide +kernel
theorem dX2_init_38 : decode cX2_init 38 = .ok (.aload_n 0, 1) := by decide +kernel
theorem dX2_init_39 : decode cX2_init 39 = .ok (.bipush 81, 2) := by decide +kernel
theorem dX2_init_41 : decode cX2_init 41 = .ok (.newarray .int, 2) := by decide +kernel
theorem dX2_init_43 : decode cX2_init 43 = .ok (.putfield 28, 3) := by decide +kernel
theorem dX2_init_46 : decode cX2_init 46 = .ok (.aload_n 0, 1) := by decide +kernel
theorem dX2_init_47 : decode cX2_init 47 = .ok (.iconst 4, 1) := by decide +kernel
theorem dX2_init_48 : decode cX2_init 48 = .ok (.newarray .int, 2) := by decide +kernel
theorem dX2_init_50 : decode cX2_init 50 = .ok (.putfield 32, 3) := by decide +kernel
theorem dX2_init_53 : decode cX2_init 53 = .ok (.aload_n 0, 1) := by decide +kernel
theorem dX2_init_54 : decode cX2_init 54 = .ok (.bipush 6, 2) := by decide +kernel
theorem dX2_init_56 : decode cX2_init 56 = .ok (.newarray .int, 2) := by decide +kernel
theorem dX2_init_58 : decode cX2_init 58 = .ok (.putfield 35, 3) := by decide +kernel
theorem dX2_init_61 : decode cX2_init 61 = .ok (.aload_n 0, 1) := by decide +kernel
theorem dX2_init_62 : decode cX2_init 62 = .ok (.bipush 6, 2) := by decide +kernel
theorem dX2_init_64 : decode cX2_init 64 = .ok (.newarray .int, 2) := by decide +kernel
theorem dX2_init_66 : decode cX2_init 66 = .ok (.putfield 38, 3) := by decide +kernel
theorem dX2_init_69 : decode cX2_init 69 = .ok (.aload_n 0, 1) := by decide +kernel
theorem dX2_init_70 : decode cX2_init 70 = .ok (.bipush 6, 2) := by decide +kernel
theorem dX2_init_72 : decode cX2_init 72 = .ok (.newarray .int, 2) := by decide +kernel
theorem dX2_init_74 : decode cX2_init 74 = .ok (.putfield 41, 3) := by decide +kernel
theorem dX2_init_77 : decode cX2_init 77 = .ok (.aload_n 0, 1) := by decide +kernel
theorem dX2_init_78 : decode cX2_init 78 = .ok (.iconst 5, 1) := by decide +kernel
theorem dX2_init_79 : decode cX2_init 79 = .ok (.newarray .int, 2) := by decide +kernel
theorem dX2_init_81 : decode cX2_init 81 = .ok (.putfield 44, 3) := by decide +kernel
theorem dX2_init_84 : decode cX2_init 84 = .ok (.aload_n 0, 1) := by decide +kernel
theorem dX2_init_85 : decode cX2_init 85 = .ok (.iconst 5, 1) := by decide +kernel
theorem dX2_init_86 : decode cX2_init 86 = .ok (.newarray .int, 2) := by decide +kernel
theorem dX2_init_88 : decode cX2_init 88 = .ok (.putfield 47, 3) := by decide +kernel
theorem dX2_init_91 : decode cX2_init 91 = .ok (.return_, 1) := by decide +kernel
def fX2_init (N n : Nat) (f : zF) (a0 : Nat) : Option zF :=
    ((zpI n f 2 a0 0 (6 : Int32)).bind fun f1 => ((zpI n f1 2 a0 1 (6 : Int32)).bind fun f2 => ((zmk f2 n (.inl (1, 4, .inr (.inl (fun _ => 0))))).bind fun f3 => ((zpR (n + 1) f3 2 a0 5 n).bind fun f4 => ((zmk f4 (n + 1) (.inl (1, 6, .inr (.inl (fun _ => 0))))).bind fun f5 => ((zpR (n + 2) f5 2 a0 6 (n + 1)).bind fun f6 => ((zmk f6 (n + 2) (.inl (1, 5, .inr (.inl (fun _ => 0))))).bind fun f7 => ((zpR (n + 3) f7 2 a0 7 (n + 2)).bind fun f8 => ((zmk f8 (n + 3) (.inl (0, 81, .inl (fun _ => 0)))).bind fun f9 => ((zpR (n + 4) f9 2 a0 8 (n + 3)).bind fun f10 => ((zmk f10 (n + 4) (.inl (0, 4, .inl (fun _ => 0)))).bind fun f11 => ((zpR (n + 5) f11 2 a0 9 (n + 4)).bind fun f12 => ((zmk f12 (n + 5) (.inl (0, 6, .inl (fun _ => 0)))).bind fun f13 => ((zpR (n + 6) f13 2 a0 10 (n + 5)).bind fun f14 => ((zmk f14 (n + 6) (.inl (0, 6, .inl (fun _ => 0)))).bind fun f15 => ((zpR (n + 7) f15 2 a0 11 (n + 6)).bind fun f16 => ((zmk f16 (n + 7) (.inl (0, 6, .inl (fun _ => 0)))).bind fun f17 => ((zpR (n + 8) f17 2 a0 12 (n + 7)).bind fun f18 => ((zmk f18 (n + 8) (.inl (0, 5, .inl (fun _ => 0)))).bind fun f19 => ((zpR (n + 9) f19 2 a0 13 (n + 8)).bind fun f20 => ((zmk f20 (n + 9) (.inl (0, 5, .inl (fun _ => 0)))).bind fun f21 => ((zpR (n + 10) f21 2 a0 14 (n + 9)).bind fun f22 => some f22))))))))))))))))))))))
set_option maxRecDepth 100000 in
set_option maxHeartbeats 4000000 in
theorem mX2_init (l : Launch) (G : zG) {N n : Nat} {f f9 : zF} {a0 : Nat} (h : fX2_init N n f a0 = some f9) : zMA l G yX2_init cX2_init 1 1 n f [zr G a0] f9 10 128 := by
  refine zMA.of (by decide) (Nat.le_of_ble_eq_true rfl) rfl ?_
  intro p e s m args below meth c locs ls B hni hS hz0 hl
  have he := B.1
  have hb := B.2.1
  have hl : lv_has ls 1 [(0, zr G a0)] := hl
  unfold fX2_init at h
  generalize hHs : s.heap = H at hS ⊢
  refine z_aload_n he hb dX2_init_0 rfl (lv_at hl 0 rfl) (zref_r _ _) ?_
  refine z_objInit (rest := []) B zk_149 zobj hl ⟨by decide, by decide⟩ (Nat.le_of_ble_eq_true rfl) dX2_init_1 ?_
  refine z_aload_n he hb dX2_init_4 rfl (lv_at hl 0 rfl) (zref_r _ _) ?_
  refine lv_bipush (v := (6 : Int32)) he hb dX2_init_5 (by decide) ?_
  obtain ⟨f1, hx, h⟩ := zob h
  refine z_putI (ci := 2) (T := TX2) (N := 15) (j := 0) B hS hx rfl zin_X2 tyX2 tyX2_ok nmX2 (by decide) zk_150 rfl rfl dX2_init_7 (fun H locs hS => ?_)
  refine z_aload_n he hb dX2_init_10 rfl (lv_at hl 0 rfl) (zref_r _ _) ?_
  refine lv_bipush (v := (6 : Int32)) he hb dX2_init_11 (by decide) ?_
  obtain ⟨f2, hx, h⟩ := zob h
  refine z_putI (ci := 2) (T := TX2) (N := 15) (j := 1) B hS hx rfl zin_X2 tyX2 tyX2_ok nmX2 (by decide) zk_154 rfl rfl dX2_init_13 (fun H locs hS => ?_)
  refine z_aload_n he hb dX2_init_16 rfl (lv_at hl 0 rfl) (zref_r _ _) ?_
  refine lv_iconst (v := (4 : Int32)) he hb dX2_init_17 (by decide) ?_
  obtain ⟨f3, hx, h⟩ := zob h
  refine z_newL (len := 4) B hS (by omega) zk_143 (by decide) (by decide) (by decide) (by decide) (by decide) dX2_init_18 (fun H hS => ?_)
  rw [Option.some.inj hx] at hS
  obtain ⟨f4, hx, h⟩ := zob h
  refine z_putF (ci := 2) (T := TX2) (N := 15) (j := 5) B hni hS hx rfl zin_X2 tyX2 tyX2_ok nmX2 (by decide) zk_174 rfl rfl rfl rfl dX2_init_20 (fun H locs hS => ?_)
  refine z_aload_n he hb dX2_init_23 rfl (lv_at hl 0 rfl) (zref_r _ _) ?_
  refine lv_bipush (v := (6 : Int32)) he hb dX2_init_24 (by decide) ?_
  obtain ⟨f5, hx, h⟩ := zob h
  refine z_newL (len := 6) B hS (by omega) zk_143 (by decide) (by decide) (by decide) (by decide) (by decide) dX2_init_26 (fun H hS => ?_)
  rw [Option.some.inj hx] at hS
  obtain ⟨f6, hx, h⟩ := zob h
  refine z_putF (ci := 2) (T := TX2) (N := 15) (j := 6) B hni hS hx rfl zin_X2 tyX2 tyX2_ok nmX2 (by decide) zk_177 rfl rfl rfl rfl dX2_init_28 (fun H locs hS => ?_)
  refine z_aload_n he hb dX2_init_31 rfl (lv_at hl 0 rfl) (zref_r _ _) ?_
  refine lv_iconst (v := (5 : Int32)) he hb dX2_init_32 (by decide) ?_
  obtain ⟨f7, hx, h⟩ := zob h
  refine z_newL (len := 5) B hS (by omega) zk_143 (by decide) (by decide) (by decide) (by decide) (by decide) dX2_init_33 (fun H hS => ?_)
  rw [Option.some.inj hx] at hS
  obtain ⟨f8, hx, h⟩ := zob h
  refine z_putF (ci := 2) (T := TX2) (N := 15) (j := 7) B hni hS hx rfl zin_X2 tyX2 tyX2_ok nmX2 (by decide) zk_181 rfl rfl rfl rfl dX2_init_35 (fun H locs hS => ?_)
  refine z_aload_n he hb dX2_init_38 rfl (lv_at hl 0 rfl) (zref_r _ _) ?_
  refine lv_bipush (v := (81 : Int32)) he hb dX2_init_39 (by decide) ?_
  obtain ⟨f9, hx, h⟩ := zob h
  refine z_newI (len := 81) B hS (by omega) zk_241 (by decide) (by decide) (by decide) (by decide) (by decide) dX2_init_41 (fun H hS => ?_)
  rw [Option.some.inj hx] at hS
  obtain ⟨f10, hx, h⟩ := zob h
  refine z_putF (ci := 2) (T := TX2) (N := 15) (j := 8) B hni hS hx rfl zin_X2 tyX2 tyX2_ok nmX2 (by decide) zk_185 rfl rfl rfl rfl dX2_init_43 (fun H locs hS => ?_)
  refine z_aload_n he hb dX2_init_46 rfl (lv_at hl 0 rfl) (zref_r _ _) ?_
  refine lv_iconst (v := (4 : Int32)) he hb dX2_init_47 (by decide) ?_
  obtain ⟨f11, hx, h⟩ := zob h
  refine z_newI (len := 4) B hS (by omega) zk_241 (by decide) (by decide) (by decide) (by decide) (by decide) dX2_init_48 (fun H hS => ?_)
  rw [Option.some.inj hx] at hS
  obtain ⟨f12, hx, h⟩ := zob h
  refine z_putF (ci := 2) (T := TX2) (N := 15) (j := 9) B hni hS hx rfl zin_X2 tyX2 tyX2_ok nmX2 (by decide) zk_188 rfl rfl rfl rfl dX2_init_50 (fun H locs hS => ?_)
  refine z_aload_n he hb dX2_init_53 rfl (lv_at hl 0 rfl) (zref_r _ _) ?_
  refine lv_bipush (v := (6 : Int32)) he hb dX2_init_54 (by decide) ?_
  obtain ⟨f13, hx, h⟩ := zob h
  refine z_newI (len := 6) B hS (by omega) zk_241 (by decide) (by decide) (by decide) (by decide) (by decide) dX2_init_56 (fun H hS => ?_)
  rw [Option.some.inj hx] at hS
  obtain ⟨f14, hx, h⟩ := zob h
  refine z_putF (ci := 2) (T := TX2) (N := 15) (j := 10) B hni hS hx rfl zin_X2 tyX2 tyX2_ok nmX2 (by decide) zk_191 rfl rfl rfl rfl dX2_init_58 (fun H locs hS => ?_)
  refine z_aload_n he hb dX2_init_61 rfl (lv_at hl 0 rfl) (zref_r _ _) ?_
  refine lv_bipush (v := (6 : Int32)) he hb dX2_init_62 (by decide) ?_
  obtain ⟨f15, hx, h⟩ := zob h
  refine z_newI (len := 6) B hS (by omega) zk_241 (by decide) (by decide) (by decide) (by decide) (by decide) dX2_init_64 (fun H hS => ?_)
  rw [Option.some.inj hx] at hS
  obtain ⟨f16, hx, h⟩ := zob h
  refine z_putF (ci := 2) (T := TX2) (N := 15) (j := 11) B hni hS hx rfl zin_X2 tyX2 tyX2_ok nmX2 (by decide) zk_196 rfl rfl rfl rfl dX2_init_66 (fun H locs hS => ?_)
  refine z_aload_n he hb dX2_init_69 rfl (lv_at hl 0 rfl) (zref_r _ _) ?_
  refine lv_bipush (v := (6 : Int32)) he hb dX2_init_70 (by decide) ?_
  obtain ⟨f17, hx, h⟩ := zob h
  refine z_newI (len := 6) B hS (by omega) zk_241 (by decide) (by decide) (by decide) (by decide) (by decide) dX2_init_72 (fun H hS => ?_)
  rw [Option.some.inj hx] at hS
  obtain ⟨f18, hx, h⟩ := zob h
  refine z_putF (ci := 2) (T := TX2) (N := 15) (j := 12) B hni hS hx rfl zin_X2 tyX2 tyX2_ok nmX2 (by decide) zk_201 rfl rfl rfl rfl dX2_init_74 (fun H locs hS => ?_)
  refine z_aload_n he hb dX2_init_77 rfl (lv_at hl 0 rfl) (zref_r _ _) ?_
  refine lv_iconst (v := (5 : Int32)) he hb dX2_init_78 (by decide) ?_
  obtain ⟨f19, hx, h⟩ := zob h
  refine z_newI (len := 5) B hS (by omega) zk_241 (by decide) (by decide) (by decide) (by decide) (by decide) dX2_init_79 (fun H hS => ?_)
  rw [Option.some.inj hx] at hS
  obtain ⟨f20, hx, h⟩ := zob h
  refine z_putF (ci := 2) (T := TX2) (N := 15) (j := 13) B hni hS hx rfl zin_X2 tyX2 tyX2_ok nmX2 (by decide) zk_204 rfl rfl rfl rfl dX2_init_81 (fun H locs hS => ?_)
  refine z_aload_n he hb dX2_init_84 rfl (lv_at hl 0 rfl) (zref_r _ _) ?_
  refine lv_iconst (v := (5 : Int32)) he hb dX2_init_85 (by decide) ?_
  obtain ⟨f21, hx, h⟩ := zob h
  refine z_newI (len := 5) B hS (by omega) zk_241 (by decide) (by decide) (by decide) (by decide) (by decide) dX2_init_86 (fun H hS => ?_)
  rw [Option.some.inj hx] at hS
  obtain ⟨f22, hx, h⟩ := zob h
  refine z_putF (ci := 2) (T := TX2) (N := 15) (j := 14) B hni hS hx rfl zin_X2 tyX2 tyX2_ok nmX2 (by decide) zk_207 rfl rfl rfl rfl dX2_init_88 (fun H locs hS => ?_)
  obtain rfl := Option.some.inj h
  exact z_vretA B hS (by omega) dX2_init_91
theorem dX8_init_0 : decode cX8_init 0 = .ok (.aload_n 0, 1) := by decide +kernel
theorem dX8_init_1 : decode cX8_init 1 = .ok (.invokespecial 3, 3) := by decide +kernel
theorem dX8_init_4 : decode cX8_init 4 = .ok (.aload_n 0, 1) := by decide +kernel
theorem dX8_init_5 : decode cX8_init 5 = .ok (.bipush 6, 2) := by decide +kernel
theorem dX8_init_7 : decode cX8_init 7 = .ok (.newarray .int, 2) := by decide +kernel
theorem dX8_init_9 : decode cX8_init 9 = .ok (.putfield 9, 3) := by decide +kernel
theorem dX8_init_12 : decode cX8_init 12 = .ok (.aload_n 0, 1) := by decide +kernel
theorem dX8_init_13 : decode cX8_init 13 = .ok (.bipush 6, 2) := by decide +kernel
theorem dX8_init_15 : decode cX8_init 15 = .ok (.newarray .int, 2) := by decide +kernel
theorem dX8_init_17 : decode cX8_init 17 = .ok (.putfield 15, 3) := by decide +kernel
theorem dX8_init_20 : decode cX8_init 20 = .ok (.aload_n 0, 1) := by decide +kernel
theorem dX8_init_21 : decode cX8_init 21 = .ok (.bipush 6, 2) := by decide +kernel
theorem dX8_init_23 : decode cX8_init 23 = .ok (.newarray .int, 2) := by decide +kernel
theorem dX8_init_25 : decode cX8_init 25 = .ok (.putfield 18, 3) := by decide +kernel
theorem dX8_init_28 : decode cX8_init 28 = .ok (.aload_n 0, 1) := by decide +kernel
theorem dX8_init_29 : decode cX8_init 29 = .ok (.iconst 5, 1) := by decide +kernel
theorem dX8_init_30 : decode cX8_init 30 = .ok (.newarray .int, 2) := by decide +kernel
theorem dX8_init_32 : decode cX8_init 32 = .ok (.putfield 21, 3) := by decide +kernel
theorem dX8_init_35 : decode cX8_init 35 = .ok (.aload_n 0, 1) := by decide +kernel
theorem dX8_init_36 : decode cX8_init 36 = .ok (.iconst 5, 1) := by decide +kernel
theorem dX8_init_37 : decode cX8_init 37 = .ok (.newarray .int, 2) := by decide +kernel
theorem dX8_init_39 : decode cX8_init 39 = .ok (.putfield 24, 3) := by decide +kernel
theorem dX8_init_42 : decode cX8_init 42 = .ok (.aload_n 0, 1) := by decide +kernel
theorem dX8_init_43 : decode cX8_init 43 = .ok (.iconst 5, 1) := by decide +kernel
theorem dX8_init_44 : decode cX8_init 44 = .ok (.newarray .int, 2) := by decide +kernel
theorem dX8_init_46 : decode cX8_init 46 = .ok (.putfield 27, 3) := by decide +kernel
theorem dX8_init_49 : decode cX8_init 49 = .ok (.aload_n 0, 1) := by decide +kernel
theorem dX8_init_50 : decode cX8_init 50 = .ok (.bipush 81, 2) := by decide +kernel
theorem dX8_init_52 : decode cX8_init 52 = .ok (.newarray .int, 2) := by decide +kernel
theorem dX8_init_54 : decode cX8_init 54 = .ok (.putfield 30, 3) := by decide +kernel
theorem dX8_init_57 : decode cX8_init 57 = .ok (.aload_n 0, 1) := by decide +kernel
theorem dX8_init_58 : decode cX8_init 58 = .ok (.aload_n 1, 1) := by decide +kernel
theorem dX8_init_59 : decode cX8_init 59 = .ok (.putfield 33, 3) := by decide +kernel
theorem dX8_init_62 : decode cX8_init 62 = .ok (.iconst 0, 1) := by decide +kernel
theorem dX8_init_63 : decode cX8_init 63 = .ok (.istore_n 2, 1) := by decide +kernel
theorem dX8_init_64 : decode cX8_init 64 = .ok (.iload_n 2, 1) := by decide +kernel
theorem dX8_init_65 : decode cX8_init 65 = .ok (.aload_n 0, 1) := by decide +kernel
theorem dX8_init_66 : decode cX8_init 66 = .ok (.getfield 30, 3) := by decide +kernel
theorem dX8_init_69 : decode cX8_init 69 = .ok (.arraylength, 1) := by decide +kernel
theorem dX8_init_70 : decode cX8_init 70 = .ok (.if_icmp .ge 16, 3) := by decide +kernel
theorem dX8_init_73 : decode cX8_init 73 = .ok (.aload_n 0, 1) := by decide +kernel
theorem dX8_init_74 : decode cX8_init 74 = .ok (.getfield 30, 3) := by decide +kernel
theorem dX8_init_77 : decode cX8_init 77 = .ok (.iload_n 2, 1) := by decide +kernel
theorem dX8_init_78 : decode cX8_init 78 = .ok (.iconst (-1), 1) := by decide +kernel
theorem dX8_init_79 : decode cX8_init 79 = .ok (.iastore, 1) := by decide +kernel
theorem dX8_init_80 : decode cX8_init 80 = .ok (.iinc 2 1, 3) := by decide +kernel
theorem dX8_init_83 : decode cX8_init 83 = .ok (.goto (-19), 3) := by decide +kernel
theorem dX8_init_86 : decode cX8_init 86 = .ok (.return_, 1) := by decide +kernel
def fX8_init_64 (N n : Nat) : Nat → zF → Nat → Int32 → Option zF
  | 0, _, _, _ => none
  | k + 1, f, a0, a2 =>
    ((zgR (n + 7) f 8 a0 8).bind fun x16 => ((zlen (n + 7) f 0 x16).bind fun x17 => (if x17 ≤ a2 then some f else ((zgR (n + 7) f 8 a0 8).bind fun x18 => ((zsI (n + 7) f 0 x18 a2 (-1 : Int32)).bind fun f19 => (fX8_init_64 N n k f19 a0 (a2 + 1)))))))
set_option maxRecDepth 100000 in
set_option maxHeartbeats 4000000 in
theorem gX8_init_64 (l : Launch) {G : zG} {p : Program} {e : Env} {s : State} {m : MethodId} {args : Array Value} {below : List Frame} {meth : Method} {c : Code} {N n : Nat} {f9 : zF} (B : zB G p s m args meth c RX8 cX8_init 3 (none)) (hz0 : s.heap.size = G.2.2.2.size + n) : ∀ (k : Nat), ∀ (f : zF) (a0 : Nat) (a2 : Int32) (H : Heap) (locs : List Loc) (ls : Array Slot), fX8_init_64 N n k f a0 a2 = some f9 → zS G (n + 7) f H locs → lv_has ls 3 [(0, zr G a0), (2, .int a2)] → W p l e (zrmA 1 7 114) s m args below meth c H locs 7 114 (MQ below (zQcA G (n + 7) f9) args s 7 114 (zA G)) (F0 m 64 ls []) := by
  have he := B.1
  have hb := B.2.1
  intro k
  induction k with
  | zero =>
    intro f a0 a2 H locs ls h
    unfold fX8_init_64 at h
    cases h
  | succ k ih =>
    intro f a0 a2 H locs ls h hS hl
    unfold fX8_init_64 at h
    refine lv_iload_n he hb dX8_init_64 rfl (lv_at hl 1 rfl) ?_
    refine z_aload_n he hb dX8_init_65 rfl (lv_at hl 0 rfl) (zref_r _ _) ?_
    obtain ⟨x16, hx, h⟩ := zob h
    refine z_getR (ci := 8) (T := TX8) (N := 9) (j := 8) B hS hx rfl zin_X8 (by decide) zk_272 dX8_init_66 ?_
    obtain ⟨x17, hx, h⟩ := zob h
    refine z_len B hS hx rfl dX8_init_69 ?_
    refine lv_icmp_ge (tgt := 86) he hb dX8_init_70 (by decide) (fun hc => ?_) (fun hc => ?_)
    · rw [if_pos hc] at h
      obtain rfl := Option.some.inj h
      exact z_vretA B hS (by omega) dX8_init_86
    · rw [if_neg hc] at h
      refine z_aload_n he hb dX8_init_73 rfl (lv_at hl 0 rfl) (zref_r _ _) ?_
      obtain ⟨x18, hx, h⟩ := zob h
      refine z_getR (ci := 8) (T := TX8) (N := 9) (j := 8) B hS hx rfl zin_X8 (by decide) zk_272 dX8_init_74 ?_
      refine lv_iload_n he hb dX8_init_77 rfl (lv_at hl 1 rfl) ?_
      refine lv_iconst (v := (-1 : Int32)) he hb dX8_init_78 (by decide) ?_
      obtain ⟨f19, hx, h⟩ := zob h
      refine z_istI B hS hx dX8_init_79 (fun H locs hS => ?_)
      refine lv_iinc (v := (a2 + 1)) (lv' := [(2, _), (0, _)]) he hb dX8_init_80 hl (k := 1) rfl rfl (by decide) rfl (fun ls hl => ?_)
      refine lv_goto (tgt := 64) he hb dX8_init_83 (by decide) ?_
      exact ih _ _ _ _ _ _ h hS (lv_sub hl [1, 0] rfl)
def fX8_init (N n : Nat) (f : zF) (a0 : Nat) (a1 : Nat) : Option zF :=
    ((zmk f n (.inl (0, 6, .inl (fun _ => 0)))).bind fun f1 => ((zpR (n + 1) f1 8 a0 2 n).bind fun f2 => ((zmk f2 (n + 1) (.inl (0, 6, .inl (fun _ => 0)))).bind fun f3 => ((zpR (n + 2) f3 8 a0 3 (n + 1)).bind fun f4 => ((zmk f4 (n + 2) (.inl (0, 6, .inl (fun _ => 0)))).bind fun f5 => ((zpR (n + 3) f5 8 a0 4 (n + 2)).bind fun f6 => ((zmk f6 (n + 3) (.inl (0, 5, .inl (fun _ => 0)))).bind fun f7 => ((zpR (n + 4) f7 8 a0 5 (n + 3)).bind fun f8 => ((zmk f8 (n + 4) (.inl (0, 5, .inl (fun _ => 0)))).bind fun f9 => ((zpR (n + 5) f9 8 a0 6 (n + 4)).bind fun f10 => ((zmk f10 (n + 5) (.inl (0, 5, .inl (fun _ => 0)))).bind fun f11 => ((zpR (n + 6) f11 8 a0 7 (n + 5)).bind fun f12 => ((zmk f12 (n + 6) (.inl (0, 81, .inl (fun _ => 0)))).bind fun f13 => ((zpR (n + 7) f13 8 a0 8 (n + 6)).bind fun f14 => ((zpR (n + 7) f14 8 a0 0 a1).bind fun f15 => (fX8_init_64 N n N f15 a0 (0 : Int32)))))))))))))))))
set_option maxRecDepth 100000 in
set_option maxHeartbeats 4000000 in
theorem mX8_init (l : Launch) (G : zG) {N n : Nat} {f f9 : zF} {a0 : Nat} {a1 : Nat} (h : fX8_init N n f a0 a1 = some f9) : zMA l G yX8_init cX8_init 3 1 n f [zr G a0, zr G a1] f9 7 114 := by
  refine zMA.of (by decide) (Nat.le_of_ble_eq_true rfl) rfl ?_
  intro p e s m args below meth c locs ls B hni hS hz0 hl
  have he := B.1
  have hb := B.2.1
  have hl : lv_has ls 3 [(0, zr G a0), (1, zr G a1)] := hl
  unfold fX8_init at h
  generalize hHs : s.heap = H at hS ⊢
  refine z_aload_n he hb dX8_init_0 rfl (lv_at hl 0 rfl) (zref_r _ _) ?_
  refine z_objInit (rest := []) B zk_247 zobj hl ⟨by decide, by decide⟩ (Nat.le_of_ble_eq_true rfl) dX8_init_1 ?_
  refine z_aload_n he hb dX8_init_4 rfl (lv_at hl 0 rfl) (zref_r _ _) ?_
  refine lv_bipush (v := (6 : Int32)) he hb dX8_init_5 (by decide) ?_
  obtain ⟨f1, hx, h⟩ := zob h
  refine z_newI (len := 6) B hS (by omega) zk_241 (by decide) (by decide) (by decide) (by decide) (by decide) dX8_init_7 (fun H hS => ?_)
  rw [Option.some.inj hx] at hS
  obtain ⟨f2, hx, h⟩ := zob h
  refine z_putF (ci := 8) (T := TX8) (N := 9) (j := 2) B hni hS hx rfl zin_X8 tyX8 tyX8_ok nmX8 (by decide) zk_254 rfl rfl rfl rfl dX8_init_9 (fun H locs hS => ?_)
  refine z_aload_n he hb dX8_init_12 rfl (lv_at hl 0 rfl) (zref_r _ _) ?_
  refine lv_bipush (v := (6 : Int32)) he hb dX8_init_13 (by decide) ?_
  obtain ⟨f3, hx, h⟩ := zob h
  refine z_newI (len := 6) B hS (by omega) zk_241 (by decide) (by decide) (by decide) (by decide) (by decide) dX8_init_15 (fun H hS => ?_)
  rw [Option.some.inj hx] at hS
  obtain ⟨f4, hx, h⟩ := zob h
  refine z_putF (ci := 8) (T := TX8) (N := 9) (j := 3) B hni hS hx rfl zin_X8 tyX8 tyX8_ok nmX8 (by decide) zk_258 rfl rfl rfl rfl dX8_init_17 (fun H locs hS => ?_)
  refine z_aload_n he hb dX8_init_20 rfl (lv_at hl 0 rfl) (zref_r _ _) ?_
  refine lv_bipush (v := (6 : Int32)) he hb dX8_init_21 (by decide) ?_
  obtain ⟨f5, hx, h⟩ := zob h
  refine z_newI (len := 6) B hS (by omega) zk_241 (by decide) (by decide) (by decide) (by decide) (by decide) dX8_init_23 (fun H hS => ?_)
  rw [Option.some.inj hx] at hS
  obtain ⟨f6, hx, h⟩ := zob h
  refine z_putF (ci := 8) (T := TX8) (N := 9) (j := 4) B hni hS hx rfl zin_X8 tyX8 tyX8_ok nmX8 (by decide) zk_261 rfl rfl rfl rfl dX8_init_25 (fun H locs hS => ?_)
  refine z_aload_n he hb dX8_init_28 rfl (lv_at hl 0 rfl) (zref_r _ _) ?_
  refine lv_iconst (v := (5 : Int32)) he hb dX8_init_29 (by decide) ?_
  obtain ⟨f7, hx, h⟩ := zob h
  refine z_newI (len := 5) B hS (by omega) zk_241 (by decide) (by decide) (by decide) (by decide) (by decide) dX8_init_30 (fun H hS => ?_)
  rw [Option.some.inj hx] at hS
  obtain ⟨f8, hx, h⟩ := zob h
  refine z_putF (ci := 8) (T := TX8) (N := 9) (j := 5) B hni hS hx rfl zin_X8 tyX8 tyX8_ok nmX8 (by decide) zk_264 rfl rfl rfl rfl dX8_init_32 (fun H locs hS => ?_)
  refine z_aload_n he hb dX8_init_35 rfl (lv_at hl 0 rfl) (zref_r _ _) ?_
  refine lv_iconst (v := (5 : Int32)) he hb dX8_init_36 (by decide) ?_
  obtain ⟨f9, hx, h⟩ := zob h
  refine z_newI (len := 5) B hS (by omega) zk_241 (by decide) (by decide) (by decide) (by decide) (by decide) dX8_init_37 (fun H hS => ?_)
  rw [Option.some.inj hx] at hS
  obtain ⟨f10, hx, h⟩ := zob h
  refine z_putF (ci := 8) (T := TX8) (N := 9) (j := 6) B hni hS hx rfl zin_X8 tyX8 tyX8_ok nmX8 (by decide) zk_267 rfl rfl rfl rfl dX8_init_39 (fun H locs hS => ?_)
  refine z_aload_n he hb dX8_init_42 rfl (lv_at hl 0 rfl) (zref_r _ _) ?_
  refine lv_iconst (v := (5 : Int32)) he hb dX8_init_43 (by decide) ?_
  obtain ⟨f11, hx, h⟩ := zob h
  refine z_newI (len := 5) B hS (by omega) zk_241 (by decide) (by decide) (by decide) (by decide) (by decide) dX8_init_44 (fun H hS => ?_)
  rw [Option.some.inj hx] at hS
  obtain ⟨f12, hx, h⟩ := zob h
  refine z_putF (ci := 8) (T := TX8) (N := 9) (j := 7) B hni hS hx rfl zin_X8 tyX8 tyX8_ok nmX8 (by decide) zk_270 rfl rfl rfl rfl dX8_init_46 (fun H locs hS => ?_)
  refine z_aload_n he hb dX8_init_49 rfl (lv_at hl 0 rfl) (zref_r _ _) ?_
  refine lv_bipush (v := (81 : Int32)) he hb dX8_init_50 (by decide) ?_
  obtain ⟨f13, hx, h⟩ := zob h
  refine z_newI (len := 81) B hS (by omega) zk_241 (by decide) (by decide) (by decide) (by decide) (by decide) dX8_init_52 (fun H hS => ?_)
  rw [Option.some.inj hx] at hS
  obtain ⟨f14, hx, h⟩ := zob h
  refine z_putF (ci := 8) (T := TX8) (N := 9) (j := 8) B hni hS hx rfl zin_X8 tyX8 tyX8_ok nmX8 (by decide) zk_272 rfl rfl rfl rfl dX8_init_54 (fun H locs hS => ?_)
  refine z_aload_n he hb dX8_init_57 rfl (lv_at hl 0 rfl) (zref_r _ _) ?_
  refine z_aload_n he hb dX8_init_58 rfl (lv_at hl 1 rfl) (zref_r _ _) ?_
  obtain ⟨f15, hx, h⟩ := zob h
  refine z_putF (ci := 8) (T := TX8) (N := 9) (j := 0) B hni hS hx rfl zin_X8 tyX8 tyX8_ok nmX8 (by decide) zk_248 rfl rfl rfl rfl dX8_init_59 (fun H locs hS => ?_)
  refine lv_iconst (v := (0 : Int32)) he hb dX8_init_62 (by decide) ?_
  refine lv_istore_n (lv' := [(2, _), (0, _), (1, _)]) he hb dX8_init_63 rfl hl (by decide) rfl (fun ls hl => ?_)
  exact gX8_init_64 l B hz0 N _ _ _ _ _ _ h hS (lv_sub hl [1, 0] rfl)
theorem dX6_init_0 : decode cX6_init 0 = .ok (.aload_n 0, 1) := by decide +kernel
theorem dX6_init_1 : decode cX6_init 1 = .ok (.invokespecial 3, 3) := by decide +kernel
theorem dX6_init_4 : decode cX6_init 4 = .ok (.aload_n 0, 1) := by decide +kernel
theorem dX6_init_5 : decode cX6_init 5 = .ok (.bipush 40, 2) := by decide +kernel
theorem dX6_init_7 : decode cX6_init 7 = .ok (.newarray .int, 2) := by decide +kernel
theorem dX6_init_9 : decode cX6_init 9 = .ok (.putfield 9, 3) := by decide +kernel
theorem dX6_init_12 : decode cX6_init 12 = .ok (.aload_n 0, 1) := by decide +kernel
theorem dX6_init_13 : decode cX6_init 13 = .ok (.bipush 40, 2) := by decide +kernel
theorem dX6_init_15 : decode cX6_init 15 = .ok (.newarray .int, 2) := by decide +kernel
theorem dX6_init_17 : decode cX6_init 17 = .ok (.putfield 15, 3) := by decide +kernel
theorem dX6_init_20 : decode cX6_init 20 = .ok (.aload_n 0, 1) := by decide +kernel
theorem dX6_init_21 : decode cX6_init 21 = .ok (.bipush 40, 2) := by decide +kernel
theorem dX6_init_23 : decode cX6_init 23 = .ok (.newarray .int, 2) := by decide +kernel
theorem dX6_init_25 : decode cX6_init 25 = .ok (.putfield 18, 3) := by decide +kernel
theorem dX6_init_28 : decode cX6_init 28 = .ok (.return_, 1) := by decide +kernel
def fX6_init (N n : Nat) (f : zF) (a0 : Nat) : Option zF :=
    ((zmk f n (.inl (0, 40, .inl (fun _ => 0)))).bind fun f1 => ((zpR (n + 1) f1 6 a0 1 n).bind fun f2 => ((zmk f2 (n + 1) (.inl (0, 40, .inl (fun _ => 0)))).bind fun f3 => ((zpR (n + 2) f3 6 a0 2 (n + 1)).bind fun f4 => ((zmk f4 (n + 2) (.inl (0, 40, .inl (fun _ => 0)))).bind fun f5 => ((zpR (n + 3) f5 6 a0 3 (n + 2)).bind fun f6 => some f6))))))
set_option maxRecDepth 100000 in
set_option maxHeartbeats 4000000 in
theorem mX6_init (l : Launch) (G : zG) {N n : Nat} {f f9 : zF} {a0 : Nat} (h : fX6_init N n f a0 = some f9) : zMA l G yX6_init cX6_init 1 1 n f [zr G a0] f9 3 120 := by
  refine zMA.of (by decide) (Nat.le_of_ble_eq_true rfl) rfl ?_
  intro p e s m args below meth c locs ls B hni hS hz0 hl
  have he := B.1
  have hb := B.2.1
  have hl : lv_has ls 1 [(0, zr G a0)] := hl
  unfold fX6_init at h
  generalize hHs : s.heap = H at hS ⊢
  refine z_aload_n he hb dX6_init_0 rfl (lv_at hl 0 rfl) (zref_r _ _) ?_
  refine z_objInit (rest := []) B zk_298 zobj hl ⟨by decide, by decide⟩ (Nat.le_of_ble_eq_true rfl) dX6_init_1 ?_
  refine z_aload_n he hb dX6_init_4 rfl (lv_at hl 0 rfl) (zref_r _ _) ?_
  refine lv_bipush (v := (40 : Int32)) he hb dX6_init_5 (by decide) ?_
  obtain ⟨f1, hx, h⟩ := zob h
  refine z_newI (len := 40) B hS (by omega) zk_241 (by decide) (by decide) (by decide) (by decide) (by decide) dX6_init_7 (fun H hS => ?_)
  rw [Option.some.inj hx] at hS
  obtain ⟨f2, hx, h⟩ := zob h
  refine z_putF (ci := 6) (T := TX6) (N := 4) (j := 1) B hni hS hx rfl zin_X6 tyX6 tyX6_ok nmX6 (by decide) zk_301 rfl rfl rfl rfl dX6_init_9 (fun H locs hS => ?_)
  refine z_aload_n he hb dX6_init_12 rfl (lv_at hl 0 rfl) (zref_r _ _) ?_
  refine lv_bipush (v := (40 : Int32)) he hb dX6_init_13 (by decide) ?_
  obtain ⟨f3, hx, h⟩ := zob h
  refine z_newI (len := 40) B hS (by omega) zk_241 (by decide) (by decide) (by decide) (by decide) (by decide) dX6_init_15 (fun H hS => ?_)
  rw [Option.some.inj hx] at hS
  obtain ⟨f4, hx, h⟩ := zob h
  refine z_putF (ci := 6) (T := TX6) (N := 4) (j := 2) B hni hS hx rfl zin_X6 tyX6 tyX6_ok nmX6 (by decide) zk_302 rfl rfl rfl rfl dX6_init_17 (fun H locs hS => ?_)
  refine z_aload_n he hb dX6_init_20 rfl (lv_at hl 0 rfl) (zref_r _ _) ?_
  refine lv_bipush (v := (40 : Int32)) he hb dX6_init_21 (by decide) ?_
  obtain ⟨f5, hx, h⟩ := zob h
  refine z_newI (len := 40) B hS (by omega) zk_241 (by decide) (by decide) (by decide) (by decide) (by decide) dX6_init_23 (fun H hS => ?_)
  rw [Option.some.inj hx] at hS
  obtain ⟨f6, hx, h⟩ := zob h
  refine z_putF (ci := 6) (T := TX6) (N := 4) (j := 3) B hni hS hx rfl zin_X6 tyX6 tyX6_ok nmX6 (by decide) zk_303 rfl rfl rfl rfl dX6_init_25 (fun H locs hS => ?_)
  obtain rfl := Option.some.inj h
  exact z_vretA B hS (by omega) dX6_init_28
theorem dX0_init_0 : decode cX0_init 0 = .ok (.aload_n 0, 1) := by decide +kernel
theorem dX0_init_1 : decode cX0_init 1 = .ok (.invokespecial 3, 3) := by decide +kernel
theorem dX0_init_4 : decode cX0_init 4 = .ok (.aload_n 0, 1) := by decide +kernel
theorem dX0_init_5 : decode cX0_init 5 = .ok (.iconst 5, 1) := by decide +kernel
theorem dX0_init_6 : decode cX0_init 6 = .ok (.newarray .int, 2) := by decide +kernel
theorem dX0_init_8 : decode cX0_init 8 = .ok (.putfield 9, 3) := by decide +kernel
theorem dX0_init_11 : decode cX0_init 11 = .ok (.aload_n 0, 1) := by decide +kernel
theorem dX0_init_12 : decode cX0_init 12 = .ok (.iconst (-1), 1) := by decide +kernel
theorem dX0_init_13 : decode cX0_init 13 = .ok (.putfield 15, 3) := by decide +kernel
theorem dX0_init_16 : decode cX0_init 16 = .ok (.aload_n 0, 1) := by decide +kernel
theorem dX0_init_17 : decode cX0_init 17 = .ok (.iconst (-1), 1) := by decide +kernel
theorem dX0_init_18 : decode cX0_init 18 = .ok (.putfield 19, 3) := by decide +kernel
theorem dX0_init_21 : decode cX0_init 21 = .ok (.aload_n 0, 1) := by decide +kernel
theorem dX0_init_22 : decode cX0_init 22 = .ok (.bipush 40, 2) := by decide +kernel
theorem dX0_init_24 : decode cX0_init 24 = .ok (.newarray .int, 2) := by decide +kernel
theorem dX0_init_26 : decode cX0_init 26 = .ok (.putfield 22, 3) := by decide +kernel
theorem dX0_init_29 : decode cX0_init 29 = .ok (.aload_n 0, 1) := by decide +kernel
theorem dX0_init_30 : decode cX0_init 30 = .ok (.iconst 4, 1) := by decide +kernel
theorem dX0_init_31 : decode cX0_init 31 = .ok (.newarray .int, 2) := by decide +kernel
theorem dX0_init_33 : decode cX0_init 33 = .ok (.putfield 25, 3) := by decide +kernel
theorem dX0_init_36 : decode cX0_init 36 = .ok (.return_, 1) := by decide +kernel
def fX0_init (N n : Nat) (f : zF) (a0 : Nat) : Option zF :=
    ((zmk f n (.inl (0, 5, .inl (fun _ => 0)))).bind fun f1 => ((zpR (n + 1) f1 0 a0 1 n).bind fun f2 => ((zpI (n + 1) f2 0 a0 3 (-1 : Int32)).bind fun f3 => ((zpI (n + 1) f3 0 a0 4 (-1 : Int32)).bind fun f4 => ((zmk f4 (n + 1) (.inl (0, 40, .inl (fun _ => 0)))).bind fun f5 => ((zpR (n + 2) f5 0 a0 5 (n + 1)).bind fun f6 => ((zmk f6 (n + 2) (.inl (0, 4, .inl (fun _ => 0)))).bind fun f7 => ((zpR (n + 3) f7 0 a0 7 (n + 2)).bind fun f8 => some f8))))))))
set_option maxRecDepth 100000 in
set_option maxHeartbeats 4000000 in
theorem mX0_init (l : Launch) (G : zG) {N n : Nat} {f f9 : zF} {a0 : Nat} (h : fX0_init N n f a0 = some f9) : zMA l G yX0_init cX0_init 1 1 n f [zr G a0] f9 3 49 := by
  refine zMA.of (by decide) (Nat.le_of_ble_eq_true rfl) rfl ?_
  intro p e s m args below meth c locs ls B hni hS hz0 hl
  have he := B.1
  have hb := B.2.1
  have hl : lv_has ls 1 [(0, zr G a0)] := hl
  unfold fX0_init at h
  generalize hHs : s.heap = H at hS ⊢
  refine z_aload_n he hb dX0_init_0 rfl (lv_at hl 0 rfl) (zref_r _ _) ?_
  refine z_objInit (rest := []) B zk_472 zobj hl ⟨by decide, by decide⟩ (Nat.le_of_ble_eq_true rfl) dX0_init_1 ?_
  refine z_aload_n he hb dX0_init_4 rfl (lv_at hl 0 rfl) (zref_r _ _) ?_
  refine lv_iconst (v := (5 : Int32)) he hb dX0_init_5 (by decide) ?_
  obtain ⟨f1, hx, h⟩ := zob h
  refine z_newI (len := 5) B hS (by omega) zk_241 (by decide) (by decide) (by decide) (by decide) (by decide) dX0_init_6 (fun H hS => ?_)
  rw [Option.some.inj hx] at hS
  obtain ⟨f2, hx, h⟩ := zob h
  refine z_putF (ci := 0) (T := TX0) (N := 9) (j := 1) B hni hS hx rfl zin_X0 tyX0 tyX0_ok nmX0 (by decide) zk_474 rfl rfl rfl rfl dX0_init_8 (fun H locs hS => ?_)
  refine z_aload_n he hb dX0_init_11 rfl (lv_at hl 0 rfl) (zref_r _ _) ?_
  refine lv_iconst (v := (-1 : Int32)) he hb dX0_init_12 (by decide) ?_
  obtain ⟨f3, hx, h⟩ := zob h
  refine z_putI (ci := 0) (T := TX0) (N := 9) (j := 3) B hS hx rfl zin_X0 tyX0 tyX0_ok nmX0 (by decide) zk_477 rfl rfl dX0_init_13 (fun H locs hS => ?_)
  refine z_aload_n he hb dX0_init_16 rfl (lv_at hl 0 rfl) (zref_r _ _) ?_
  refine lv_iconst (v := (-1 : Int32)) he hb dX0_init_17 (by decide) ?_
  obtain ⟨f4, hx, h⟩ := zob h
  refine z_putI (ci := 0) (T := TX0) (N := 9) (j := 4) B hS hx rfl zin_X0 tyX0 tyX0_ok nmX0 (by decide) zk_479 rfl rfl dX0_init_18 (fun H locs hS => ?_)
  refine z_aload_n he hb dX0_init_21 rfl (lv_at hl 0 rfl) (zref_r _ _) ?_
  refine lv_bipush (v := (40 : Int32)) he hb dX0_init_22 (by decide) ?_
  obtain ⟨f5, hx, h⟩ := zob h
  refine z_newI (len := 40) B hS (by omega) zk_241 (by decide) (by decide) (by decide) (by decide) (by decide) dX0_init_24 (fun H hS => ?_)
  rw [Option.some.inj hx] at hS
  obtain ⟨f6, hx, h⟩ := zob h
  refine z_putF (ci := 0) (T := TX0) (N := 9) (j := 5) B hni hS hx rfl zin_X0 tyX0 tyX0_ok nmX0 (by decide) zk_481 rfl rfl rfl rfl dX0_init_26 (fun H locs hS => ?_)
  refine z_aload_n he hb dX0_init_29 rfl (lv_at hl 0 rfl) (zref_r _ _) ?_
  refine lv_iconst (v := (4 : Int32)) he hb dX0_init_30 (by decide) ?_
  obtain ⟨f7, hx, h⟩ := zob h
  refine z_newI (len := 4) B hS (by omega) zk_241 (by decide) (by decide) (by decide) (by decide) (by decide) dX0_init_31 (fun H hS => ?_)
  rw [Option.some.inj hx] at hS
  obtain ⟨f8, hx, h⟩ := zob h
  refine z_putF (ci := 0) (T := TX0) (N := 9) (j := 7) B hni hS hx rfl zin_X0 tyX0 tyX0_ok nmX0 (by decide) zk_485 rfl rfl rfl rfl dX0_init_33 (fun H locs hS => ?_)
  obtain rfl := Option.some.inj h
  exact z_vretA B hS (by omega) dX0_init_36
theorem dX1_init_0 : decode cX1_init 0 = .ok (.aload_n 0, 1) := by decide +kernel
theorem dX1_init_1 : decode cX1_init 1 = .ok (.invokespecial 3, 3) := by decide +kernel
theorem dX1_init_4 : decode cX1_init 4 = .ok (.aload_n 0, 1) := by decide +kernel
theorem dX1_init_5 : decode cX1_init 5 = .ok (.bipush 40, 2) := by decide +kernel
theorem dX1_init_7 : decode cX1_init 7 = .ok (.newarray .int, 2) := by decide +kernel
theorem dX1_init_9 : decode cX1_init 9 = .ok (.putfield 9, 3) := by decide +kernel
theorem dX1_init_12 : decode cX1_init 12 = .ok (.aload_n 0, 1) := by decide +kernel
theorem dX1_init_13 : decode cX1_init 13 = .ok (.bipush 40, 2) := by decide +kernel
theorem dX1_init_15 : decode cX1_init 15 = .ok (.newarray .int, 2) := by decide +kernel
theorem dX1_init_17 : decode cX1_init 17 = .ok (.putfield 15, 3) := by decide +kernel
theorem dX1_init_20 : decode cX1_init 20 = .ok (.aload_n 0, 1) := by decide +kernel
theorem dX1_init_21 : decode cX1_init 21 = .ok (.bipush 40, 2) := by decide +kernel
theorem dX1_init_23 : decode cX1_init 23 = .ok (.newarray .int, 2) := by decide +kernel
theorem dX1_init_25 : decode cX1_init 25 = .ok (.putfield 18, 3) := by decide +kernel
theorem dX1_init_28 : decode cX1_init 28 = .ok (.aload_n 0, 1) := by decide +kernel
theorem dX1_init_29 : decode cX1_init 29 = .ok (.aload_n 1, 1) := by decide +kernel
theorem dX1_init_30 : decode cX1_init 30 = .ok (.putfield 21, 3) := by decide +kernel
theorem dX1_init_33 : decode cX1_init 33 = .ok (.aload_n 0, 1) := by decide +kernel
theorem dX1_init_34 : decode cX1_init 34 = .ok (.aload_n 2, 1) := by decide +kernel
theorem dX1_init_35 : decode cX1_init 35 = .ok (.putfield 25, 3) := by decide +kernel
theorem dX1_init_38 : decode cX1_init 38 = .ok (.return_, 1) := by decide +kernel
def fX1_init (N n : Nat) (f : zF) (a0 : Nat) (a1 : Nat) (a2 : Nat) : Option zF :=
    ((zmk f n (.inl (0, 40, .inl (fun _ => 0)))).bind fun f1 => ((zpR (n + 1) f1 1 a0 3 n).bind fun f2 => ((zmk f2 (n + 1) (.inl (0, 40, .inl (fun _ => 0)))).bind fun f3 => ((zpR (n + 2) f3 1 a0 4 (n + 1)).bind fun f4 => ((zmk f4 (n + 2) (.inl (0, 40, .inl (fun _ => 0)))).bind fun f5 => ((zpR (n + 3) f5 1 a0 5 (n + 2)).bind fun f6 => ((zpR (n + 3) f6 1 a0 0 a1).bind fun f7 => ((zpR (n + 3) f7 1 a0 1 a2).bind fun f8 => some f8))))))))
set_option maxRecDepth 100000 in
set_option maxHeartbeats 4000000 in
theorem mX1_init (l : Launch) (G : zG) {N n : Nat} {f f9 : zF} {a0 : Nat} {a1 : Nat} {a2 : Nat} (h : fX1_init N n f a0 a1 a2 = some f9) : zMA l G yX1_init cX1_init 3 1 n f [zr G a0, zr G a1, zr G a2] f9 3 120 := by
  refine zMA.of (by decide) (Nat.le_of_ble_eq_true rfl) rfl ?_
  intro p e s m args below meth c locs ls B hni hS hz0 hl
  have he := B.1
  have hb := B.2.1
  have hl : lv_has ls 3 [(0, zr G a0), (1, zr G a1), (2, zr G a2)] := hl
  unfold fX1_init at h
  generalize hHs : s.heap = H at hS ⊢
  refine z_aload_n he hb dX1_init_0 rfl (lv_at hl 0 rfl) (zref_r _ _) ?_
  refine z_objInit (rest := []) B zk_349 zobj hl ⟨by decide, by decide⟩ (Nat.le_of_ble_eq_true rfl) dX1_init_1 ?_
  refine z_aload_n he hb dX1_init_4 rfl (lv_at hl 0 rfl) (zref_r _ _) ?_
  refine lv_bipush (v := (40 : Int32)) he hb dX1_init_5 (by decide) ?_
  obtain ⟨f1, hx, h⟩ := zob h
  refine z_newI (len := 40) B hS (by omega) zk_241 (by decide) (by decide) (by decide) (by decide) (by decide) dX1_init_7 (fun H hS => ?_)
  rw [Option.some.inj hx] at hS
  obtain ⟨f2, hx, h⟩ := zob h
  refine z_putF (ci := 1) (T := TX1) (N := 6) (j := 3) B hni hS hx rfl zin_X1 tyX1 tyX1_ok nmX1 (by decide) zk_354 rfl rfl rfl rfl dX1_init_9 (fun H locs hS => ?_)
  refine z_aload_n he hb dX1_init_12 rfl (lv_at hl 0 rfl) (zref_r _ _) ?_
  refine lv_bipush (v := (40 : Int32)) he hb dX1_init_13 (by decide) ?_
  obtain ⟨f3, hx, h⟩ := zob h
  refine z_newI (len := 40) B hS (by omega) zk_241 (by decide) (by decide) (by decide) (by decide) (by decide) dX1_init_15 (fun H hS => ?_)
  rw [Option.some.inj hx] at hS
  obtain ⟨f4, hx, h⟩ := zob h
  refine z_putF (ci := 1) (T := TX1) (N := 6) (j := 4) B hni hS hx rfl zin_X1 tyX1 tyX1_ok nmX1 (by decide) zk_355 rfl rfl rfl rfl dX1_init_17 (fun H locs hS => ?_)
  refine z_aload_n he hb dX1_init_20 rfl (lv_at hl 0 rfl) (zref_r _ _) ?_
  refine lv_bipush (v := (40 : Int32)) he hb dX1_init_21 (by decide) ?_
  obtain ⟨f5, hx, h⟩ := zob h
  refine z_newI (len := 40) B hS (by omega) zk_241 (by decide) (by decide) (by decide) (by decide) (by decide) dX1_init_23 (fun H hS => ?_)
  rw [Option.some.inj hx] at hS
  obtain ⟨f6, hx, h⟩ := zob h
  refine z_putF (ci := 1) (T := TX1) (N := 6) (j := 5) B hni hS hx rfl zin_X1 tyX1 tyX1_ok nmX1 (by decide) zk_356 rfl rfl rfl rfl dX1_init_25 (fun H locs hS => ?_)
  refine z_aload_n he hb dX1_init_28 rfl (lv_at hl 0 rfl) (zref_r _ _) ?_
  refine z_aload_n he hb dX1_init_29 rfl (lv_at hl 1 rfl) (zref_r _ _) ?_
  obtain ⟨f7, hx, h⟩ := zob h
  refine z_putF (ci := 1) (T := TX1) (N := 6) (j := 0) B hni hS hx rfl zin_X1 tyX1 tyX1_ok nmX1 (by decide) zk_350 rfl rfl rfl rfl dX1_init_30 (fun H locs hS => ?_)
  refine z_aload_n he hb dX1_init_33 rfl (lv_at hl 0 rfl) (zref_r _ _) ?_
  refine z_aload_n he hb dX1_init_34 rfl (lv_at hl 2 rfl) (zref_r _ _) ?_
  obtain ⟨f8, hx, h⟩ := zob h
  refine z_putF (ci := 1) (T := TX1) (N := 6) (j := 1) B hni hS hx rfl zin_X1 tyX1 tyX1_ok nmX1 (by decide) zk_351 rfl rfl rfl rfl dX1_init_35 (fun H locs hS => ?_)
  obtain rfl := Option.some.inj h
  exact z_vretA B hS (by omega) dX1_init_38
theorem dX3_init_0 : decode cX3_init 0 = .ok (.aload_n 0, 1) := by decide +kernel
theorem dX3_init_1 : decode cX3_init 1 = .ok (.invokespecial 3, 3) := by decide +kernel
theorem dX3_init_4 : decode cX3_init 4 = .ok (.aload_n 0, 1) := by decide +kernel
theorem dX3_init_5 : decode cX3_init 5 = .ok (.new 9, 3) := by decide +kernel
theorem dX3_init_8 : decode cX3_init 8 = .ok (.dup, 1) := by decide +kernel
theorem dX3_init_9 : decode cX3_init 9 = .ok (.invokespecial 11, 3) := by decide +kernel
theorem dX3_init_12 : decode cX3_init 12 = .ok (.putfield 12, 3) := by decide +kernel
theorem dX3_init_15 : decode cX3_init 15 = .ok (.aload_n 0, 1) := by decide +kernel
theorem dX3_init_16 : decode cX3_init 16 = .ok (.new 18, 3) := by decide +kernel
theorem dX3_init_19 : decode cX3_init 19 = .ok (.dup, 1) := by decide +kernel
theorem dX3_init_20 : decode cX3_init 20 = .ok (.aload_n 0, 1) := by decide +kernel
theorem dX3_init_21 : decode cX3_init 21 = .ok (.getfield 12, 3) := by decide +kernel
theorem dX3_init_24 : decode cX3_init 24 = .ok (.invokespecial 20, 3) := by decide +kernel
theorem dX3_init_27 : decode cX3_init 27 = .ok (.putfield 23, 3) := by decide +kernel
theorem dX3_init_30 : decode cX3_init 30 = .ok (.aload_n 0, 1) := by decide +kernel
theorem dX3_init_31 : decode cX3_init 31 = .ok (.bipush 9, 2) := by decide +kernel
theorem dX3_init_33 : decode cX3_init 33 = .ok (.newarray .int, 2) := by decide +kernel
theorem dX3_init_35 : decode cX3_init 35 = .ok (.putfield 27, 3) := by decide +kernel
theorem dX3_init_38 : decode cX3_init 38 = .ok (.aload_n 0, 1) := by decide +kernel
theorem dX3_init_39 : decode cX3_init 39 = .ok (.aload_n 1, 1) := by decide +kernel
theorem dX3_init_40 : decode cX3_init 40 = .ok (.putfield 31, 3) := by decide +kernel
theorem dX3_init_43 : decode cX3_init 43 = .ok (.return_, 1) := by decide +kernel
def fX3_init (N n : Nat) (f : zF) (a0 : Nat) (a1 : Nat) : Option zF :=
    ((zmk f n (.inr (2, [.int 0, .int 0, .int 0, .int 0, .int 0, .null, .null, .null, .null, .null, .null, .null, .null, .null, .null]))).bind fun f1 => ((fX2_init N (n + 1) f1 n).bind fun f2 => ((zpR (n + 11) f2 3 a0 1 n).bind fun f3 => ((zmk f3 (n + 11) (.inr (8, [.null, .int 0, .null, .null, .null, .null, .null, .null, .null]))).bind fun f4 => ((zgR (n + 12) f4 3 a0 1).bind fun x5 => ((fX8_init N (n + 12) f4 (n + 11) x5).bind fun f6 => ((zpR (n + 19) f6 3 a0 2 (n + 11)).bind fun f7 => ((zmk f7 (n + 19) (.inl (0, 9, .inl (fun _ => 0)))).bind fun f8 => ((zpR (n + 20) f8 3 a0 3 (n + 19)).bind fun f9 => ((zpR (n + 20) f9 3 a0 0 a1).bind fun f10 => some f10))))))))))
set_option maxRecDepth 100000 in
set_option maxHeartbeats 4000000 in
theorem mX3_init (l : Launch) (G : zG) {N n : Nat} {f f9 : zF} {a0 : Nat} {a1 : Nat} (h : fX3_init N n f a0 a1 = some f9) : zMA l G yX3_init cX3_init 2 2 n f [zr G a0, zr G a1] f9 20 275 := by
  refine zMA.of (by decide) (Nat.le_of_ble_eq_true rfl) rfl ?_
  intro p e s m args below meth c locs ls B hni hS hz0 hl
  have he := B.1
  have hb := B.2.1
  have hl : lv_has ls 2 [(0, zr G a0), (1, zr G a1)] := hl
  unfold fX3_init at h
  generalize hHs : s.heap = H at hS ⊢
  refine z_aload_n he hb dX3_init_0 rfl (lv_at hl 0 rfl) (zref_r _ _) ?_
  refine z_objInit (rest := []) B zk_318 zobj hl ⟨by decide, by decide⟩ (Nat.le_of_ble_eq_true rfl) dX3_init_1 ?_
  refine z_aload_n he hb dX3_init_4 rfl (lv_at hl 0 rfl) (zref_r _ _) ?_
  obtain ⟨f1, hx, h⟩ := zob h
  refine z_new (ci := 2) (T := TX2) (N := 15) (fs := [.int 0, .int 0, .int 0, .int 0, .int 0, .null, .null, .null, .null, .null, .null, .null, .null, .null, .null]) B hS (by omega) rfl zin_X2 tyX2 tyX2_ok zk_319 zk_145 zk_7 (fun j hj => by rcases (show j = 0 ∨ j = 1 ∨ j = 2 ∨ j = 3 ∨ j = 4 ∨ j = 5 ∨ j = 6 ∨ j = 7 ∨ j = 8 ∨ j = 9 ∨ j = 10 ∨ j = 11 ∨ j = 12 ∨ j = 13 ∨ j = 14 by omega) with rfl | rfl | rfl | rfl | rfl | rfl | rfl | rfl | rfl | rfl | rfl | rfl | rfl | rfl | rfl <;> rfl) (by decide) (by decide) dX3_init_5 (fun H hS => ?_)
  rw [Option.some.inj hx] at hS
  refine lv_dup he hb dX3_init_8 rfl ?_
  obtain ⟨f2, hx, h⟩ := zob h
  refine zq_callIN (rest := [_, _]) B hS (by omega) (mX2_init l G hx) zyi_X2_init zkn_320 ⟨by decide, by decide⟩ rfl hl rfl (Nat.le_of_ble_eq_true rfl) dX3_init_9 ⟨by decide, by decide⟩ (fun H locs hS => ?_)
  obtain ⟨f3, hx, h⟩ := zob h
  refine z_putF (ci := 3) (T := TX3) (N := 6) (j := 1) B hni hS hx rfl zin_X3 tyX3 tyX3_ok nmX3 (by decide) zk_324 rfl rfl rfl rfl dX3_init_12 (fun H locs hS => ?_)
  refine z_aload_n he hb dX3_init_15 rfl (lv_at hl 0 rfl) (zref_r _ _) ?_
  obtain ⟨f4, hx, h⟩ := zob h
  refine z_new (ci := 8) (T := TX8) (N := 9) (fs := [.null, .int 0, .null, .null, .null, .null, .null, .null, .null]) B hS (by omega) rfl zin_X8 tyX8 tyX8_ok zk_321 zk_243 zk_8 (fun j hj => by rcases (show j = 0 ∨ j = 1 ∨ j = 2 ∨ j = 3 ∨ j = 4 ∨ j = 5 ∨ j = 6 ∨ j = 7 ∨ j = 8 by omega) with rfl | rfl | rfl | rfl | rfl | rfl | rfl | rfl | rfl <;> rfl) (by decide) (by decide) dX3_init_16 (fun H hS => ?_)
  rw [Option.some.inj hx] at hS
  refine lv_dup he hb dX3_init_19 rfl ?_
  refine z_aload_n he hb dX3_init_20 rfl (lv_at hl 0 rfl) (zref_r _ _) ?_
  obtain ⟨x5, hx, h⟩ := zob h
  refine z_getR (ci := 3) (T := TX3) (N := 6) (j := 1) B hS hx rfl zin_X3 (by decide) zk_324 dX3_init_21 ?_
  obtain ⟨f6, hx, h⟩ := zob h
  refine zq_callI (rest := [_, _]) B hS (by omega) (mX8_init l G hx) zyi_X8_init zk_322 ⟨by decide, by decide⟩ rfl hl rfl (Nat.le_of_ble_eq_true rfl) dX3_init_24 ⟨by decide, by decide⟩ (fun H locs hS => ?_)
  obtain ⟨f7, hx, h⟩ := zob h
  refine z_putF (ci := 3) (T := TX3) (N := 6) (j := 2) B hni hS hx rfl zin_X3 tyX3 tyX3_ok nmX3 (by decide) zk_326 rfl rfl rfl rfl dX3_init_27 (fun H locs hS => ?_)
  refine z_aload_n he hb dX3_init_30 rfl (lv_at hl 0 rfl) (zref_r _ _) ?_
  refine lv_bipush (v := (9 : Int32)) he hb dX3_init_31 (by decide) ?_
  obtain ⟨f8, hx, h⟩ := zob h
  refine z_newI (len := 9) B hS (by omega) zk_241 (by decide) (by decide) (by decide) (by decide) (by decide) dX3_init_33 (fun H hS => ?_)
  rw [Option.some.inj hx] at hS
  obtain ⟨f9, hx, h⟩ := zob h
  refine z_putF (ci := 3) (T := TX3) (N := 6) (j := 3) B hni hS hx rfl zin_X3 tyX3 tyX3_ok nmX3 (by decide) zk_328 rfl rfl rfl rfl dX3_init_35 (fun H locs hS => ?_)
  refine z_aload_n he hb dX3_init_38 rfl (lv_at hl 0 rfl) (zref_r _ _) ?_
  refine z_aload_n he hb dX3_init_39 rfl (lv_at hl 1 rfl) (zref_r _ _) ?_
  obtain ⟨f10, hx, h⟩ := zob h
  refine z_putF (ci := 3) (T := TX3) (N := 6) (j := 0) B hni hS hx rfl zin_X3 tyX3 tyX3_ok nmX3 (by decide) zk_323 rfl rfl rfl rfl dX3_init_40 (fun H locs hS => ?_)
  obtain rfl := Option.some.inj h
  exact z_vretA B hS (by omega) dX3_init_43
theorem dX4_init_0 : decode cX4_init 0 = .ok (.aload_n 0, 1) := by decide +kernel
theorem dX4_init_1 : decode cX4_init 1 = .ok (.invokespecial 3, 3) := by decide +kernel
theorem dX4_init_4 : decode cX4_init 4 = .ok (.aload_n 0, 1) := by decide +kernel
theorem dX4_init_5 : decode cX4_init 5 = .ok (.bipush 36, 2) := by decide +kernel
theorem dX4_init_7 : decode cX4_init 7 = .ok (.newarray .int, 2) := by decide +kernel
theorem dX4_init_9 : decode cX4_init 9 = .ok (.putfield 9, 3) := by decide +kernel
theorem dX4_init_12 : decode cX4_init 12 = .ok (.aload_n 0, 1) := by decide +kernel
theorem dX4_init_13 : decode cX4_init 13 = .ok (.iconst (-1), 1) := by decide +kernel
theorem dX4_init_14 : decode cX4_init 14 = .ok (.putfield 15, 3) := by decide +kernel
theorem dX4_init_17 : decode cX4_init 17 = .ok (.aload_n 0, 1) := by decide +kernel
theorem dX4_init_18 : decode cX4_init 18 = .ok (.bipush 8, 2) := by decide +kernel
theorem dX4_init_20 : decode cX4_init 20 = .ok (.newarray .int, 2) := by decide +kernel
theorem dX4_init_22 : decode cX4_init 22 = .ok (.putfield 19, 3) := by decide +kernel
theorem dX4_init_25 : decode cX4_init 25 = .ok (.aload_n 0, 1) := by decide +kernel
theorem dX4_init_26 : decode cX4_init 26 = .ok (.sipush 468, 3) := by decide +kernel
theorem dX4_init_29 : decode cX4_init 29 = .ok (.newarray .int, 2) := by decide +kernel
theorem dX4_init_31 : decode cX4_init 31 = .ok (.putfield 22, 3) := by decide +kernel
theorem dX4_init_34 : decode cX4_init 34 = .ok (.return_, 1) := by decide +kernel
def fX4_init (N n : Nat) (f : zF) (a0 : Nat) : Option zF :=
    ((zmk f n (.inl (0, 36, .inl (fun _ => 0)))).bind fun f1 => ((zpR (n + 1) f1 4 a0 0 n).bind fun f2 => ((zpI (n + 1) f2 4 a0 2 (-1 : Int32)).bind fun f3 => ((zmk f3 (n + 1) (.inl (0, 8, .inl (fun _ => 0)))).bind fun f4 => ((zpR (n + 2) f4 4 a0 3 (n + 1)).bind fun f5 => ((zmk f5 (n + 2) (.inl (0, 468, .inl (fun _ => 0)))).bind fun f6 => ((zpR (n + 3) f6 4 a0 5 (n + 2)).bind fun f7 => some f7)))))))
set_option maxRecDepth 100000 in
set_option maxHeartbeats 4000000 in
theorem mX4_init (l : Launch) (G : zG) {N n : Nat} {f f9 : zF} {a0 : Nat} (h : fX4_init N n f a0 = some f9) : zMA l G yX4_init cX4_init 1 1 n f [zr G a0] f9 3 512 := by
  refine zMA.of (by decide) (Nat.le_of_ble_eq_true rfl) rfl ?_
  intro p e s m args below meth c locs ls B hni hS hz0 hl
  have he := B.1
  have hb := B.2.1
  have hl : lv_has ls 1 [(0, zr G a0)] := hl
  unfold fX4_init at h
  generalize hHs : s.heap = H at hS ⊢
  refine z_aload_n he hb dX4_init_0 rfl (lv_at hl 0 rfl) (zref_r _ _) ?_
  refine z_objInit (rest := []) B zk_444 zobj hl ⟨by decide, by decide⟩ (Nat.le_of_ble_eq_true rfl) dX4_init_1 ?_
  refine z_aload_n he hb dX4_init_4 rfl (lv_at hl 0 rfl) (zref_r _ _) ?_
  refine lv_bipush (v := (36 : Int32)) he hb dX4_init_5 (by decide) ?_
  obtain ⟨f1, hx, h⟩ := zob h
  refine z_newI (len := 36) B hS (by omega) zk_241 (by decide) (by decide) (by decide) (by decide) (by decide) dX4_init_7 (fun H hS => ?_)
  rw [Option.some.inj hx] at hS
  obtain ⟨f2, hx, h⟩ := zob h
  refine z_putF (ci := 4) (T := TX4) (N := 6) (j := 0) B hni hS hx rfl zin_X4 tyX4 tyX4_ok nmX4 (by decide) zk_445 rfl rfl rfl rfl dX4_init_9 (fun H locs hS => ?_)
  refine z_aload_n he hb dX4_init_12 rfl (lv_at hl 0 rfl) (zref_r _ _) ?_
  refine lv_iconst (v := (-1 : Int32)) he hb dX4_init_13 (by decide) ?_
  obtain ⟨f3, hx, h⟩ := zob h
  refine z_putI (ci := 4) (T := TX4) (N := 6) (j := 2) B hS hx rfl zin_X4 tyX4 tyX4_ok nmX4 (by decide) zk_449 rfl rfl dX4_init_14 (fun H locs hS => ?_)
  refine z_aload_n he hb dX4_init_17 rfl (lv_at hl 0 rfl) (zref_r _ _) ?_
  refine lv_bipush (v := (8 : Int32)) he hb dX4_init_18 (by decide) ?_
  obtain ⟨f4, hx, h⟩ := zob h
  refine z_newI (len := 8) B hS (by omega) zk_241 (by decide) (by decide) (by decide) (by decide) (by decide) dX4_init_20 (fun H hS => ?_)
  rw [Option.some.inj hx] at hS
  obtain ⟨f5, hx, h⟩ := zob h
  refine z_putF (ci := 4) (T := TX4) (N := 6) (j := 3) B hni hS hx rfl zin_X4 tyX4 tyX4_ok nmX4 (by decide) zk_451 rfl rfl rfl rfl dX4_init_22 (fun H locs hS => ?_)
  refine z_aload_n he hb dX4_init_25 rfl (lv_at hl 0 rfl) (zref_r _ _) ?_
  refine lv_sipush (v := (468 : Int32)) he hb dX4_init_26 (by decide) ?_
  obtain ⟨f6, hx, h⟩ := zob h
  refine z_newI (len := 468) B hS (by omega) zk_241 (by decide) (by decide) (by decide) (by decide) (by decide) dX4_init_29 (fun H hS => ?_)
  rw [Option.some.inj hx] at hS
  obtain ⟨f7, hx, h⟩ := zob h
  refine z_putF (ci := 4) (T := TX4) (N := 6) (j := 5) B hni hS hx rfl zin_X4 tyX4 tyX4_ok nmX4 (by decide) zk_453 rfl rfl rfl rfl dX4_init_31 (fun H locs hS => ?_)
  obtain rfl := Option.some.inj h
  exact z_vretA B hS (by omega) dX4_init_34
theorem dX5_init_0 : decode cX5_init 0 = .ok (.aload_n 0, 1) := by decide +kernel
theorem dX5_init_1 : decode cX5_init 1 = .ok (.invokespecial 1, 3) := by decide +kernel
theorem dX5_init_4 : decode cX5_init 4 = .ok (.aload_n 0, 1) := by decide +kernel
theorem dX5_init_5 : decode cX5_init 5 = .ok (.new 7, 3) := by decide +kernel
theorem dX5_init_8 : decode cX5_init 8 = .ok (.dup, 1) := by decide +kernel
theorem dX5_init_9 : decode cX5_init 9 = .ok (.invokespecial 9, 3) := by decide +kernel
theorem dX5_init_12 : decode cX5_init 12 = .ok (.putfield 10, 3) := by decide +kernel
theorem dX5_init_15 : decode cX5_init 15 = .ok (.aload_n 0, 1) := by decide +kernel
theorem dX5_init_16 : decode cX5_init 16 = .ok (.new 16, 3) := by decide +kernel
theorem dX5_init_19 : decode cX5_init 19 = .ok (.dup, 1) := by decide +kernel
theorem dX5_init_20 : decode cX5_init 20 = .ok (.aload_n 0, 1) := by decide +kernel
theorem dX5_init_21 : decode cX5_init 21 = .ok (.getfield 10, 3) := by decide +kernel
theorem dX5_init_24 : decode cX5_init 24 = .ok (.invokespecial 18, 3) := by decide +kernel
theorem dX5_init_27 : decode cX5_init 27 = .ok (.putfield 21, 3) := by decide +kernel
theorem dX5_init_30 : decode cX5_init 30 = .ok (.aload_n 0, 1) := by decide +kernel
theorem dX5_init_31 : decode cX5_init 31 = .ok (.new 25, 3) := by decide +kernel
theorem dX5_init_34 : decode cX5_init 34 = .ok (.dup, 1) := by decide +kernel
theorem dX5_init_35 : decode cX5_init 35 = .ok (.invokespecial 27, 3) := by decide +kernel
theorem dX5_init_38 : decode cX5_init 38 = .ok (.putfield 28, 3) := by decide +kernel
theorem dX5_init_41 : decode cX5_init 41 = .ok (.return_, 1) := by decide +kernel
def fX5_init (N n : Nat) (f : zF) (a0 : Nat) : Option zF :=
    ((zmk f n (.inr (2, [.int 0, .int 0, .int 0, .int 0, .int 0, .null, .null, .null, .null, .null, .null, .null, .null, .null, .null]))).bind fun f1 => ((fX2_init N (n + 1) f1 n).bind fun f2 => ((zpR (n + 11) f2 5 a0 0 n).bind fun f3 => ((zmk f3 (n + 11) (.inr (8, [.null, .int 0, .null, .null, .null, .null, .null, .null, .null]))).bind fun f4 => ((zgR (n + 12) f4 5 a0 0).bind fun x5 => ((fX8_init N (n + 12) f4 (n + 11) x5).bind fun f6 => ((zpR (n + 19) f6 5 a0 1 (n + 11)).bind fun f7 => ((zmk f7 (n + 19) (.inr (6, [.int 0, .null, .null, .null]))).bind fun f8 => ((fX6_init N (n + 20) f8 (n + 19)).bind fun f9 => ((zpR (n + 23) f9 5 a0 2 (n + 19)).bind fun f10 => some f10))))))))))
set_option maxRecDepth 100000 in
set_option maxHeartbeats 4000000 in
theorem mX5_init (l : Launch) (G : zG) {N n : Nat} {f f9 : zF} {a0 : Nat} (h : fX5_init N n f a0 = some f9) : zMA l G yX5_init cX5_init 1 2 n f [zr G a0] f9 23 390 := by
  refine zMA.of (by decide) (Nat.le_of_ble_eq_true rfl) rfl ?_
  intro p e s m args below meth c locs ls B hni hS hz0 hl
  have he := B.1
  have hb := B.2.1
  have hl : lv_has ls 1 [(0, zr G a0)] := hl
  unfold fX5_init at h
  generalize hHs : s.heap = H at hS ⊢
  refine z_aload_n he hb dX5_init_0 rfl (lv_at hl 0 rfl) (zref_r _ _) ?_
  refine z_objInit (rest := []) B zk_416 zobj hl ⟨by decide, by decide⟩ (Nat.le_of_ble_eq_true rfl) dX5_init_1 ?_
  refine z_aload_n he hb dX5_init_4 rfl (lv_at hl 0 rfl) (zref_r _ _) ?_
  obtain ⟨f1, hx, h⟩ := zob h
  refine z_new (ci := 2) (T := TX2) (N := 15) (fs := [.int 0, .int 0, .int 0, .int 0, .int 0, .null, .null, .null, .null, .null, .null, .null, .null, .null, .null]) B hS (by omega) rfl zin_X2 tyX2 tyX2_ok zk_417 zk_145 zk_7 (fun j hj => by rcases (show j = 0 ∨ j = 1 ∨ j = 2 ∨ j = 3 ∨ j = 4 ∨ j = 5 ∨ j = 6 ∨ j = 7 ∨ j = 8 ∨ j = 9 ∨ j = 10 ∨ j = 11 ∨ j = 12 ∨ j = 13 ∨ j = 14 by omega) with rfl | rfl | rfl | rfl | rfl | rfl | rfl | rfl | rfl | rfl | rfl | rfl | rfl | rfl | rfl <;> rfl) (by decide) (by decide) dX5_init_5 (fun H hS => ?_)
  rw [Option.some.inj hx] at hS
  refine lv_dup he hb dX5_init_8 rfl ?_
  obtain ⟨f2, hx, h⟩ := zob h
  refine zq_callIN (rest := [_, _]) B hS (by omega) (mX2_init l G hx) zyi_X2_init zkn_418 ⟨by decide, by decide⟩ rfl hl rfl (Nat.le_of_ble_eq_true rfl) dX5_init_9 ⟨by decide, by decide⟩ (fun H locs hS => ?_)
  obtain ⟨f3, hx, h⟩ := zob h
  refine z_putF (ci := 5) (T := TX5) (N := 4) (j := 0) B hni hS hx rfl zin_X5 tyX5 tyX5_ok nmX5 (by decide) zk_423 rfl rfl rfl rfl dX5_init_12 (fun H locs hS => ?_)
  refine z_aload_n he hb dX5_init_15 rfl (lv_at hl 0 rfl) (zref_r _ _) ?_
  obtain ⟨f4, hx, h⟩ := zob h
  refine z_new (ci := 8) (T := TX8) (N := 9) (fs := [.null, .int 0, .null, .null, .null, .null, .null, .null, .null]) B hS (by omega) rfl zin_X8 tyX8 tyX8_ok zk_419 zk_243 zk_8 (fun j hj => by rcases (show j = 0 ∨ j = 1 ∨ j = 2 ∨ j = 3 ∨ j = 4 ∨ j = 5 ∨ j = 6 ∨ j = 7 ∨ j = 8 by omega) with rfl | rfl | rfl | rfl | rfl | rfl | rfl | rfl | rfl <;> rfl) (by decide) (by decide) dX5_init_16 (fun H hS => ?_)
  rw [Option.some.inj hx] at hS
  refine lv_dup he hb dX5_init_19 rfl ?_
  refine z_aload_n he hb dX5_init_20 rfl (lv_at hl 0 rfl) (zref_r _ _) ?_
  obtain ⟨x5, hx, h⟩ := zob h
  refine z_getR (ci := 5) (T := TX5) (N := 4) (j := 0) B hS hx rfl zin_X5 (by decide) zk_423 dX5_init_21 ?_
  obtain ⟨f6, hx, h⟩ := zob h
  refine zq_callI (rest := [_, _]) B hS (by omega) (mX8_init l G hx) zyi_X8_init zk_420 ⟨by decide, by decide⟩ rfl hl rfl (Nat.le_of_ble_eq_true rfl) dX5_init_24 ⟨by decide, by decide⟩ (fun H locs hS => ?_)
  obtain ⟨f7, hx, h⟩ := zob h
  refine z_putF (ci := 5) (T := TX5) (N := 4) (j := 1) B hni hS hx rfl zin_X5 tyX5 tyX5_ok nmX5 (by decide) zk_425 rfl rfl rfl rfl dX5_init_27 (fun H locs hS => ?_)
  refine z_aload_n he hb dX5_init_30 rfl (lv_at hl 0 rfl) (zref_r _ _) ?_
  obtain ⟨f8, hx, h⟩ := zob h
  refine z_new (ci := 6) (T := TX6) (N := 4) (fs := [.int 0, .null, .null, .null]) B hS (by omega) rfl zin_X6 tyX6 tyX6_ok zk_421 zk_294 zk_9 (fun j hj => by rcases (show j = 0 ∨ j = 1 ∨ j = 2 ∨ j = 3 by omega) with rfl | rfl | rfl | rfl <;> rfl) (by decide) (by decide) dX5_init_31 (fun H hS => ?_)
  rw [Option.some.inj hx] at hS
  refine lv_dup he hb dX5_init_34 rfl ?_
  obtain ⟨f9, hx, h⟩ := zob h
  refine zq_callIN (rest := [_, _]) B hS (by omega) (mX6_init l G hx) zyi_X6_init zkn_422 ⟨by decide, by decide⟩ rfl hl rfl (Nat.le_of_ble_eq_true rfl) dX5_init_35 ⟨by decide, by decide⟩ (fun H locs hS => ?_)
  obtain ⟨f10, hx, h⟩ := zob h
  refine z_putF (ci := 5) (T := TX5) (N := 4) (j := 2) B hni hS hx rfl zin_X5 tyX5 tyX5_ok nmX5 (by decide) zk_427 rfl rfl rfl rfl dX5_init_38 (fun H locs hS => ?_)
  obtain rfl := Option.some.inj h
  exact z_vretA B hS (by omega) dX5_init_41
theorem dX7_init_0 : decode cX7_init 0 = .ok (.aload_n 0, 1) := by decide +kernel
theorem dX7_init_1 : decode cX7_init 1 = .ok (.invokespecial 3, 3) := by decide +kernel
theorem dX7_init_4 : decode cX7_init 4 = .ok (.aload_n 0, 1) := by decide +kernel
theorem dX7_init_5 : decode cX7_init 5 = .ok (.new 9, 3) := by decide +kernel
theorem dX7_init_8 : decode cX7_init 8 = .ok (.dup, 1) := by decide +kernel
theorem dX7_init_9 : decode cX7_init 9 = .ok (.invokespecial 11, 3) := by decide +kernel
theorem dX7_init_12 : decode cX7_init 12 = .ok (.putfield 12, 3) := by decide +kernel
theorem dX7_init_15 : decode cX7_init 15 = .ok (.aload_n 0, 1) := by decide +kernel
theorem dX7_init_16 : decode cX7_init 16 = .ok (.aload_n 1, 1) := by decide +kernel
theorem dX7_init_17 : decode cX7_init 17 = .ok (.putfield 18, 3) := by decide +kernel
theorem dX7_init_20 : decode cX7_init 20 = .ok (.aload_n 0, 1) := by decide +kernel
theorem dX7_init_21 : decode cX7_init 21 = .ok (.aload_n 2, 1) := by decide +kernel
theorem dX7_init_22 : decode cX7_init 22 = .ok (.putfield 22, 3) := by decide +kernel
theorem dX7_init_25 : decode cX7_init 25 = .ok (.return_, 1) := by decide +kernel
def fX7_init (N n : Nat) (f : zF) (a0 : Nat) (a1 : Nat) (a2 : Nat) : Option zF :=
    ((zmk f n (.inr (6, [.int 0, .null, .null, .null]))).bind fun f1 => ((fX6_init N (n + 1) f1 n).bind fun f2 => ((zpR (n + 4) f2 7 a0 2 n).bind fun f3 => ((zpR (n + 4) f3 7 a0 0 a1).bind fun f4 => ((zpR (n + 4) f4 7 a0 1 a2).bind fun f5 => some f5)))))
set_option maxRecDepth 100000 in
set_option maxHeartbeats 4000000 in
theorem mX7_init (l : Launch) (G : zG) {N n : Nat} {f f9 : zF} {a0 : Nat} {a1 : Nat} {a2 : Nat} (h : fX7_init N n f a0 a1 a2 = some f9) : zMA l G yX7_init cX7_init 3 2 n f [zr G a0, zr G a1, zr G a2] f9 4 124 := by
  refine zMA.of (by decide) (Nat.le_of_ble_eq_true rfl) rfl ?_
  intro p e s m args below meth c locs ls B hni hS hz0 hl
  have he := B.1
  have hb := B.2.1
  have hl : lv_has ls 3 [(0, zr G a0), (1, zr G a1), (2, zr G a2)] := hl
  unfold fX7_init at h
  generalize hHs : s.heap = H at hS ⊢
  refine z_aload_n he hb dX7_init_0 rfl (lv_at hl 0 rfl) (zref_r _ _) ?_
  refine z_objInit (rest := []) B zk_375 zobj hl ⟨by decide, by decide⟩ (Nat.le_of_ble_eq_true rfl) dX7_init_1 ?_
  refine z_aload_n he hb dX7_init_4 rfl (lv_at hl 0 rfl) (zref_r _ _) ?_
  obtain ⟨f1, hx, h⟩ := zob h
  refine z_new (ci := 6) (T := TX6) (N := 4) (fs := [.int 0, .null, .null, .null]) B hS (by omega) rfl zin_X6 tyX6 tyX6_ok zk_376 zk_294 zk_9 (fun j hj => by rcases (show j = 0 ∨ j = 1 ∨ j = 2 ∨ j = 3 by omega) with rfl | rfl | rfl | rfl <;> rfl) (by decide) (by decide) dX7_init_5 (fun H hS => ?_)
  rw [Option.some.inj hx] at hS
  refine lv_dup he hb dX7_init_8 rfl ?_
  obtain ⟨f2, hx, h⟩ := zob h
  refine zq_callIN (rest := [_, _]) B hS (by omega) (mX6_init l G hx) zyi_X6_init zkn_377 ⟨by decide, by decide⟩ rfl hl rfl (Nat.le_of_ble_eq_true rfl) dX7_init_9 ⟨by decide, by decide⟩ (fun H locs hS => ?_)
  obtain ⟨f3, hx, h⟩ := zob h
  refine z_putF (ci := 7) (T := TX7) (N := 4) (j := 2) B hni hS hx rfl zin_X7 tyX7 tyX7_ok nmX7 (by decide) zk_380 rfl rfl rfl rfl dX7_init_12 (fun H locs hS => ?_)
  refine z_aload_n he hb dX7_init_15 rfl (lv_at hl 0 rfl) (zref_r _ _) ?_
  refine z_aload_n he hb dX7_init_16 rfl (lv_at hl 1 rfl) (zref_r _ _) ?_
  obtain ⟨f4, hx, h⟩ := zob h
  refine z_putF (ci := 7) (T := TX7) (N := 4) (j := 0) B hni hS hx rfl zin_X7 tyX7 tyX7_ok nmX7 (by decide) zk_378 rfl rfl rfl rfl dX7_init_17 (fun H locs hS => ?_)
  refine z_aload_n he hb dX7_init_20 rfl (lv_at hl 0 rfl) (zref_r _ _) ?_
  refine z_aload_n he hb dX7_init_21 rfl (lv_at hl 2 rfl) (zref_r _ _) ?_
  obtain ⟨f5, hx, h⟩ := zob h
  refine z_putF (ci := 7) (T := TX7) (N := 4) (j := 1) B hni hS hx rfl zin_X7 tyX7 tyX7_ok nmX7 (by decide) zk_379 rfl rfl rfl rfl dX7_init_22 (fun H locs hS => ?_)
  obtain rfl := Option.some.inj h
  exact z_vretA B hS (by omega) dX7_init_25
theorem dX12_init_0 : decode cX12_init 0 = .ok (.aload_n 0, 1) := by decide +kernel
theorem dX12_init_1 : decode cX12_init 1 = .ok (.invokespecial 27, 3) := by decide +kernel
theorem dX12_init_4 : decode cX12_init 4 = .ok (.aload_n 0, 1) := by decide +kernel
theorem dX12_init_5 : decode cX12_init 5 = .ok (.sipush 940, 3) := by decide +kernel
theorem dX12_init_8 : decode cX12_init 8 = .ok (.newarray .byte, 2) := by decide +kernel
theorem dX12_init_10 : decode cX12_init 10 = .ok (.putfield 14, 3) := by decide +kernel
theorem dX12_init_13 : decode cX12_init 13 = .ok (.aload_n 0, 1) := by decide +kernel
theorem dX12_init_14 : decode cX12_init 14 = .ok (.sipush 431, 3) := by decide +kernel
theorem dX12_init_17 : decode cX12_init 17 = .ok (.newarray .int, 2) := by decide +kernel
theorem dX12_init_19 : decode cX12_init 19 = .ok (.putfield 33, 3) := by decide +kernel
theorem dX12_init_22 : decode cX12_init 22 = .ok (.aload_n 0, 1) := by decide +kernel
theorem dX12_init_23 : decode cX12_init 23 = .ok (.sipush 139, 3) := by decide +kernel
theorem dX12_init_26 : decode cX12_init 26 = .ok (.newarray .int, 2) := by decide +kernel
theorem dX12_init_28 : decode cX12_init 28 = .ok (.putfield 37, 3) := by decide +kernel
theorem dX12_init_31 : decode cX12_init 31 = .ok (.aload_n 0, 1) := by decide +kernel
theorem dX12_init_32 : decode cX12_init 32 = .ok (.sipush 135, 3) := by decide +kernel
theorem dX12_init_35 : decode cX12_init 35 = .ok (.newarray .int, 2) := by decide +kernel
theorem dX12_init_37 : decode cX12_init 37 = .ok (.putfield 40, 3) := by decide +kernel
theorem dX12_init_40 : decode cX12_init 40 = .ok (.aload_n 0, 1) := by decide +kernel
theorem dX12_init_41 : decode cX12_init 41 = .ok (.bipush 30, 2) := by decide +kernel
theorem dX12_init_43 : decode cX12_init 43 = .ok (.newarray .long, 2) := by decide +kernel
theorem dX12_init_45 : decode cX12_init 45 = .ok (.putfield 43, 3) := by decide +kernel
theorem dX12_init_48 : decode cX12_init 48 = .ok (.aload_n 0, 1) := by decide +kernel
theorem dX12_init_49 : decode cX12_init 49 = .ok (.bipush 27, 2) := by decide +kernel
theorem dX12_init_51 : decode cX12_init 51 = .ok (.newarray .long, 2) := by decide +kernel
theorem dX12_init_53 : decode cX12_init 53 = .ok (.putfield 47, 3) := by decide +kernel
theorem dX12_init_56 : decode cX12_init 56 = .ok (.aload_n 0, 1) := by decide +kernel
theorem dX12_init_57 : decode cX12_init 57 = .ok (.sipush 888, 3) := by decide +kernel
theorem dX12_init_60 : decode cX12_init 60 = .ok (.newarray .int, 2) := by decide +kernel
theorem dX12_init_62 : decode cX12_init 62 = .ok (.putfield 50, 3) := by decide +kernel
theorem dX12_init_65 : decode cX12_init 65 = .ok (.aload_n 0, 1) := by decide +kernel
theorem dX12_init_66 : decode cX12_init 66 = .ok (.bipush 111, 2) := by decide +kernel
theorem dX12_init_68 : decode cX12_init 68 = .ok (.newarray .int, 2) := by decide +kernel
theorem dX12_init_70 : decode cX12_init 70 = .ok (.putfield 53, 3) := by decide +kernel
theorem dX12_init_73 : decode cX12_init 73 = .ok (.aload_n 0, 1) := by decide +kernel
theorem dX12_init_74 : decode cX12_init 74 = .ok (.iconst 5, 1) := by decide +kernel
theorem dX12_init_75 : decode cX12_init 75 = .ok (.newarray .int, 2) := by decide +kernel
theorem dX12_init_77 : decode cX12_init 77 = .ok (.putfield 56, 3) := by decide +kernel
theorem dX12_init_80 : decode cX12_init 80 = .ok (.aload_n 0, 1) := by decide +kernel
theorem dX12_init_81 : decode cX12_init 81 = .ok (.iconst (-1), 1) := by decide +kernel
theorem dX12_init_82 : decode cX12_init 82 = .ok (.putfield 59, 3) := by decide +kernel
theorem dX12_init_85 : decode cX12_init 85 = .ok (.aload_n 0, 1) := by decide +kernel
theorem dX12_init_86 : decode cX12_init 86 = .ok (.bipush 36, 2) := by decide +kernel
theorem dX12_init_88 : decode cX12_init 88 = .ok (.newarray .int, 2) := by decide +kernel
theorem dX12_init_90 : decode cX12_init 90 = .ok (.putfield 62, 3) := by decide +kernel
theorem dX12_init_93 : decode cX12_init 93 = .ok (.aload_n 0, 1) := by decide +kernel
theorem dX12_init_94 : decode cX12_init 94 = .ok (.sipush 468, 3) := by decide +kernel
theorem dX12_init_97 : decode cX12_init 97 = .ok (.newarray .int, 2) := by decide +kernel
theorem dX12_init_99 : decode cX12_init 99 = .ok (.putfield 65, 3) := by decide +kernel
theorem dX12_init_102 : decode cX12_init 102 = .ok (.aload_n 0, 1) := by decide +kernel
theorem dX12_init_103 : decode cX12_init 103 = .ok (.iconst (-1), 1) := by decide +kernel
theorem dX12_init_104 : decode cX12_init 104 = .ok (.putfield 68, 3) := by decide +kernel
theorem dX12_init_107 : decode cX12_init 107 = .ok (.aload_n 0, 1) := by decide +kernel
theorem dX12_init_108 : decode cX12_init 108 = .ok (.bipush 40, 2) := by decide +kernel
theorem dX12_init_110 : decode cX12_init 110 = .ok (.newarray .byte, 2) := by decide +kernel
theorem dX12_init_112 : decode cX12_init 112 = .ok (.putfield 71, 3) := by decide +kernel
theorem dX12_init_115 : decode cX12_init 115 = .ok (.aload_n 0, 1) := by decide +kernel
theorem dX12_init_116 : decode cX12_init 116 = .ok (.iconst 4, 1) := by decide +kernel
theorem dX12_init_117 : decode cX12_init 117 = .ok (.newarray .int, 2) := by decide +kernel
theorem dX12_init_119 : decode cX12_init 119 = .ok (.putfield 74, 3) := by decide +kernel
theorem dX12_init_122 : decode cX12_init 122 = .ok (.aload_n 0, 1) := by decide +kernel
theorem dX12_init_123 : decode cX12_init 123 = .ok (.bipush 45, 2) := by decide +kernel
theorem dX12_init_125 : decode cX12_init 125 = .ok (.newarray .int, 2) := by decide +kernel
theorem dX12_init_127 : decode cX12_init 127 = .ok (.putfield 77, 3) := by decide +kernel
theorem dX12_init_130 : decode cX12_init 130 = .ok (.aload_n 0, 1) := by decide +kernel
theorem dX12_init_131 : decode cX12_init 131 = .ok (.bipush 45, 2) := by decide +kernel
theorem dX12_init_133 : decode cX12_init 133 = .ok (.newarray .boolean, 2) := by decide +kernel
theorem dX12_init_135 : decode cX12_init 135 = .ok (.putfield 80, 3) := by decide +kernel
theorem dX12_init_138 : decode cX12_init 138 = .ok (.aload_n 0, 1) := by decide +kernel
theorem dX12_init_139 : decode cX12_init 139 = .ok (.sipush 862, 3) := by decide +kernel
theorem dX12_init_142 : decode cX12_init 142 = .ok (.newarray .int, 2) := by decide +kernel
theorem dX12_init_144 : decode cX12_init 144 = .ok (.putfield 84, 3) := by decide +kernel
theorem dX12_init_147 : decode cX12_init 147 = .ok (.aload_n 0, 1) := by decide +kernel
theorem dX12_init_148 : decode cX12_init 148 = .ok (.bipush 30, 2) := by decide +kernel
theorem dX12_init_150 : decode cX12_init 150 = .ok (.newarray .long, 2) := by decide +kernel
theorem dX12_init_152 : decode cX12_init 152 = .ok (.putfield 87, 3) := by decide +kernel
theorem dX12_init_155 : decode cX12_init 155 = .ok (.aload_n 0, 1) := by decide +kernel
theorem dX12_init_156 : decode cX12_init 156 = .ok (.iconst 2, 1) := by decide +kernel
theorem dX12_init_157 : decode cX12_init 157 = .ok (.newarray .boolean, 2) := by decide +kernel
theorem dX12_init_159 : decode cX12_init 159 = .ok (.putfield 90, 3) := by decide +kernel
theorem dX12_init_162 : decode cX12_init 162 = .ok (.aload_n 0, 1) := by decide +kernel
theorem dX12_init_163 : decode cX12_init 163 = .ok (.getfield 47, 3) := by decide +kernel
theorem dX12_init_166 : decode cX12_init 166 = .ok (.iconst 0, 1) := by decide +kernel
theorem dX12_init_167 : decode cX12_init 167 = .ok (.ldc2_w 93, 3) := by decide +kernel
theorem dX12_init_170 : decode cX12_init 170 = .ok (.lastore, 1) := by decide +kernel
theorem dX12_init_171 : decode cX12_init 171 = .ok (.aload_n 0, 1) := by decide +kernel
theorem dX12_init_172 : decode cX12_init 172 = .ok (.getfield 47, 3) := by decide +kernel
theorem dX12_init_175 : decode cX12_init 175 = .ok (.iconst 1, 1) := by decide +kernel
theorem dX12_init_176 : decode cX12_init 176 = .ok (.ldc2_w 95, 3) := by decide +kernel
theorem dX12_init_179 : decode cX12_init 179 = .ok (.lastore, 1) := by decide +kernel
theorem dX12_init_180 : decode cX12_init 180 = .ok (.aload_n 0, 1) := by decide +kernel
theorem dX12_init_181 : decode cX12_init 181 = .ok (.getfield 47, 3) := by decide +kernel
theorem dX12_init_184 : decode cX12_init 184 = .ok (.iconst 2, 1) := by decide +kernel
theorem dX12_init_185 : decode cX12_init 185 = .ok (.ldc2_w 97, 3) := by decide +kernel
theorem dX12_init_188 : decode cX12_init 188 = .ok (.lastore, 1) := by decide +kernel
theorem dX12_init_189 : decode cX12_init 189 = .ok (.aload_n 0, 1) := by decide +kernel
theorem dX12_init_190 : decode cX12_init 190 = .ok (.getfield 47, 3) := by decide +kernel
theorem dX12_init_193 : decode cX12_init 193 = .ok (.iconst 3, 1) := by decide +kernel
theorem dX12_init_194 : decode cX12_init 194 = .ok (.ldc2_w 99, 3) := by decide +kernel
theorem dX12_init_197 : decode cX12_init 197 = .ok (.lastore, 1) := by decide +kernel
theorem dX12_init_198 : decode cX12_init 198 = .ok (.aload_n 0, 1) := by decide +kernel
theorem dX12_init_199 : decode cX12_init 199 = .ok (.getfield 47, 3) := by decide +kernel
theorem dX12_init_202 : decode cX12_init 202 = .ok (.iconst 4, 1) := by decide +kernel
theorem dX12_init_203 : decode cX12_init 203 = .ok (.ldc2_w 101, 3) := by decide +kernel
theorem dX12_init_206 : decode cX12_init 206 = .ok (.lastore, 1) := by decide +kernel
theorem dX12_init_207 : decode cX12_init 207 = .ok (.aload_n 0, 1) := by decide +kernel
theorem dX12_init_208 : decode cX12_init 208 = .ok (.getfield 47, 3) := by decide +kernel
theorem dX12_init_211 : decode cX12_init 211 = .ok (.iconst 5, 1) := by decide +kernel
theorem dX12_init_212 : decode cX12_init 212 = .ok (.ldc2_w 103, 3) := by decide +kernel
theorem dX12_init_215 : decode cX12_init 215 = .ok (.lastore, 1) := by decide +kernel
theorem dX12_init_216 : decode cX12_init 216 = .ok (.aload_n 0, 1) := by decide +kernel
theorem dX12_init_217 : decode cX12_init 217 = .ok (.getfield 47, 3) := by decide +kernel
theorem dX12_init_220 : decode cX12_init 220 = .ok (.bipush 6, 2) := by decide +kernel
theorem dX12_init_222 : decode cX12_init 222 = .ok (.ldc2_w 105, 3) := by decide +kernel
theorem dX12_init_225 : decode cX12_init 225 = .ok (.lastore, 1) := by decide +kernel
theorem dX12_init_226 : decode cX12_init 226 = .ok (.aload_n 0, 1) := by decide +kernel
theorem dX12_init_227 : decode cX12_init 227 = .ok (.getfield 47, 3) := by decide +kernel
theorem dX12_init_230 : decode cX12_init 230 = .ok (.bipush 7, 2) := by decide +kernel
theorem dX12_init_232 : decode cX12_init 232 = .ok (.ldc2_w 107, 3) := by decide +kernel
theorem dX12_init_235 : decode cX12_init 235 = .ok (.lastore, 1) := by decide +kernel
theorem dX12_init_236 : decode cX12_init 236 = .ok (.aload_n 0, 1) := by decide +kernel
theorem dX12_init_237 : decode cX12_init 237 = .ok (.getfield 47, 3) := by decide +kernel
theorem dX12_init_240 : decode cX12_init 240 = .ok (.bipush 8, 2) := by decide +kernel
theorem dX12_init_242 : decode cX12_init 242 = .ok (.ldc2_w 109, 3) := by decide +kernel
theorem dX12_init_245 : decode cX12_init 245 = .ok (.lastore, 1) := by decide +kernel
theorem dX12_init_246 : decode cX12_init 246 = .ok (.aload_n 0, 1) := by decide +kernel
theorem dX12_init_247 : decode cX12_init 247 = .ok (.getfield 47, 3) := by decide +kernel
theorem dX12_init_250 : decode cX12_init 250 = .ok (.bipush 9, 2) := by decide +kernel
theorem dX12_init_252 : decode cX12_init 252 = .ok (.ldc2_w 111, 3) := by decide +kernel
theorem dX12_init_255 : decode cX12_init 255 = .ok (.lastore, 1) := by decide +kernel
theorem dX12_init_256 : decode cX12_init 256 = .ok (.aload_n 0, 1) := by decide +kernel
theorem dX12_init_257 : decode cX12_init 257 = .ok (.getfield 47, 3) := by decide +kernel
theorem dX12_init_260 : decode cX12_init 260 = .ok (.bipush 10, 2) := by decide +kernel
theorem dX12_init_262 : decode cX12_init 262 = .ok (.ldc2_w 113, 3) := by decide +kernel
theorem dX12_init_265 : decode cX12_init 265 = .ok (.lastore, 1) := by decide +kernel
theorem dX12_init_266 : decode cX12_init 266 = .ok (.aload_n 0, 1) := by decide +kernel
theorem dX12_init_267 : decode cX12_init 267 = .ok (.getfield 47, 3) := by decide +kernel
theorem dX12_init_270 : decode cX12_init 270 = .ok (.bipush 11, 2) := by decide +kernel
theorem dX12_init_272 : decode cX12_init 272 = .ok (.ldc2_w 115, 3) := by decide +kernel
theorem dX12_init_275 : decode cX12_init 275 = .ok (.lastore, 1) := by decide +kernel
theorem dX12_init_276 : decode cX12_init 276 = .ok (.aload_n 0, 1) := by decide +kernel
theorem dX12_init_277 : decode cX12_init 277 = .ok (.getfield 47, 3) := by decide +kernel
theorem dX12_init_280 : decode cX12_init 280 = .ok (.bipush 12, 2) := by decide +kernel
theorem dX12_init_282 : decode cX12_init 282 = .ok (.ldc2_w 117, 3) := by decide +kernel
theorem dX12_init_285 : decode cX12_init 285 = .ok (.lastore, 1) := by decide +kernel
theorem dX12_init_286 : decode cX12_init 286 = .ok (.aload_n 0, 1) := by decide +kernel
theorem dX12_init_287 : decode cX12_init 287 = .ok (.getfield 47, 3) := by decide +kernel
theorem dX12_init_290 : decode cX12_init 290 = .ok (.bipush 13, 2) := by decide +kernel
theorem dX12_init_292 : decode cX12_init 292 = .ok (.ldc2_w 119, 3) := by decide +kernel
theorem dX12_init_295 : decode cX12_init 295 = .ok (.lastore, 1) := by decide +kernel
theorem dX12_init_296 : decode cX12_init 296 = .ok (.aload_n 0, 1) := by decide +kernel
theorem dX12_init_297 : decode cX12_init 297 = .ok (.getfield 47, 3) := by decide +kernel
theorem dX12_init_300 : decode cX12_init 300 = .ok (.bipush 14, 2) := by decide +kernel
theorem dX12_init_302 : decode cX12_init 302 = .ok (.ldc2_w 121, 3) := by decide +kernel
theorem dX12_init_305 : decode cX12_init 305 = .ok (.lastore, 1) := by decide +kernel
theorem dX12_init_306 : decode cX12_init 306 = .ok (.aload_n 0, 1) := by decide +kernel
theorem dX12_init_307 : decode cX12_init 307 = .ok (.getfield 47, 3) := by decide +kernel
theorem dX12_init_310 : decode cX12_init 310 = .ok (.bipush 15, 2) := by decide +kernel
theorem dX12_init_312 : decode cX12_init 312 = .ok (.ldc2_w 123, 3) := by decide +kernel
theorem dX12_init_315 : decode cX12_init 315 = .ok (.lastore, 1) := by decide +kernel
theorem dX12_init_316 : decode cX12_init 316 = .ok (.aload_n 0, 1) := by decide +kernel
theorem dX12_init_317 : decode cX12_init 317 = .ok (.getfield 47, 3) := by decide +kernel
theorem dX12_init_320 : decode cX12_init 320 = .ok (.bipush 16, 2) := by decide +kernel
theorem dX12_init_322 : decode cX12_init 322 = .ok (.ldc2_w 125, 3) := by decide +kernel
theorem dX12_init_325 : decode cX12_init 325 = .ok (.lastore, 1) := by decide +kernel
theorem dX12_init_326 : decode cX12_init 326 = .ok (.aload_n 0, 1) := by decide +kernel
theorem dX12_init_327 : decode cX12_init 327 = .ok (.getfield 47, 3) := by decide +kernel
theorem dX12_init_330 : decode cX12_init 330 = .ok (.bipush 17, 2) := by decide +kernel
theorem dX12_init_332 : decode cX12_init 332 = .ok (.ldc2_w 127, 3) := by decide +kernel
theorem dX12_init_335 : decode cX12_init 335 = .ok (.lastore, 1) := by decide +kernel
theorem dX12_init_336 : decode cX12_init 336 = .ok (.aload_n 0, 1) := by decide +kernel
theorem dX12_init_337 : decode cX12_init 337 = .ok (.getfield 47, 3) := by decide +kernel
theorem dX12_init_340 : decode cX12_init 340 = .ok (.bipush 18, 2) := by decide +kernel
theorem dX12_init_342 : decode cX12_init 342 = .ok (.ldc2_w 129, 3) := by decide +kernel
theorem dX12_init_345 : decode cX12_init 345 = .ok (.lastore, 1) := by decide +kernel
theorem dX12_init_346 : decode cX12_init 346 = .ok (.aload_n 0, 1) := by decide +kernel
theorem dX12_init_347 : decode cX12_init 347 = .ok (.getfield 47, 3) := by decide +kernel
theorem dX12_init_350 : decode cX12_init 350 = .ok (.bipush 19, 2) := by decide +kernel
theorem dX12_init_352 : decode cX12_init 352 = .ok (.ldc2_w 131, 3) := by decide +kernel
theorem dX12_init_355 : decode cX12_init 355 = .ok (.lastore, 1) := by decide +kernel
theorem dX12_init_356 : decode cX12_init 356 = .ok (.aload_n 0, 1) := by decide +kernel
theorem dX12_init_357 : decode cX12_init 357 = .ok (.getfield 47, 3) := by decide +kernel
theorem dX12_init_360 : decode cX12_init 360 = .ok (.bipush 20, 2) := by decide +kernel
theorem dX12_init_362 : decode cX12_init 362 = .ok (.ldc2_w 133, 3) := by decide +kernel
theorem dX12_init_365 : decode cX12_init 365 = .ok (.lastore, 1) := by decide +kernel
theorem dX12_init_366 : decode cX12_init 366 = .ok (.aload_n 0, 1) := by decide +kernel
theorem dX12_init_367 : decode cX12_init 367 = .ok (.getfield 47, 3) := by decide +kernel
theorem dX12_init_370 : decode cX12_init 370 = .ok (.bipush 21, 2) := by decide +kernel
theorem dX12_init_372 : decode cX12_init 372 = .ok (.ldc2_w 135, 3) := by decide +kernel
theorem dX12_init_375 : decode cX12_init 375 = .ok (.lastore, 1) := by decide +kernel
theorem dX12_init_376 : decode cX12_init 376 = .ok (.aload_n 0, 1) := by decide +kernel
theorem dX12_init_377 : decode cX12_init 377 = .ok (.getfield 47, 3) := by decide +kernel
theorem dX12_init_380 : decode cX12_init 380 = .ok (.bipush 22, 2) := by decide +kernel
theorem dX12_init_382 : decode cX12_init 382 = .ok (.ldc2_w 137, 3) := by decide +kernel
theorem dX12_init_385 : decode cX12_init 385 = .ok (.lastore, 1) := by decide +kernel
theorem dX12_init_386 : decode cX12_init 386 = .ok (.aload_n 0, 1) := by decide +kernel
theorem dX12_init_387 : decode cX12_init 387 = .ok (.getfield 47, 3) := by decide +kernel
theorem dX12_init_390 : decode cX12_init 390 = .ok (.bipush 23, 2) := by decide +kernel
theorem dX12_init_392 : decode cX12_init 392 = .ok (.ldc2_w 139, 3) := by decide +kernel
theorem dX12_init_395 : decode cX12_init 395 = .ok (.lastore, 1) := by decide +kernel
theorem dX12_init_396 : decode cX12_init 396 = .ok (.aload_n 0, 1) := by decide +kernel
theorem dX12_init_397 : decode cX12_init 397 = .ok (.getfield 47, 3) := by decide +kernel
theorem dX12_init_400 : decode cX12_init 400 = .ok (.bipush 24, 2) := by decide +kernel
theorem dX12_init_402 : decode cX12_init 402 = .ok (.ldc2_w 141, 3) := by decide +kernel
theorem dX12_init_405 : decode cX12_init 405 = .ok (.lastore, 1) := by decide +kernel
theorem dX12_init_406 : decode cX12_init 406 = .ok (.aload_n 0, 1) := by decide +kernel
theorem dX12_init_407 : decode cX12_init 407 = .ok (.getfield 47, 3) := by decide +kernel
theorem dX12_init_410 : decode cX12_init 410 = .ok (.bipush 25, 2) := by decide +kernel
theorem dX12_init_412 : decode cX12_init 412 = .ok (.ldc2_w 143, 3) := by decide +kernel
theorem dX12_init_415 : decode cX12_init 415 = .ok (.lastore, 1) := by decide +kernel
theorem dX12_init_416 : decode cX12_init 416 = .ok (.aload_n 0, 1) := by decide +kernel
theorem dX12_init_417 : decode cX12_init 417 = .ok (.getfield 47, 3) := by decide +kernel
theorem dX12_init_420 : decode cX12_init 420 = .ok (.bipush 26, 2) := by decide +kernel
theorem dX12_init_422 : decode cX12_init 422 = .ok (.ldc2_w 145, 3) := by decide +kernel
theorem dX12_init_425 : decode cX12_init 425 = .ok (.lastore, 1) := by decide +kernel
theorem dX12_init_426 : decode cX12_init 426 = .ok (.aload_n 0, 1) := by decide +kernel
theorem dX12_init_427 : decode cX12_init 427 = .ok (.invokevirtual 147, 3) := by decide +kernel
theorem dX12_init_430 : decode cX12_init 430 = .ok (.iconst 0, 1) := by decide +kernel
theorem dX12_init_431 : decode cX12_init 431 = .ok (.istore_n 1, 1) := by decide +kernel
theorem dX12_init_432 : decode cX12_init 432 = .ok (.iload_n 1, 1) := by decide +kernel
theorem dX12_init_433 : decode cX12_init 433 = .ok (.sipush 139, 3) := by decide +kernel
theorem dX12_init_436 : decode cX12_init 436 = .ok (.if_icmp .ge 21, 3) := by decide +kernel
theorem dX12_init_439 : decode cX12_init 439 = .ok (.aload_n 0, 1) := by decide +kernel
theorem dX12_init_440 : decode cX12_init 440 = .ok (.getfield 33, 3) := by decide +kernel
theorem dX12_init_443 : decode cX12_init 443 = .ok (.iload_n 1, 1) := by decide +kernel
theorem dX12_init_444 : decode cX12_init 444 = .ok (.aload_n 0, 1) := by decide +kernel
theorem dX12_init_445 : decode cX12_init 445 = .ok (.getfield 37, 3) := by decide +kernel
theorem dX12_init_448 : decode cX12_init 448 = .ok (.iload_n 1, 1) := by decide +kernel
theorem dX12_init_449 : decode cX12_init 449 = .ok (.iaload, 1) := by decide +kernel
theorem dX12_init_450 : decode cX12_init 450 = .ok (.iastore, 1) := by decide +kernel
theorem dX12_init_451 : decode cX12_init 451 = .ok (.iinc 1 1, 3) := by decide +kernel
theorem dX12_init_454 : decode cX12_init 454 = .ok (.goto (-22), 3) := by decide +kernel
theorem dX12_init_457 : decode cX12_init 457 = .ok (.return_, 1) := by decide +kernel
def fX12_init_432 (N n : Nat) : Nat → zF → Nat → Int32 → Option zF
  | 0, _, _, _ => none
  | k + 1, f, a0, a1 =>
    (if (139 : Int32) ≤ a1 then some f else ((zgR (n + 18) f 12 a0 6).bind fun x94 => ((zgR (n + 18) f 12 a0 7).bind fun x95 => ((zlI (n + 18) f 0 x95 a1).bind fun x96 => ((zsI (n + 18) f 0 x94 a1 x96).bind fun f97 => (fX12_init_432 N n k f97 a0 (a1 + 1)))))))
set_option maxRecDepth 100000 in
set_option maxHeartbeats 4000000 in
theorem gX12_init_432 (l : Launch) {G : zG} {p : Program} {e : Env} {s : State} {m : MethodId} {args : Array Value} {below : List Frame} {meth : Method} {c : Code} {N n : Nat} {f9 : zF} (B : zB G p s m args meth c RX12 cX12_init 2 (none)) (hz0 : s.heap.size = G.2.2.2.size + n) : ∀ (k : Nat), ∀ (f : zF) (a0 : Nat) (a1 : Int32) (H : Heap) (locs : List Loc) (ls : Array Slot), fX12_init_432 N n k f a0 a1 = some f9 → zS G (n + 18) f H locs → lv_has ls 2 [(0, zr G a0), (1, .int a1)] → W p l e (zrmA 1 18 4238) s m args below meth c H locs 18 4238 (MQ below (zQcA G (n + 18) f9) args s 18 4238 (zA G)) (F0 m 432 ls []) := by
  have he := B.1
  have hb := B.2.1
  intro k
  induction k with
  | zero =>
    intro f a0 a1 H locs ls h
    unfold fX12_init_432 at h
    cases h
  | succ k ih =>
    intro f a0 a1 H locs ls h hS hl
    unfold fX12_init_432 at h
    refine lv_iload_n he hb dX12_init_432 rfl (lv_at hl 1 rfl) ?_
    refine lv_sipush (v := (139 : Int32)) he hb dX12_init_433 (by decide) ?_
    refine lv_icmp_ge (tgt := 457) he hb dX12_init_436 (by decide) (fun hc => ?_) (fun hc => ?_)
    · rw [if_pos hc] at h
      obtain rfl := Option.some.inj h
      exact z_vretA B hS (by omega) dX12_init_457
    · rw [if_neg hc] at h
      refine z_aload_n he hb dX12_init_439 rfl (lv_at hl 0 rfl) (zref_r _ _) ?_
      obtain ⟨x94, hx, h⟩ := zob h
      refine z_getR (ci := 12) (T := TX12) (N := 50) (j := 6) B hS hx rfl zin_X12 (by decide) zk_1353 dX12_init_440 ?_
      refine lv_iload_n he hb dX12_init_443 rfl (lv_at hl 1 rfl) ?_
      refine z_aload_n he hb dX12_init_444 rfl (lv_at hl 0 rfl) (zref_r _ _) ?_
      obtain ⟨x95, hx, h⟩ := zob h
      refine z_getR (ci := 12) (T := TX12) (N := 50) (j := 7) B hS hx rfl zin_X12 (by decide) zk_1354 dX12_init_445 ?_
      refine lv_iload_n he hb dX12_init_448 rfl (lv_at hl 1 rfl) ?_
      obtain ⟨x96, hx, h⟩ := zob h
      refine z_ildI B hS hx dX12_init_449 ?_
      obtain ⟨f97, hx, h⟩ := zob h
      refine z_istI B hS hx dX12_init_450 (fun H locs hS => ?_)
      refine lv_iinc (v := (a1 + 1)) (lv' := [(1, _), (0, _)]) he hb dX12_init_451 hl (k := 1) rfl rfl (by decide) rfl (fun ls hl => ?_)
      refine lv_goto (tgt := 432) he hb dX12_init_454 (by decide) ?_
      exact ih _ _ _ _ _ _ h hS (lv_sub hl [1, 0] rfl)
def fX12_init (N n : Nat) (f : zF) (a0 : Nat) : Option zF :=
    ((zmk f n (.inl (2, 940, .inl (fun _ => 0)))).bind fun f1 => ((zpR (n + 1) f1 12 a0 1 n).bind fun f2 => ((zmk f2 (n + 1) (.inl (0, 431, .inl (fun _ => 0)))).bind fun f3 => ((zpR (n + 2) f3 12 a0 6 (n + 1)).bind fun f4 => ((zmk f4 (n + 2) (.inl (0, 139, .inl (fun _ => 0)))).bind fun f5 => ((zpR (n + 3) f5 12 a0 7 (n + 2)).bind fun f6 => ((zmk f6 (n + 3) (.inl (0, 135, .inl (fun _ => 0)))).bind fun f7 => ((zpR (n + 4) f7 12 a0 8 (n + 3)).bind fun f8 => ((zmk f8 (n + 4) (.inl (1, 30, .inr (.inl (fun _ => 0))))).bind fun f9 => ((zpR (n + 5) f9 12 a0 9 (n + 4)).bind fun f10 => ((zmk f10 (n + 5) (.inl (1, 27, .inr (.inl (fun _ => 0))))).bind fun f11 => ((zpR (n + 6) f11 12 a0 10 (n + 5)).bind fun f12 => ((zmk f12 (n + 6) (.inl (0, 888, .inl (fun _ => 0)))).bind fun f13 => ((zpR (n + 7) f13 12 a0 21 (n + 6)).bind fun f14 => ((zmk f14 (n + 7) (.inl (0, 111, .inl (fun _ => 0)))).bind fun f15 => ((zpR (n + 8) f15 12 a0 22 (n + 7)).bind fun f16 => ((zmk f16 (n + 8) (.inl (0, 5, .inl (fun _ => 0)))).bind fun f17 => ((zpR (n + 9) f17 12 a0 26 (n + 8)).bind fun f18 => ((zpI (n + 9) f18 12 a0 27 (-1 : Int32)).bind fun f19 => ((zmk f19 (n + 9) (.inl (0, 36, .inl (fun _ => 0)))).bind fun f20 => ((zpR (n + 10) f20 12 a0 30 (n + 9)).bind fun f21 => ((zmk f21 (n + 10) (.inl (0, 468, .inl (fun _ => 0)))).bind fun f22 => ((zpR (n + 11) f22 12 a0 31 (n + 10)).bind fun f23 => ((zpI (n + 11) f23 12 a0 32 (-1 : Int32)).bind fun f24 => ((zmk f24 (n + 11) (.inl (2, 40, .inl (fun _ => 0)))).bind fun f25 => ((zpR (n + 12) f25 12 a0 34 (n + 11)).bind fun f26 => ((zmk f26 (n + 12) (.inl (0, 4, .inl (fun _ => 0)))).bind fun f27 => ((zpR (n + 13) f27 12 a0 38 (n + 12)).bind fun f28 => ((zmk f28 (n + 13) (.inl (0, 45, .inl (fun _ => 0)))).bind fun f29 => ((zpR (n + 14) f29 12 a0 40 (n + 13)).bind fun f30 => ((zmk f30 (n + 14) (.inl (3, 45, .inl (fun _ => 0)))).bind fun f31 => ((zpR (n + 15) f31 12 a0 46 (n + 14)).bind fun f32 => ((zmk f32 (n + 15) (.inl (0, 862, .inl (fun _ => 0)))).bind fun f33 => ((zpR (n + 16) f33 12 a0 47 (n + 15)).bind fun f34 => ((zmk f34 (n + 16) (.inl (1, 30, .inr (.inl (fun _ => 0))))).bind fun f35 => ((zpR (n + 17) f35 12 a0 48 (n + 16)).bind fun f36 => ((zmk f36 (n + 17) (.inl (3, 2, .inl (fun _ => 0)))).bind fun f37 => ((zpR (n + 18) f37 12 a0 49 (n + 17)).bind fun f38 => ((zgR (n + 18) f38 12 a0 10).bind fun x39 => ((zsL (n + 18) f38 1 x39 (0 : Int32) (439854918756 : Int64)).bind fun f40 => ((zgR (n + 18) f40 12 a0 10).bind fun x41 => ((zsL (n + 18) f40 1 x41 (1 : Int32) (448377677669 : Int64)).bind fun f42 => ((zgR (n + 18) f42 12 a0 10).bind fun x43 => ((zsL (n + 18) f42 1 x43 (2 : Int32) (478745093490 : Int64)).bind fun f44 => ((zgR (n + 18) f44 12 a0 10).bind fun x45 => ((zsL (n + 18) f44 1 x45 (3 : Int32) (1818324580 : Int64)).bind fun f46 => ((zgR (n + 18) f46 12 a0 10).bind fun x47 => ((zsL (n + 18) f46 1 x47 (4 : Int32) (112602893349477 : Int64)).bind fun f48 => ((zgR (n + 18) f48 12 a0 10).bind fun x49 => ((zsL (n + 18) f48 1 x49 (5 : Int32) (119225866478962 : Int64)).bind fun f50 => ((zgR (n + 18) f50 12 a0 10).bind fun x51 => ((zsL (n + 18) f50 1 x51 (6 : Int32) (1700885364 : Int64)).bind fun f52 => ((zgR (n + 18) f52 12 a0 10).bind fun x53 => ((zsL (n + 18) f52 1 x53 (7 : Int32) (495791207528 : Int64)).bind fun f54 => ((zgR (n + 18) f54 12 a0 10).bind fun x55 => ((zsL (n + 18) f54 1 x55 (8 : Int32) (2003137396 : Int64)).bind fun f56 => ((zgR (n + 18) f56 12 a0 10).bind fun x57 => ((zsL (n + 18) f56 1 x57 (9 : Int32) (474316174440 : Int64)).bind fun f58 => ((zgR (n + 18) f58 12 a0 10).bind fun x59 => ((zsL (n + 18) f58 1 x59 (10 : Int32) (500186639987 : Int64)).bind fun f60 => ((zgR (n + 18) f60 12 a0 10).bind fun x61 => ((zsL (n + 18) f60 1 x61 (11 : Int32) (512735603571 : Int64)).bind fun f62 => ((zgR (n + 18) f62 12 a0 10).bind fun x63 => ((zsL (n + 18) f62 1 x63 (12 : Int32) (495673767027 : Int64)).bind fun f64 => ((zgR (n + 18) f64 12 a0 10).bind fun x65 => ((zsL (n + 18) f64 1 x65 (13 : Int32) (478627065459 : Int64)).bind fun f66 => ((zgR (n + 18) f66 12 a0 10).bind fun x67 => ((zsL (n + 18) f66 1 x67 (14 : Int32) (439720568179 : Int64)).bind fun f68 => ((zgR (n + 18) f68 12 a0 10).bind fun x69 => ((zsL (n + 18) f68 1 x69 (15 : Int32) (1752135026 : Int64)).bind fun f70 => ((zgR (n + 18) f70 12 a0 10).bind fun x71 => ((zsL (n + 18) f70 1 x71 (16 : Int32) (28530 : Int64)).bind fun f72 => ((zgR (n + 18) f72 12 a0 10).bind fun x73 => ((zsL (n + 18) f72 1 x73 (17 : Int32) (6385252 : Int64)).bind fun f74 => ((zgR (n + 18) f74 12 a0 10).bind fun x75 => ((zsL (n + 18) f74 1 x75 (18 : Int32) (7237492 : Int64)).bind fun f76 => ((zgR (n + 18) f76 12 a0 10).bind fun x77 => ((zsL (n + 18) f76 1 x77 (19 : Int32) (1936024942 : Int64)).bind fun f78 => ((zgR (n + 18) f78 12 a0 10).bind fun x79 => ((zsL (n + 18) f78 1 x79 (20 : Int32) (495875089259 : Int64)).bind fun f80 => ((zgR (n + 18) f80 12 a0 10).bind fun x81 => ((zsL (n + 18) f80 1 x81 (21 : Int32) (470021465444 : Int64)).bind fun f82 => ((zgR (n + 18) f82 12 a0 10).bind fun x83 => ((zsL (n + 18) f82 1 x83 (22 : Int32) (28518 : Int64)).bind fun f84 => ((zgR (n + 18) f84 12 a0 10).bind fun x85 => ((zsL (n + 18) f84 1 x85 (23 : Int32) (25209 : Int64)).bind fun f86 => ((zgR (n + 18) f86 12 a0 10).bind fun x87 => ((zsL (n + 18) f86 1 x87 (24 : Int32) (1735356005 : Int64)).bind fun f88 => ((zgR (n + 18) f88 12 a0 10).bind fun x89 => ((zsL (n + 18) f88 1 x89 (25 : Int32) (435778056825 : Int64)).bind fun f90 => ((zgR (n + 18) f90 12 a0 10).bind fun x91 => ((zsL (n + 18) f90 1 x91 (26 : Int32) (121450625394034 : Int64)).bind fun f92 => ((zck (n + 18) f92 12 a0).bind fun _ => ((fX12_clears N (n + 18) f92 a0).bind fun f93 => (fX12_init_432 N n N f93 a0 (0 : Int32))))))))))))))))))))))))))))))))))))))))))))))))))))))))))))))))))))))))))))))))))))))))))))))))
set_option maxRecDepth 100000 in
set_option maxHeartbeats 4000000 in
theorem mX12_init (l : Launch) (G : zG) {N n : Nat} {f f9 : zF} {a0 : Nat} (h : fX12_init N n f a0 = some f9) : zMA l G yX12_init cX12_init 2 1 n f [zr G a0] f9 18 4238 := by
  refine zMA.of (by decide) (Nat.le_of_ble_eq_true rfl) rfl ?_
  intro p e s m args below meth c locs ls B hni hS hz0 hl
  have he := B.1
  have hb := B.2.1
  have hl : lv_has ls 2 [(0, zr G a0)] := hl
  unfold fX12_init at h
  generalize hHs : s.heap = H at hS ⊢
  refine z_aload_n he hb dX12_init_0 rfl (lv_at hl 0 rfl) (zref_r _ _) ?_
  refine z_objInit (rest := []) B zk_1315 zobj hl ⟨by decide, by decide⟩ (Nat.le_of_ble_eq_true rfl) dX12_init_1 ?_
  refine z_aload_n he hb dX12_init_4 rfl (lv_at hl 0 rfl) (zref_r _ _) ?_
  refine lv_sipush (v := (940 : Int32)) he hb dX12_init_5 (by decide) ?_
  obtain ⟨f1, hx, h⟩ := zob h
  refine z_newB (len := 940) B hS (by omega) zk_142 (by decide) (by decide) (by decide) (by decide) (by decide) dX12_init_8 (fun H hS => ?_)
  rw [Option.some.inj hx] at hS
  obtain ⟨f2, hx, h⟩ := zob h
  refine z_putF (ci := 12) (T := TX12) (N := 50) (j := 1) B hni hS hx rfl zin_X12 tyX12 tyX12_ok nmX12 (by decide) zk_1348 rfl rfl rfl rfl dX12_init_10 (fun H locs hS => ?_)
  refine z_aload_n he hb dX12_init_13 rfl (lv_at hl 0 rfl) (zref_r _ _) ?_
  refine lv_sipush (v := (431 : Int32)) he hb dX12_init_14 (by decide) ?_
  obtain ⟨f3, hx, h⟩ := zob h
  refine z_newI (len := 431) B hS (by omega) zk_241 (by decide) (by decide) (by decide) (by decide) (by decide) dX12_init_17 (fun H hS => ?_)
  rw [Option.some.inj hx] at hS
  obtain ⟨f4, hx, h⟩ := zob h
  refine z_putF (ci := 12) (T := TX12) (N := 50) (j := 6) B hni hS hx rfl zin_X12 tyX12 tyX12_ok nmX12 (by decide) zk_1353 rfl rfl rfl rfl dX12_init_19 (fun H locs hS => ?_)
  refine z_aload_n he hb dX12_init_22 rfl (lv_at hl 0 rfl) (zref_r _ _) ?_
  refine lv_sipush (v := (139 : Int32)) he hb dX12_init_23 (by decide) ?_
  obtain ⟨f5, hx, h⟩ := zob h
  refine z_newI (len := 139) B hS (by omega) zk_241 (by decide) (by decide) (by decide) (by decide) (by decide) dX12_init_26 (fun H hS => ?_)
  rw [Option.some.inj hx] at hS
  obtain ⟨f6, hx, h⟩ := zob h
  refine z_putF (ci := 12) (T := TX12) (N := 50) (j := 7) B hni hS hx rfl zin_X12 tyX12 tyX12_ok nmX12 (by decide) zk_1354 rfl rfl rfl rfl dX12_init_28 (fun H locs hS => ?_)
  refine z_aload_n he hb dX12_init_31 rfl (lv_at hl 0 rfl) (zref_r _ _) ?_
  refine lv_sipush (v := (135 : Int32)) he hb dX12_init_32 (by decide) ?_
  obtain ⟨f7, hx, h⟩ := zob h
  refine z_newI (len := 135) B hS (by omega) zk_241 (by decide) (by decide) (by decide) (by decide) (by decide) dX12_init_35 (fun H hS => ?_)
  rw [Option.some.inj hx] at hS
  obtain ⟨f8, hx, h⟩ := zob h
  refine z_putF (ci := 12) (T := TX12) (N := 50) (j := 8) B hni hS hx rfl zin_X12 tyX12 tyX12_ok nmX12 (by decide) zk_1355 rfl rfl rfl rfl dX12_init_37 (fun H locs hS => ?_)
  refine z_aload_n he hb dX12_init_40 rfl (lv_at hl 0 rfl) (zref_r _ _) ?_
  refine lv_bipush (v := (30 : Int32)) he hb dX12_init_41 (by decide) ?_
  obtain ⟨f9, hx, h⟩ := zob h
  refine z_newL (len := 30) B hS (by omega) zk_143 (by decide) (by decide) (by decide) (by decide) (by decide) dX12_init_43 (fun H hS => ?_)
  rw [Option.some.inj hx] at hS
  obtain ⟨f10, hx, h⟩ := zob h
  refine z_putF (ci := 12) (T := TX12) (N := 50) (j := 9) B hni hS hx rfl zin_X12 tyX12 tyX12_ok nmX12 (by decide) zk_1356 rfl rfl rfl rfl dX12_init_45 (fun H locs hS => ?_)
  refine z_aload_n he hb dX12_init_48 rfl (lv_at hl 0 rfl) (zref_r _ _) ?_
  refine lv_bipush (v := (27 : Int32)) he hb dX12_init_49 (by decide) ?_
  obtain ⟨f11, hx, h⟩ := zob h
  refine z_newL (len := 27) B hS (by omega) zk_143 (by decide) (by decide) (by decide) (by decide) (by decide) dX12_init_51 (fun H hS => ?_)
  rw [Option.some.inj hx] at hS
  obtain ⟨f12, hx, h⟩ := zob h
  refine z_putF (ci := 12) (T := TX12) (N := 50) (j := 10) B hni hS hx rfl zin_X12 tyX12 tyX12_ok nmX12 (by decide) zk_1357 rfl rfl rfl rfl dX12_init_53 (fun H locs hS => ?_)
  refine z_aload_n he hb dX12_init_56 rfl (lv_at hl 0 rfl) (zref_r _ _) ?_
  refine lv_sipush (v := (888 : Int32)) he hb dX12_init_57 (by decide) ?_
  obtain ⟨f13, hx, h⟩ := zob h
  refine z_newI (len := 888) B hS (by omega) zk_241 (by decide) (by decide) (by decide) (by decide) (by decide) dX12_init_60 (fun H hS => ?_)
  rw [Option.some.inj hx] at hS
  obtain ⟨f14, hx, h⟩ := zob h
  refine z_putF (ci := 12) (T := TX12) (N := 50) (j := 21) B hni hS hx rfl zin_X12 tyX12 tyX12_ok nmX12 (by decide) zk_1368 rfl rfl rfl rfl dX12_init_62 (fun H locs hS => ?_)
  refine z_aload_n he hb dX12_init_65 rfl (lv_at hl 0 rfl) (zref_r _ _) ?_
  refine lv_bipush (v := (111 : Int32)) he hb dX12_init_66 (by decide) ?_
  obtain ⟨f15, hx, h⟩ := zob h
  refine z_newI (len := 111) B hS (by omega) zk_241 (by decide) (by decide) (by decide) (by decide) (by decide) dX12_init_68 (fun H hS => ?_)
  rw [Option.some.inj hx] at hS
  obtain ⟨f16, hx, h⟩ := zob h
  refine z_putF (ci := 12) (T := TX12) (N := 50) (j := 22) B hni hS hx rfl zin_X12 tyX12 tyX12_ok nmX12 (by decide) zk_1369 rfl rfl rfl rfl dX12_init_70 (fun H locs hS => ?_)
  refine z_aload_n he hb dX12_init_73 rfl (lv_at hl 0 rfl) (zref_r _ _) ?_
  refine lv_iconst (v := (5 : Int32)) he hb dX12_init_74 (by decide) ?_
  obtain ⟨f17, hx, h⟩ := zob h
  refine z_newI (len := 5) B hS (by omega) zk_241 (by decide) (by decide) (by decide) (by decide) (by decide) dX12_init_75 (fun H hS => ?_)
  rw [Option.some.inj hx] at hS
  obtain ⟨f18, hx, h⟩ := zob h
  refine z_putF (ci := 12) (T := TX12) (N := 50) (j := 26) B hni hS hx rfl zin_X12 tyX12 tyX12_ok nmX12 (by decide) zk_1373 rfl rfl rfl rfl dX12_init_77 (fun H locs hS => ?_)
  refine z_aload_n he hb dX12_init_80 rfl (lv_at hl 0 rfl) (zref_r _ _) ?_
  refine lv_iconst (v := (-1 : Int32)) he hb dX12_init_81 (by decide) ?_
  obtain ⟨f19, hx, h⟩ := zob h
  refine z_putI (ci := 12) (T := TX12) (N := 50) (j := 27) B hS hx rfl zin_X12 tyX12 tyX12_ok nmX12 (by decide) zk_1374 rfl rfl dX12_init_82 (fun H locs hS => ?_)
  refine z_aload_n he hb dX12_init_85 rfl (lv_at hl 0 rfl) (zref_r _ _) ?_
  refine lv_bipush (v := (36 : Int32)) he hb dX12_init_86 (by decide) ?_
  obtain ⟨f20, hx, h⟩ := zob h
  refine z_newI (len := 36) B hS (by omega) zk_241 (by decide) (by decide) (by decide) (by decide) (by decide) dX12_init_88 (fun H hS => ?_)
  rw [Option.some.inj hx] at hS
  obtain ⟨f21, hx, h⟩ := zob h
  refine z_putF (ci := 12) (T := TX12) (N := 50) (j := 30) B hni hS hx rfl zin_X12 tyX12 tyX12_ok nmX12 (by decide) zk_1377 rfl rfl rfl rfl dX12_init_90 (fun H locs hS => ?_)
  refine z_aload_n he hb dX12_init_93 rfl (lv_at hl 0 rfl) (zref_r _ _) ?_
  refine lv_sipush (v := (468 : Int32)) he hb dX12_init_94 (by decide) ?_
  obtain ⟨f22, hx, h⟩ := zob h
  refine z_newI (len := 468) B hS (by omega) zk_241 (by decide) (by decide) (by decide) (by decide) (by decide) dX12_init_97 (fun H hS => ?_)
  rw [Option.some.inj hx] at hS
  obtain ⟨f23, hx, h⟩ := zob h
  refine z_putF (ci := 12) (T := TX12) (N := 50) (j := 31) B hni hS hx rfl zin_X12 tyX12 tyX12_ok nmX12 (by decide) zk_1378 rfl rfl rfl rfl dX12_init_99 (fun H locs hS => ?_)
  refine z_aload_n he hb dX12_init_102 rfl (lv_at hl 0 rfl) (zref_r _ _) ?_
  refine lv_iconst (v := (-1 : Int32)) he hb dX12_init_103 (by decide) ?_
  obtain ⟨f24, hx, h⟩ := zob h
  refine z_putI (ci := 12) (T := TX12) (N := 50) (j := 32) B hS hx rfl zin_X12 tyX12 tyX12_ok nmX12 (by decide) zk_1379 rfl rfl dX12_init_104 (fun H locs hS => ?_)
  refine z_aload_n he hb dX12_init_107 rfl (lv_at hl 0 rfl) (zref_r _ _) ?_
  refine lv_bipush (v := (40 : Int32)) he hb dX12_init_108 (by decide) ?_
  obtain ⟨f25, hx, h⟩ := zob h
  refine z_newB (len := 40) B hS (by omega) zk_142 (by decide) (by decide) (by decide) (by decide) (by decide) dX12_init_110 (fun H hS => ?_)
  rw [Option.some.inj hx] at hS
  obtain ⟨f26, hx, h⟩ := zob h
  refine z_putF (ci := 12) (T := TX12) (N := 50) (j := 34) B hni hS hx rfl zin_X12 tyX12 tyX12_ok nmX12 (by decide) zk_1381 rfl rfl rfl rfl dX12_init_112 (fun H locs hS => ?_)
  refine z_aload_n he hb dX12_init_115 rfl (lv_at hl 0 rfl) (zref_r _ _) ?_
  refine lv_iconst (v := (4 : Int32)) he hb dX12_init_116 (by decide) ?_
  obtain ⟨f27, hx, h⟩ := zob h
  refine z_newI (len := 4) B hS (by omega) zk_241 (by decide) (by decide) (by decide) (by decide) (by decide) dX12_init_117 (fun H hS => ?_)
  rw [Option.some.inj hx] at hS
  obtain ⟨f28, hx, h⟩ := zob h
  refine z_putF (ci := 12) (T := TX12) (N := 50) (j := 38) B hni hS hx rfl zin_X12 tyX12 tyX12_ok nmX12 (by decide) zk_1385 rfl rfl rfl rfl dX12_init_119 (fun H locs hS => ?_)
  refine z_aload_n he hb dX12_init_122 rfl (lv_at hl 0 rfl) (zref_r _ _) ?_
  refine lv_bipush (v := (45 : Int32)) he hb dX12_init_123 (by decide) ?_
  obtain ⟨f29, hx, h⟩ := zob h
  refine z_newI (len := 45) B hS (by omega) zk_241 (by decide) (by decide) (by decide) (by decide) (by decide) dX12_init_125 (fun H hS => ?_)
  rw [Option.some.inj hx] at hS
  obtain ⟨f30, hx, h⟩ := zob h
  refine z_putF (ci := 12) (T := TX12) (N := 50) (j := 40) B hni hS hx rfl zin_X12 tyX12 tyX12_ok nmX12 (by decide) zk_1387 rfl rfl rfl rfl dX12_init_127 (fun H locs hS => ?_)
  refine z_aload_n he hb dX12_init_130 rfl (lv_at hl 0 rfl) (zref_r _ _) ?_
  refine lv_bipush (v := (45 : Int32)) he hb dX12_init_131 (by decide) ?_
  obtain ⟨f31, hx, h⟩ := zob h
  refine z_newZ (len := 45) B hS (by omega) zk_1498 (by decide) (by decide) (by decide) (by decide) (by decide) dX12_init_133 (fun H hS => ?_)
  rw [Option.some.inj hx] at hS
  obtain ⟨f32, hx, h⟩ := zob h
  refine z_putF (ci := 12) (T := TX12) (N := 50) (j := 46) B hni hS hx rfl zin_X12 tyX12 tyX12_ok nmX12 (by decide) zk_1393 rfl rfl rfl rfl dX12_init_135 (fun H locs hS => ?_)
  refine z_aload_n he hb dX12_init_138 rfl (lv_at hl 0 rfl) (zref_r _ _) ?_
  refine lv_sipush (v := (862 : Int32)) he hb dX12_init_139 (by decide) ?_
  obtain ⟨f33, hx, h⟩ := zob h
  refine z_newI (len := 862) B hS (by omega) zk_241 (by decide) (by decide) (by decide) (by decide) (by decide) dX12_init_142 (fun H hS => ?_)
  rw [Option.some.inj hx] at hS
  obtain ⟨f34, hx, h⟩ := zob h
  refine z_putF (ci := 12) (T := TX12) (N := 50) (j := 47) B hni hS hx rfl zin_X12 tyX12 tyX12_ok nmX12 (by decide) zk_1394 rfl rfl rfl rfl dX12_init_144 (fun H locs hS => ?_)
  refine z_aload_n he hb dX12_init_147 rfl (lv_at hl 0 rfl) (zref_r _ _) ?_
  refine lv_bipush (v := (30 : Int32)) he hb dX12_init_148 (by decide) ?_
  obtain ⟨f35, hx, h⟩ := zob h
  refine z_newL (len := 30) B hS (by omega) zk_143 (by decide) (by decide) (by decide) (by decide) (by decide) dX12_init_150 (fun H hS => ?_)
  rw [Option.some.inj hx] at hS
  obtain ⟨f36, hx, h⟩ := zob h
  refine z_putF (ci := 12) (T := TX12) (N := 50) (j := 48) B hni hS hx rfl zin_X12 tyX12 tyX12_ok nmX12 (by decide) zk_1395 rfl rfl rfl rfl dX12_init_152 (fun H locs hS => ?_)
  refine z_aload_n he hb dX12_init_155 rfl (lv_at hl 0 rfl) (zref_r _ _) ?_
  refine lv_iconst (v := (2 : Int32)) he hb dX12_init_156 (by decide) ?_
  obtain ⟨f37, hx, h⟩ := zob h
  refine z_newZ (len := 2) B hS (by omega) zk_1498 (by decide) (by decide) (by decide) (by decide) (by decide) dX12_init_157 (fun H hS => ?_)
  rw [Option.some.inj hx] at hS
  obtain ⟨f38, hx, h⟩ := zob h
  refine z_putF (ci := 12) (T := TX12) (N := 50) (j := 49) B hni hS hx rfl zin_X12 tyX12 tyX12_ok nmX12 (by decide) zk_1396 rfl rfl rfl rfl dX12_init_159 (fun H locs hS => ?_)
  refine z_aload_n he hb dX12_init_162 rfl (lv_at hl 0 rfl) (zref_r _ _) ?_
  obtain ⟨x39, hx, h⟩ := zob h
  refine z_getR (ci := 12) (T := TX12) (N := 50) (j := 10) B hS hx rfl zin_X12 (by decide) zk_1357 dX12_init_163 ?_
  refine lv_iconst (v := (0 : Int32)) he hb dX12_init_166 (by decide) ?_
  refine lv_ldc2 (v := (439854918756 : Int64)) he hb B.2.2.2.1 (B.2.2.2.2.1 _ zk_1316) dX12_init_167 ?_
  obtain ⟨f40, hx, h⟩ := zob h
  refine z_istL B hS hx dX12_init_170 (fun H locs hS => ?_)
  refine z_aload_n he hb dX12_init_171 rfl (lv_at hl 0 rfl) (zref_r _ _) ?_
  obtain ⟨x41, hx, h⟩ := zob h
  refine z_getR (ci := 12) (T := TX12) (N := 50) (j := 10) B hS hx rfl zin_X12 (by decide) zk_1357 dX12_init_172 ?_
  refine lv_iconst (v := (1 : Int32)) he hb dX12_init_175 (by decide) ?_
  refine lv_ldc2 (v := (448377677669 : Int64)) he hb B.2.2.2.1 (B.2.2.2.2.1 _ zk_1317) dX12_init_176 ?_
  obtain ⟨f42, hx, h⟩ := zob h
  refine z_istL B hS hx dX12_init_179 (fun H locs hS => ?_)
  refine z_aload_n he hb dX12_init_180 rfl (lv_at hl 0 rfl) (zref_r _ _) ?_
  obtain ⟨x43, hx, h⟩ := zob h
  refine z_getR (ci := 12) (T := TX12) (N := 50) (j := 10) B hS hx rfl zin_X12 (by decide) zk_1357 dX12_init_181 ?_
  refine lv_iconst (v := (2 : Int32)) he hb dX12_init_184 (by decide) ?_
  refine lv_ldc2 (v := (478745093490 : Int64)) he hb B.2.2.2.1 (B.2.2.2.2.1 _ zk_1318) dX12_init_185 ?_
  obtain ⟨f44, hx, h⟩ := zob h
  refine z_istL B hS hx dX12_init_188 (fun H locs hS => ?_)
  refine z_aload_n he hb dX12_init_189 rfl (lv_at hl 0 rfl) (zref_r _ _) ?_
  obtain ⟨x45, hx, h⟩ := zob h
  refine z_getR (ci := 12) (T := TX12) (N := 50) (j := 10) B hS hx rfl zin_X12 (by decide) zk_1357 dX12_init_190 ?_
  refine lv_iconst (v := (3 : Int32)) he hb dX12_init_193 (by decide) ?_
  refine lv_ldc2 (v := (1818324580 : Int64)) he hb B.2.2.2.1 (B.2.2.2.2.1 _ zk_1319) dX12_init_194 ?_
  obtain ⟨f46, hx, h⟩ := zob h
  refine z_istL B hS hx dX12_init_197 (fun H locs hS => ?_)
  refine z_aload_n he hb dX12_init_198 rfl (lv_at hl 0 rfl) (zref_r _ _) ?_
  obtain ⟨x47, hx, h⟩ := zob h
  refine z_getR (ci := 12) (T := TX12) (N := 50) (j := 10) B hS hx rfl zin_X12 (by decide) zk_1357 dX12_init_199 ?_
  refine lv_iconst (v := (4 : Int32)) he hb dX12_init_202 (by decide) ?_
  refine lv_ldc2 (v := (112602893349477 : Int64)) he hb B.2.2.2.1 (B.2.2.2.2.1 _ zk_1320) dX12_init_203 ?_
  obtain ⟨f48, hx, h⟩ := zob h
  refine z_istL B hS hx dX12_init_206 (fun H locs hS => ?_)
  refine z_aload_n he hb dX12_init_207 rfl (lv_at hl 0 rfl) (zref_r _ _) ?_
  obtain ⟨x49, hx, h⟩ := zob h
  refine z_getR (ci := 12) (T := TX12) (N := 50) (j := 10) B hS hx rfl zin_X12 (by decide) zk_1357 dX12_init_208 ?_
  refine lv_iconst (v := (5 : Int32)) he hb dX12_init_211 (by decide) ?_
  refine lv_ldc2 (v := (119225866478962 : Int64)) he hb B.2.2.2.1 (B.2.2.2.2.1 _ zk_1321) dX12_init_212 ?_
  obtain ⟨f50, hx, h⟩ := zob h
  refine z_istL B hS hx dX12_init_215 (fun H locs hS => ?_)
  refine z_aload_n he hb dX12_init_216 rfl (lv_at hl 0 rfl) (zref_r _ _) ?_
  obtain ⟨x51, hx, h⟩ := zob h
  refine z_getR (ci := 12) (T := TX12) (N := 50) (j := 10) B hS hx rfl zin_X12 (by decide) zk_1357 dX12_init_217 ?_
  refine lv_bipush (v := (6 : Int32)) he hb dX12_init_220 (by decide) ?_
  refine lv_ldc2 (v := (1700885364 : Int64)) he hb B.2.2.2.1 (B.2.2.2.2.1 _ zk_1322) dX12_init_222 ?_
  obtain ⟨f52, hx, h⟩ := zob h
  refine z_istL B hS hx dX12_init_225 (fun H locs hS => ?_)
  refine z_aload_n he hb dX12_init_226 rfl (lv_at hl 0 rfl) (zref_r _ _) ?_
  obtain ⟨x53, hx, h⟩ := zob h
  refine z_getR (ci := 12) (T := TX12) (N := 50) (j := 10) B hS hx rfl zin_X12 (by decide) zk_1357 dX12_init_227 ?_
  refine lv_bipush (v := (7 : Int32)) he hb dX12_init_230 (by decide) ?_
  refine lv_ldc2 (v := (495791207528 : Int64)) he hb B.2.2.2.1 (B.2.2.2.2.1 _ zk_1323) dX12_init_232 ?_
  obtain ⟨f54, hx, h⟩ := zob h
  refine z_istL B hS hx dX12_init_235 (fun H locs hS => ?_)
  refine z_aload_n he hb dX12_init_236 rfl (lv_at hl 0 rfl) (zref_r _ _) ?_
  obtain ⟨x55, hx, h⟩ := zob h
  refine z_getR (ci := 12) (T := TX12) (N := 50) (j := 10) B hS hx rfl zin_X12 (by decide) zk_1357 dX12_init_237 ?_
  refine lv_bipush (v := (8 : Int32)) he hb dX12_init_240 (by decide) ?_
  refine lv_ldc2 (v := (2003137396 : Int64)) he hb B.2.2.2.1 (B.2.2.2.2.1 _ zk_1324) dX12_init_242 ?_
  obtain ⟨f56, hx, h⟩ := zob h
  refine z_istL B hS hx dX12_init_245 (fun H locs hS => ?_)
  refine z_aload_n he hb dX12_init_246 rfl (lv_at hl 0 rfl) (zref_r _ _) ?_
  obtain ⟨x57, hx, h⟩ := zob h
  refine z_getR (ci := 12) (T := TX12) (N := 50) (j := 10) B hS hx rfl zin_X12 (by decide) zk_1357 dX12_init_247 ?_
  refine lv_bipush (v := (9 : Int32)) he hb dX12_init_250 (by decide) ?_
  refine lv_ldc2 (v := (474316174440 : Int64)) he hb B.2.2.2.1 (B.2.2.2.2.1 _ zk_1325) dX12_init_252 ?_
  obtain ⟨f58, hx, h⟩ := zob h
  refine z_istL B hS hx dX12_init_255 (fun H locs hS => ?_)
  refine z_aload_n he hb dX12_init_256 rfl (lv_at hl 0 rfl) (zref_r _ _) ?_
  obtain ⟨x59, hx, h⟩ := zob h
  refine z_getR (ci := 12) (T := TX12) (N := 50) (j := 10) B hS hx rfl zin_X12 (by decide) zk_1357 dX12_init_257 ?_
  refine lv_bipush (v := (10 : Int32)) he hb dX12_init_260 (by decide) ?_
  refine lv_ldc2 (v := (500186639987 : Int64)) he hb B.2.2.2.1 (B.2.2.2.2.1 _ zk_1326) dX12_init_262 ?_
  obtain ⟨f60, hx, h⟩ := zob h
  refine z_istL B hS hx dX12_init_265 (fun H locs hS => ?_)
  refine z_aload_n he hb dX12_init_266 rfl (lv_at hl 0 rfl) (zref_r _ _) ?_
  obtain ⟨x61, hx, h⟩ := zob h
  refine z_getR (ci := 12) (T := TX12) (N := 50) (j := 10) B hS hx rfl zin_X12 (by decide) zk_1357 dX12_init_267 ?_
  refine lv_bipush (v := (11 : Int32)) he hb dX12_init_270 (by decide) ?_
  refine lv_ldc2 (v := (512735603571 : Int64)) he hb B.2.2.2.1 (B.2.2.2.2.1 _ zk_1327) dX12_init_272 ?_
  obtain ⟨f62, hx, h⟩ := zob h
  refine z_istL B hS hx dX12_init_275 (fun H locs hS => ?_)
  refine z_aload_n he hb dX12_init_276 rfl (lv_at hl 0 rfl) (zref_r _ _) ?_
  obtain ⟨x63, hx, h⟩ := zob h
  refine z_getR (ci := 12) (T := TX12) (N := 50) (j := 10) B hS hx rfl zin_X12 (by decide) zk_1357 dX12_init_277 ?_
  refine lv_bipush (v := (12 : Int32)) he hb dX12_init_280 (by decide) ?_
  refine lv_ldc2 (v := (495673767027 : Int64)) he hb B.2.2.2.1 (B.2.2.2.2.1 _ zk_1328) dX12_init_282 ?_
  obtain ⟨f64, hx, h⟩ := zob h
  refine z_istL B hS hx dX12_init_285 (fun H locs hS => ?_)
  refine z_aload_n he hb dX12_init_286 rfl (lv_at hl 0 rfl) (zref_r _ _) ?_
  obtain ⟨x65, hx, h⟩ := zob h
  refine z_getR (ci := 12) (T := TX12) (N := 50) (j := 10) B hS hx rfl zin_X12 (by decide) zk_1357 dX12_init_287 ?_
  refine lv_bipush (v := (13 : Int32)) he hb dX12_init_290 (by decide) ?_
  refine lv_ldc2 (v := (478627065459 : Int64)) he hb B.2.2.2.1 (B.2.2.2.2.1 _ zk_1329) dX12_init_292 ?_
  obtain ⟨f66, hx, h⟩ := zob h
  refine z_istL B hS hx dX12_init_295 (fun H locs hS => ?_)
  refine z_aload_n he hb dX12_init_296 rfl (lv_at hl 0 rfl) (zref_r _ _) ?_
  obtain ⟨x67, hx, h⟩ := zob h
  refine z_getR (ci := 12) (T := TX12) (N := 50) (j := 10) B hS hx rfl zin_X12 (by decide) zk_1357 dX12_init_297 ?_
  refine lv_bipush (v := (14 : Int32)) he hb dX12_init_300 (by decide) ?_
  refine lv_ldc2 (v := (439720568179 : Int64)) he hb B.2.2.2.1 (B.2.2.2.2.1 _ zk_1330) dX12_init_302 ?_
  obtain ⟨f68, hx, h⟩ := zob h
  refine z_istL B hS hx dX12_init_305 (fun H locs hS => ?_)
  refine z_aload_n he hb dX12_init_306 rfl (lv_at hl 0 rfl) (zref_r _ _) ?_
  obtain ⟨x69, hx, h⟩ := zob h
  refine z_getR (ci := 12) (T := TX12) (N := 50) (j := 10) B hS hx rfl zin_X12 (by decide) zk_1357 dX12_init_307 ?_
  refine lv_bipush (v := (15 : Int32)) he hb dX12_init_310 (by decide) ?_
  refine lv_ldc2 (v := (1752135026 : Int64)) he hb B.2.2.2.1 (B.2.2.2.2.1 _ zk_1331) dX12_init_312 ?_
  obtain ⟨f70, hx, h⟩ := zob h
  refine z_istL B hS hx dX12_init_315 (fun H locs hS => ?_)
  refine z_aload_n he hb dX12_init_316 rfl (lv_at hl 0 rfl) (zref_r _ _) ?_
  obtain ⟨x71, hx, h⟩ := zob h
  refine z_getR (ci := 12) (T := TX12) (N := 50) (j := 10) B hS hx rfl zin_X12 (by decide) zk_1357 dX12_init_317 ?_
  refine lv_bipush (v := (16 : Int32)) he hb dX12_init_320 (by decide) ?_
  refine lv_ldc2 (v := (28530 : Int64)) he hb B.2.2.2.1 (B.2.2.2.2.1 _ zk_1332) dX12_init_322 ?_
  obtain ⟨f72, hx, h⟩ := zob h
  refine z_istL B hS hx dX12_init_325 (fun H locs hS => ?_)
  refine z_aload_n he hb dX12_init_326 rfl (lv_at hl 0 rfl) (zref_r _ _) ?_
  obtain ⟨x73, hx, h⟩ := zob h
  refine z_getR (ci := 12) (T := TX12) (N := 50) (j := 10) B hS hx rfl zin_X12 (by decide) zk_1357 dX12_init_327 ?_
  refine lv_bipush (v := (17 : Int32)) he hb dX12_init_330 (by decide) ?_
  refine lv_ldc2 (v := (6385252 : Int64)) he hb B.2.2.2.1 (B.2.2.2.2.1 _ zk_1333) dX12_init_332 ?_
  obtain ⟨f74, hx, h⟩ := zob h
  refine z_istL B hS hx dX12_init_335 (fun H locs hS => ?_)
  refine z_aload_n he hb dX12_init_336 rfl (lv_at hl 0 rfl) (zref_r _ _) ?_
  obtain ⟨x75, hx, h⟩ := zob h
  refine z_getR (ci := 12) (T := TX12) (N := 50) (j := 10) B hS hx rfl zin_X12 (by decide) zk_1357 dX12_init_337 ?_
  refine lv_bipush (v := (18 : Int32)) he hb dX12_init_340 (by decide) ?_
  refine lv_ldc2 (v := (7237492 : Int64)) he hb B.2.2.2.1 (B.2.2.2.2.1 _ zk_1334) dX12_init_342 ?_
  obtain ⟨f76, hx, h⟩ := zob h
  refine z_istL B hS hx dX12_init_345 (fun H locs hS => ?_)
  refine z_aload_n he hb dX12_init_346 rfl (lv_at hl 0 rfl) (zref_r _ _) ?_
  obtain ⟨x77, hx, h⟩ := zob h
  refine z_getR (ci := 12) (T := TX12) (N := 50) (j := 10) B hS hx rfl zin_X12 (by decide) zk_1357 dX12_init_347 ?_
  refine lv_bipush (v := (19 : Int32)) he hb dX12_init_350 (by decide) ?_
  refine lv_ldc2 (v := (1936024942 : Int64)) he hb B.2.2.2.1 (B.2.2.2.2.1 _ zk_1335) dX12_init_352 ?_
  obtain ⟨f78, hx, h⟩ := zob h
  refine z_istL B hS hx dX12_init_355 (fun H locs hS => ?_)
  refine z_aload_n he hb dX12_init_356 rfl (lv_at hl 0 rfl) (zref_r _ _) ?_
  obtain ⟨x79, hx, h⟩ := zob h
  refine z_getR (ci := 12) (T := TX12) (N := 50) (j := 10) B hS hx rfl zin_X12 (by decide) zk_1357 dX12_init_357 ?_
  refine lv_bipush (v := (20 : Int32)) he hb dX12_init_360 (by decide) ?_
  refine lv_ldc2 (v := (495875089259 : Int64)) he hb B.2.2.2.1 (B.2.2.2.2.1 _ zk_1336) dX12_init_362 ?_
  obtain ⟨f80, hx, h⟩ := zob h
  refine z_istL B hS hx dX12_init_365 (fun H locs hS => ?_)
  refine z_aload_n he hb dX12_init_366 rfl (lv_at hl 0 rfl) (zref_r _ _) ?_
  obtain ⟨x81, hx, h⟩ := zob h
  refine z_getR (ci := 12) (T := TX12) (N := 50) (j := 10) B hS hx rfl zin_X12 (by decide) zk_1357 dX12_init_367 ?_
  refine lv_bipush (v := (21 : Int32)) he hb dX12_init_370 (by decide) ?_
  refine lv_ldc2 (v := (470021465444 : Int64)) he hb B.2.2.2.1 (B.2.2.2.2.1 _ zk_1337) dX12_init_372 ?_
  obtain ⟨f82, hx, h⟩ := zob h
  refine z_istL B hS hx dX12_init_375 (fun H locs hS => ?_)
  refine z_aload_n he hb dX12_init_376 rfl (lv_at hl 0 rfl) (zref_r _ _) ?_
  obtain ⟨x83, hx, h⟩ := zob h
  refine z_getR (ci := 12) (T := TX12) (N := 50) (j := 10) B hS hx rfl zin_X12 (by decide) zk_1357 dX12_init_377 ?_
  refine lv_bipush (v := (22 : Int32)) he hb dX12_init_380 (by decide) ?_
  refine lv_ldc2 (v := (28518 : Int64)) he hb B.2.2.2.1 (B.2.2.2.2.1 _ zk_1338) dX12_init_382 ?_
  obtain ⟨f84, hx, h⟩ := zob h
  refine z_istL B hS hx dX12_init_385 (fun H locs hS => ?_)
  refine z_aload_n he hb dX12_init_386 rfl (lv_at hl 0 rfl) (zref_r _ _) ?_
  obtain ⟨x85, hx, h⟩ := zob h
  refine z_getR (ci := 12) (T := TX12) (N := 50) (j := 10) B hS hx rfl zin_X12 (by decide) zk_1357 dX12_init_387 ?_
  refine lv_bipush (v := (23 : Int32)) he hb dX12_init_390 (by decide) ?_
  refine lv_ldc2 (v := (25209 : Int64)) he hb B.2.2.2.1 (B.2.2.2.2.1 _ zk_1339) dX12_init_392 ?_
  obtain ⟨f86, hx, h⟩ := zob h
  refine z_istL B hS hx dX12_init_395 (fun H locs hS => ?_)
  refine z_aload_n he hb dX12_init_396 rfl (lv_at hl 0 rfl) (zref_r _ _) ?_
  obtain ⟨x87, hx, h⟩ := zob h
  refine z_getR (ci := 12) (T := TX12) (N := 50) (j := 10) B hS hx rfl zin_X12 (by decide) zk_1357 dX12_init_397 ?_
  refine lv_bipush (v := (24 : Int32)) he hb dX12_init_400 (by decide) ?_
  refine lv_ldc2 (v := (1735356005 : Int64)) he hb B.2.2.2.1 (B.2.2.2.2.1 _ zk_1340) dX12_init_402 ?_
  obtain ⟨f88, hx, h⟩ := zob h
  refine z_istL B hS hx dX12_init_405 (fun H locs hS => ?_)
  refine z_aload_n he hb dX12_init_406 rfl (lv_at hl 0 rfl) (zref_r _ _) ?_
  obtain ⟨x89, hx, h⟩ := zob h
  refine z_getR (ci := 12) (T := TX12) (N := 50) (j := 10) B hS hx rfl zin_X12 (by decide) zk_1357 dX12_init_407 ?_
  refine lv_bipush (v := (25 : Int32)) he hb dX12_init_410 (by decide) ?_
  refine lv_ldc2 (v := (435778056825 : Int64)) he hb B.2.2.2.1 (B.2.2.2.2.1 _ zk_1341) dX12_init_412 ?_
  obtain ⟨f90, hx, h⟩ := zob h
  refine z_istL B hS hx dX12_init_415 (fun H locs hS => ?_)
  refine z_aload_n he hb dX12_init_416 rfl (lv_at hl 0 rfl) (zref_r _ _) ?_
  obtain ⟨x91, hx, h⟩ := zob h
  refine z_getR (ci := 12) (T := TX12) (N := 50) (j := 10) B hS hx rfl zin_X12 (by decide) zk_1357 dX12_init_417 ?_
  refine lv_bipush (v := (26 : Int32)) he hb dX12_init_420 (by decide) ?_
  refine lv_ldc2 (v := (121450625394034 : Int64)) he hb B.2.2.2.1 (B.2.2.2.2.1 _ zk_1342) dX12_init_422 ?_
  obtain ⟨f92, hx, h⟩ := zob h
  refine z_istL B hS hx dX12_init_425 (fun H locs hS => ?_)
  refine z_aload_n he hb dX12_init_426 rfl (lv_at hl 0 rfl) (zref_r _ _) ?_
  obtain ⟨_, hc, h⟩ := zob h
  obtain ⟨f93, hx, h⟩ := zob h
  refine zq_callV (ci := 12) (T := TX12) (N := 50) (rest := []) B hS (mX12_clears l G hx) zy_X12_clears zk_1343 ⟨by decide, by decide⟩ hc rfl rfl hl rfl (Nat.le_of_ble_eq_true rfl) dX12_init_427 (kk := (fun H locs hS => ?_)) (hcs := ⟨by decide, by decide⟩)
  refine lv_iconst (v := (0 : Int32)) he hb dX12_init_430 (by decide) ?_
  refine lv_istore_n (lv' := [(1, _), (0, _)]) he hb dX12_init_431 rfl hl (by decide) rfl (fun ls hl => ?_)
  exact gX12_init_432 l B hz0 N _ _ _ _ _ _ h hS (lv_sub hl [1, 0] rfl)
