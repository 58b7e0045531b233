/-! methods: what they do to the small heap, and that their bytecode does it -/
theorem dX11_feed_0 : decode cX11_feed 0 = .ok (.aload_n 0, 1) := by decide +kernel
theorem dX11_feed_1 : decode cX11_feed 1 = .ok (.getfield 10, 3) := by decide +kernel
theorem dX11_feed_4 : decode cX11_feed 4 = .ok (.getfield 102, 3) := by decide +kernel
theorem dX11_feed_7 : decode cX11_feed 7 = .ok (.sipush 920, 3) := by decide +kernel
theorem dX11_feed_10 : decode cX11_feed 10 = .ok (.if_icmp .le 5, 3) := by decide +kernel
theorem dX11_feed_13 : decode cX11_feed 13 = .ok (.iconst (-1), 1) := by decide +kernel
theorem dX11_feed_14 : decode cX11_feed 14 = .ok (.ireturn, 1) := by decide +kernel
theorem dX11_feed_15 : decode cX11_feed 15 = .ok (.aload_n 0, 1) := by decide +kernel
theorem dX11_feed_16 : decode cX11_feed 16 = .ok (.getfield 10, 3) := by decide +kernel
theorem dX11_feed_19 : decode cX11_feed 19 = .ok (.iload_n 1, 1) := by decide +kernel
theorem dX11_feed_20 : decode cX11_feed 20 = .ok (.invokevirtual 106, 3) := by decide +kernel
theorem dX11_feed_23 : decode cX11_feed 23 = .ok (.aload_n 0, 1) := by decide +kernel
theorem dX11_feed_24 : decode cX11_feed 24 = .ok (.getfield 10, 3) := by decide +kernel
theorem dX11_feed_27 : decode cX11_feed 27 = .ok (.iload_n 2, 1) := by decide +kernel
theorem dX11_feed_28 : decode cX11_feed 28 = .ok (.invokevirtual 106, 3) := by decide +kernel
theorem dX11_feed_31 : decode cX11_feed 31 = .ok (.aload_n 0, 1) := by decide +kernel
theorem dX11_feed_32 : decode cX11_feed 32 = .ok (.getfield 10, 3) := by decide +kernel
theorem dX11_feed_35 : decode cX11_feed 35 = .ok (.iload_n 3, 1) := by decide +kernel
theorem dX11_feed_36 : decode cX11_feed 36 = .ok (.invokevirtual 106, 3) := by decide +kernel
theorem dX11_feed_39 : decode cX11_feed 39 = .ok (.aload_n 0, 1) := by decide +kernel
theorem dX11_feed_40 : decode cX11_feed 40 = .ok (.getfield 10, 3) := by decide +kernel
theorem dX11_feed_43 : decode cX11_feed 43 = .ok (.iload 4, 2) := by decide +kernel
theorem dX11_feed_45 : decode cX11_feed 45 = .ok (.invokevirtual 106, 3) := by decide +kernel
theorem dX11_feed_48 : decode cX11_feed 48 = .ok (.aload_n 0, 1) := by decide +kernel
theorem dX11_feed_49 : decode cX11_feed 49 = .ok (.getfield 10, 3) := by decide +kernel
theorem dX11_feed_52 : decode cX11_feed 52 = .ok (.iload 5, 2) := by decide +kernel
theorem dX11_feed_54 : decode cX11_feed 54 = .ok (.invokevirtual 106, 3) := by decide +kernel
theorem dX11_feed_57 : decode cX11_feed 57 = .ok (.aload_n 0, 1) := by decide +kernel
theorem dX11_feed_58 : decode cX11_feed 58 = .ok (.getfield 10, 3) := by decide +kernel
theorem dX11_feed_61 : decode cX11_feed 61 = .ok (.getfield 102, 3) := by decide +kernel
theorem dX11_feed_64 : decode cX11_feed 64 = .ok (.ireturn, 1) := by decide +kernel
def fX11_feed (N n : Nat) (f : zF) (a0 : Nat) (a1 : Int32) (a2 : Int32) (a3 : Int32) (a4 : Int32) (a5 : Int32) : Option (zF × Int32) :=
    ((zgR n f 11 a0 0).bind fun x1 => ((zgI n f 9 x1 2).bind fun x2 => (if x2 ≤ (920 : Int32) then ((zgR n f 11 a0 0).bind fun x3 => ((zck n f 9 x3).bind fun _ => ((fX9_add N n f x3 a1).bind fun f4 => ((zgR n f4 11 a0 0).bind fun x5 => ((zck n f4 9 x5).bind fun _ => ((fX9_add N n f4 x5 a2).bind fun f6 => ((zgR n f6 11 a0 0).bind fun x7 => ((zck n f6 9 x7).bind fun _ => ((fX9_add N n f6 x7 a3).bind fun f8 => ((zgR n f8 11 a0 0).bind fun x9 => ((zck n f8 9 x9).bind fun _ => ((fX9_add N n f8 x9 a4).bind fun f10 => ((zgR n f10 11 a0 0).bind fun x11 => ((zck n f10 9 x11).bind fun _ => ((fX9_add N n f10 x11 a5).bind fun f12 => ((zgR n f12 11 a0 0).bind fun x13 => ((zgI n f12 9 x13 2).bind fun x14 => some (f12, x14)))))))))))))))))) else some (f, (-1 : Int32)))))
set_option maxRecDepth 100000 in
set_option maxHeartbeats 4000000 in
theorem mX11_feed (l : Launch) (G : zG) {N n : Nat} {f : zF} {f9 : zF} {r : Int32} {a0 : Nat} {a1 : Int32} {a2 : Int32} {a3 : Int32} {a4 : Int32} {a5 : Int32} (h : fX11_feed N n f a0 a1 a2 a3 a4 a5 = some (f9, r)) : zM l G yX11_feed cX11_feed 6 (some .int) 1 n f [zr G a0, .int a1, .int a2, .int a3, .int a4, .int a5] (some (.int r)) f9 := by
  refine zM.of (by decide) (Nat.le_of_ble_eq_true rfl) ?_
  intro p e s m args below meth c locs ls B hS hl
  have he := B.1
  have hb := B.2.1
  have hl : lv_has ls 6 [(0, zr G a0), (1, .int a1), (2, .int a2), (3, .int a3), (4, .int a4), (5, .int a5)] := hl
  unfold fX11_feed at h
  generalize s.heap = H at hS ⊢
  refine z_aload_n he hb dX11_feed_0 rfl (lv_at hl 0 rfl) (zref_r _ _) ?_
  obtain ⟨x1, hx, h⟩ := zob h
  refine z_getR (ci := 11) (T := TX11) (N := 14) (j := 0) B hS hx rfl zin_X11 (by decide) zk_508 dX11_feed_1 ?_
  obtain ⟨x2, hx, h⟩ := zob h
  refine z_getI (ci := 9) (T := TX9) (N := 12) (j := 2) B hS hx rfl zin_X9 (by decide) zk_95 dX11_feed_4 ?_
  refine lv_sipush (v := (920 : Int32)) he hb dX11_feed_7 (by decide) ?_
  refine lv_icmp_le (tgt := 15) he hb dX11_feed_10 (by decide) (fun hc => ?_) (fun hc => ?_)
  · rw [if_pos hc] at h
    refine z_aload_n he hb dX11_feed_15 rfl (lv_at hl 0 rfl) (zref_r _ _) ?_
    obtain ⟨x3, hx, h⟩ := zob h
    refine z_getR (ci := 11) (T := TX11) (N := 14) (j := 0) B hS hx rfl zin_X11 (by decide) zk_508 dX11_feed_16 ?_
    refine lv_iload_n he hb dX11_feed_19 rfl (lv_at hl 1 rfl) ?_
    obtain ⟨_, hc, h⟩ := zob h
    obtain ⟨f4, hx, h⟩ := zob h
    refine z_callV (ci := 9) (T := TX9) (N := 12) (rest := []) B hS (mX9_add l G hx) zy_X9_add zk_555 (by decide) hc rfl rfl hl rfl (Nat.le_of_ble_eq_true rfl) dX11_feed_20 (kk := (fun H locs hS => ?_))
    refine z_aload_n he hb dX11_feed_23 rfl (lv_at hl 0 rfl) (zref_r _ _) ?_
    obtain ⟨x5, hx, h⟩ := zob h
    refine z_getR (ci := 11) (T := TX11) (N := 14) (j := 0) B hS hx rfl zin_X11 (by decide) zk_508 dX11_feed_24 ?_
    refine lv_iload_n he hb dX11_feed_27 rfl (lv_at hl 2 rfl) ?_
    obtain ⟨_, hc, h⟩ := zob h
    obtain ⟨f6, hx, h⟩ := zob h
    refine z_callV (ci := 9) (T := TX9) (N := 12) (rest := []) B hS (mX9_add l G hx) zy_X9_add zk_555 (by decide) hc rfl rfl hl rfl (Nat.le_of_ble_eq_true rfl) dX11_feed_28 (kk := (fun H locs hS => ?_))
    refine z_aload_n he hb dX11_feed_31 rfl (lv_at hl 0 rfl) (zref_r _ _) ?_
    obtain ⟨x7, hx, h⟩ := zob h
    refine z_getR (ci := 11) (T := TX11) (N := 14) (j := 0) B hS hx rfl zin_X11 (by decide) zk_508 dX11_feed_32 ?_
    refine lv_iload_n he hb dX11_feed_35 rfl (lv_at hl 3 rfl) ?_
    obtain ⟨_, hc, h⟩ := zob h
    obtain ⟨f8, hx, h⟩ := zob h
    refine z_callV (ci := 9) (T := TX9) (N := 12) (rest := []) B hS (mX9_add l G hx) zy_X9_add zk_555 (by decide) hc rfl rfl hl rfl (Nat.le_of_ble_eq_true rfl) dX11_feed_36 (kk := (fun H locs hS => ?_))
    refine z_aload_n he hb dX11_feed_39 rfl (lv_at hl 0 rfl) (zref_r _ _) ?_
    obtain ⟨x9, hx, h⟩ := zob h
    refine z_getR (ci := 11) (T := TX11) (N := 14) (j := 0) B hS hx rfl zin_X11 (by decide) zk_508 dX11_feed_40 ?_
    refine lv_iload he hb dX11_feed_43 (lv_at hl 4 rfl) ?_
    obtain ⟨_, hc, h⟩ := zob h
    obtain ⟨f10, hx, h⟩ := zob h
    refine z_callV (ci := 9) (T := TX9) (N := 12) (rest := []) B hS (mX9_add l G hx) zy_X9_add zk_555 (by decide) hc rfl rfl hl rfl (Nat.le_of_ble_eq_true rfl) dX11_feed_45 (kk := (fun H locs hS => ?_))
    refine z_aload_n he hb dX11_feed_48 rfl (lv_at hl 0 rfl) (zref_r _ _) ?_
    obtain ⟨x11, hx, h⟩ := zob h
    refine z_getR (ci := 11) (T := TX11) (N := 14) (j := 0) B hS hx rfl zin_X11 (by decide) zk_508 dX11_feed_49 ?_
    refine lv_iload he hb dX11_feed_52 (lv_at hl 5 rfl) ?_
    obtain ⟨_, hc, h⟩ := zob h
    obtain ⟨f12, hx, h⟩ := zob h
    refine z_callV (ci := 9) (T := TX9) (N := 12) (rest := []) B hS (mX9_add l G hx) zy_X9_add zk_555 (by decide) hc rfl rfl hl rfl (Nat.le_of_ble_eq_true rfl) dX11_feed_54 (kk := (fun H locs hS => ?_))
    refine z_aload_n he hb dX11_feed_57 rfl (lv_at hl 0 rfl) (zref_r _ _) ?_
    obtain ⟨x13, hx, h⟩ := zob h
    refine z_getR (ci := 11) (T := TX11) (N := 14) (j := 0) B hS hx rfl zin_X11 (by decide) zk_508 dX11_feed_58 ?_
    obtain ⟨x14, hx, h⟩ := zob h
    refine z_getI (ci := 9) (T := TX9) (N := 12) (j := 2) B hS hx rfl zin_X9 (by decide) zk_95 dX11_feed_61 ?_
    obtain ⟨rfl, rfl⟩ := Prod.mk.inj (Option.some.inj h)
    exact z_iret B hS dX11_feed_64
  · rw [if_neg hc] at h
    refine lv_iconst (v := (-1 : Int32)) he hb dX11_feed_13 (by decide) ?_
    obtain ⟨rfl, rfl⟩ := Prod.mk.inj (Option.some.inj h)
    exact z_iret B hS dX11_feed_14
theorem dX11_end_0 : decode cX11_end 0 = .ok (.iload_n 1, 1) := by decide +kernel
theorem dX11_end_1 : decode cX11_end 1 = .ok (.ifCond .lt 14, 3) := by decide +kernel
theorem dX11_end_4 : decode cX11_end 4 = .ok (.iload_n 1, 1) := by decide +kernel
theorem dX11_end_5 : decode cX11_end 5 = .ok (.aload_n 0, 1) := by decide +kernel
theorem dX11_end_6 : decode cX11_end 6 = .ok (.getfield 10, 3) := by decide +kernel
theorem dX11_end_9 : decode cX11_end 9 = .ok (.getfield 102, 3) := by decide +kernel
theorem dX11_end_12 : decode cX11_end 12 = .ok (.if_icmp .le 5, 3) := by decide +kernel
theorem dX11_end_15 : decode cX11_end 15 = .ok (.iconst 0, 1) := by decide +kernel
theorem dX11_end_16 : decode cX11_end 16 = .ok (.ireturn, 1) := by decide +kernel
theorem dX11_end_17 : decode cX11_end 17 = .ok (.aload_n 0, 1) := by decide +kernel
theorem dX11_end_18 : decode cX11_end 18 = .ok (.getfield 10, 3) := by decide +kernel
theorem dX11_end_21 : decode cX11_end 21 = .ok (.iload_n 1, 1) := by decide +kernel
theorem dX11_end_22 : decode cX11_end 22 = .ok (.putfield 102, 3) := by decide +kernel
theorem dX11_end_25 : decode cX11_end 25 = .ok (.iconst 1, 1) := by decide +kernel
theorem dX11_end_26 : decode cX11_end 26 = .ok (.ireturn, 1) := by decide +kernel
def fX11_end (N n : Nat) (f : zF) (a0 : Nat) (a1 : Int32) : Option (zF × Int32) :=
    (if a1 < 0 then ((zbl (0 : Int32)).bind fun y => some (f, y)) else ((zgR n f 11 a0 0).bind fun x1 => ((zgI n f 9 x1 2).bind fun x2 => (if a1 ≤ x2 then ((zgR n f 11 a0 0).bind fun x3 => ((zpI n f 9 x3 2 a1).bind fun f4 => ((zbl (1 : Int32)).bind fun y => some (f4, y)))) else ((zbl (0 : Int32)).bind fun y => some (f, y))))))
set_option maxRecDepth 100000 in
set_option maxHeartbeats 4000000 in
theorem mX11_end (l : Launch) (G : zG) {N n : Nat} {f : zF} {f9 : zF} {r : Int32} {a0 : Nat} {a1 : Int32} (h : fX11_end N n f a0 a1 = some (f9, r)) : zM l G yX11_end cX11_end 2 (some .boolean) 0 n f [zr G a0, .int a1] (some (.int r)) f9 := by
  refine zM.of (by decide) (Nat.le_of_ble_eq_true rfl) ?_
  intro p e s m args below meth c locs ls B hS hl
  have he := B.1
  have hb := B.2.1
  have hl : lv_has ls 2 [(0, zr G a0), (1, .int a1)] := hl
  unfold fX11_end at h
  generalize s.heap = H at hS ⊢
  refine lv_iload_n he hb dX11_end_0 rfl (lv_at hl 1 rfl) ?_
  refine lv_if_lt (tgt := 15) he hb dX11_end_1 (by decide) (fun hc => ?_) (fun hc => ?_)
  · rw [if_pos hc] at h
    refine lv_iconst (v := (0 : Int32)) he hb dX11_end_15 (by decide) ?_
    obtain ⟨y, hx, h⟩ := zob h
    obtain ⟨hz, rfl⟩ := zbl_i hx
    obtain ⟨rfl, rfl⟩ := Prod.mk.inj (Option.some.inj h)
    exact z_zret B hS hz dX11_end_16
  · rw [if_neg hc] at h
    refine lv_iload_n he hb dX11_end_4 rfl (lv_at hl 1 rfl) ?_
    refine z_aload_n he hb dX11_end_5 rfl (lv_at hl 0 rfl) (zref_r _ _) ?_
    obtain ⟨x1, hx, h⟩ := zob h
    refine z_getR (ci := 11) (T := TX11) (N := 14) (j := 0) B hS hx rfl zin_X11 (by decide) zk_508 dX11_end_6 ?_
    obtain ⟨x2, hx, h⟩ := zob h
    refine z_getI (ci := 9) (T := TX9) (N := 12) (j := 2) B hS hx rfl zin_X9 (by decide) zk_95 dX11_end_9 ?_
    refine lv_icmp_le (tgt := 17) he hb dX11_end_12 (by decide) (fun hc => ?_) (fun hc => ?_)
    · rw [if_pos hc] at h
      refine z_aload_n he hb dX11_end_17 rfl (lv_at hl 0 rfl) (zref_r _ _) ?_
      obtain ⟨x3, hx, h⟩ := zob h
      refine z_getR (ci := 11) (T := TX11) (N := 14) (j := 0) B hS hx rfl zin_X11 (by decide) zk_508 dX11_end_18 ?_
      refine lv_iload_n he hb dX11_end_21 rfl (lv_at hl 1 rfl) ?_
      obtain ⟨f4, hx, h⟩ := zob h
      refine z_putI (ci := 9) (T := TX9) (N := 12) (j := 2) B hS hx rfl zin_X9 tyX9 tyX9_ok nmX9 (by decide) zk_95 rfl rfl dX11_end_22 (fun H locs hS => ?_)
      refine lv_iconst (v := (1 : Int32)) he hb dX11_end_25 (by decide) ?_
      obtain ⟨y, hx, h⟩ := zob h
      obtain ⟨hz, rfl⟩ := zbl_i hx
      obtain ⟨rfl, rfl⟩ := Prod.mk.inj (Option.some.inj h)
      exact z_zret B hS hz dX11_end_26
    · rw [if_neg hc] at h
      refine lv_iconst (v := (0 : Int32)) he hb dX11_end_15 (by decide) ?_
      obtain ⟨y, hx, h⟩ := zob h
      obtain ⟨hz, rfl⟩ := zbl_i hx
      obtain ⟨rfl, rfl⟩ := Prod.mk.inj (Option.some.inj h)
      exact z_zret B hS hz dX11_end_16
theorem dX11_field_0 : decode cX11_field 0 = .ok (.aload_n 0, 1) := by decide +kernel
theorem dX11_field_1 : decode cX11_field 1 = .ok (.getfield 47, 3) := by decide +kernel
theorem dX11_field_4 : decode cX11_field 4 = .ok (.invokevirtual 110, 3) := by decide +kernel
theorem dX11_field_7 : decode cX11_field 7 = .ok (.istore_n 1, 1) := by decide +kernel
theorem dX11_field_8 : decode cX11_field 8 = .ok (.aload_n 0, 1) := by decide +kernel
theorem dX11_field_9 : decode cX11_field 9 = .ok (.getfield 10, 3) := by decide +kernel
theorem dX11_field_12 : decode cX11_field 12 = .ok (.iconst 0, 1) := by decide +kernel
theorem dX11_field_13 : decode cX11_field 13 = .ok (.putfield 102, 3) := by decide +kernel
theorem dX11_field_16 : decode cX11_field 16 = .ok (.aload_n 0, 1) := by decide +kernel
theorem dX11_field_17 : decode cX11_field 17 = .ok (.getfield 94, 3) := by decide +kernel
theorem dX11_field_20 : decode cX11_field 20 = .ok (.aload_n 0, 1) := by decide +kernel
theorem dX11_field_21 : decode cX11_field 21 = .ok (.getfield 10, 3) := by decide +kernel
theorem dX11_field_24 : decode cX11_field 24 = .ok (.getfield 114, 3) := by decide +kernel
theorem dX11_field_27 : decode cX11_field 27 = .ok (.putfield 117, 3) := by decide +kernel
theorem dX11_field_30 : decode cX11_field 30 = .ok (.aload_n 0, 1) := by decide +kernel
theorem dX11_field_31 : decode cX11_field 31 = .ok (.getfield 10, 3) := by decide +kernel
theorem dX11_field_34 : decode cX11_field 34 = .ok (.getfield 114, 3) := by decide +kernel
theorem dX11_field_37 : decode cX11_field 37 = .ok (.ifCond .eq 13, 3) := by decide +kernel
theorem dX11_field_40 : decode cX11_field 40 = .ok (.iconst (-1), 1) := by decide +kernel
theorem dX11_field_41 : decode cX11_field 41 = .ok (.aload_n 0, 1) := by decide +kernel
theorem dX11_field_42 : decode cX11_field 42 = .ok (.getfield 10, 3) := by decide +kernel
theorem dX11_field_45 : decode cX11_field 45 = .ok (.getfield 118, 3) := by decide +kernel
theorem dX11_field_48 : decode cX11_field 48 = .ok (.isub, 1) := by decide +kernel
theorem dX11_field_49 : decode cX11_field 49 = .ok (.ireturn, 1) := by decide +kernel
theorem dX11_field_50 : decode cX11_field 50 = .ok (.aload_n 0, 1) := by decide +kernel
theorem dX11_field_51 : decode cX11_field 51 = .ok (.getfield 19, 3) := by decide +kernel
theorem dX11_field_54 : decode cX11_field 54 = .ok (.aload_n 0, 1) := by decide +kernel
theorem dX11_field_55 : decode cX11_field 55 = .ok (.getfield 47, 3) := by decide +kernel
theorem dX11_field_58 : decode cX11_field 58 = .ok (.getfield 121, 3) := by decide +kernel
theorem dX11_field_61 : decode cX11_field 61 = .ok (.invokevirtual 122, 3) := by decide +kernel
theorem dX11_field_64 : decode cX11_field 64 = .ok (.aload_n 0, 1) := by decide +kernel
theorem dX11_field_65 : decode cX11_field 65 = .ok (.getfield 28, 3) := by decide +kernel
theorem dX11_field_68 : decode cX11_field 68 = .ok (.aload_n 0, 1) := by decide +kernel
theorem dX11_field_69 : decode cX11_field 69 = .ok (.getfield 47, 3) := by decide +kernel
theorem dX11_field_72 : decode cX11_field 72 = .ok (.getfield 125, 3) := by decide +kernel
theorem dX11_field_75 : decode cX11_field 75 = .ok (.invokevirtual 126, 3) := by decide +kernel
theorem dX11_field_78 : decode cX11_field 78 = .ok (.aload_n 0, 1) := by decide +kernel
theorem dX11_field_79 : decode cX11_field 79 = .ok (.getfield 38, 3) := by decide +kernel
theorem dX11_field_82 : decode cX11_field 82 = .ok (.invokevirtual 129, 3) := by decide +kernel
theorem dX11_field_85 : decode cX11_field 85 = .ok (.aload_n 0, 1) := by decide +kernel
theorem dX11_field_86 : decode cX11_field 86 = .ok (.getfield 70, 3) := by decide +kernel
theorem dX11_field_89 : decode cX11_field 89 = .ok (.invokevirtual 132, 3) := by decide +kernel
theorem dX11_field_92 : decode cX11_field 92 = .ok (.iload_n 1, 1) := by decide +kernel
theorem dX11_field_93 : decode cX11_field 93 = .ok (.ireturn, 1) := by decide +kernel
def fX11_field (N n : Nat) (f : zF) (a0 : Nat) : Option (zF × Int32) :=
    ((zgR n f 11 a0 5).bind fun x1 => ((zck n f 3 x1).bind fun _ => (zbd (fX3_read N n f x1) fun f3 x2 => ((zgR n f3 11 a0 0).bind fun x4 => ((zpI n f3 9 x4 2 (0 : Int32)).bind fun f5 => ((zgR n f5 11 a0 12).bind fun x6 => ((zgR n f5 11 a0 0).bind fun x7 => ((zgI n f5 9 x7 10).bind fun x8 => ((zpI n f5 0 x6 0 x8).bind fun f9 => ((zgR n f9 11 a0 0).bind fun x10 => ((zgI n f9 9 x10 10).bind fun x11 => (if x11 = 0 then ((zgR n f9 11 a0 1).bind fun x12 => ((zgR n f9 11 a0 5).bind fun x13 => ((zgR n f9 3 x13 1).bind fun x14 => ((zck n f9 2 x12).bind fun _ => ((fX2_copyFrom N n f9 x12 x14).bind fun f15 => ((zgR n f15 11 a0 2).bind fun x16 => ((zgR n f15 11 a0 5).bind fun x17 => ((zgR n f15 3 x17 2).bind fun x18 => ((zck n f15 8 x16).bind fun _ => ((fX8_copyFrom N n f15 x16 x18).bind fun f19 => ((zgR n f19 11 a0 4).bind fun x20 => ((zck n f19 6 x20).bind fun _ => ((fX6_clear N n f19 x20).bind fun f21 => ((zgR n f21 11 a0 8).bind fun x22 => ((zck n f21 10 x22).bind fun _ => ((fX10_clear N n f21 x22).bind fun f23 => some (f23, x2))))))))))))))))) else ((zgR n f9 11 a0 0).bind fun x24 => ((zgI n f9 9 x24 11).bind fun x25 => some (f9, ((-1 : Int32) - x25))))))))))))))))
set_option maxRecDepth 100000 in
set_option maxHeartbeats 4000000 in
theorem mX11_field (l : Launch) (G : zG) {N n : Nat} {f : zF} {f9 : zF} {r : Int32} {a0 : Nat} (h : fX11_field N n f a0 = some (f9, r)) : zM l G yX11_field cX11_field 2 (some .int) 6 n f [zr G a0] (some (.int r)) f9 := by
  refine zM.of (by decide) (Nat.le_of_ble_eq_true rfl) ?_
  intro p e s m args below meth c locs ls B hS hl
  have he := B.1
  have hb := B.2.1
  have hl : lv_has ls 2 [(0, zr G a0)] := hl
  unfold fX11_field at h
  generalize s.heap = H at hS ⊢
  refine z_aload_n he hb dX11_field_0 rfl (lv_at hl 0 rfl) (zref_r _ _) ?_
  obtain ⟨x1, hx, h⟩ := zob h
  refine z_getR (ci := 11) (T := TX11) (N := 14) (j := 5) B hS hx rfl zin_X11 (by decide) zk_513 dX11_field_1 ?_
  obtain ⟨_, hc, h⟩ := zob h
  obtain ⟨f3, x2, hx, h⟩ := zbd_i h
  refine z_callV (ci := 3) (T := TX3) (N := 6) (rest := []) B hS (mX3_read l G hx) zy_X3_read zk_567 (by decide) hc rfl rfl hl rfl (Nat.le_of_ble_eq_true rfl) dX11_field_4 (kk := (fun H locs hS => ?_))
  refine lv_istore_n (lv' := [(1, _), (0, _)]) he hb dX11_field_7 rfl hl (by decide) rfl (fun ls hl => ?_)
  refine z_aload_n he hb dX11_field_8 rfl (lv_at hl 1 rfl) (zref_r _ _) ?_
  obtain ⟨x4, hx, h⟩ := zob h
  refine z_getR (ci := 11) (T := TX11) (N := 14) (j := 0) B hS hx rfl zin_X11 (by decide) zk_508 dX11_field_9 ?_
  refine lv_iconst (v := (0 : Int32)) he hb dX11_field_12 (by decide) ?_
  obtain ⟨f5, hx, h⟩ := zob h
  refine z_putI (ci := 9) (T := TX9) (N := 12) (j := 2) B hS hx rfl zin_X9 tyX9 tyX9_ok nmX9 (by decide) zk_95 rfl rfl dX11_field_13 (fun H locs hS => ?_)
  refine z_aload_n he hb dX11_field_16 rfl (lv_at hl 1 rfl) (zref_r _ _) ?_
  obtain ⟨x6, hx, h⟩ := zob h
  refine z_getR (ci := 11) (T := TX11) (N := 14) (j := 12) B hS hx rfl zin_X11 (by decide) zk_520 dX11_field_17 ?_
  refine z_aload_n he hb dX11_field_20 rfl (lv_at hl 1 rfl) (zref_r _ _) ?_
  obtain ⟨x7, hx, h⟩ := zob h
  refine z_getR (ci := 11) (T := TX11) (N := 14) (j := 0) B hS hx rfl zin_X11 (by decide) zk_508 dX11_field_21 ?_
  obtain ⟨x8, hx, h⟩ := zob h
  refine z_getI (ci := 9) (T := TX9) (N := 12) (j := 10) B hS hx rfl zin_X9 (by decide) zk_114 dX11_field_24 ?_
  obtain ⟨f9, hx, h⟩ := zob h
  refine z_putI (ci := 0) (T := TX0) (N := 9) (j := 0) B hS hx rfl zin_X0 tyX0 tyX0_ok nmX0 (by decide) zk_473 rfl rfl dX11_field_27 (fun H locs hS => ?_)
  refine z_aload_n he hb dX11_field_30 rfl (lv_at hl 1 rfl) (zref_r _ _) ?_
  obtain ⟨x10, hx, h⟩ := zob h
  refine z_getR (ci := 11) (T := TX11) (N := 14) (j := 0) B hS hx rfl zin_X11 (by decide) zk_508 dX11_field_31 ?_
  obtain ⟨x11, hx, h⟩ := zob h
  refine z_getI (ci := 9) (T := TX9) (N := 12) (j := 10) B hS hx rfl zin_X9 (by decide) zk_114 dX11_field_34 ?_
  refine lv_if_eq (tgt := 50) he hb dX11_field_37 (by decide) (fun hc => ?_) (fun hc => ?_)
  · rw [if_pos hc] at h
    refine z_aload_n he hb dX11_field_50 rfl (lv_at hl 1 rfl) (zref_r _ _) ?_
    obtain ⟨x12, hx, h⟩ := zob h
    refine z_getR (ci := 11) (T := TX11) (N := 14) (j := 1) B hS hx rfl zin_X11 (by decide) zk_509 dX11_field_51 ?_
    refine z_aload_n he hb dX11_field_54 rfl (lv_at hl 1 rfl) (zref_r _ _) ?_
    obtain ⟨x13, hx, h⟩ := zob h
    refine z_getR (ci := 11) (T := TX11) (N := 14) (j := 5) B hS hx rfl zin_X11 (by decide) zk_513 dX11_field_55 ?_
    obtain ⟨x14, hx, h⟩ := zob h
    refine z_getR (ci := 3) (T := TX3) (N := 6) (j := 1) B hS hx rfl zin_X3 (by decide) zk_325 dX11_field_58 ?_
    obtain ⟨_, hc, h⟩ := zob h
    obtain ⟨f15, hx, h⟩ := zob h
    refine z_callV (ci := 2) (T := TX2) (N := 15) (rest := []) B hS (mX2_copyFrom l G hx) zy_X2_copyFrom zk_716 (by decide) hc rfl rfl hl rfl (Nat.le_of_ble_eq_true rfl) dX11_field_61 (kk := (fun H locs hS => ?_))
    refine z_aload_n he hb dX11_field_64 rfl (lv_at hl 1 rfl) (zref_r _ _) ?_
    obtain ⟨x16, hx, h⟩ := zob h
    refine z_getR (ci := 11) (T := TX11) (N := 14) (j := 2) B hS hx rfl zin_X11 (by decide) zk_510 dX11_field_65 ?_
    refine z_aload_n he hb dX11_field_68 rfl (lv_at hl 1 rfl) (zref_r _ _) ?_
    obtain ⟨x17, hx, h⟩ := zob h
    refine z_getR (ci := 11) (T := TX11) (N := 14) (j := 5) B hS hx rfl zin_X11 (by decide) zk_513 dX11_field_69 ?_
    obtain ⟨x18, hx, h⟩ := zob h
    refine z_getR (ci := 3) (T := TX3) (N := 6) (j := 2) B hS hx rfl zin_X3 (by decide) zk_327 dX11_field_72 ?_
    obtain ⟨_, hc, h⟩ := zob h
    obtain ⟨f19, hx, h⟩ := zob h
    refine z_callV (ci := 8) (T := TX8) (N := 9) (rest := []) B hS (mX8_copyFrom l G hx) zy_X8_copyFrom zk_730 (by decide) hc rfl rfl hl rfl (Nat.le_of_ble_eq_true rfl) dX11_field_75 (kk := (fun H locs hS => ?_))
    refine z_aload_n he hb dX11_field_78 rfl (lv_at hl 1 rfl) (zref_r _ _) ?_
    obtain ⟨x20, hx, h⟩ := zob h
    refine z_getR (ci := 11) (T := TX11) (N := 14) (j := 4) B hS hx rfl zin_X11 (by decide) zk_512 dX11_field_79 ?_
    obtain ⟨_, hc, h⟩ := zob h
    obtain ⟨f21, hx, h⟩ := zob h
    refine z_callV (ci := 6) (T := TX6) (N := 4) (rest := []) B hS (mX6_clear l G hx) zy_X6_clear zk_735 (by decide) hc rfl rfl hl rfl (Nat.le_of_ble_eq_true rfl) dX11_field_82 (kk := (fun H locs hS => ?_))
    refine z_aload_n he hb dX11_field_85 rfl (lv_at hl 1 rfl) (zref_r _ _) ?_
    obtain ⟨x22, hx, h⟩ := zob h
    refine z_getR (ci := 11) (T := TX11) (N := 14) (j := 8) B hS hx rfl zin_X11 (by decide) zk_516 dX11_field_86 ?_
    obtain ⟨_, hc, h⟩ := zob h
    obtain ⟨f23, hx, h⟩ := zob h
    refine z_callV (ci := 10) (T := TX10) (N := 3) (rest := []) B hS (mX10_clear l G hx) zy_X10_clear zk_739 (by decide) hc rfl rfl hl rfl (Nat.le_of_ble_eq_true rfl) dX11_field_89 (kk := (fun H locs hS => ?_))
    refine lv_iload_n he hb dX11_field_92 rfl (lv_at hl 0 rfl) ?_
    obtain ⟨rfl, rfl⟩ := Prod.mk.inj (Option.some.inj h)
    exact z_iret B hS dX11_field_93
  · rw [if_neg hc] at h
    refine lv_iconst (v := (-1 : Int32)) he hb dX11_field_40 (by decide) ?_
    refine z_aload_n he hb dX11_field_41 rfl (lv_at hl 1 rfl) (zref_r _ _) ?_
    obtain ⟨x24, hx, h⟩ := zob h
    refine z_getR (ci := 11) (T := TX11) (N := 14) (j := 0) B hS hx rfl zin_X11 (by decide) zk_508 dX11_field_42 ?_
    obtain ⟨x25, hx, h⟩ := zob h
    refine z_getI (ci := 9) (T := TX9) (N := 12) (j := 11) B hS hx rfl zin_X9 (by decide) zk_116 dX11_field_45 ?_
    refine lv_isub he hb dX11_field_48 ?_
    obtain ⟨rfl, rfl⟩ := Prod.mk.inj (Option.some.inj h)
    exact z_iret B hS dX11_field_49
theorem dX11_fault_0 : decode cX11_fault 0 = .ok (.aload_n 0, 1) := by decide +kernel
theorem dX11_fault_1 : decode cX11_fault 1 = .ok (.getfield 94, 3) := by decide +kernel
theorem dX11_fault_4 : decode cX11_fault 4 = .ok (.getfield 117, 3) := by decide +kernel
theorem dX11_fault_7 : decode cX11_fault 7 = .ok (.ireturn, 1) := by decide +kernel
def fX11_fault (N n : Nat) (f : zF) (a0 : Nat) : Option Int32 :=
    ((zgR n f 11 a0 12).bind fun x1 => ((zgI n f 0 x1 0).bind fun x2 => some x2))
set_option maxRecDepth 100000 in
set_option maxHeartbeats 4000000 in
theorem mX11_fault (l : Launch) (G : zG) {N n : Nat} {f : zF} {r : Int32} {a0 : Nat} (h : fX11_fault N n f a0 = some r) : zM l G yX11_fault cX11_fault 1 (some .int) 0 n f [zr G a0] (some (.int r)) f := by
  refine zM.of (by decide) (Nat.le_of_ble_eq_true rfl) ?_
  intro p e s m args below meth c locs ls B hS hl
  have he := B.1
  have hb := B.2.1
  have hl : lv_has ls 1 [(0, zr G a0)] := hl
  unfold fX11_fault at h
  generalize s.heap = H at hS ⊢
  refine z_aload_n he hb dX11_fault_0 rfl (lv_at hl 0 rfl) (zref_r _ _) ?_
  obtain ⟨x1, hx, h⟩ := zob h
  refine z_getR (ci := 11) (T := TX11) (N := 14) (j := 12) B hS hx rfl zin_X11 (by decide) zk_520 dX11_fault_1 ?_
  obtain ⟨x2, hx, h⟩ := zob h
  refine z_getI (ci := 0) (T := TX0) (N := 9) (j := 0) B hS hx rfl zin_X0 (by decide) zk_473 dX11_fault_4 ?_
  obtain rfl := Option.some.inj h
  exact z_iret B hS dX11_fault_7
theorem dX11_looker_0 : decode cX11_looker 0 = .ok (.aload_n 0, 1) := by decide +kernel
theorem dX11_looker_1 : decode cX11_looker 1 = .ok (.getfield 19, 3) := by decide +kernel
theorem dX11_looker_4 : decode cX11_looker 4 = .ok (.iload_n 1, 1) := by decide +kernel
theorem dX11_looker_5 : decode cX11_looker 5 = .ok (.invokevirtual 170, 3) := by decide +kernel
theorem dX11_looker_8 : decode cX11_looker 8 = .ok (.ifCond .ne 5, 3) := by decide +kernel
theorem dX11_looker_11 : decode cX11_looker 11 = .ok (.iconst (-1), 1) := by decide +kernel
theorem dX11_looker_12 : decode cX11_looker 12 = .ok (.ireturn, 1) := by decide +kernel
theorem dX11_looker_13 : decode cX11_looker 13 = .ok (.iload_n 2, 1) := by decide +kernel
theorem dX11_looker_14 : decode cX11_looker 14 = .ok (.tableswitch 144 0 5 #[38, 53, 68, 80, 92, 109], 38) := by decide +kernel
theorem dX11_looker_52 : decode cX11_looker 52 = .ok (.aload_n 0, 1) := by decide +kernel
theorem dX11_looker_53 : decode cX11_looker 53 = .ok (.getfield 28, 3) := by decide +kernel
theorem dX11_looker_56 : decode cX11_looker 56 = .ok (.getfield 173, 3) := by decide +kernel
theorem dX11_looker_59 : decode cX11_looker 59 = .ok (.iload_n 1, 1) := by decide +kernel
theorem dX11_looker_60 : decode cX11_looker 60 = .ok (.invokestatic 147, 3) := by decide +kernel
theorem dX11_looker_63 : decode cX11_looker 63 = .ok (.bipush 9, 2) := by decide +kernel
theorem dX11_looker_65 : decode cX11_looker 65 = .ok (.irem, 1) := by decide +kernel
theorem dX11_looker_66 : decode cX11_looker 66 = .ok (.ireturn, 1) := by decide +kernel
theorem dX11_looker_67 : decode cX11_looker 67 = .ok (.aload_n 0, 1) := by decide +kernel
theorem dX11_looker_68 : decode cX11_looker 68 = .ok (.getfield 28, 3) := by decide +kernel
theorem dX11_looker_71 : decode cX11_looker 71 = .ok (.getfield 173, 3) := by decide +kernel
theorem dX11_looker_74 : decode cX11_looker 74 = .ok (.iload_n 1, 1) := by decide +kernel
theorem dX11_looker_75 : decode cX11_looker 75 = .ok (.invokestatic 147, 3) := by decide +kernel
theorem dX11_looker_78 : decode cX11_looker 78 = .ok (.bipush 9, 2) := by decide +kernel
theorem dX11_looker_80 : decode cX11_looker 80 = .ok (.idiv, 1) := by decide +kernel
theorem dX11_looker_81 : decode cX11_looker 81 = .ok (.ireturn, 1) := by decide +kernel
theorem dX11_looker_82 : decode cX11_looker 82 = .ok (.aload_n 0, 1) := by decide +kernel
theorem dX11_looker_83 : decode cX11_looker 83 = .ok (.getfield 28, 3) := by decide +kernel
theorem dX11_looker_86 : decode cX11_looker 86 = .ok (.getfield 176, 3) := by decide +kernel
theorem dX11_looker_89 : decode cX11_looker 89 = .ok (.iload_n 1, 1) := by decide +kernel
theorem dX11_looker_90 : decode cX11_looker 90 = .ok (.invokestatic 147, 3) := by decide +kernel
theorem dX11_looker_93 : decode cX11_looker 93 = .ok (.ireturn, 1) := by decide +kernel
theorem dX11_looker_94 : decode cX11_looker 94 = .ok (.aload_n 0, 1) := by decide +kernel
theorem dX11_looker_95 : decode cX11_looker 95 = .ok (.getfield 28, 3) := by decide +kernel
theorem dX11_looker_98 : decode cX11_looker 98 = .ok (.getfield 179, 3) := by decide +kernel
theorem dX11_looker_101 : decode cX11_looker 101 = .ok (.iload_n 1, 1) := by decide +kernel
theorem dX11_looker_102 : decode cX11_looker 102 = .ok (.invokestatic 147, 3) := by decide +kernel
theorem dX11_looker_105 : decode cX11_looker 105 = .ok (.ireturn, 1) := by decide +kernel
theorem dX11_looker_106 : decode cX11_looker 106 = .ok (.aload_n 0, 1) := by decide +kernel
theorem dX11_looker_107 : decode cX11_looker 107 = .ok (.getfield 28, 3) := by decide +kernel
theorem dX11_looker_110 : decode cX11_looker 110 = .ok (.iload_n 1, 1) := by decide +kernel
theorem dX11_looker_111 : decode cX11_looker 111 = .ok (.invokevirtual 182, 3) := by decide +kernel
theorem dX11_looker_114 : decode cX11_looker 114 = .ok (.ifCond .eq 7, 3) := by decide +kernel
theorem dX11_looker_117 : decode cX11_looker 117 = .ok (.iconst 1, 1) := by decide +kernel
theorem dX11_looker_118 : decode cX11_looker 118 = .ok (.goto 4, 3) := by decide +kernel
theorem dX11_looker_121 : decode cX11_looker 121 = .ok (.iconst 0, 1) := by decide +kernel
theorem dX11_looker_122 : decode cX11_looker 122 = .ok (.ireturn, 1) := by decide +kernel
theorem dX11_looker_123 : decode cX11_looker 123 = .ok (.aload_n 0, 1) := by decide +kernel
theorem dX11_looker_124 : decode cX11_looker 124 = .ok (.getfield 28, 3) := by decide +kernel
theorem dX11_looker_127 : decode cX11_looker 127 = .ok (.iload_n 1, 1) := by decide +kernel
theorem dX11_looker_128 : decode cX11_looker 128 = .ok (.invokevirtual 182, 3) := by decide +kernel
theorem dX11_looker_131 : decode cX11_looker 131 = .ok (.ifCond .eq 25, 3) := by decide +kernel
theorem dX11_looker_134 : decode cX11_looker 134 = .ok (.aload_n 0, 1) := by decide +kernel
theorem dX11_looker_135 : decode cX11_looker 135 = .ok (.getfield 28, 3) := by decide +kernel
theorem dX11_looker_138 : decode cX11_looker 138 = .ok (.iload_n 1, 1) := by decide +kernel
theorem dX11_looker_139 : decode cX11_looker 139 = .ok (.aload_n 0, 1) := by decide +kernel
theorem dX11_looker_140 : decode cX11_looker 140 = .ok (.getfield 28, 3) := by decide +kernel
theorem dX11_looker_143 : decode cX11_looker 143 = .ok (.getfield 176, 3) := by decide +kernel
theorem dX11_looker_146 : decode cX11_looker 146 = .ok (.iload_n 1, 1) := by decide +kernel
theorem dX11_looker_147 : decode cX11_looker 147 = .ok (.invokestatic 147, 3) := by decide +kernel
theorem dX11_looker_150 : decode cX11_looker 150 = .ok (.invokevirtual 185, 3) := by decide +kernel
theorem dX11_looker_153 : decode cX11_looker 153 = .ok (.goto 4, 3) := by decide +kernel
theorem dX11_looker_156 : decode cX11_looker 156 = .ok (.iconst 0, 1) := by decide +kernel
theorem dX11_looker_157 : decode cX11_looker 157 = .ok (.ireturn, 1) := by decide +kernel
theorem dX11_looker_158 : decode cX11_looker 158 = .ok (.iconst (-1), 1) := by decide +kernel
theorem dX11_looker_159 : decode cX11_looker 159 = .ok (.ireturn, 1) := by decide +kernel
def fX11_looker (N n : Nat) (f : zF) (a0 : Nat) (a1 : Int32) (a2 : Int32) : Option Int32 :=
    ((zgR n f 11 a0 1).bind fun x1 => ((zck n f 2 x1).bind fun _ => ((fX2_hasLooker N n f x1 a1).bind fun x2 => (if x2 = 0 then some (-1 : Int32) else (if a2 = (0 : Int32) then ((zgR n f 11 a0 2).bind fun x3 => ((zgR n f 8 x3 5).bind fun x4 => ((fX11_at N n f x4 a1).bind fun x5 => some (zrem x5 (9 : Int32))))) else (if a2 = (1 : Int32) then ((zgR n f 11 a0 2).bind fun x6 => ((zgR n f 8 x6 5).bind fun x7 => ((fX11_at N n f x7 a1).bind fun x8 => some (x8 / (9 : Int32))))) else (if a2 = (2 : Int32) then ((zgR n f 11 a0 2).bind fun x9 => ((zgR n f 8 x9 6).bind fun x10 => ((fX11_at N n f x10 a1).bind fun x11 => some x11))) else (if a2 = (3 : Int32) then ((zgR n f 11 a0 2).bind fun x12 => ((zgR n f 8 x12 7).bind fun x13 => ((fX11_at N n f x13 a1).bind fun x14 => some x14))) else (if a2 = (4 : Int32) then ((zgR n f 11 a0 2).bind fun x15 => ((zck n f 8 x15).bind fun _ => ((fX8_looks N n f x15 a1).bind fun x16 => (if x16 = 0 then some (0 : Int32) else some (1 : Int32))))) else (if a2 = (5 : Int32) then ((zgR n f 11 a0 2).bind fun x17 => ((zck n f 8 x17).bind fun _ => ((fX8_looks N n f x17 a1).bind fun x18 => (if x18 = 0 then some (0 : Int32) else ((zgR n f 11 a0 2).bind fun x19 => ((zgR n f 11 a0 2).bind fun x20 => ((zgR n f 8 x20 6).bind fun x21 => ((fX11_at N n f x21 a1).bind fun x22 => ((zck n f 8 x19).bind fun _ => ((fX8_sight N n f x19 a1 x22).bind fun x23 => some x23)))))))))) else some (-1 : Int32)))))))))))
set_option maxRecDepth 100000 in
set_option maxHeartbeats 4000000 in
theorem mX11_looker (l : Launch) (G : zG) {N n : Nat} {f : zF} {r : Int32} {a0 : Nat} {a1 : Int32} {a2 : Int32} (h : fX11_looker N n f a0 a1 a2 = some r) : zM l G yX11_looker cX11_looker 3 (some .int) 3 n f [zr G a0, .int a1, .int a2] (some (.int r)) f := by
  refine zM.of (by decide) (Nat.le_of_ble_eq_true rfl) ?_
  intro p e s m args below meth c locs ls B hS hl
  have he := B.1
  have hb := B.2.1
  have hl : lv_has ls 3 [(0, zr G a0), (1, .int a1), (2, .int a2)] := hl
  unfold fX11_looker at h
  generalize s.heap = H at hS ⊢
  refine z_aload_n he hb dX11_looker_0 rfl (lv_at hl 0 rfl) (zref_r _ _) ?_
  obtain ⟨x1, hx, h⟩ := zob h
  refine z_getR (ci := 11) (T := TX11) (N := 14) (j := 1) B hS hx rfl zin_X11 (by decide) zk_509 dX11_looker_1 ?_
  refine lv_iload_n he hb dX11_looker_4 rfl (lv_at hl 1 rfl) ?_
  obtain ⟨_, hc, h⟩ := zob h
  obtain ⟨x2, hx, h⟩ := zob h
  refine z_callV (ci := 2) (T := TX2) (N := 15) (rest := []) B hS (mX2_hasLooker l G hx) zy_X2_hasLooker zk_751 (by decide) hc rfl rfl hl rfl (Nat.le_of_ble_eq_true rfl) dX11_looker_5 (kk := (fun H locs hS => ?_))
  refine lv_if_ne (tgt := 13) he hb dX11_looker_8 (by decide) (fun hc => ?_) (fun hc => ?_)
  · rw [if_neg hc] at h
    refine lv_iload_n he hb dX11_looker_13 rfl (lv_at hl 2 rfl) ?_
    by_cases hc0 : a2 = (0 : Int32)
    · rw [if_pos hc0] at h
      refine lv_tableIn (tgt := 52) he hb dX11_looker_14 (by rw [hc0]; decide) (by rw [hc0]; decide) (by rw [hc0]; rfl) (by decide) ?_
      refine z_aload_n he hb dX11_looker_52 rfl (lv_at hl 0 rfl) (zref_r _ _) ?_
      obtain ⟨x3, hx, h⟩ := zob h
      refine z_getR (ci := 11) (T := TX11) (N := 14) (j := 2) B hS hx rfl zin_X11 (by decide) zk_510 dX11_looker_53 ?_
      obtain ⟨x4, hx, h⟩ := zob h
      refine z_getR (ci := 8) (T := TX8) (N := 9) (j := 5) B hS hx rfl zin_X8 (by decide) zk_265 dX11_looker_56 ?_
      refine lv_iload_n he hb dX11_looker_59 rfl (lv_at hl 1 rfl) ?_
      obtain ⟨x5, hx, h⟩ := zob h
      refine z_callS (rest := []) B hS (mX11_at l G hx) zy_X11_at zk_755 (by decide) rfl hl rfl (Nat.le_of_ble_eq_true rfl) dX11_looker_60 (kk := (fun H locs hS => ?_))
      refine lv_bipush (v := (9 : Int32)) he hb dX11_looker_63 (by decide) ?_
      refine z_irem he hb dX11_looker_65 (by decide) ?_
      obtain rfl := Option.some.inj h
      exact z_iret B hS dX11_looker_66
    rw [if_neg hc0] at h
    by_cases hc1 : a2 = (1 : Int32)
    · rw [if_pos hc1] at h
      refine lv_tableIn (tgt := 67) he hb dX11_looker_14 (by rw [hc1]; decide) (by rw [hc1]; decide) (by rw [hc1]; rfl) (by decide) ?_
      refine z_aload_n he hb dX11_looker_67 rfl (lv_at hl 0 rfl) (zref_r _ _) ?_
      obtain ⟨x6, hx, h⟩ := zob h
      refine z_getR (ci := 11) (T := TX11) (N := 14) (j := 2) B hS hx rfl zin_X11 (by decide) zk_510 dX11_looker_68 ?_
      obtain ⟨x7, hx, h⟩ := zob h
      refine z_getR (ci := 8) (T := TX8) (N := 9) (j := 5) B hS hx rfl zin_X8 (by decide) zk_265 dX11_looker_71 ?_
      refine lv_iload_n he hb dX11_looker_74 rfl (lv_at hl 1 rfl) ?_
      obtain ⟨x8, hx, h⟩ := zob h
      refine z_callS (rest := []) B hS (mX11_at l G hx) zy_X11_at zk_755 (by decide) rfl hl rfl (Nat.le_of_ble_eq_true rfl) dX11_looker_75 (kk := (fun H locs hS => ?_))
      refine lv_bipush (v := (9 : Int32)) he hb dX11_looker_78 (by decide) ?_
      refine lv_idiv he hb dX11_looker_80 (by decide) ?_
      obtain rfl := Option.some.inj h
      exact z_iret B hS dX11_looker_81
    rw [if_neg hc1] at h
    by_cases hc2 : a2 = (2 : Int32)
    · rw [if_pos hc2] at h
      refine lv_tableIn (tgt := 82) he hb dX11_looker_14 (by rw [hc2]; decide) (by rw [hc2]; decide) (by rw [hc2]; rfl) (by decide) ?_
      refine z_aload_n he hb dX11_looker_82 rfl (lv_at hl 0 rfl) (zref_r _ _) ?_
      obtain ⟨x9, hx, h⟩ := zob h
      refine z_getR (ci := 11) (T := TX11) (N := 14) (j := 2) B hS hx rfl zin_X11 (by decide) zk_510 dX11_looker_83 ?_
      obtain ⟨x10, hx, h⟩ := zob h
      refine z_getR (ci := 8) (T := TX8) (N := 9) (j := 6) B hS hx rfl zin_X8 (by decide) zk_268 dX11_looker_86 ?_
      refine lv_iload_n he hb dX11_looker_89 rfl (lv_at hl 1 rfl) ?_
      obtain ⟨x11, hx, h⟩ := zob h
      refine z_callS (rest := []) B hS (mX11_at l G hx) zy_X11_at zk_755 (by decide) rfl hl rfl (Nat.le_of_ble_eq_true rfl) dX11_looker_90 (kk := (fun H locs hS => ?_))
      obtain rfl := Option.some.inj h
      exact z_iret B hS dX11_looker_93
    rw [if_neg hc2] at h
    by_cases hc3 : a2 = (3 : Int32)
    · rw [if_pos hc3] at h
      refine lv_tableIn (tgt := 94) he hb dX11_looker_14 (by rw [hc3]; decide) (by rw [hc3]; decide) (by rw [hc3]; rfl) (by decide) ?_
      refine z_aload_n he hb dX11_looker_94 rfl (lv_at hl 0 rfl) (zref_r _ _) ?_
      obtain ⟨x12, hx, h⟩ := zob h
      refine z_getR (ci := 11) (T := TX11) (N := 14) (j := 2) B hS hx rfl zin_X11 (by decide) zk_510 dX11_looker_95 ?_
      obtain ⟨x13, hx, h⟩ := zob h
      refine z_getR (ci := 8) (T := TX8) (N := 9) (j := 7) B hS hx rfl zin_X8 (by decide) zk_271 dX11_looker_98 ?_
      refine lv_iload_n he hb dX11_looker_101 rfl (lv_at hl 1 rfl) ?_
      obtain ⟨x14, hx, h⟩ := zob h
      refine z_callS (rest := []) B hS (mX11_at l G hx) zy_X11_at zk_755 (by decide) rfl hl rfl (Nat.le_of_ble_eq_true rfl) dX11_looker_102 (kk := (fun H locs hS => ?_))
      obtain rfl := Option.some.inj h
      exact z_iret B hS dX11_looker_105
    rw [if_neg hc3] at h
    by_cases hc4 : a2 = (4 : Int32)
    · rw [if_pos hc4] at h
      refine lv_tableIn (tgt := 106) he hb dX11_looker_14 (by rw [hc4]; decide) (by rw [hc4]; decide) (by rw [hc4]; rfl) (by decide) ?_
      refine z_aload_n he hb dX11_looker_106 rfl (lv_at hl 0 rfl) (zref_r _ _) ?_
      obtain ⟨x15, hx, h⟩ := zob h
      refine z_getR (ci := 11) (T := TX11) (N := 14) (j := 2) B hS hx rfl zin_X11 (by decide) zk_510 dX11_looker_107 ?_
      refine lv_iload_n he hb dX11_looker_110 rfl (lv_at hl 1 rfl) ?_
      obtain ⟨_, hc, h⟩ := zob h
      obtain ⟨x16, hx, h⟩ := zob h
      refine z_callV (ci := 8) (T := TX8) (N := 9) (rest := []) B hS (mX8_looks l G hx) zy_X8_looks zk_756 (by decide) hc rfl rfl hl rfl (Nat.le_of_ble_eq_true rfl) dX11_looker_111 (kk := (fun H locs hS => ?_))
      refine lv_if_eq (tgt := 121) he hb dX11_looker_114 (by decide) (fun hc => ?_) (fun hc => ?_)
      · rw [if_pos hc] at h
        refine lv_iconst (v := (0 : Int32)) he hb dX11_looker_121 (by decide) ?_
        obtain rfl := Option.some.inj h
        exact z_iret B hS dX11_looker_122
      · rw [if_neg hc] at h
        refine lv_iconst (v := (1 : Int32)) he hb dX11_looker_117 (by decide) ?_
        refine lv_goto (tgt := 122) he hb dX11_looker_118 (by decide) ?_
        obtain rfl := Option.some.inj h
        exact z_iret B hS dX11_looker_122
    rw [if_neg hc4] at h
    by_cases hc5 : a2 = (5 : Int32)
    · rw [if_pos hc5] at h
      refine lv_tableIn (tgt := 123) he hb dX11_looker_14 (by rw [hc5]; decide) (by rw [hc5]; decide) (by rw [hc5]; rfl) (by decide) ?_
      refine z_aload_n he hb dX11_looker_123 rfl (lv_at hl 0 rfl) (zref_r _ _) ?_
      obtain ⟨x17, hx, h⟩ := zob h
      refine z_getR (ci := 11) (T := TX11) (N := 14) (j := 2) B hS hx rfl zin_X11 (by decide) zk_510 dX11_looker_124 ?_
      refine lv_iload_n he hb dX11_looker_127 rfl (lv_at hl 1 rfl) ?_
      obtain ⟨_, hc, h⟩ := zob h
      obtain ⟨x18, hx, h⟩ := zob h
      refine z_callV (ci := 8) (T := TX8) (N := 9) (rest := []) B hS (mX8_looks l G hx) zy_X8_looks zk_756 (by decide) hc rfl rfl hl rfl (Nat.le_of_ble_eq_true rfl) dX11_looker_128 (kk := (fun H locs hS => ?_))
      refine lv_if_eq (tgt := 156) he hb dX11_looker_131 (by decide) (fun hc => ?_) (fun hc => ?_)
      · rw [if_pos hc] at h
        refine lv_iconst (v := (0 : Int32)) he hb dX11_looker_156 (by decide) ?_
        obtain rfl := Option.some.inj h
        exact z_iret B hS dX11_looker_157
      · rw [if_neg hc] at h
        refine z_aload_n he hb dX11_looker_134 rfl (lv_at hl 0 rfl) (zref_r _ _) ?_
        obtain ⟨x19, hx, h⟩ := zob h
        refine z_getR (ci := 11) (T := TX11) (N := 14) (j := 2) B hS hx rfl zin_X11 (by decide) zk_510 dX11_looker_135 ?_
        refine lv_iload_n he hb dX11_looker_138 rfl (lv_at hl 1 rfl) ?_
        refine z_aload_n he hb dX11_looker_139 rfl (lv_at hl 0 rfl) (zref_r _ _) ?_
        obtain ⟨x20, hx, h⟩ := zob h
        refine z_getR (ci := 11) (T := TX11) (N := 14) (j := 2) B hS hx rfl zin_X11 (by decide) zk_510 dX11_looker_140 ?_
        obtain ⟨x21, hx, h⟩ := zob h
        refine z_getR (ci := 8) (T := TX8) (N := 9) (j := 6) B hS hx rfl zin_X8 (by decide) zk_268 dX11_looker_143 ?_
        refine lv_iload_n he hb dX11_looker_146 rfl (lv_at hl 1 rfl) ?_
        obtain ⟨x22, hx, h⟩ := zob h
        refine z_callS (rest := [_, _]) B hS (mX11_at l G hx) zy_X11_at zk_755 (by decide) rfl hl rfl (Nat.le_of_ble_eq_true rfl) dX11_looker_147 (kk := (fun H locs hS => ?_))
        obtain ⟨_, hc, h⟩ := zob h
        obtain ⟨x23, hx, h⟩ := zob h
        refine z_callV (ci := 8) (T := TX8) (N := 9) (rest := []) B hS (mX8_sight l G hx) zy_X8_sight zk_763 (by decide) hc rfl rfl hl rfl (Nat.le_of_ble_eq_true rfl) dX11_looker_150 (kk := (fun H locs hS => ?_))
        refine lv_goto (tgt := 157) he hb dX11_looker_153 (by decide) ?_
        obtain rfl := Option.some.inj h
        exact z_iret B hS dX11_looker_157
    rw [if_neg hc5] at h
    refine lv_tableOut (tgt := 158) he hb dX11_looker_14 ?_ (by decide) ?_
    · have h0 := lv_neT hc0 (a := 0) rfl; have h1 := lv_neT hc1 (a := 1) rfl; have h2 := lv_neT hc2 (a := 2) rfl; have h3 := lv_neT hc3 (a := 3) rfl; have h4 := lv_neT hc4 (a := 4) rfl; have h5 := lv_neT hc5 (a := 5) rfl; omega
    · skip
      refine lv_iconst (v := (-1 : Int32)) he hb dX11_looker_158 (by decide) ?_
      obtain rfl := Option.some.inj h
      exact z_iret B hS dX11_looker_159
  · rw [if_pos hc] at h
    refine lv_iconst (v := (-1 : Int32)) he hb dX11_looker_11 (by decide) ?_
    obtain rfl := Option.some.inj h
    exact z_iret B hS dX11_looker_12
theorem dX11_cell_0 : decode cX11_cell 0 = .ok (.aload_n 0, 1) := by decide +kernel
theorem dX11_cell_1 : decode cX11_cell 1 = .ok (.getfield 19, 3) := by decide +kernel
theorem dX11_cell_4 : decode cX11_cell 4 = .ok (.iload_n 1, 1) := by decide +kernel
theorem dX11_cell_5 : decode cX11_cell 5 = .ok (.iload_n 2, 1) := by decide +kernel
theorem dX11_cell_6 : decode cX11_cell 6 = .ok (.invokevirtual 189, 3) := by decide +kernel
theorem dX11_cell_9 : decode cX11_cell 9 = .ok (.ifCond .ne 5, 3) := by decide +kernel
theorem dX11_cell_12 : decode cX11_cell 12 = .ok (.iconst (-1), 1) := by decide +kernel
theorem dX11_cell_13 : decode cX11_cell 13 = .ok (.ireturn, 1) := by decide +kernel
theorem dX11_cell_14 : decode cX11_cell 14 = .ok (.bipush 9, 2) := by decide +kernel
theorem dX11_cell_16 : decode cX11_cell 16 = .ok (.iload_n 2, 1) := by decide +kernel
theorem dX11_cell_17 : decode cX11_cell 17 = .ok (.imul, 1) := by decide +kernel
theorem dX11_cell_18 : decode cX11_cell 18 = .ok (.iload_n 1, 1) := by decide +kernel
theorem dX11_cell_19 : decode cX11_cell 19 = .ok (.iadd, 1) := by decide +kernel
theorem dX11_cell_20 : decode cX11_cell 20 = .ok (.istore 4, 2) := by decide +kernel
theorem dX11_cell_22 : decode cX11_cell 22 = .ok (.iload_n 3, 1) := by decide +kernel
theorem dX11_cell_23 : decode cX11_cell 23 = .ok (.tableswitch 75 0 3 #[29, 42, 52, 62], 29) := by decide +kernel
theorem dX11_cell_52 : decode cX11_cell 52 = .ok (.aload_n 0, 1) := by decide +kernel
theorem dX11_cell_53 : decode cX11_cell 53 = .ok (.getfield 19, 3) := by decide +kernel
theorem dX11_cell_56 : decode cX11_cell 56 = .ok (.getfield 193, 3) := by decide +kernel
theorem dX11_cell_59 : decode cX11_cell 59 = .ok (.iload 4, 2) := by decide +kernel
theorem dX11_cell_61 : decode cX11_cell 61 = .ok (.invokestatic 147, 3) := by decide +kernel
theorem dX11_cell_64 : decode cX11_cell 64 = .ok (.ireturn, 1) := by decide +kernel
theorem dX11_cell_65 : decode cX11_cell 65 = .ok (.aload_n 0, 1) := by decide +kernel
theorem dX11_cell_66 : decode cX11_cell 66 = .ok (.getfield 28, 3) := by decide +kernel
theorem dX11_cell_69 : decode cX11_cell 69 = .ok (.iload 4, 2) := by decide +kernel
theorem dX11_cell_71 : decode cX11_cell 71 = .ok (.invokevirtual 196, 3) := by decide +kernel
theorem dX11_cell_74 : decode cX11_cell 74 = .ok (.ireturn, 1) := by decide +kernel
theorem dX11_cell_75 : decode cX11_cell 75 = .ok (.aload_n 0, 1) := by decide +kernel
theorem dX11_cell_76 : decode cX11_cell 76 = .ok (.getfield 28, 3) := by decide +kernel
theorem dX11_cell_79 : decode cX11_cell 79 = .ok (.iload 4, 2) := by decide +kernel
theorem dX11_cell_81 : decode cX11_cell 81 = .ok (.invokevirtual 199, 3) := by decide +kernel
theorem dX11_cell_84 : decode cX11_cell 84 = .ok (.ireturn, 1) := by decide +kernel
theorem dX11_cell_85 : decode cX11_cell 85 = .ok (.aload_n 0, 1) := by decide +kernel
theorem dX11_cell_86 : decode cX11_cell 86 = .ok (.getfield 28, 3) := by decide +kernel
theorem dX11_cell_89 : decode cX11_cell 89 = .ok (.getfield 202, 3) := by decide +kernel
theorem dX11_cell_92 : decode cX11_cell 92 = .ok (.iload 4, 2) := by decide +kernel
theorem dX11_cell_94 : decode cX11_cell 94 = .ok (.invokestatic 147, 3) := by decide +kernel
theorem dX11_cell_97 : decode cX11_cell 97 = .ok (.ireturn, 1) := by decide +kernel
theorem dX11_cell_98 : decode cX11_cell 98 = .ok (.iconst (-1), 1) := by decide +kernel
theorem dX11_cell_99 : decode cX11_cell 99 = .ok (.ireturn, 1) := by decide +kernel
def fX11_cell (N n : Nat) (f : zF) (a0 : Nat) (a1 : Int32) (a2 : Int32) (a3 : Int32) : Option Int32 :=
    ((zgR n f 11 a0 1).bind fun x1 => ((zck n f 2 x1).bind fun _ => ((fX2_hasCell N n f x1 a1 a2).bind fun x2 => (if x2 = 0 then some (-1 : Int32) else (if a3 = (0 : Int32) then ((zgR n f 11 a0 1).bind fun x3 => ((zgR n f 2 x3 8).bind fun x4 => ((fX11_at N n f x4 (((9 : Int32) * a2) + a1)).bind fun x5 => some x5))) else (if a3 = (1 : Int32) then ((zgR n f 11 a0 2).bind fun x6 => ((zck n f 8 x6).bind fun _ => ((fX8_figureIn N n f x6 (((9 : Int32) * a2) + a1)).bind fun x7 => some x7))) else (if a3 = (2 : Int32) then ((zgR n f 11 a0 2).bind fun x8 => ((zck n f 8 x8).bind fun _ => ((fX8_lookerIn N n f x8 (((9 : Int32) * a2) + a1)).bind fun x9 => some x9))) else (if a3 = (3 : Int32) then ((zgR n f 11 a0 2).bind fun x10 => ((zgR n f 8 x10 8).bind fun x11 => ((fX11_at N n f x11 (((9 : Int32) * a2) + a1)).bind fun x12 => some x12))) else some (-1 : Int32)))))))))
set_option maxRecDepth 100000 in
set_option maxHeartbeats 4000000 in
theorem mX11_cell (l : Launch) (G : zG) {N n : Nat} {f : zF} {r : Int32} {a0 : Nat} {a1 : Int32} {a2 : Int32} {a3 : Int32} (h : fX11_cell N n f a0 a1 a2 a3 = some r) : zM l G yX11_cell cX11_cell 5 (some .int) 1 n f [zr G a0, .int a1, .int a2, .int a3] (some (.int r)) f := by
  refine zM.of (by decide) (Nat.le_of_ble_eq_true rfl) ?_
  intro p e s m args below meth c locs ls B hS hl
  have he := B.1
  have hb := B.2.1
  have hl : lv_has ls 5 [(0, zr G a0), (1, .int a1), (2, .int a2), (3, .int a3)] := hl
  unfold fX11_cell at h
  generalize s.heap = H at hS ⊢
  refine z_aload_n he hb dX11_cell_0 rfl (lv_at hl 0 rfl) (zref_r _ _) ?_
  obtain ⟨x1, hx, h⟩ := zob h
  refine z_getR (ci := 11) (T := TX11) (N := 14) (j := 1) B hS hx rfl zin_X11 (by decide) zk_509 dX11_cell_1 ?_
  refine lv_iload_n he hb dX11_cell_4 rfl (lv_at hl 1 rfl) ?_
  refine lv_iload_n he hb dX11_cell_5 rfl (lv_at hl 2 rfl) ?_
  obtain ⟨_, hc, h⟩ := zob h
  obtain ⟨x2, hx, h⟩ := zob h
  refine z_callV (ci := 2) (T := TX2) (N := 15) (rest := []) B hS (mX2_hasCell l G hx) zy_X2_hasCell zk_780 (by decide) hc rfl rfl hl rfl (Nat.le_of_ble_eq_true rfl) dX11_cell_6 (kk := (fun H locs hS => ?_))
  refine lv_if_ne (tgt := 14) he hb dX11_cell_9 (by decide) (fun hc => ?_) (fun hc => ?_)
  · rw [if_neg hc] at h
    refine lv_bipush (v := (9 : Int32)) he hb dX11_cell_14 (by decide) ?_
    refine lv_iload_n he hb dX11_cell_16 rfl (lv_at hl 2 rfl) ?_
    refine lv_imul he hb dX11_cell_17 ?_
    refine lv_iload_n he hb dX11_cell_18 rfl (lv_at hl 1 rfl) ?_
    refine lv_iadd he hb dX11_cell_19 ?_
    refine lv_istore (lv' := [(4, _), (0, _), (1, _), (2, _), (3, _)]) he hb dX11_cell_20 hl (by decide) rfl (fun ls hl => ?_)
    refine lv_iload_n he hb dX11_cell_22 rfl (lv_at hl 4 rfl) ?_
    by_cases hc0 : a3 = (0 : Int32)
    · rw [if_pos hc0] at h
      refine lv_tableIn (tgt := 52) he hb dX11_cell_23 (by rw [hc0]; decide) (by rw [hc0]; decide) (by rw [hc0]; rfl) (by decide) ?_
      refine z_aload_n he hb dX11_cell_52 rfl (lv_at hl 1 rfl) (zref_r _ _) ?_
      obtain ⟨x3, hx, h⟩ := zob h
      refine z_getR (ci := 11) (T := TX11) (N := 14) (j := 1) B hS hx rfl zin_X11 (by decide) zk_509 dX11_cell_53 ?_
      obtain ⟨x4, hx, h⟩ := zob h
      refine z_getR (ci := 2) (T := TX2) (N := 15) (j := 8) B hS hx rfl zin_X2 (by decide) zk_187 dX11_cell_56 ?_
      refine lv_iload he hb dX11_cell_59 (lv_at hl 0 rfl) ?_
      obtain ⟨x5, hx, h⟩ := zob h
      refine z_callS (rest := []) B hS (mX11_at l G hx) zy_X11_at zk_755 (by decide) rfl hl rfl (Nat.le_of_ble_eq_true rfl) dX11_cell_61 (kk := (fun H locs hS => ?_))
      obtain rfl := Option.some.inj h
      exact z_iret B hS dX11_cell_64
    rw [if_neg hc0] at h
    by_cases hc1 : a3 = (1 : Int32)
    · rw [if_pos hc1] at h
      refine lv_tableIn (tgt := 65) he hb dX11_cell_23 (by rw [hc1]; decide) (by rw [hc1]; decide) (by rw [hc1]; rfl) (by decide) ?_
      refine z_aload_n he hb dX11_cell_65 rfl (lv_at hl 1 rfl) (zref_r _ _) ?_
      obtain ⟨x6, hx, h⟩ := zob h
      refine z_getR (ci := 11) (T := TX11) (N := 14) (j := 2) B hS hx rfl zin_X11 (by decide) zk_510 dX11_cell_66 ?_
      refine lv_iload he hb dX11_cell_69 (lv_at hl 0 rfl) ?_
      obtain ⟨_, hc, h⟩ := zob h
      obtain ⟨x7, hx, h⟩ := zob h
      refine z_callV (ci := 8) (T := TX8) (N := 9) (rest := []) B hS (mX8_figureIn l G hx) zy_X8_figureIn zk_784 (by decide) hc rfl rfl hl rfl (Nat.le_of_ble_eq_true rfl) dX11_cell_71 (kk := (fun H locs hS => ?_))
      obtain rfl := Option.some.inj h
      exact z_iret B hS dX11_cell_74
    rw [if_neg hc1] at h
    by_cases hc2 : a3 = (2 : Int32)
    · rw [if_pos hc2] at h
      refine lv_tableIn (tgt := 75) he hb dX11_cell_23 (by rw [hc2]; decide) (by rw [hc2]; decide) (by rw [hc2]; rfl) (by decide) ?_
      refine z_aload_n he hb dX11_cell_75 rfl (lv_at hl 1 rfl) (zref_r _ _) ?_
      obtain ⟨x8, hx, h⟩ := zob h
      refine z_getR (ci := 11) (T := TX11) (N := 14) (j := 2) B hS hx rfl zin_X11 (by decide) zk_510 dX11_cell_76 ?_
      refine lv_iload he hb dX11_cell_79 (lv_at hl 0 rfl) ?_
      obtain ⟨_, hc, h⟩ := zob h
      obtain ⟨x9, hx, h⟩ := zob h
      refine z_callV (ci := 8) (T := TX8) (N := 9) (rest := []) B hS (mX8_lookerIn l G hx) zy_X8_lookerIn zk_785 (by decide) hc rfl rfl hl rfl (Nat.le_of_ble_eq_true rfl) dX11_cell_81 (kk := (fun H locs hS => ?_))
      obtain rfl := Option.some.inj h
      exact z_iret B hS dX11_cell_84
    rw [if_neg hc2] at h
    by_cases hc3 : a3 = (3 : Int32)
    · rw [if_pos hc3] at h
      refine lv_tableIn (tgt := 85) he hb dX11_cell_23 (by rw [hc3]; decide) (by rw [hc3]; decide) (by rw [hc3]; rfl) (by decide) ?_
      refine z_aload_n he hb dX11_cell_85 rfl (lv_at hl 1 rfl) (zref_r _ _) ?_
      obtain ⟨x10, hx, h⟩ := zob h
      refine z_getR (ci := 11) (T := TX11) (N := 14) (j := 2) B hS hx rfl zin_X11 (by decide) zk_510 dX11_cell_86 ?_
      obtain ⟨x11, hx, h⟩ := zob h
      refine z_getR (ci := 8) (T := TX8) (N := 9) (j := 8) B hS hx rfl zin_X8 (by decide) zk_273 dX11_cell_89 ?_
      refine lv_iload he hb dX11_cell_92 (lv_at hl 0 rfl) ?_
      obtain ⟨x12, hx, h⟩ := zob h
      refine z_callS (rest := []) B hS (mX11_at l G hx) zy_X11_at zk_755 (by decide) rfl hl rfl (Nat.le_of_ble_eq_true rfl) dX11_cell_94 (kk := (fun H locs hS => ?_))
      obtain rfl := Option.some.inj h
      exact z_iret B hS dX11_cell_97
    rw [if_neg hc3] at h
    refine lv_tableOut (tgt := 98) he hb dX11_cell_23 ?_ (by decide) ?_
    · have h0 := lv_neT hc0 (a := 0) rfl; have h1 := lv_neT hc1 (a := 1) rfl; have h2 := lv_neT hc2 (a := 2) rfl; have h3 := lv_neT hc3 (a := 3) rfl; omega
    · skip
      refine lv_iconst (v := (-1 : Int32)) he hb dX11_cell_98 (by decide) ?_
      obtain rfl := Option.some.inj h
      exact z_iret B hS dX11_cell_99
  · rw [if_pos hc] at h
    refine lv_iconst (v := (-1 : Int32)) he hb dX11_cell_12 (by decide) ?_
    obtain rfl := Option.some.inj h
    exact z_iret B hS dX11_cell_13
theorem dX11_seenFigures_0 : decode cX11_seenFigures 0 = .ok (.iconst 0, 1) := by decide +kernel
theorem dX11_seenFigures_1 : decode cX11_seenFigures 1 = .ok (.istore_n 1, 1) := by decide +kernel
theorem dX11_seenFigures_2 : decode cX11_seenFigures 2 = .ok (.iconst 0, 1) := by decide +kernel
theorem dX11_seenFigures_3 : decode cX11_seenFigures 3 = .ok (.istore_n 2, 1) := by decide +kernel
theorem dX11_seenFigures_4 : decode cX11_seenFigures 4 = .ok (.iload_n 2, 1) := by decide +kernel
theorem dX11_seenFigures_5 : decode cX11_seenFigures 5 = .ok (.aload_n 0, 1) := by decide +kernel
theorem dX11_seenFigures_6 : decode cX11_seenFigures 6 = .ok (.getfield 19, 3) := by decide +kernel
theorem dX11_seenFigures_9 : decode cX11_seenFigures 9 = .ok (.getfield 220, 3) := by decide +kernel
theorem dX11_seenFigures_12 : decode cX11_seenFigures 12 = .ok (.if_icmp .ge 26, 3) := by decide +kernel
theorem dX11_seenFigures_15 : decode cX11_seenFigures 15 = .ok (.aload_n 0, 1) := by decide +kernel
theorem dX11_seenFigures_16 : decode cX11_seenFigures 16 = .ok (.getfield 28, 3) := by decide +kernel
theorem dX11_seenFigures_19 : decode cX11_seenFigures 19 = .ok (.iload_n 2, 1) := by decide +kernel
theorem dX11_seenFigures_20 : decode cX11_seenFigures 20 = .ok (.invokevirtual 163, 3) := by decide +kernel
theorem dX11_seenFigures_23 : decode cX11_seenFigures 23 = .ok (.ifCond .eq 9, 3) := by decide +kernel
theorem dX11_seenFigures_26 : decode cX11_seenFigures 26 = .ok (.iload_n 1, 1) := by decide +kernel
theorem dX11_seenFigures_27 : decode cX11_seenFigures 27 = .ok (.iconst 1, 1) := by decide +kernel
theorem dX11_seenFigures_28 : decode cX11_seenFigures 28 = .ok (.iload_n 2, 1) := by decide +kernel
theorem dX11_seenFigures_29 : decode cX11_seenFigures 29 = .ok (.ishl, 1) := by decide +kernel
theorem dX11_seenFigures_30 : decode cX11_seenFigures 30 = .ok (.ior, 1) := by decide +kernel
theorem dX11_seenFigures_31 : decode cX11_seenFigures 31 = .ok (.istore_n 1, 1) := by decide +kernel
theorem dX11_seenFigures_32 : decode cX11_seenFigures 32 = .ok (.iinc 2 1, 3) := by decide +kernel
theorem dX11_seenFigures_35 : decode cX11_seenFigures 35 = .ok (.goto (-31), 3) := by decide +kernel
theorem dX11_seenFigures_38 : decode cX11_seenFigures 38 = .ok (.iload_n 1, 1) := by decide +kernel
theorem dX11_seenFigures_39 : decode cX11_seenFigures 39 = .ok (.ireturn, 1) := by decide +kernel
def fX11_seenFigures_32 (r4 : Nat → Int32 → Int32 → Option Int32) (N n : Nat) (f : zF) (a0 : Nat) (a1 : Int32) (a2 : Int32) : Option Int32 :=
    (r4 a0 a1 (a2 + 1))
set_option maxRecDepth 100000 in
set_option maxHeartbeats 4000000 in
theorem gX11_seenFigures_32 (l : Launch) {G : zG} {p : Program} {e : Env} {s : State} {m : MethodId} {args : Array Value} {below : List Frame} {meth : Method} {c : Code} {f : zF} {N n : Nat} {r : Int32} {r4 : Nat → Int32 → Int32 → Option Int32} (B : zB G p s m args meth c RX11 cX11_seenFigures 3 (some .int)) (hr4 : ∀ (a0 : Nat) (a1 : Int32) (a2 : Int32) (H : Heap) (locs : List Loc) (ls : Array Slot), r4 a0 a1 a2 = some r → zS G n f H locs → lv_has ls 3 [(0, zr G a0), (1, .int a1), (2, .int a2)] → W p l e (zrm 3) s m args below meth c H locs 0 0 (MQ below (zQc G n f (some (.int r))) args s 0 0 (zA G)) (F0 m 4 ls [])) : ∀ (a0 : Nat) (a1 : Int32) (a2 : Int32) (H : Heap) (locs : List Loc) (ls : Array Slot), fX11_seenFigures_32 r4 N n f a0 a1 a2 = some r → zS G n f H locs → lv_has ls 3 [(0, zr G a0), (1, .int a1), (2, .int a2)] → W p l e (zrm 3) s m args below meth c H locs 0 0 (MQ below (zQc G n f (some (.int r))) args s 0 0 (zA G)) (F0 m 32 ls []) := by
  have he := B.1
  have hb := B.2.1
  intro a0 a1 a2 H locs ls h hS hl
  unfold fX11_seenFigures_32 at h
  refine lv_iinc (v := (a2 + 1)) (lv' := [(2, _), (0, _), (1, _)]) he hb dX11_seenFigures_32 hl (k := 2) rfl rfl (by decide) rfl (fun ls hl => ?_)
  refine lv_goto (tgt := 4) he hb dX11_seenFigures_35 (by decide) ?_
  exact hr4 _ _ _ _ _ _ h hS (lv_sub hl [1, 2, 0] rfl)
def fX11_seenFigures_4 (N n : Nat) (f : zF) : Nat → Nat → Int32 → Int32 → Option Int32
  | 0, _, _, _ => none
  | k + 1, a0, a1, a2 =>
    ((zgR n f 11 a0 1).bind fun x1 => ((zgI n f 2 x1 3).bind fun x2 => (if x2 ≤ a2 then some a1 else ((zgR n f 11 a0 2).bind fun x3 => ((zck n f 8 x3).bind fun _ => ((fX8_seers N n f x3 a2).bind fun x4 => (if x4 = 0 then (fX11_seenFigures_32 (fX11_seenFigures_4 N n f k) N n f a0 a1 a2) else (fX11_seenFigures_32 (fX11_seenFigures_4 N n f k) N n f a0 (a1 ||| (zishl (1 : Int32) a2)) a2))))))))
set_option maxRecDepth 100000 in
set_option maxHeartbeats 4000000 in
theorem gX11_seenFigures_4 (l : Launch) {G : zG} {p : Program} {e : Env} {s : State} {m : MethodId} {args : Array Value} {below : List Frame} {meth : Method} {c : Code} {f : zF} {N n : Nat} {r : Int32} (B : zB G p s m args meth c RX11 cX11_seenFigures 3 (some .int)) : ∀ (k : Nat), ∀ (a0 : Nat) (a1 : Int32) (a2 : Int32) (H : Heap) (locs : List Loc) (ls : Array Slot), fX11_seenFigures_4 N n f k a0 a1 a2 = some r → zS G n f H locs → lv_has ls 3 [(0, zr G a0), (1, .int a1), (2, .int a2)] → W p l e (zrm 3) s m args below meth c H locs 0 0 (MQ below (zQc G n f (some (.int r))) args s 0 0 (zA G)) (F0 m 4 ls []) := by
  have he := B.1
  have hb := B.2.1
  intro k
  induction k with
  | zero =>
    intro a0 a1 a2 H locs ls h
    unfold fX11_seenFigures_4 at h
    cases h
  | succ k ih =>
    intro a0 a1 a2 H locs ls h hS hl
    unfold fX11_seenFigures_4 at h
    refine lv_iload_n he hb dX11_seenFigures_4 rfl (lv_at hl 2 rfl) ?_
    refine z_aload_n he hb dX11_seenFigures_5 rfl (lv_at hl 0 rfl) (zref_r _ _) ?_
    obtain ⟨x1, hx, h⟩ := zob h
    refine z_getR (ci := 11) (T := TX11) (N := 14) (j := 1) B hS hx rfl zin_X11 (by decide) zk_509 dX11_seenFigures_6 ?_
    obtain ⟨x2, hx, h⟩ := zob h
    refine z_getI (ci := 2) (T := TX2) (N := 15) (j := 3) B hS hx rfl zin_X2 (by decide) zk_167 dX11_seenFigures_9 ?_
    refine lv_icmp_ge (tgt := 38) he hb dX11_seenFigures_12 (by decide) (fun hc => ?_) (fun hc => ?_)
    · rw [if_pos hc] at h
      refine lv_iload_n he hb dX11_seenFigures_38 rfl (lv_at hl 1 rfl) ?_
      obtain rfl := Option.some.inj h
      exact z_iret B hS dX11_seenFigures_39
    · rw [if_neg hc] at h
      refine z_aload_n he hb dX11_seenFigures_15 rfl (lv_at hl 0 rfl) (zref_r _ _) ?_
      obtain ⟨x3, hx, h⟩ := zob h
      refine z_getR (ci := 11) (T := TX11) (N := 14) (j := 2) B hS hx rfl zin_X11 (by decide) zk_510 dX11_seenFigures_16 ?_
      refine lv_iload_n he hb dX11_seenFigures_19 rfl (lv_at hl 2 rfl) ?_
      obtain ⟨_, hc, h⟩ := zob h
      obtain ⟨x4, hx, h⟩ := zob h
      refine z_callV (ci := 8) (T := TX8) (N := 9) (rest := []) B hS (mX8_seers l G hx) zy_X8_seers zk_794 (by decide) hc rfl rfl hl rfl (Nat.le_of_ble_eq_true rfl) dX11_seenFigures_20 (kk := (fun H locs hS => ?_))
      refine lv_if_eq (tgt := 32) he hb dX11_seenFigures_23 (by decide) (fun hc => ?_) (fun hc => ?_)
      · rw [if_pos hc] at h
        exact gX11_seenFigures_32 l B ih _ _ _ _ _ _ h hS (lv_sub hl [0, 1, 2] rfl)
      · rw [if_neg hc] at h
        refine lv_iload_n he hb dX11_seenFigures_26 rfl (lv_at hl 1 rfl) ?_
        refine lv_iconst (v := (1 : Int32)) he hb dX11_seenFigures_27 (by decide) ?_
        refine lv_iload_n he hb dX11_seenFigures_28 rfl (lv_at hl 2 rfl) ?_
        refine z_ishl he hb dX11_seenFigures_29 ?_
        refine lv_ior he hb dX11_seenFigures_30 ?_
        refine lv_istore_n (lv' := [(1, _), (0, _), (2, _)]) he hb dX11_seenFigures_31 rfl hl (by decide) rfl (fun ls hl => ?_)
        exact gX11_seenFigures_32 l B ih _ _ _ _ _ _ h hS (lv_sub hl [1, 0, 2] rfl)
def fX11_seenFigures (N n : Nat) (f : zF) (a0 : Nat) : Option Int32 :=
    (fX11_seenFigures_4 N n f N a0 (0 : Int32) (0 : Int32))
set_option maxRecDepth 100000 in
set_option maxHeartbeats 4000000 in
theorem mX11_seenFigures (l : Launch) (G : zG) {N n : Nat} {f : zF} {r : Int32} {a0 : Nat} (h : fX11_seenFigures N n f a0 = some r) : zM l G yX11_seenFigures cX11_seenFigures 3 (some .int) 3 n f [zr G a0] (some (.int r)) f := by
  refine zM.of (by decide) (Nat.le_of_ble_eq_true rfl) ?_
  intro p e s m args below meth c locs ls B hS hl
  have he := B.1
  have hb := B.2.1
  have hl : lv_has ls 3 [(0, zr G a0)] := hl
  unfold fX11_seenFigures at h
  generalize s.heap = H at hS ⊢
  refine lv_iconst (v := (0 : Int32)) he hb dX11_seenFigures_0 (by decide) ?_
  refine lv_istore_n (lv' := [(1, _), (0, _)]) he hb dX11_seenFigures_1 rfl hl (by decide) rfl (fun ls hl => ?_)
  refine lv_iconst (v := (0 : Int32)) he hb dX11_seenFigures_2 (by decide) ?_
  refine lv_istore_n (lv' := [(2, _), (1, _), (0, _)]) he hb dX11_seenFigures_3 rfl hl (by decide) rfl (fun ls hl => ?_)
  exact gX11_seenFigures_4 l B N _ _ _ _ _ _ h hS (lv_sub hl [2, 1, 0] rfl)
theorem dX11_freeFigures_0 : decode cX11_freeFigures 0 = .ok (.iconst 0, 1) := by decide +kernel
theorem dX11_freeFigures_1 : decode cX11_freeFigures 1 = .ok (.istore_n 1, 1) := by decide +kernel
theorem dX11_freeFigures_2 : decode cX11_freeFigures 2 = .ok (.iconst 0, 1) := by decide +kernel
theorem dX11_freeFigures_3 : decode cX11_freeFigures 3 = .ok (.istore_n 2, 1) := by decide +kernel
theorem dX11_freeFigures_4 : decode cX11_freeFigures 4 = .ok (.iload_n 2, 1) := by decide +kernel
theorem dX11_freeFigures_5 : decode cX11_freeFigures 5 = .ok (.aload_n 0, 1) := by decide +kernel
theorem dX11_freeFigures_6 : decode cX11_freeFigures 6 = .ok (.getfield 19, 3) := by decide +kernel
theorem dX11_freeFigures_9 : decode cX11_freeFigures 9 = .ok (.getfield 220, 3) := by decide +kernel
theorem dX11_freeFigures_12 : decode cX11_freeFigures 12 = .ok (.if_icmp .ge 26, 3) := by decide +kernel
theorem dX11_freeFigures_15 : decode cX11_freeFigures 15 = .ok (.aload_n 0, 1) := by decide +kernel
theorem dX11_freeFigures_16 : decode cX11_freeFigures 16 = .ok (.getfield 28, 3) := by decide +kernel
theorem dX11_freeFigures_19 : decode cX11_freeFigures 19 = .ok (.iload_n 2, 1) := by decide +kernel
theorem dX11_freeFigures_20 : decode cX11_freeFigures 20 = .ok (.invokevirtual 167, 3) := by decide +kernel
theorem dX11_freeFigures_23 : decode cX11_freeFigures 23 = .ok (.ifCond .eq 9, 3) := by decide +kernel
theorem dX11_freeFigures_26 : decode cX11_freeFigures 26 = .ok (.iload_n 1, 1) := by decide +kernel
theorem dX11_freeFigures_27 : decode cX11_freeFigures 27 = .ok (.iconst 1, 1) := by decide +kernel
theorem dX11_freeFigures_28 : decode cX11_freeFigures 28 = .ok (.iload_n 2, 1) := by decide +kernel
theorem dX11_freeFigures_29 : decode cX11_freeFigures 29 = .ok (.ishl, 1) := by decide +kernel
theorem dX11_freeFigures_30 : decode cX11_freeFigures 30 = .ok (.ior, 1) := by decide +kernel
theorem dX11_freeFigures_31 : decode cX11_freeFigures 31 = .ok (.istore_n 1, 1) := by decide +kernel
theorem dX11_freeFigures_32 : decode cX11_freeFigures 32 = .ok (.iinc 2 1, 3) := by decide +kernel
theorem dX11_freeFigures_35 : decode cX11_freeFigures 35 = .ok (.goto (-31), 3) := by decide +kernel
theorem dX11_freeFigures_38 : decode cX11_freeFigures 38 = .ok (.iload_n 1, 1) := by decide +kernel
theorem dX11_freeFigures_39 : decode cX11_freeFigures 39 = .ok (.ireturn, 1) := by decide +kernel
def fX11_freeFigures_32 (r4 : Nat → Int32 → Int32 → Option Int32) (N n : Nat) (f : zF) (a0 : Nat) (a1 : Int32) (a2 : Int32) : Option Int32 :=
    (r4 a0 a1 (a2 + 1))
set_option maxRecDepth 100000 in
set_option maxHeartbeats 4000000 in
theorem gX11_freeFigures_32 (l : Launch) {G : zG} {p : Program} {e : Env} {s : State} {m : MethodId} {args : Array Value} {below : List Frame} {meth : Method} {c : Code} {f : zF} {N n : Nat} {r : Int32} {r4 : Nat → Int32 → Int32 → Option Int32} (B : zB G p s m args meth c RX11 cX11_freeFigures 3 (some .int)) (hr4 : ∀ (a0 : Nat) (a1 : Int32) (a2 : Int32) (H : Heap) (locs : List Loc) (ls : Array Slot), r4 a0 a1 a2 = some r → zS G n f H locs → lv_has ls 3 [(0, zr G a0), (1, .int a1), (2, .int a2)] → W p l e (zrm 2) s m args below meth c H locs 0 0 (MQ below (zQc G n f (some (.int r))) args s 0 0 (zA G)) (F0 m 4 ls [])) : ∀ (a0 : Nat) (a1 : Int32) (a2 : Int32) (H : Heap) (locs : List Loc) (ls : Array Slot), fX11_freeFigures_32 r4 N n f a0 a1 a2 = some r → zS G n f H locs → lv_has ls 3 [(0, zr G a0), (1, .int a1), (2, .int a2)] → W p l e (zrm 2) s m args below meth c H locs 0 0 (MQ below (zQc G n f (some (.int r))) args s 0 0 (zA G)) (F0 m 32 ls []) := by
  have he := B.1
  have hb := B.2.1
  intro a0 a1 a2 H locs ls h hS hl
  unfold fX11_freeFigures_32 at h
  refine lv_iinc (v := (a2 + 1)) (lv' := [(2, _), (0, _), (1, _)]) he hb dX11_freeFigures_32 hl (k := 2) rfl rfl (by decide) rfl (fun ls hl => ?_)
  refine lv_goto (tgt := 4) he hb dX11_freeFigures_35 (by decide) ?_
  exact hr4 _ _ _ _ _ _ h hS (lv_sub hl [1, 2, 0] rfl)
def fX11_freeFigures_4 (N n : Nat) (f : zF) : Nat → Nat → Int32 → Int32 → Option Int32
  | 0, _, _, _ => none
  | k + 1, a0, a1, a2 =>
    ((zgR n f 11 a0 1).bind fun x1 => ((zgI n f 2 x1 3).bind fun x2 => (if x2 ≤ a2 then some a1 else ((zgR n f 11 a0 2).bind fun x3 => ((zck n f 8 x3).bind fun _ => ((fX8_canGo N n f x3 a2).bind fun x4 => (if x4 = 0 then (fX11_freeFigures_32 (fX11_freeFigures_4 N n f k) N n f a0 a1 a2) else (fX11_freeFigures_32 (fX11_freeFigures_4 N n f k) N n f a0 (a1 ||| (zishl (1 : Int32) a2)) a2))))))))
set_option maxRecDepth 100000 in
set_option maxHeartbeats 4000000 in
theorem gX11_freeFigures_4 (l : Launch) {G : zG} {p : Program} {e : Env} {s : State} {m : MethodId} {args : Array Value} {below : List Frame} {meth : Method} {c : Code} {f : zF} {N n : Nat} {r : Int32} (B : zB G p s m args meth c RX11 cX11_freeFigures 3 (some .int)) : ∀ (k : Nat), ∀ (a0 : Nat) (a1 : Int32) (a2 : Int32) (H : Heap) (locs : List Loc) (ls : Array Slot), fX11_freeFigures_4 N n f k a0 a1 a2 = some r → zS G n f H locs → lv_has ls 3 [(0, zr G a0), (1, .int a1), (2, .int a2)] → W p l e (zrm 2) s m args below meth c H locs 0 0 (MQ below (zQc G n f (some (.int r))) args s 0 0 (zA G)) (F0 m 4 ls []) := by
  have he := B.1
  have hb := B.2.1
  intro k
  induction k with
  | zero =>
    intro a0 a1 a2 H locs ls h
    unfold fX11_freeFigures_4 at h
    cases h
  | succ k ih =>
    intro a0 a1 a2 H locs ls h hS hl
    unfold fX11_freeFigures_4 at h
    refine lv_iload_n he hb dX11_freeFigures_4 rfl (lv_at hl 2 rfl) ?_
    refine z_aload_n he hb dX11_freeFigures_5 rfl (lv_at hl 0 rfl) (zref_r _ _) ?_
    obtain ⟨x1, hx, h⟩ := zob h
    refine z_getR (ci := 11) (T := TX11) (N := 14) (j := 1) B hS hx rfl zin_X11 (by decide) zk_509 dX11_freeFigures_6 ?_
    obtain ⟨x2, hx, h⟩ := zob h
    refine z_getI (ci := 2) (T := TX2) (N := 15) (j := 3) B hS hx rfl zin_X2 (by decide) zk_167 dX11_freeFigures_9 ?_
    refine lv_icmp_ge (tgt := 38) he hb dX11_freeFigures_12 (by decide) (fun hc => ?_) (fun hc => ?_)
    · rw [if_pos hc] at h
      refine lv_iload_n he hb dX11_freeFigures_38 rfl (lv_at hl 1 rfl) ?_
      obtain rfl := Option.some.inj h
      exact z_iret B hS dX11_freeFigures_39
    · rw [if_neg hc] at h
      refine z_aload_n he hb dX11_freeFigures_15 rfl (lv_at hl 0 rfl) (zref_r _ _) ?_
      obtain ⟨x3, hx, h⟩ := zob h
      refine z_getR (ci := 11) (T := TX11) (N := 14) (j := 2) B hS hx rfl zin_X11 (by decide) zk_510 dX11_freeFigures_16 ?_
      refine lv_iload_n he hb dX11_freeFigures_19 rfl (lv_at hl 2 rfl) ?_
      obtain ⟨_, hc, h⟩ := zob h
      obtain ⟨x4, hx, h⟩ := zob h
      refine z_callV (ci := 8) (T := TX8) (N := 9) (rest := []) B hS (mX8_canGo l G hx) zy_X8_canGo zk_803 (by decide) hc rfl rfl hl rfl (Nat.le_of_ble_eq_true rfl) dX11_freeFigures_20 (kk := (fun H locs hS => ?_))
      refine lv_if_eq (tgt := 32) he hb dX11_freeFigures_23 (by decide) (fun hc => ?_) (fun hc => ?_)
      · rw [if_pos hc] at h
        exact gX11_freeFigures_32 l B ih _ _ _ _ _ _ h hS (lv_sub hl [0, 1, 2] rfl)
      · rw [if_neg hc] at h
        refine lv_iload_n he hb dX11_freeFigures_26 rfl (lv_at hl 1 rfl) ?_
        refine lv_iconst (v := (1 : Int32)) he hb dX11_freeFigures_27 (by decide) ?_
        refine lv_iload_n he hb dX11_freeFigures_28 rfl (lv_at hl 2 rfl) ?_
        refine z_ishl he hb dX11_freeFigures_29 ?_
        refine lv_ior he hb dX11_freeFigures_30 ?_
        refine lv_istore_n (lv' := [(1, _), (0, _), (2, _)]) he hb dX11_freeFigures_31 rfl hl (by decide) rfl (fun ls hl => ?_)
        exact gX11_freeFigures_32 l B ih _ _ _ _ _ _ h hS (lv_sub hl [1, 0, 2] rfl)
def fX11_freeFigures (N n : Nat) (f : zF) (a0 : Nat) : Option Int32 :=
    (fX11_freeFigures_4 N n f N a0 (0 : Int32) (0 : Int32))
set_option maxRecDepth 100000 in
set_option maxHeartbeats 4000000 in
theorem mX11_freeFigures (l : Launch) (G : zG) {N n : Nat} {f : zF} {r : Int32} {a0 : Nat} (h : fX11_freeFigures N n f a0 = some r) : zM l G yX11_freeFigures cX11_freeFigures 3 (some .int) 2 n f [zr G a0] (some (.int r)) f := by
  refine zM.of (by decide) (Nat.le_of_ble_eq_true rfl) ?_
  intro p e s m args below meth c locs ls B hS hl
  have he := B.1
  have hb := B.2.1
  have hl : lv_has ls 3 [(0, zr G a0)] := hl
  unfold fX11_freeFigures at h
  generalize s.heap = H at hS ⊢
  refine lv_iconst (v := (0 : Int32)) he hb dX11_freeFigures_0 (by decide) ?_
  refine lv_istore_n (lv' := [(1, _), (0, _)]) he hb dX11_freeFigures_1 rfl hl (by decide) rfl (fun ls hl => ?_)
  refine lv_iconst (v := (0 : Int32)) he hb dX11_freeFigures_2 (by decide) ?_
  refine lv_istore_n (lv' := [(2, _), (1, _), (0, _)]) he hb dX11_freeFigures_3 rfl hl (by decide) rfl (fun ls hl => ?_)
  exact gX11_freeFigures_4 l B N _ _ _ _ _ _ h hS (lv_sub hl [2, 1, 0] rfl)
theorem dX11_lookingLookers_0 : decode cX11_lookingLookers 0 = .ok (.iconst 0, 1) := by decide +kernel
theorem dX11_lookingLookers_1 : decode cX11_lookingLookers 1 = .ok (.istore_n 1, 1) := by decide +kernel
theorem dX11_lookingLookers_2 : decode cX11_lookingLookers 2 = .ok (.iconst 0, 1) := by decide +kernel
theorem dX11_lookingLookers_3 : decode cX11_lookingLookers 3 = .ok (.istore_n 2, 1) := by decide +kernel
theorem dX11_lookingLookers_4 : decode cX11_lookingLookers 4 = .ok (.iload_n 2, 1) := by decide +kernel
theorem dX11_lookingLookers_5 : decode cX11_lookingLookers 5 = .ok (.aload_n 0, 1) := by decide +kernel
theorem dX11_lookingLookers_6 : decode cX11_lookingLookers 6 = .ok (.getfield 19, 3) := by decide +kernel
theorem dX11_lookingLookers_9 : decode cX11_lookingLookers 9 = .ok (.getfield 223, 3) := by decide +kernel
theorem dX11_lookingLookers_12 : decode cX11_lookingLookers 12 = .ok (.if_icmp .ge 26, 3) := by decide +kernel
theorem dX11_lookingLookers_15 : decode cX11_lookingLookers 15 = .ok (.aload_n 0, 1) := by decide +kernel
theorem dX11_lookingLookers_16 : decode cX11_lookingLookers 16 = .ok (.getfield 28, 3) := by decide +kernel
theorem dX11_lookingLookers_19 : decode cX11_lookingLookers 19 = .ok (.iload_n 2, 1) := by decide +kernel
theorem dX11_lookingLookers_20 : decode cX11_lookingLookers 20 = .ok (.invokevirtual 182, 3) := by decide +kernel
theorem dX11_lookingLookers_23 : decode cX11_lookingLookers 23 = .ok (.ifCond .eq 9, 3) := by decide +kernel
theorem dX11_lookingLookers_26 : decode cX11_lookingLookers 26 = .ok (.iload_n 1, 1) := by decide +kernel
theorem dX11_lookingLookers_27 : decode cX11_lookingLookers 27 = .ok (.iconst 1, 1) := by decide +kernel
theorem dX11_lookingLookers_28 : decode cX11_lookingLookers 28 = .ok (.iload_n 2, 1) := by decide +kernel
theorem dX11_lookingLookers_29 : decode cX11_lookingLookers 29 = .ok (.ishl, 1) := by decide +kernel
theorem dX11_lookingLookers_30 : decode cX11_lookingLookers 30 = .ok (.ior, 1) := by decide +kernel
theorem dX11_lookingLookers_31 : decode cX11_lookingLookers 31 = .ok (.istore_n 1, 1) := by decide +kernel
theorem dX11_lookingLookers_32 : decode cX11_lookingLookers 32 = .ok (.iinc 2 1, 3) := by decide +kernel
theorem dX11_lookingLookers_35 : decode cX11_lookingLookers 35 = .ok (.goto (-31), 3) := by decide +kernel
theorem dX11_lookingLookers_38 : decode cX11_lookingLookers 38 = .ok (.iload_n 1, 1) := by decide +kernel
theorem dX11_lookingLookers_39 : decode cX11_lookingLookers 39 = .ok (.ireturn, 1) := by decide +kernel
def fX11_lookingLookers_32 (r4 : Nat → Int32 → Int32 → Option Int32) (N n : Nat) (f : zF) (a0 : Nat) (a1 : Int32) (a2 : Int32) : Option Int32 :=
    (r4 a0 a1 (a2 + 1))
set_option maxRecDepth 100000 in
set_option maxHeartbeats 4000000 in
theorem gX11_lookingLookers_32 (l : Launch) {G : zG} {p : Program} {e : Env} {s : State} {m : MethodId} {args : Array Value} {below : List Frame} {meth : Method} {c : Code} {f : zF} {N n : Nat} {r : Int32} {r4 : Nat → Int32 → Int32 → Option Int32} (B : zB G p s m args meth c RX11 cX11_lookingLookers 3 (some .int)) (hr4 : ∀ (a0 : Nat) (a1 : Int32) (a2 : Int32) (H : Heap) (locs : List Loc) (ls : Array Slot), r4 a0 a1 a2 = some r → zS G n f H locs → lv_has ls 3 [(0, zr G a0), (1, .int a1), (2, .int a2)] → W p l e (zrm 2) s m args below meth c H locs 0 0 (MQ below (zQc G n f (some (.int r))) args s 0 0 (zA G)) (F0 m 4 ls [])) : ∀ (a0 : Nat) (a1 : Int32) (a2 : Int32) (H : Heap) (locs : List Loc) (ls : Array Slot), fX11_lookingLookers_32 r4 N n f a0 a1 a2 = some r → zS G n f H locs → lv_has ls 3 [(0, zr G a0), (1, .int a1), (2, .int a2)] → W p l e (zrm 2) s m args below meth c H locs 0 0 (MQ below (zQc G n f (some (.int r))) args s 0 0 (zA G)) (F0 m 32 ls []) := by
  have he := B.1
  have hb := B.2.1
  intro a0 a1 a2 H locs ls h hS hl
  unfold fX11_lookingLookers_32 at h
  refine lv_iinc (v := (a2 + 1)) (lv' := [(2, _), (0, _), (1, _)]) he hb dX11_lookingLookers_32 hl (k := 2) rfl rfl (by decide) rfl (fun ls hl => ?_)
  refine lv_goto (tgt := 4) he hb dX11_lookingLookers_35 (by decide) ?_
  exact hr4 _ _ _ _ _ _ h hS (lv_sub hl [1, 2, 0] rfl)
def fX11_lookingLookers_4 (N n : Nat) (f : zF) : Nat → Nat → Int32 → Int32 → Option Int32
  | 0, _, _, _ => none
  | k + 1, a0, a1, a2 =>
    ((zgR n f 11 a0 1).bind fun x1 => ((zgI n f 2 x1 4).bind fun x2 => (if x2 ≤ a2 then some a1 else ((zgR n f 11 a0 2).bind fun x3 => ((zck n f 8 x3).bind fun _ => ((fX8_looks N n f x3 a2).bind fun x4 => (if x4 = 0 then (fX11_lookingLookers_32 (fX11_lookingLookers_4 N n f k) N n f a0 a1 a2) else (fX11_lookingLookers_32 (fX11_lookingLookers_4 N n f k) N n f a0 (a1 ||| (zishl (1 : Int32) a2)) a2))))))))
set_option maxRecDepth 100000 in
set_option maxHeartbeats 4000000 in
theorem gX11_lookingLookers_4 (l : Launch) {G : zG} {p : Program} {e : Env} {s : State} {m : MethodId} {args : Array Value} {below : List Frame} {meth : Method} {c : Code} {f : zF} {N n : Nat} {r : Int32} (B : zB G p s m args meth c RX11 cX11_lookingLookers 3 (some .int)) : ∀ (k : Nat), ∀ (a0 : Nat) (a1 : Int32) (a2 : Int32) (H : Heap) (locs : List Loc) (ls : Array Slot), fX11_lookingLookers_4 N n f k a0 a1 a2 = some r → zS G n f H locs → lv_has ls 3 [(0, zr G a0), (1, .int a1), (2, .int a2)] → W p l e (zrm 2) s m args below meth c H locs 0 0 (MQ below (zQc G n f (some (.int r))) args s 0 0 (zA G)) (F0 m 4 ls []) := by
  have he := B.1
  have hb := B.2.1
  intro k
  induction k with
  | zero =>
    intro a0 a1 a2 H locs ls h
    unfold fX11_lookingLookers_4 at h
    cases h
  | succ k ih =>
    intro a0 a1 a2 H locs ls h hS hl
    unfold fX11_lookingLookers_4 at h
    refine lv_iload_n he hb dX11_lookingLookers_4 rfl (lv_at hl 2 rfl) ?_
    refine z_aload_n he hb dX11_lookingLookers_5 rfl (lv_at hl 0 rfl) (zref_r _ _) ?_
    obtain ⟨x1, hx, h⟩ := zob h
    refine z_getR (ci := 11) (T := TX11) (N := 14) (j := 1) B hS hx rfl zin_X11 (by decide) zk_509 dX11_lookingLookers_6 ?_
    obtain ⟨x2, hx, h⟩ := zob h
    refine z_getI (ci := 2) (T := TX2) (N := 15) (j := 4) B hS hx rfl zin_X2 (by decide) zk_173 dX11_lookingLookers_9 ?_
    refine lv_icmp_ge (tgt := 38) he hb dX11_lookingLookers_12 (by decide) (fun hc => ?_) (fun hc => ?_)
    · rw [if_pos hc] at h
      refine lv_iload_n he hb dX11_lookingLookers_38 rfl (lv_at hl 1 rfl) ?_
      obtain rfl := Option.some.inj h
      exact z_iret B hS dX11_lookingLookers_39
    · rw [if_neg hc] at h
      refine z_aload_n he hb dX11_lookingLookers_15 rfl (lv_at hl 0 rfl) (zref_r _ _) ?_
      obtain ⟨x3, hx, h⟩ := zob h
      refine z_getR (ci := 11) (T := TX11) (N := 14) (j := 2) B hS hx rfl zin_X11 (by decide) zk_510 dX11_lookingLookers_16 ?_
      refine lv_iload_n he hb dX11_lookingLookers_19 rfl (lv_at hl 2 rfl) ?_
      obtain ⟨_, hc, h⟩ := zob h
      obtain ⟨x4, hx, h⟩ := zob h
      refine z_callV (ci := 8) (T := TX8) (N := 9) (rest := []) B hS (mX8_looks l G hx) zy_X8_looks zk_756 (by decide) hc rfl rfl hl rfl (Nat.le_of_ble_eq_true rfl) dX11_lookingLookers_20 (kk := (fun H locs hS => ?_))
      refine lv_if_eq (tgt := 32) he hb dX11_lookingLookers_23 (by decide) (fun hc => ?_) (fun hc => ?_)
      · rw [if_pos hc] at h
        exact gX11_lookingLookers_32 l B ih _ _ _ _ _ _ h hS (lv_sub hl [0, 1, 2] rfl)
      · rw [if_neg hc] at h
        refine lv_iload_n he hb dX11_lookingLookers_26 rfl (lv_at hl 1 rfl) ?_
        refine lv_iconst (v := (1 : Int32)) he hb dX11_lookingLookers_27 (by decide) ?_
        refine lv_iload_n he hb dX11_lookingLookers_28 rfl (lv_at hl 2 rfl) ?_
        refine z_ishl he hb dX11_lookingLookers_29 ?_
        refine lv_ior he hb dX11_lookingLookers_30 ?_
        refine lv_istore_n (lv' := [(1, _), (0, _), (2, _)]) he hb dX11_lookingLookers_31 rfl hl (by decide) rfl (fun ls hl => ?_)
        exact gX11_lookingLookers_32 l B ih _ _ _ _ _ _ h hS (lv_sub hl [1, 0, 2] rfl)
def fX11_lookingLookers (N n : Nat) (f : zF) (a0 : Nat) : Option Int32 :=
    (fX11_lookingLookers_4 N n f N a0 (0 : Int32) (0 : Int32))
set_option maxRecDepth 100000 in
set_option maxHeartbeats 4000000 in
theorem mX11_lookingLookers (l : Launch) (G : zG) {N n : Nat} {f : zF} {r : Int32} {a0 : Nat} (h : fX11_lookingLookers N n f a0 = some r) : zM l G yX11_lookingLookers cX11_lookingLookers 3 (some .int) 2 n f [zr G a0] (some (.int r)) f := by
  refine zM.of (by decide) (Nat.le_of_ble_eq_true rfl) ?_
  intro p e s m args below meth c locs ls B hS hl
  have he := B.1
  have hb := B.2.1
  have hl : lv_has ls 3 [(0, zr G a0)] := hl
  unfold fX11_lookingLookers at h
  generalize s.heap = H at hS ⊢
  refine lv_iconst (v := (0 : Int32)) he hb dX11_lookingLookers_0 (by decide) ?_
  refine lv_istore_n (lv' := [(1, _), (0, _)]) he hb dX11_lookingLookers_1 rfl hl (by decide) rfl (fun ls hl => ?_)
  refine lv_iconst (v := (0 : Int32)) he hb dX11_lookingLookers_2 (by decide) ?_
  refine lv_istore_n (lv' := [(2, _), (1, _), (0, _)]) he hb dX11_lookingLookers_3 rfl hl (by decide) rfl (fun ls hl => ?_)
  exact gX11_lookingLookers_4 l B N _ _ _ _ _ _ h hS (lv_sub hl [2, 1, 0] rfl)
theorem dX11_now_0 : decode cX11_now 0 = .ok (.iload_n 1, 1) := by decide +kernel
theorem dX11_now_1 : decode cX11_now 1 = .ok (.tableswitch 66 0 4 #[35, 43, 48, 53, 58], 35) := by decide +kernel
theorem dX11_now_36 : decode cX11_now 36 = .ok (.aload_n 0, 1) := by decide +kernel
theorem dX11_now_37 : decode cX11_now 37 = .ok (.getfield 28, 3) := by decide +kernel
theorem dX11_now_40 : decode cX11_now 40 = .ok (.getfield 205, 3) := by decide +kernel
theorem dX11_now_43 : decode cX11_now 43 = .ok (.ireturn, 1) := by decide +kernel
theorem dX11_now_44 : decode cX11_now 44 = .ok (.aload_n 0, 1) := by decide +kernel
theorem dX11_now_45 : decode cX11_now 45 = .ok (.invokevirtual 208, 3) := by decide +kernel
theorem dX11_now_48 : decode cX11_now 48 = .ok (.ireturn, 1) := by decide +kernel
theorem dX11_now_49 : decode cX11_now 49 = .ok (.aload_n 0, 1) := by decide +kernel
theorem dX11_now_50 : decode cX11_now 50 = .ok (.invokevirtual 211, 3) := by decide +kernel
theorem dX11_now_53 : decode cX11_now 53 = .ok (.ireturn, 1) := by decide +kernel
theorem dX11_now_54 : decode cX11_now 54 = .ok (.aload_n 0, 1) := by decide +kernel
theorem dX11_now_55 : decode cX11_now 55 = .ok (.invokevirtual 214, 3) := by decide +kernel
theorem dX11_now_58 : decode cX11_now 58 = .ok (.ireturn, 1) := by decide +kernel
theorem dX11_now_59 : decode cX11_now 59 = .ok (.aload_n 0, 1) := by decide +kernel
theorem dX11_now_60 : decode cX11_now 60 = .ok (.getfield 28, 3) := by decide +kernel
theorem dX11_now_63 : decode cX11_now 63 = .ok (.invokevirtual 217, 3) := by decide +kernel
theorem dX11_now_66 : decode cX11_now 66 = .ok (.ireturn, 1) := by decide +kernel
theorem dX11_now_67 : decode cX11_now 67 = .ok (.iconst (-1), 1) := by decide +kernel
theorem dX11_now_68 : decode cX11_now 68 = .ok (.ireturn, 1) := by decide +kernel
def fX11_now (N n : Nat) (f : zF) (a0 : Nat) (a1 : Int32) : Option Int32 :=
    (if a1 = (0 : Int32) then ((zgR n f 11 a0 2).bind fun x1 => ((zgI n f 8 x1 1).bind fun x2 => some x2)) else (if a1 = (1 : Int32) then ((zck n f 11 a0).bind fun _ => ((fX11_seenFigures N n f a0).bind fun x3 => some x3)) else (if a1 = (2 : Int32) then ((zck n f 11 a0).bind fun _ => ((fX11_freeFigures N n f a0).bind fun x4 => some x4)) else (if a1 = (3 : Int32) then ((zck n f 11 a0).bind fun _ => ((fX11_lookingLookers N n f a0).bind fun x5 => some x5)) else (if a1 = (4 : Int32) then ((zgR n f 11 a0 2).bind fun x6 => ((zck n f 8 x6).bind fun _ => ((fX8_goneByAll N n f x6).bind fun x7 => some x7))) else some (-1 : Int32))))))
set_option maxRecDepth 100000 in
set_option maxHeartbeats 4000000 in
theorem mX11_now (l : Launch) (G : zG) {N n : Nat} {f : zF} {r : Int32} {a0 : Nat} {a1 : Int32} (h : fX11_now N n f a0 a1 = some r) : zM l G yX11_now cX11_now 2 (some .int) 4 n f [zr G a0, .int a1] (some (.int r)) f := by
  refine zM.of (by decide) (Nat.le_of_ble_eq_true rfl) ?_
  intro p e s m args below meth c locs ls B hS hl
  have he := B.1
  have hb := B.2.1
  have hl : lv_has ls 2 [(0, zr G a0), (1, .int a1)] := hl
  unfold fX11_now at h
  generalize s.heap = H at hS ⊢
  refine lv_iload_n he hb dX11_now_0 rfl (lv_at hl 1 rfl) ?_
  by_cases hc0 : a1 = (0 : Int32)
  · rw [if_pos hc0] at h
    refine lv_tableIn (tgt := 36) he hb dX11_now_1 (by rw [hc0]; decide) (by rw [hc0]; decide) (by rw [hc0]; rfl) (by decide) ?_
    refine z_aload_n he hb dX11_now_36 rfl (lv_at hl 0 rfl) (zref_r _ _) ?_
    obtain ⟨x1, hx, h⟩ := zob h
    refine z_getR (ci := 11) (T := TX11) (N := 14) (j := 2) B hS hx rfl zin_X11 (by decide) zk_510 dX11_now_37 ?_
    obtain ⟨x2, hx, h⟩ := zob h
    refine z_getI (ci := 8) (T := TX8) (N := 9) (j := 1) B hS hx rfl zin_X8 (by decide) zk_253 dX11_now_40 ?_
    obtain rfl := Option.some.inj h
    exact z_iret B hS dX11_now_43
  rw [if_neg hc0] at h
  by_cases hc1 : a1 = (1 : Int32)
  · rw [if_pos hc1] at h
    refine lv_tableIn (tgt := 44) he hb dX11_now_1 (by rw [hc1]; decide) (by rw [hc1]; decide) (by rw [hc1]; rfl) (by decide) ?_
    refine z_aload_n he hb dX11_now_44 rfl (lv_at hl 0 rfl) (zref_r _ _) ?_
    obtain ⟨_, hc, h⟩ := zob h
    obtain ⟨x3, hx, h⟩ := zob h
    refine z_callV (ci := 11) (T := TX11) (N := 14) (rest := []) B hS (mX11_seenFigures l G hx) zy_X11_seenFigures zk_790 (by decide) hc rfl rfl hl rfl (Nat.le_of_ble_eq_true rfl) dX11_now_45 (kk := (fun H locs hS => ?_))
    obtain rfl := Option.some.inj h
    exact z_iret B hS dX11_now_48
  rw [if_neg hc1] at h
  by_cases hc2 : a1 = (2 : Int32)
  · rw [if_pos hc2] at h
    refine lv_tableIn (tgt := 49) he hb dX11_now_1 (by rw [hc2]; decide) (by rw [hc2]; decide) (by rw [hc2]; rfl) (by decide) ?_
    refine z_aload_n he hb dX11_now_49 rfl (lv_at hl 0 rfl) (zref_r _ _) ?_
    obtain ⟨_, hc, h⟩ := zob h
    obtain ⟨x4, hx, h⟩ := zob h
    refine z_callV (ci := 11) (T := TX11) (N := 14) (rest := []) B hS (mX11_freeFigures l G hx) zy_X11_freeFigures zk_799 (by decide) hc rfl rfl hl rfl (Nat.le_of_ble_eq_true rfl) dX11_now_50 (kk := (fun H locs hS => ?_))
    obtain rfl := Option.some.inj h
    exact z_iret B hS dX11_now_53
  rw [if_neg hc2] at h
  by_cases hc3 : a1 = (3 : Int32)
  · rw [if_pos hc3] at h
    refine lv_tableIn (tgt := 54) he hb dX11_now_1 (by rw [hc3]; decide) (by rw [hc3]; decide) (by rw [hc3]; rfl) (by decide) ?_
    refine z_aload_n he hb dX11_now_54 rfl (lv_at hl 0 rfl) (zref_r _ _) ?_
    obtain ⟨_, hc, h⟩ := zob h
    obtain ⟨x5, hx, h⟩ := zob h
    refine z_callV (ci := 11) (T := TX11) (N := 14) (rest := []) B hS (mX11_lookingLookers l G hx) zy_X11_lookingLookers zk_807 (by decide) hc rfl rfl hl rfl (Nat.le_of_ble_eq_true rfl) dX11_now_55 (kk := (fun H locs hS => ?_))
    obtain rfl := Option.some.inj h
    exact z_iret B hS dX11_now_58
  rw [if_neg hc3] at h
  by_cases hc4 : a1 = (4 : Int32)
  · rw [if_pos hc4] at h
    refine lv_tableIn (tgt := 59) he hb dX11_now_1 (by rw [hc4]; decide) (by rw [hc4]; decide) (by rw [hc4]; rfl) (by decide) ?_
    refine z_aload_n he hb dX11_now_59 rfl (lv_at hl 0 rfl) (zref_r _ _) ?_
    obtain ⟨x6, hx, h⟩ := zob h
    refine z_getR (ci := 11) (T := TX11) (N := 14) (j := 2) B hS hx rfl zin_X11 (by decide) zk_510 dX11_now_60 ?_
    obtain ⟨_, hc, h⟩ := zob h
    obtain ⟨x7, hx, h⟩ := zob h
    refine z_callV (ci := 8) (T := TX8) (N := 9) (rest := []) B hS (mX8_goneByAll l G hx) zy_X8_goneByAll zk_811 (by decide) hc rfl rfl hl rfl (Nat.le_of_ble_eq_true rfl) dX11_now_63 (kk := (fun H locs hS => ?_))
    obtain rfl := Option.some.inj h
    exact z_iret B hS dX11_now_66
  rw [if_neg hc4] at h
  refine lv_tableOut (tgt := 67) he hb dX11_now_1 ?_ (by decide) ?_
  · have h0 := lv_neT hc0 (a := 0) rfl; have h1 := lv_neT hc1 (a := 1) rfl; have h2 := lv_neT hc2 (a := 2) rfl; have h3 := lv_neT hc3 (a := 3) rfl; have h4 := lv_neT hc4 (a := 4) rfl; omega
  · skip
    refine lv_iconst (v := (-1 : Int32)) he hb dX11_now_67 (by decide) ?_
    obtain rfl := Option.some.inj h
    exact z_iret B hS dX11_now_68
theorem dX11_land_0 : decode cX11_land 0 = .ok (.iload_n 1, 1) := by decide +kernel
theorem dX11_land_1 : decode cX11_land 1 = .ok (.ifCond .lt 14, 3) := by decide +kernel
theorem dX11_land_4 : decode cX11_land 4 = .ok (.iload_n 1, 1) := by decide +kernel
theorem dX11_land_5 : decode cX11_land 5 = .ok (.aload_n 0, 1) := by decide +kernel
theorem dX11_land_6 : decode cX11_land 6 = .ok (.getfield 19, 3) := by decide +kernel
theorem dX11_land_9 : decode cX11_land 9 = .ok (.getfield 226, 3) := by decide +kernel
theorem dX11_land_12 : decode cX11_land 12 = .ok (.if_icmp .lt 7, 3) := by decide +kernel
theorem dX11_land_15 : decode cX11_land 15 = .ok (.iconst (-1), 1) := by decide +kernel
theorem dX11_land_16 : decode cX11_land 16 = .ok (.goto 11, 3) := by decide +kernel
theorem dX11_land_19 : decode cX11_land 19 = .ok (.aload_n 0, 1) := by decide +kernel
theorem dX11_land_20 : decode cX11_land 20 = .ok (.getfield 28, 3) := by decide +kernel
theorem dX11_land_23 : decode cX11_land 23 = .ok (.iload_n 1, 1) := by decide +kernel
theorem dX11_land_24 : decode cX11_land 24 = .ok (.invokevirtual 229, 3) := by decide +kernel
theorem dX11_land_27 : decode cX11_land 27 = .ok (.ireturn, 1) := by decide +kernel
def fX11_land (N n : Nat) (f : zF) (a0 : Nat) (a1 : Int32) : Option Int32 :=
    (if a1 < 0 then some (-1 : Int32) else ((zgR n f 11 a0 1).bind fun x1 => ((zgI n f 2 x1 2).bind fun x2 => (if a1 < x2 then ((zgR n f 11 a0 2).bind fun x3 => ((zck n f 8 x3).bind fun _ => ((fX8_landOf N n f x3 a1).bind fun x4 => some x4))) else some (-1 : Int32)))))
set_option maxRecDepth 100000 in
set_option maxHeartbeats 4000000 in
theorem mX11_land (l : Launch) (G : zG) {N n : Nat} {f : zF} {r : Int32} {a0 : Nat} {a1 : Int32} (h : fX11_land N n f a0 a1 = some r) : zM l G yX11_land cX11_land 2 (some .int) 1 n f [zr G a0, .int a1] (some (.int r)) f := by
  refine zM.of (by decide) (Nat.le_of_ble_eq_true rfl) ?_
  intro p e s m args below meth c locs ls B hS hl
  have he := B.1
  have hb := B.2.1
  have hl : lv_has ls 2 [(0, zr G a0), (1, .int a1)] := hl
  unfold fX11_land at h
  generalize s.heap = H at hS ⊢
  refine lv_iload_n he hb dX11_land_0 rfl (lv_at hl 1 rfl) ?_
  refine lv_if_lt (tgt := 15) he hb dX11_land_1 (by decide) (fun hc => ?_) (fun hc => ?_)
  · rw [if_pos hc] at h
    refine lv_iconst (v := (-1 : Int32)) he hb dX11_land_15 (by decide) ?_
    refine lv_goto (tgt := 27) he hb dX11_land_16 (by decide) ?_
    obtain rfl := Option.some.inj h
    exact z_iret B hS dX11_land_27
  · rw [if_neg hc] at h
    refine lv_iload_n he hb dX11_land_4 rfl (lv_at hl 1 rfl) ?_
    refine z_aload_n he hb dX11_land_5 rfl (lv_at hl 0 rfl) (zref_r _ _) ?_
    obtain ⟨x1, hx, h⟩ := zob h
    refine z_getR (ci := 11) (T := TX11) (N := 14) (j := 1) B hS hx rfl zin_X11 (by decide) zk_509 dX11_land_6 ?_
    obtain ⟨x2, hx, h⟩ := zob h
    refine z_getI (ci := 2) (T := TX2) (N := 15) (j := 2) B hS hx rfl zin_X2 (by decide) zk_162 dX11_land_9 ?_
    refine lv_icmp_lt (tgt := 19) he hb dX11_land_12 (by decide) (fun hc => ?_) (fun hc => ?_)
    · rw [if_pos hc] at h
      refine z_aload_n he hb dX11_land_19 rfl (lv_at hl 0 rfl) (zref_r _ _) ?_
      obtain ⟨x3, hx, h⟩ := zob h
      refine z_getR (ci := 11) (T := TX11) (N := 14) (j := 2) B hS hx rfl zin_X11 (by decide) zk_510 dX11_land_20 ?_
      refine lv_iload_n he hb dX11_land_23 rfl (lv_at hl 1 rfl) ?_
      obtain ⟨_, hc, h⟩ := zob h
      obtain ⟨x4, hx, h⟩ := zob h
      refine z_callV (ci := 8) (T := TX8) (N := 9) (rest := []) B hS (mX8_landOf l G hx) zy_X8_landOf zk_819 (by decide) hc rfl rfl hl rfl (Nat.le_of_ble_eq_true rfl) dX11_land_24 (kk := (fun H locs hS => ?_))
      obtain rfl := Option.some.inj h
      exact z_iret B hS dX11_land_27
    · rw [if_neg hc] at h
      refine lv_iconst (v := (-1 : Int32)) he hb dX11_land_15 (by decide) ?_
      refine lv_goto (tgt := 27) he hb dX11_land_16 (by decide) ?_
      obtain rfl := Option.some.inj h
      exact z_iret B hS dX11_land_27
theorem dX11_keepIfDone_0 : decode cX11_keepIfDone 0 = .ok (.iload_n 1, 1) := by decide +kernel
theorem dX11_keepIfDone_1 : decode cX11_keepIfDone 1 = .ok (.ifCond .ne 10, 3) := by decide +kernel
theorem dX11_keepIfDone_4 : decode cX11_keepIfDone 4 = .ok (.aload_n 0, 1) := by decide +kernel
theorem dX11_keepIfDone_5 : decode cX11_keepIfDone 5 = .ok (.getfield 70, 3) := by decide +kernel
theorem dX11_keepIfDone_8 : decode cX11_keepIfDone 8 = .ok (.invokevirtual 253, 3) := by decide +kernel
theorem dX11_keepIfDone_11 : decode cX11_keepIfDone 11 = .ok (.iload_n 1, 1) := by decide +kernel
theorem dX11_keepIfDone_12 : decode cX11_keepIfDone 12 = .ok (.ireturn, 1) := by decide +kernel
def fX11_keepIfDone (N n : Nat) (f : zF) (a0 : Nat) (a1 : Int32) : Option (zF × Int32) :=
    (if a1 = 0 then ((zgR n f 11 a0 8).bind fun x1 => ((zck n f 10 x1).bind fun _ => ((fX10_keep N n f x1).bind fun f2 => some (f2, a1)))) else some (f, a1))
set_option maxRecDepth 100000 in
set_option maxHeartbeats 4000000 in
theorem mX11_keepIfDone (l : Launch) (G : zG) {N n : Nat} {f : zF} {f9 : zF} {r : Int32} {a0 : Nat} {a1 : Int32} (h : fX11_keepIfDone N n f a0 a1 = some (f9, r)) : zM l G yX11_keepIfDone cX11_keepIfDone 2 (some .int) 2 n f [zr G a0, .int a1] (some (.int r)) f9 := by
  refine zM.of (by decide) (Nat.le_of_ble_eq_true rfl) ?_
  intro p e s m args below meth c locs ls B hS hl
  have he := B.1
  have hb := B.2.1
  have hl : lv_has ls 2 [(0, zr G a0), (1, .int a1)] := hl
  unfold fX11_keepIfDone at h
  generalize s.heap = H at hS ⊢
  refine lv_iload_n he hb dX11_keepIfDone_0 rfl (lv_at hl 1 rfl) ?_
  refine lv_if_ne (tgt := 11) he hb dX11_keepIfDone_1 (by decide) (fun hc => ?_) (fun hc => ?_)
  · rw [if_neg hc] at h
    refine lv_iload_n he hb dX11_keepIfDone_11 rfl (lv_at hl 1 rfl) ?_
    obtain ⟨rfl, rfl⟩ := Prod.mk.inj (Option.some.inj h)
    exact z_iret B hS dX11_keepIfDone_12
  · rw [if_pos hc] at h
    refine z_aload_n he hb dX11_keepIfDone_4 rfl (lv_at hl 0 rfl) (zref_r _ _) ?_
    obtain ⟨x1, hx, h⟩ := zob h
    refine z_getR (ci := 11) (T := TX11) (N := 14) (j := 8) B hS hx rfl zin_X11 (by decide) zk_516 dX11_keepIfDone_5 ?_
    obtain ⟨_, hc, h⟩ := zob h
    obtain ⟨f2, hx, h⟩ := zob h
    refine z_callV (ci := 10) (T := TX10) (N := 3) (rest := []) B hS (mX10_keep l G hx) zy_X10_keep zk_842 (by decide) hc rfl rfl hl rfl (Nat.le_of_ble_eq_true rfl) dX11_keepIfDone_8 (kk := (fun H locs hS => ?_))
    refine lv_iload_n he hb dX11_keepIfDone_11 rfl (lv_at hl 1 rfl) ?_
    obtain ⟨rfl, rfl⟩ := Prod.mk.inj (Option.some.inj h)
    exact z_iret B hS dX11_keepIfDone_12
theorem dX11_turn_0 : decode cX11_turn 0 = .ok (.aload_n 0, 1) := by decide +kernel
theorem dX11_turn_1 : decode cX11_turn 1 = .ok (.getfield 19, 3) := by decide +kernel
theorem dX11_turn_4 : decode cX11_turn 4 = .ok (.iload_n 1, 1) := by decide +kernel
theorem dX11_turn_5 : decode cX11_turn 5 = .ok (.invokevirtual 170, 3) := by decide +kernel
theorem dX11_turn_8 : decode cX11_turn 8 = .ok (.ifCond .eq 10, 3) := by decide +kernel
theorem dX11_turn_11 : decode cX11_turn 11 = .ok (.iload_n 2, 1) := by decide +kernel
theorem dX11_turn_12 : decode cX11_turn 12 = .ok (.invokestatic 232, 3) := by decide +kernel
theorem dX11_turn_15 : decode cX11_turn 15 = .ok (.ifCond .ne 5, 3) := by decide +kernel
theorem dX11_turn_18 : decode cX11_turn 18 = .ok (.iconst (-1), 1) := by decide +kernel
theorem dX11_turn_19 : decode cX11_turn 19 = .ok (.ireturn, 1) := by decide +kernel
theorem dX11_turn_20 : decode cX11_turn 20 = .ok (.aload_n 0, 1) := by decide +kernel
theorem dX11_turn_21 : decode cX11_turn 21 = .ok (.getfield 70, 3) := by decide +kernel
theorem dX11_turn_24 : decode cX11_turn 24 = .ok (.aload_n 0, 1) := by decide +kernel
theorem dX11_turn_25 : decode cX11_turn 25 = .ok (.getfield 28, 3) := by decide +kernel
theorem dX11_turn_28 : decode cX11_turn 28 = .ok (.invokevirtual 235, 3) := by decide +kernel
theorem dX11_turn_31 : decode cX11_turn 31 = .ok (.aload_n 0, 1) := by decide +kernel
theorem dX11_turn_32 : decode cX11_turn 32 = .ok (.aload_n 0, 1) := by decide +kernel
theorem dX11_turn_33 : decode cX11_turn 33 = .ok (.getfield 28, 3) := by decide +kernel
theorem dX11_turn_36 : decode cX11_turn 36 = .ok (.iload_n 1, 1) := by decide +kernel
theorem dX11_turn_37 : decode cX11_turn 37 = .ok (.iload_n 2, 1) := by decide +kernel
theorem dX11_turn_38 : decode cX11_turn 38 = .ok (.invokevirtual 238, 3) := by decide +kernel
theorem dX11_turn_41 : decode cX11_turn 41 = .ok (.invokevirtual 241, 3) := by decide +kernel
theorem dX11_turn_44 : decode cX11_turn 44 = .ok (.ireturn, 1) := by decide +kernel
def fX11_turn (N n : Nat) (f : zF) (a0 : Nat) (a1 : Int32) (a2 : Int32) : Option (zF × Int32) :=
    ((zgR n f 11 a0 1).bind fun x1 => ((zck n f 2 x1).bind fun _ => ((fX2_hasLooker N n f x1 a1).bind fun x2 => (if x2 = 0 then some (f, (-1 : Int32)) else ((fX11_isSide N n f a2).bind fun x3 => (if x3 = 0 then some (f, (-1 : Int32)) else ((zgR n f 11 a0 8).bind fun x4 => ((zgR n f 11 a0 2).bind fun x5 => ((zck n f 10 x4).bind fun _ => ((fX10_hold N n f x4 x5).bind fun f6 => ((zgR n f6 11 a0 2).bind fun x7 => ((zck n f6 8 x7).bind fun _ => (zbd (fX8_turnTo N n f6 x7 a1 a2) fun f9 x8 => ((zck n f9 11 a0).bind fun _ => (zbd (fX11_keepIfDone N n f9 a0 x8) fun f11 x10 => some (f11, x10))))))))))))))))
set_option maxRecDepth 100000 in
set_option maxHeartbeats 4000000 in
theorem mX11_turn (l : Launch) (G : zG) {N n : Nat} {f : zF} {f9 : zF} {r : Int32} {a0 : Nat} {a1 : Int32} {a2 : Int32} (h : fX11_turn N n f a0 a1 a2 = some (f9, r)) : zM l G yX11_turn cX11_turn 3 (some .int) 4 n f [zr G a0, .int a1, .int a2] (some (.int r)) f9 := by
  refine zM.of (by decide) (Nat.le_of_ble_eq_true rfl) ?_
  intro p e s m args below meth c locs ls B hS hl
  have he := B.1
  have hb := B.2.1
  have hl : lv_has ls 3 [(0, zr G a0), (1, .int a1), (2, .int a2)] := hl
  unfold fX11_turn at h
  generalize s.heap = H at hS ⊢
  refine z_aload_n he hb dX11_turn_0 rfl (lv_at hl 0 rfl) (zref_r _ _) ?_
  obtain ⟨x1, hx, h⟩ := zob h
  refine z_getR (ci := 11) (T := TX11) (N := 14) (j := 1) B hS hx rfl zin_X11 (by decide) zk_509 dX11_turn_1 ?_
  refine lv_iload_n he hb dX11_turn_4 rfl (lv_at hl 1 rfl) ?_
  obtain ⟨_, hc, h⟩ := zob h
  obtain ⟨x2, hx, h⟩ := zob h
  refine z_callV (ci := 2) (T := TX2) (N := 15) (rest := []) B hS (mX2_hasLooker l G hx) zy_X2_hasLooker zk_751 (by decide) hc rfl rfl hl rfl (Nat.le_of_ble_eq_true rfl) dX11_turn_5 (kk := (fun H locs hS => ?_))
  refine lv_if_eq (tgt := 18) he hb dX11_turn_8 (by decide) (fun hc => ?_) (fun hc => ?_)
  · rw [if_pos hc] at h
    refine lv_iconst (v := (-1 : Int32)) he hb dX11_turn_18 (by decide) ?_
    obtain ⟨rfl, rfl⟩ := Prod.mk.inj (Option.some.inj h)
    exact z_iret B hS dX11_turn_19
  · rw [if_neg hc] at h
    refine lv_iload_n he hb dX11_turn_11 rfl (lv_at hl 2 rfl) ?_
    obtain ⟨x3, hx, h⟩ := zob h
    refine z_callS (rest := []) B hS (mX11_isSide l G hx) zy_X11_isSide zk_824 (by decide) rfl hl rfl (Nat.le_of_ble_eq_true rfl) dX11_turn_12 (kk := (fun H locs hS => ?_))
    refine lv_if_ne (tgt := 20) he hb dX11_turn_15 (by decide) (fun hc => ?_) (fun hc => ?_)
    · rw [if_neg hc] at h
      refine z_aload_n he hb dX11_turn_20 rfl (lv_at hl 0 rfl) (zref_r _ _) ?_
      obtain ⟨x4, hx, h⟩ := zob h
      refine z_getR (ci := 11) (T := TX11) (N := 14) (j := 8) B hS hx rfl zin_X11 (by decide) zk_516 dX11_turn_21 ?_
      refine z_aload_n he hb dX11_turn_24 rfl (lv_at hl 0 rfl) (zref_r _ _) ?_
      obtain ⟨x5, hx, h⟩ := zob h
      refine z_getR (ci := 11) (T := TX11) (N := 14) (j := 2) B hS hx rfl zin_X11 (by decide) zk_510 dX11_turn_25 ?_
      obtain ⟨_, hc, h⟩ := zob h
      obtain ⟨f6, hx, h⟩ := zob h
      refine z_callV (ci := 10) (T := TX10) (N := 3) (rest := []) B hS (mX10_hold l G hx) zy_X10_hold zk_825 (by decide) hc rfl rfl hl rfl (Nat.le_of_ble_eq_true rfl) dX11_turn_28 (kk := (fun H locs hS => ?_))
      refine z_aload_n he hb dX11_turn_31 rfl (lv_at hl 0 rfl) (zref_r _ _) ?_
      refine z_aload_n he hb dX11_turn_32 rfl (lv_at hl 0 rfl) (zref_r _ _) ?_
      obtain ⟨x7, hx, h⟩ := zob h
      refine z_getR (ci := 11) (T := TX11) (N := 14) (j := 2) B hS hx rfl zin_X11 (by decide) zk_510 dX11_turn_33 ?_
      refine lv_iload_n he hb dX11_turn_36 rfl (lv_at hl 1 rfl) ?_
      refine lv_iload_n he hb dX11_turn_37 rfl (lv_at hl 2 rfl) ?_
      obtain ⟨_, hc, h⟩ := zob h
      obtain ⟨f9, x8, hx, h⟩ := zbd_i h
      refine z_callV (ci := 8) (T := TX8) (N := 9) (rest := [_]) B hS (mX8_turnTo l G hx) zy_X8_turnTo zk_834 (by decide) hc rfl rfl hl rfl (Nat.le_of_ble_eq_true rfl) dX11_turn_38 (kk := (fun H locs hS => ?_))
      obtain ⟨_, hc, h⟩ := zob h
      obtain ⟨f11, x10, hx, h⟩ := zbd_i h
      refine z_callV (ci := 11) (T := TX11) (N := 14) (rest := []) B hS (mX11_keepIfDone l G hx) zy_X11_keepIfDone zk_838 (by decide) hc rfl rfl hl rfl (Nat.le_of_ble_eq_true rfl) dX11_turn_41 (kk := (fun H locs hS => ?_))
      obtain ⟨rfl, rfl⟩ := Prod.mk.inj (Option.some.inj h)
      exact z_iret B hS dX11_turn_44
    · rw [if_pos hc] at h
      refine lv_iconst (v := (-1 : Int32)) he hb dX11_turn_18 (by decide) ?_
      obtain ⟨rfl, rfl⟩ := Prod.mk.inj (Option.some.inj h)
      exact z_iret B hS dX11_turn_19
theorem dX11_walk_0 : decode cX11_walk 0 = .ok (.aload_n 0, 1) := by decide +kernel
theorem dX11_walk_1 : decode cX11_walk 1 = .ok (.getfield 19, 3) := by decide +kernel
theorem dX11_walk_4 : decode cX11_walk 4 = .ok (.iload_n 1, 1) := by decide +kernel
theorem dX11_walk_5 : decode cX11_walk 5 = .ok (.invokevirtual 170, 3) := by decide +kernel
theorem dX11_walk_8 : decode cX11_walk 8 = .ok (.ifCond .eq 10, 3) := by decide +kernel
theorem dX11_walk_11 : decode cX11_walk 11 = .ok (.iload_n 2, 1) := by decide +kernel
theorem dX11_walk_12 : decode cX11_walk 12 = .ok (.invokestatic 232, 3) := by decide +kernel
theorem dX11_walk_15 : decode cX11_walk 15 = .ok (.ifCond .ne 5, 3) := by decide +kernel
theorem dX11_walk_18 : decode cX11_walk 18 = .ok (.iconst (-1), 1) := by decide +kernel
theorem dX11_walk_19 : decode cX11_walk 19 = .ok (.ireturn, 1) := by decide +kernel
theorem dX11_walk_20 : decode cX11_walk 20 = .ok (.aload_n 0, 1) := by decide +kernel
theorem dX11_walk_21 : decode cX11_walk 21 = .ok (.getfield 70, 3) := by decide +kernel
theorem dX11_walk_24 : decode cX11_walk 24 = .ok (.aload_n 0, 1) := by decide +kernel
theorem dX11_walk_25 : decode cX11_walk 25 = .ok (.getfield 28, 3) := by decide +kernel
theorem dX11_walk_28 : decode cX11_walk 28 = .ok (.invokevirtual 235, 3) := by decide +kernel
theorem dX11_walk_31 : decode cX11_walk 31 = .ok (.aload_n 0, 1) := by decide +kernel
theorem dX11_walk_32 : decode cX11_walk 32 = .ok (.aload_n 0, 1) := by decide +kernel
theorem dX11_walk_33 : decode cX11_walk 33 = .ok (.getfield 28, 3) := by decide +kernel
theorem dX11_walk_36 : decode cX11_walk 36 = .ok (.iload_n 1, 1) := by decide +kernel
theorem dX11_walk_37 : decode cX11_walk 37 = .ok (.iload_n 2, 1) := by decide +kernel
theorem dX11_walk_38 : decode cX11_walk 38 = .ok (.invokevirtual 244, 3) := by decide +kernel
theorem dX11_walk_41 : decode cX11_walk 41 = .ok (.invokevirtual 241, 3) := by decide +kernel
theorem dX11_walk_44 : decode cX11_walk 44 = .ok (.ireturn, 1) := by decide +kernel
def fX11_walk (N n : Nat) (f : zF) (a0 : Nat) (a1 : Int32) (a2 : Int32) : Option (zF × Int32) :=
    ((zgR n f 11 a0 1).bind fun x1 => ((zck n f 2 x1).bind fun _ => ((fX2_hasLooker N n f x1 a1).bind fun x2 => (if x2 = 0 then some (f, (-1 : Int32)) else ((fX11_isSide N n f a2).bind fun x3 => (if x3 = 0 then some (f, (-1 : Int32)) else ((zgR n f 11 a0 8).bind fun x4 => ((zgR n f 11 a0 2).bind fun x5 => ((zck n f 10 x4).bind fun _ => ((fX10_hold N n f x4 x5).bind fun f6 => ((zgR n f6 11 a0 2).bind fun x7 => ((zck n f6 8 x7).bind fun _ => (zbd (fX8_walkTo N n f6 x7 a1 a2) fun f9 x8 => ((zck n f9 11 a0).bind fun _ => (zbd (fX11_keepIfDone N n f9 a0 x8) fun f11 x10 => some (f11, x10))))))))))))))))
set_option maxRecDepth 100000 in
set_option maxHeartbeats 4000000 in
theorem mX11_walk (l : Launch) (G : zG) {N n : Nat} {f : zF} {f9 : zF} {r : Int32} {a0 : Nat} {a1 : Int32} {a2 : Int32} (h : fX11_walk N n f a0 a1 a2 = some (f9, r)) : zM l G yX11_walk cX11_walk 3 (some .int) 4 n f [zr G a0, .int a1, .int a2] (some (.int r)) f9 := by
  refine zM.of (by decide) (Nat.le_of_ble_eq_true rfl) ?_
  intro p e s m args below meth c locs ls B hS hl
  have he := B.1
  have hb := B.2.1
  have hl : lv_has ls 3 [(0, zr G a0), (1, .int a1), (2, .int a2)] := hl
  unfold fX11_walk at h
  generalize s.heap = H at hS ⊢
  refine z_aload_n he hb dX11_walk_0 rfl (lv_at hl 0 rfl) (zref_r _ _) ?_
  obtain ⟨x1, hx, h⟩ := zob h
  refine z_getR (ci := 11) (T := TX11) (N := 14) (j := 1) B hS hx rfl zin_X11 (by decide) zk_509 dX11_walk_1 ?_
  refine lv_iload_n he hb dX11_walk_4 rfl (lv_at hl 1 rfl) ?_
  obtain ⟨_, hc, h⟩ := zob h
  obtain ⟨x2, hx, h⟩ := zob h
  refine z_callV (ci := 2) (T := TX2) (N := 15) (rest := []) B hS (mX2_hasLooker l G hx) zy_X2_hasLooker zk_751 (by decide) hc rfl rfl hl rfl (Nat.le_of_ble_eq_true rfl) dX11_walk_5 (kk := (fun H locs hS => ?_))
  refine lv_if_eq (tgt := 18) he hb dX11_walk_8 (by decide) (fun hc => ?_) (fun hc => ?_)
  · rw [if_pos hc] at h
    refine lv_iconst (v := (-1 : Int32)) he hb dX11_walk_18 (by decide) ?_
    obtain ⟨rfl, rfl⟩ := Prod.mk.inj (Option.some.inj h)
    exact z_iret B hS dX11_walk_19
  · rw [if_neg hc] at h
    refine lv_iload_n he hb dX11_walk_11 rfl (lv_at hl 2 rfl) ?_
    obtain ⟨x3, hx, h⟩ := zob h
    refine z_callS (rest := []) B hS (mX11_isSide l G hx) zy_X11_isSide zk_824 (by decide) rfl hl rfl (Nat.le_of_ble_eq_true rfl) dX11_walk_12 (kk := (fun H locs hS => ?_))
    refine lv_if_ne (tgt := 20) he hb dX11_walk_15 (by decide) (fun hc => ?_) (fun hc => ?_)
    · rw [if_neg hc] at h
      refine z_aload_n he hb dX11_walk_20 rfl (lv_at hl 0 rfl) (zref_r _ _) ?_
      obtain ⟨x4, hx, h⟩ := zob h
      refine z_getR (ci := 11) (T := TX11) (N := 14) (j := 8) B hS hx rfl zin_X11 (by decide) zk_516 dX11_walk_21 ?_
      refine z_aload_n he hb dX11_walk_24 rfl (lv_at hl 0 rfl) (zref_r _ _) ?_
      obtain ⟨x5, hx, h⟩ := zob h
      refine z_getR (ci := 11) (T := TX11) (N := 14) (j := 2) B hS hx rfl zin_X11 (by decide) zk_510 dX11_walk_25 ?_
      obtain ⟨_, hc, h⟩ := zob h
      obtain ⟨f6, hx, h⟩ := zob h
      refine z_callV (ci := 10) (T := TX10) (N := 3) (rest := []) B hS (mX10_hold l G hx) zy_X10_hold zk_825 (by decide) hc rfl rfl hl rfl (Nat.le_of_ble_eq_true rfl) dX11_walk_28 (kk := (fun H locs hS => ?_))
      refine z_aload_n he hb dX11_walk_31 rfl (lv_at hl 0 rfl) (zref_r _ _) ?_
      refine z_aload_n he hb dX11_walk_32 rfl (lv_at hl 0 rfl) (zref_r _ _) ?_
      obtain ⟨x7, hx, h⟩ := zob h
      refine z_getR (ci := 11) (T := TX11) (N := 14) (j := 2) B hS hx rfl zin_X11 (by decide) zk_510 dX11_walk_33 ?_
      refine lv_iload_n he hb dX11_walk_36 rfl (lv_at hl 1 rfl) ?_
      refine lv_iload_n he hb dX11_walk_37 rfl (lv_at hl 2 rfl) ?_
      obtain ⟨_, hc, h⟩ := zob h
      obtain ⟨f9, x8, hx, h⟩ := zbd_i h
      refine z_callV (ci := 8) (T := TX8) (N := 9) (rest := [_]) B hS (mX8_walkTo l G hx) zy_X8_walkTo zk_851 (by decide) hc rfl rfl hl rfl (Nat.le_of_ble_eq_true rfl) dX11_walk_38 (kk := (fun H locs hS => ?_))
      obtain ⟨_, hc, h⟩ := zob h
      obtain ⟨f11, x10, hx, h⟩ := zbd_i h
      refine z_callV (ci := 11) (T := TX11) (N := 14) (rest := []) B hS (mX11_keepIfDone l G hx) zy_X11_keepIfDone zk_838 (by decide) hc rfl rfl hl rfl (Nat.le_of_ble_eq_true rfl) dX11_walk_41 (kk := (fun H locs hS => ?_))
      obtain ⟨rfl, rfl⟩ := Prod.mk.inj (Option.some.inj h)
      exact z_iret B hS dX11_walk_44
    · rw [if_pos hc] at h
      refine lv_iconst (v := (-1 : Int32)) he hb dX11_walk_18 (by decide) ?_
      obtain ⟨rfl, rfl⟩ := Prod.mk.inj (Option.some.inj h)
      exact z_iret B hS dX11_walk_19
theorem dX11_shut_0 : decode cX11_shut 0 = .ok (.aload_n 0, 1) := by decide +kernel
theorem dX11_shut_1 : decode cX11_shut 1 = .ok (.getfield 19, 3) := by decide +kernel
theorem dX11_shut_4 : decode cX11_shut 4 = .ok (.iload_n 1, 1) := by decide +kernel
theorem dX11_shut_5 : decode cX11_shut 5 = .ok (.invokevirtual 170, 3) := by decide +kernel
theorem dX11_shut_8 : decode cX11_shut 8 = .ok (.ifCond .ne 5, 3) := by decide +kernel
theorem dX11_shut_11 : decode cX11_shut 11 = .ok (.iconst (-1), 1) := by decide +kernel
theorem dX11_shut_12 : decode cX11_shut 12 = .ok (.ireturn, 1) := by decide +kernel
theorem dX11_shut_13 : decode cX11_shut 13 = .ok (.aload_n 0, 1) := by decide +kernel
theorem dX11_shut_14 : decode cX11_shut 14 = .ok (.getfield 70, 3) := by decide +kernel
theorem dX11_shut_17 : decode cX11_shut 17 = .ok (.aload_n 0, 1) := by decide +kernel
theorem dX11_shut_18 : decode cX11_shut 18 = .ok (.getfield 28, 3) := by decide +kernel
theorem dX11_shut_21 : decode cX11_shut 21 = .ok (.invokevirtual 235, 3) := by decide +kernel
theorem dX11_shut_24 : decode cX11_shut 24 = .ok (.aload_n 0, 1) := by decide +kernel
theorem dX11_shut_25 : decode cX11_shut 25 = .ok (.aload_n 0, 1) := by decide +kernel
theorem dX11_shut_26 : decode cX11_shut 26 = .ok (.getfield 28, 3) := by decide +kernel
theorem dX11_shut_29 : decode cX11_shut 29 = .ok (.iload_n 1, 1) := by decide +kernel
theorem dX11_shut_30 : decode cX11_shut 30 = .ok (.iconst 1, 1) := by decide +kernel
theorem dX11_shut_31 : decode cX11_shut 31 = .ok (.invokevirtual 247, 3) := by decide +kernel
theorem dX11_shut_34 : decode cX11_shut 34 = .ok (.invokevirtual 241, 3) := by decide +kernel
theorem dX11_shut_37 : decode cX11_shut 37 = .ok (.ireturn, 1) := by decide +kernel
def fX11_shut (N n : Nat) (f : zF) (a0 : Nat) (a1 : Int32) : Option (zF × Int32) :=
    ((zgR n f 11 a0 1).bind fun x1 => ((zck n f 2 x1).bind fun _ => ((fX2_hasLooker N n f x1 a1).bind fun x2 => (if x2 = 0 then some (f, (-1 : Int32)) else ((zgR n f 11 a0 8).bind fun x3 => ((zgR n f 11 a0 2).bind fun x4 => ((zck n f 10 x3).bind fun _ => ((fX10_hold N n f x3 x4).bind fun f5 => ((zgR n f5 11 a0 2).bind fun x6 => ((zck n f5 8 x6).bind fun _ => (zbd (fX8_setEyes N n f5 x6 a1 (1 : Int32)) fun f8 x7 => ((zck n f8 11 a0).bind fun _ => (zbd (fX11_keepIfDone N n f8 a0 x7) fun f10 x9 => some (f10, x9))))))))))))))
set_option maxRecDepth 100000 in
set_option maxHeartbeats 4000000 in
theorem mX11_shut (l : Launch) (G : zG) {N n : Nat} {f : zF} {f9 : zF} {r : Int32} {a0 : Nat} {a1 : Int32} (h : fX11_shut N n f a0 a1 = some (f9, r)) : zM l G yX11_shut cX11_shut 2 (some .int) 4 n f [zr G a0, .int a1] (some (.int r)) f9 := by
  refine zM.of (by decide) (Nat.le_of_ble_eq_true rfl) ?_
  intro p e s m args below meth c locs ls B hS hl
  have he := B.1
  have hb := B.2.1
  have hl : lv_has ls 2 [(0, zr G a0), (1, .int a1)] := hl
  unfold fX11_shut at h
  generalize s.heap = H at hS ⊢
  refine z_aload_n he hb dX11_shut_0 rfl (lv_at hl 0 rfl) (zref_r _ _) ?_
  obtain ⟨x1, hx, h⟩ := zob h
  refine z_getR (ci := 11) (T := TX11) (N := 14) (j := 1) B hS hx rfl zin_X11 (by decide) zk_509 dX11_shut_1 ?_
  refine lv_iload_n he hb dX11_shut_4 rfl (lv_at hl 1 rfl) ?_
  obtain ⟨_, hc, h⟩ := zob h
  obtain ⟨x2, hx, h⟩ := zob h
  refine z_callV (ci := 2) (T := TX2) (N := 15) (rest := []) B hS (mX2_hasLooker l G hx) zy_X2_hasLooker zk_751 (by decide) hc rfl rfl hl rfl (Nat.le_of_ble_eq_true rfl) dX11_shut_5 (kk := (fun H locs hS => ?_))
  refine lv_if_ne (tgt := 13) he hb dX11_shut_8 (by decide) (fun hc => ?_) (fun hc => ?_)
  · rw [if_neg hc] at h
    refine z_aload_n he hb dX11_shut_13 rfl (lv_at hl 0 rfl) (zref_r _ _) ?_
    obtain ⟨x3, hx, h⟩ := zob h
    refine z_getR (ci := 11) (T := TX11) (N := 14) (j := 8) B hS hx rfl zin_X11 (by decide) zk_516 dX11_shut_14 ?_
    refine z_aload_n he hb dX11_shut_17 rfl (lv_at hl 0 rfl) (zref_r _ _) ?_
    obtain ⟨x4, hx, h⟩ := zob h
    refine z_getR (ci := 11) (T := TX11) (N := 14) (j := 2) B hS hx rfl zin_X11 (by decide) zk_510 dX11_shut_18 ?_
    obtain ⟨_, hc, h⟩ := zob h
    obtain ⟨f5, hx, h⟩ := zob h
    refine z_callV (ci := 10) (T := TX10) (N := 3) (rest := []) B hS (mX10_hold l G hx) zy_X10_hold zk_825 (by decide) hc rfl rfl hl rfl (Nat.le_of_ble_eq_true rfl) dX11_shut_21 (kk := (fun H locs hS => ?_))
    refine z_aload_n he hb dX11_shut_24 rfl (lv_at hl 0 rfl) (zref_r _ _) ?_
    refine z_aload_n he hb dX11_shut_25 rfl (lv_at hl 0 rfl) (zref_r _ _) ?_
    obtain ⟨x6, hx, h⟩ := zob h
    refine z_getR (ci := 11) (T := TX11) (N := 14) (j := 2) B hS hx rfl zin_X11 (by decide) zk_510 dX11_shut_26 ?_
    refine lv_iload_n he hb dX11_shut_29 rfl (lv_at hl 1 rfl) ?_
    refine lv_iconst (v := (1 : Int32)) he hb dX11_shut_30 (by decide) ?_
    obtain ⟨_, hc, h⟩ := zob h
    obtain ⟨f8, x7, hx, h⟩ := zbd_i h
    refine z_callV (ci := 8) (T := TX8) (N := 9) (rest := [_]) B hS (mX8_setEyes l G hx) zy_X8_setEyes zk_860 (by decide) hc rfl rfl hl rfl (Nat.le_of_ble_eq_true rfl) dX11_shut_31 (kk := (fun H locs hS => ?_))
    obtain ⟨_, hc, h⟩ := zob h
    obtain ⟨f10, x9, hx, h⟩ := zbd_i h
    refine z_callV (ci := 11) (T := TX11) (N := 14) (rest := []) B hS (mX11_keepIfDone l G hx) zy_X11_keepIfDone zk_838 (by decide) hc rfl rfl hl rfl (Nat.le_of_ble_eq_true rfl) dX11_shut_34 (kk := (fun H locs hS => ?_))
    obtain ⟨rfl, rfl⟩ := Prod.mk.inj (Option.some.inj h)
    exact z_iret B hS dX11_shut_37
  · rw [if_pos hc] at h
    refine lv_iconst (v := (-1 : Int32)) he hb dX11_shut_11 (by decide) ?_
    obtain ⟨rfl, rfl⟩ := Prod.mk.inj (Option.some.inj h)
    exact z_iret B hS dX11_shut_12
theorem dX11_open_0 : decode cX11_open 0 = .ok (.aload_n 0, 1) := by decide +kernel
theorem dX11_open_1 : decode cX11_open 1 = .ok (.getfield 19, 3) := by decide +kernel
theorem dX11_open_4 : decode cX11_open 4 = .ok (.iload_n 1, 1) := by decide +kernel
theorem dX11_open_5 : decode cX11_open 5 = .ok (.invokevirtual 170, 3) := by decide +kernel
theorem dX11_open_8 : decode cX11_open 8 = .ok (.ifCond .ne 5, 3) := by decide +kernel
theorem dX11_open_11 : decode cX11_open 11 = .ok (.iconst (-1), 1) := by decide +kernel
theorem dX11_open_12 : decode cX11_open 12 = .ok (.ireturn, 1) := by decide +kernel
theorem dX11_open_13 : decode cX11_open 13 = .ok (.aload_n 0, 1) := by decide +kernel
theorem dX11_open_14 : decode cX11_open 14 = .ok (.getfield 70, 3) := by decide +kernel
theorem dX11_open_17 : decode cX11_open 17 = .ok (.aload_n 0, 1) := by decide +kernel
theorem dX11_open_18 : decode cX11_open 18 = .ok (.getfield 28, 3) := by decide +kernel
theorem dX11_open_21 : decode cX11_open 21 = .ok (.invokevirtual 235, 3) := by decide +kernel
theorem dX11_open_24 : decode cX11_open 24 = .ok (.aload_n 0, 1) := by decide +kernel
theorem dX11_open_25 : decode cX11_open 25 = .ok (.aload_n 0, 1) := by decide +kernel
theorem dX11_open_26 : decode cX11_open 26 = .ok (.getfield 28, 3) := by decide +kernel
theorem dX11_open_29 : decode cX11_open 29 = .ok (.iload_n 1, 1) := by decide +kernel
theorem dX11_open_30 : decode cX11_open 30 = .ok (.iconst 0, 1) := by decide +kernel
theorem dX11_open_31 : decode cX11_open 31 = .ok (.invokevirtual 247, 3) := by decide +kernel
theorem dX11_open_34 : decode cX11_open 34 = .ok (.invokevirtual 241, 3) := by decide +kernel
theorem dX11_open_37 : decode cX11_open 37 = .ok (.ireturn, 1) := by decide +kernel
def fX11_open (N n : Nat) (f : zF) (a0 : Nat) (a1 : Int32) : Option (zF × Int32) :=
    ((zgR n f 11 a0 1).bind fun x1 => ((zck n f 2 x1).bind fun _ => ((fX2_hasLooker N n f x1 a1).bind fun x2 => (if x2 = 0 then some (f, (-1 : Int32)) else ((zgR n f 11 a0 8).bind fun x3 => ((zgR n f 11 a0 2).bind fun x4 => ((zck n f 10 x3).bind fun _ => ((fX10_hold N n f x3 x4).bind fun f5 => ((zgR n f5 11 a0 2).bind fun x6 => ((zck n f5 8 x6).bind fun _ => (zbd (fX8_setEyes N n f5 x6 a1 (0 : Int32)) fun f8 x7 => ((zck n f8 11 a0).bind fun _ => (zbd (fX11_keepIfDone N n f8 a0 x7) fun f10 x9 => some (f10, x9))))))))))))))
set_option maxRecDepth 100000 in
set_option maxHeartbeats 4000000 in
theorem mX11_open (l : Launch) (G : zG) {N n : Nat} {f : zF} {f9 : zF} {r : Int32} {a0 : Nat} {a1 : Int32} (h : fX11_open N n f a0 a1 = some (f9, r)) : zM l G yX11_open cX11_open 2 (some .int) 4 n f [zr G a0, .int a1] (some (.int r)) f9 := by
  refine zM.of (by decide) (Nat.le_of_ble_eq_true rfl) ?_
  intro p e s m args below meth c locs ls B hS hl
  have he := B.1
  have hb := B.2.1
  have hl : lv_has ls 2 [(0, zr G a0), (1, .int a1)] := hl
  unfold fX11_open at h
  generalize s.heap = H at hS ⊢
  refine z_aload_n he hb dX11_open_0 rfl (lv_at hl 0 rfl) (zref_r _ _) ?_
  obtain ⟨x1, hx, h⟩ := zob h
  refine z_getR (ci := 11) (T := TX11) (N := 14) (j := 1) B hS hx rfl zin_X11 (by decide) zk_509 dX11_open_1 ?_
  refine lv_iload_n he hb dX11_open_4 rfl (lv_at hl 1 rfl) ?_
  obtain ⟨_, hc, h⟩ := zob h
  obtain ⟨x2, hx, h⟩ := zob h
  refine z_callV (ci := 2) (T := TX2) (N := 15) (rest := []) B hS (mX2_hasLooker l G hx) zy_X2_hasLooker zk_751 (by decide) hc rfl rfl hl rfl (Nat.le_of_ble_eq_true rfl) dX11_open_5 (kk := (fun H locs hS => ?_))
  refine lv_if_ne (tgt := 13) he hb dX11_open_8 (by decide) (fun hc => ?_) (fun hc => ?_)
  · rw [if_neg hc] at h
    refine z_aload_n he hb dX11_open_13 rfl (lv_at hl 0 rfl) (zref_r _ _) ?_
    obtain ⟨x3, hx, h⟩ := zob h
    refine z_getR (ci := 11) (T := TX11) (N := 14) (j := 8) B hS hx rfl zin_X11 (by decide) zk_516 dX11_open_14 ?_
    refine z_aload_n he hb dX11_open_17 rfl (lv_at hl 0 rfl) (zref_r _ _) ?_
    obtain ⟨x4, hx, h⟩ := zob h
    refine z_getR (ci := 11) (T := TX11) (N := 14) (j := 2) B hS hx rfl zin_X11 (by decide) zk_510 dX11_open_18 ?_
    obtain ⟨_, hc, h⟩ := zob h
    obtain ⟨f5, hx, h⟩ := zob h
    refine z_callV (ci := 10) (T := TX10) (N := 3) (rest := []) B hS (mX10_hold l G hx) zy_X10_hold zk_825 (by decide) hc rfl rfl hl rfl (Nat.le_of_ble_eq_true rfl) dX11_open_21 (kk := (fun H locs hS => ?_))
    refine z_aload_n he hb dX11_open_24 rfl (lv_at hl 0 rfl) (zref_r _ _) ?_
    refine z_aload_n he hb dX11_open_25 rfl (lv_at hl 0 rfl) (zref_r _ _) ?_
    obtain ⟨x6, hx, h⟩ := zob h
    refine z_getR (ci := 11) (T := TX11) (N := 14) (j := 2) B hS hx rfl zin_X11 (by decide) zk_510 dX11_open_26 ?_
    refine lv_iload_n he hb dX11_open_29 rfl (lv_at hl 1 rfl) ?_
    refine lv_iconst (v := (0 : Int32)) he hb dX11_open_30 (by decide) ?_
    obtain ⟨_, hc, h⟩ := zob h
    obtain ⟨f8, x7, hx, h⟩ := zbd_i h
    refine z_callV (ci := 8) (T := TX8) (N := 9) (rest := [_]) B hS (mX8_setEyes l G hx) zy_X8_setEyes zk_860 (by decide) hc rfl rfl hl rfl (Nat.le_of_ble_eq_true rfl) dX11_open_31 (kk := (fun H locs hS => ?_))
    obtain ⟨_, hc, h⟩ := zob h
    obtain ⟨f10, x9, hx, h⟩ := zbd_i h
    refine z_callV (ci := 11) (T := TX11) (N := 14) (rest := []) B hS (mX11_keepIfDone l G hx) zy_X11_keepIfDone zk_838 (by decide) hc rfl rfl hl rfl (Nat.le_of_ble_eq_true rfl) dX11_open_34 (kk := (fun H locs hS => ?_))
    obtain ⟨rfl, rfl⟩ := Prod.mk.inj (Option.some.inj h)
    exact z_iret B hS dX11_open_37
  · rw [if_pos hc] at h
    refine lv_iconst (v := (-1 : Int32)) he hb dX11_open_11 (by decide) ?_
    obtain ⟨rfl, rfl⟩ := Prod.mk.inj (Option.some.inj h)
    exact z_iret B hS dX11_open_12
theorem dX11_face_0 : decode cX11_face 0 = .ok (.aload_n 0, 1) := by decide +kernel
theorem dX11_face_1 : decode cX11_face 1 = .ok (.getfield 19, 3) := by decide +kernel
theorem dX11_face_4 : decode cX11_face 4 = .ok (.iload_n 1, 1) := by decide +kernel
theorem dX11_face_5 : decode cX11_face 5 = .ok (.invokevirtual 133, 3) := by decide +kernel
theorem dX11_face_8 : decode cX11_face 8 = .ok (.ifCond .eq 10, 3) := by decide +kernel
theorem dX11_face_11 : decode cX11_face 11 = .ok (.iload_n 2, 1) := by decide +kernel
theorem dX11_face_12 : decode cX11_face 12 = .ok (.invokestatic 232, 3) := by decide +kernel
theorem dX11_face_15 : decode cX11_face 15 = .ok (.ifCond .ne 5, 3) := by decide +kernel
theorem dX11_face_18 : decode cX11_face 18 = .ok (.iconst (-1), 1) := by decide +kernel
theorem dX11_face_19 : decode cX11_face 19 = .ok (.ireturn, 1) := by decide +kernel
theorem dX11_face_20 : decode cX11_face 20 = .ok (.aload_n 0, 1) := by decide +kernel
theorem dX11_face_21 : decode cX11_face 21 = .ok (.getfield 70, 3) := by decide +kernel
theorem dX11_face_24 : decode cX11_face 24 = .ok (.aload_n 0, 1) := by decide +kernel
theorem dX11_face_25 : decode cX11_face 25 = .ok (.getfield 28, 3) := by decide +kernel
theorem dX11_face_28 : decode cX11_face 28 = .ok (.invokevirtual 235, 3) := by decide +kernel
theorem dX11_face_31 : decode cX11_face 31 = .ok (.aload_n 0, 1) := by decide +kernel
theorem dX11_face_32 : decode cX11_face 32 = .ok (.aload_n 0, 1) := by decide +kernel
theorem dX11_face_33 : decode cX11_face 33 = .ok (.getfield 28, 3) := by decide +kernel
theorem dX11_face_36 : decode cX11_face 36 = .ok (.iload_n 1, 1) := by decide +kernel
theorem dX11_face_37 : decode cX11_face 37 = .ok (.iload_n 2, 1) := by decide +kernel
theorem dX11_face_38 : decode cX11_face 38 = .ok (.invokevirtual 250, 3) := by decide +kernel
theorem dX11_face_41 : decode cX11_face 41 = .ok (.invokevirtual 241, 3) := by decide +kernel
theorem dX11_face_44 : decode cX11_face 44 = .ok (.ireturn, 1) := by decide +kernel
def fX11_face (N n : Nat) (f : zF) (a0 : Nat) (a1 : Int32) (a2 : Int32) : Option (zF × Int32) :=
    ((zgR n f 11 a0 1).bind fun x1 => ((zck n f 2 x1).bind fun _ => ((fX2_hasFigure N n f x1 a1).bind fun x2 => (if x2 = 0 then some (f, (-1 : Int32)) else ((fX11_isSide N n f a2).bind fun x3 => (if x3 = 0 then some (f, (-1 : Int32)) else ((zgR n f 11 a0 8).bind fun x4 => ((zgR n f 11 a0 2).bind fun x5 => ((zck n f 10 x4).bind fun _ => ((fX10_hold N n f x4 x5).bind fun f6 => ((zgR n f6 11 a0 2).bind fun x7 => ((zck n f6 8 x7).bind fun _ => (zbd (fX8_faceTo N n f6 x7 a1 a2) fun f9 x8 => ((zck n f9 11 a0).bind fun _ => (zbd (fX11_keepIfDone N n f9 a0 x8) fun f11 x10 => some (f11, x10))))))))))))))))
set_option maxRecDepth 100000 in
set_option maxHeartbeats 4000000 in
theorem mX11_face (l : Launch) (G : zG) {N n : Nat} {f : zF} {f9 : zF} {r : Int32} {a0 : Nat} {a1 : Int32} {a2 : Int32} (h : fX11_face N n f a0 a1 a2 = some (f9, r)) : zM l G yX11_face cX11_face 3 (some .int) 4 n f [zr G a0, .int a1, .int a2] (some (.int r)) f9 := by
  refine zM.of (by decide) (Nat.le_of_ble_eq_true rfl) ?_
  intro p e s m args below meth c locs ls B hS hl
  have he := B.1
  have hb := B.2.1
  have hl : lv_has ls 3 [(0, zr G a0), (1, .int a1), (2, .int a2)] := hl
  unfold fX11_face at h
  generalize s.heap = H at hS ⊢
  refine z_aload_n he hb dX11_face_0 rfl (lv_at hl 0 rfl) (zref_r _ _) ?_
  obtain ⟨x1, hx, h⟩ := zob h
  refine z_getR (ci := 11) (T := TX11) (N := 14) (j := 1) B hS hx rfl zin_X11 (by decide) zk_509 dX11_face_1 ?_
  refine lv_iload_n he hb dX11_face_4 rfl (lv_at hl 1 rfl) ?_
  obtain ⟨_, hc, h⟩ := zob h
  obtain ⟨x2, hx, h⟩ := zob h
  refine z_callV (ci := 2) (T := TX2) (N := 15) (rest := []) B hS (mX2_hasFigure l G hx) zy_X2_hasFigure zk_872 (by decide) hc rfl rfl hl rfl (Nat.le_of_ble_eq_true rfl) dX11_face_5 (kk := (fun H locs hS => ?_))
  refine lv_if_eq (tgt := 18) he hb dX11_face_8 (by decide) (fun hc => ?_) (fun hc => ?_)
  · rw [if_pos hc] at h
    refine lv_iconst (v := (-1 : Int32)) he hb dX11_face_18 (by decide) ?_
    obtain ⟨rfl, rfl⟩ := Prod.mk.inj (Option.some.inj h)
    exact z_iret B hS dX11_face_19
  · rw [if_neg hc] at h
    refine lv_iload_n he hb dX11_face_11 rfl (lv_at hl 2 rfl) ?_
    obtain ⟨x3, hx, h⟩ := zob h
    refine z_callS (rest := []) B hS (mX11_isSide l G hx) zy_X11_isSide zk_824 (by decide) rfl hl rfl (Nat.le_of_ble_eq_true rfl) dX11_face_12 (kk := (fun H locs hS => ?_))
    refine lv_if_ne (tgt := 20) he hb dX11_face_15 (by decide) (fun hc => ?_) (fun hc => ?_)
    · rw [if_neg hc] at h
      refine z_aload_n he hb dX11_face_20 rfl (lv_at hl 0 rfl) (zref_r _ _) ?_
      obtain ⟨x4, hx, h⟩ := zob h
      refine z_getR (ci := 11) (T := TX11) (N := 14) (j := 8) B hS hx rfl zin_X11 (by decide) zk_516 dX11_face_21 ?_
      refine z_aload_n he hb dX11_face_24 rfl (lv_at hl 0 rfl) (zref_r _ _) ?_
      obtain ⟨x5, hx, h⟩ := zob h
      refine z_getR (ci := 11) (T := TX11) (N := 14) (j := 2) B hS hx rfl zin_X11 (by decide) zk_510 dX11_face_25 ?_
      obtain ⟨_, hc, h⟩ := zob h
      obtain ⟨f6, hx, h⟩ := zob h
      refine z_callV (ci := 10) (T := TX10) (N := 3) (rest := []) B hS (mX10_hold l G hx) zy_X10_hold zk_825 (by decide) hc rfl rfl hl rfl (Nat.le_of_ble_eq_true rfl) dX11_face_28 (kk := (fun H locs hS => ?_))
      refine z_aload_n he hb dX11_face_31 rfl (lv_at hl 0 rfl) (zref_r _ _) ?_
      refine z_aload_n he hb dX11_face_32 rfl (lv_at hl 0 rfl) (zref_r _ _) ?_
      obtain ⟨x7, hx, h⟩ := zob h
      refine z_getR (ci := 11) (T := TX11) (N := 14) (j := 2) B hS hx rfl zin_X11 (by decide) zk_510 dX11_face_33 ?_
      refine lv_iload_n he hb dX11_face_36 rfl (lv_at hl 1 rfl) ?_
      refine lv_iload_n he hb dX11_face_37 rfl (lv_at hl 2 rfl) ?_
      obtain ⟨_, hc, h⟩ := zob h
      obtain ⟨f9, x8, hx, h⟩ := zbd_i h
      refine z_callV (ci := 8) (T := TX8) (N := 9) (rest := [_]) B hS (mX8_faceTo l G hx) zy_X8_faceTo zk_876 (by decide) hc rfl rfl hl rfl (Nat.le_of_ble_eq_true rfl) dX11_face_38 (kk := (fun H locs hS => ?_))
      obtain ⟨_, hc, h⟩ := zob h
      obtain ⟨f11, x10, hx, h⟩ := zbd_i h
      refine z_callV (ci := 11) (T := TX11) (N := 14) (rest := []) B hS (mX11_keepIfDone l G hx) zy_X11_keepIfDone zk_838 (by decide) hc rfl rfl hl rfl (Nat.le_of_ble_eq_true rfl) dX11_face_41 (kk := (fun H locs hS => ?_))
      obtain ⟨rfl, rfl⟩ := Prod.mk.inj (Option.some.inj h)
      exact z_iret B hS dX11_face_44
    · rw [if_pos hc] at h
      refine lv_iconst (v := (-1 : Int32)) he hb dX11_face_18 (by decide) ?_
      obtain ⟨rfl, rfl⟩ := Prod.mk.inj (Option.some.inj h)
      exact z_iret B hS dX11_face_19
theorem dX11_keepIfGone_0 : decode cX11_keepIfGone 0 = .ok (.iload_n 1, 1) := by decide +kernel
theorem dX11_keepIfGone_1 : decode cX11_keepIfGone 1 = .ok (.ifCond .le 10, 3) := by decide +kernel
theorem dX11_keepIfGone_4 : decode cX11_keepIfGone 4 = .ok (.aload_n 0, 1) := by decide +kernel
theorem dX11_keepIfGone_5 : decode cX11_keepIfGone 5 = .ok (.getfield 70, 3) := by decide +kernel
theorem dX11_keepIfGone_8 : decode cX11_keepIfGone 8 = .ok (.invokevirtual 253, 3) := by decide +kernel
theorem dX11_keepIfGone_11 : decode cX11_keepIfGone 11 = .ok (.iload_n 1, 1) := by decide +kernel
theorem dX11_keepIfGone_12 : decode cX11_keepIfGone 12 = .ok (.ireturn, 1) := by decide +kernel
def fX11_keepIfGone (N n : Nat) (f : zF) (a0 : Nat) (a1 : Int32) : Option (zF × Int32) :=
    (if a1 ≤ 0 then some (f, a1) else ((zgR n f 11 a0 8).bind fun x1 => ((zck n f 10 x1).bind fun _ => ((fX10_keep N n f x1).bind fun f2 => some (f2, a1)))))
set_option maxRecDepth 100000 in
set_option maxHeartbeats 4000000 in
theorem mX11_keepIfGone (l : Launch) (G : zG) {N n : Nat} {f : zF} {f9 : zF} {r : Int32} {a0 : Nat} {a1 : Int32} (h : fX11_keepIfGone N n f a0 a1 = some (f9, r)) : zM l G yX11_keepIfGone cX11_keepIfGone 2 (some .int) 2 n f [zr G a0, .int a1] (some (.int r)) f9 := by
  refine zM.of (by decide) (Nat.le_of_ble_eq_true rfl) ?_
  intro p e s m args below meth c locs ls B hS hl
  have he := B.1
  have hb := B.2.1
  have hl : lv_has ls 2 [(0, zr G a0), (1, .int a1)] := hl
  unfold fX11_keepIfGone at h
  generalize s.heap = H at hS ⊢
  refine lv_iload_n he hb dX11_keepIfGone_0 rfl (lv_at hl 1 rfl) ?_
  refine lv_if_le (tgt := 11) he hb dX11_keepIfGone_1 (by decide) (fun hc => ?_) (fun hc => ?_)
  · rw [if_pos hc] at h
    refine lv_iload_n he hb dX11_keepIfGone_11 rfl (lv_at hl 1 rfl) ?_
    obtain ⟨rfl, rfl⟩ := Prod.mk.inj (Option.some.inj h)
    exact z_iret B hS dX11_keepIfGone_12
  · rw [if_neg hc] at h
    refine z_aload_n he hb dX11_keepIfGone_4 rfl (lv_at hl 0 rfl) (zref_r _ _) ?_
    obtain ⟨x1, hx, h⟩ := zob h
    refine z_getR (ci := 11) (T := TX11) (N := 14) (j := 8) B hS hx rfl zin_X11 (by decide) zk_516 dX11_keepIfGone_5 ?_
    obtain ⟨_, hc, h⟩ := zob h
    obtain ⟨f2, hx, h⟩ := zob h
    refine z_callV (ci := 10) (T := TX10) (N := 3) (rest := []) B hS (mX10_keep l G hx) zy_X10_keep zk_842 (by decide) hc rfl rfl hl rfl (Nat.le_of_ble_eq_true rfl) dX11_keepIfGone_8 (kk := (fun H locs hS => ?_))
    refine lv_iload_n he hb dX11_keepIfGone_11 rfl (lv_at hl 1 rfl) ?_
    obtain ⟨rfl, rfl⟩ := Prod.mk.inj (Option.some.inj h)
    exact z_iret B hS dX11_keepIfGone_12
theorem dX11_hours_0 : decode cX11_hours 0 = .ok (.iload_n 1, 1) := by decide +kernel
theorem dX11_hours_1 : decode cX11_hours 1 = .ok (.iconst 1, 1) := by decide +kernel
theorem dX11_hours_2 : decode cX11_hours 2 = .ok (.if_icmp .lt 9, 3) := by decide +kernel
theorem dX11_hours_5 : decode cX11_hours 5 = .ok (.iload_n 1, 1) := by decide +kernel
theorem dX11_hours_6 : decode cX11_hours 6 = .ok (.bipush 60, 2) := by decide +kernel
theorem dX11_hours_8 : decode cX11_hours 8 = .ok (.if_icmp .le 5, 3) := by decide +kernel
theorem dX11_hours_11 : decode cX11_hours 11 = .ok (.iconst (-1), 1) := by decide +kernel
theorem dX11_hours_12 : decode cX11_hours 12 = .ok (.ireturn, 1) := by decide +kernel
theorem dX11_hours_13 : decode cX11_hours 13 = .ok (.aload_n 0, 1) := by decide +kernel
theorem dX11_hours_14 : decode cX11_hours 14 = .ok (.getfield 28, 3) := by decide +kernel
theorem dX11_hours_17 : decode cX11_hours 17 = .ok (.getfield 205, 3) := by decide +kernel
theorem dX11_hours_20 : decode cX11_hours 20 = .ok (.istore_n 2, 1) := by decide +kernel
theorem dX11_hours_21 : decode cX11_hours 21 = .ok (.aload_n 0, 1) := by decide +kernel
theorem dX11_hours_22 : decode cX11_hours 22 = .ok (.getfield 70, 3) := by decide +kernel
theorem dX11_hours_25 : decode cX11_hours 25 = .ok (.aload_n 0, 1) := by decide +kernel
theorem dX11_hours_26 : decode cX11_hours 26 = .ok (.getfield 28, 3) := by decide +kernel
theorem dX11_hours_29 : decode cX11_hours 29 = .ok (.invokevirtual 235, 3) := by decide +kernel
theorem dX11_hours_32 : decode cX11_hours 32 = .ok (.iconst 0, 1) := by decide +kernel
theorem dX11_hours_33 : decode cX11_hours 33 = .ok (.istore_n 3, 1) := by decide +kernel
theorem dX11_hours_34 : decode cX11_hours 34 = .ok (.iload_n 3, 1) := by decide +kernel
theorem dX11_hours_35 : decode cX11_hours 35 = .ok (.iload_n 1, 1) := by decide +kernel
theorem dX11_hours_36 : decode cX11_hours 36 = .ok (.if_icmp .ge 29, 3) := by decide +kernel
theorem dX11_hours_39 : decode cX11_hours 39 = .ok (.aload_n 0, 1) := by decide +kernel
theorem dX11_hours_40 : decode cX11_hours 40 = .ok (.getfield 28, 3) := by decide +kernel
theorem dX11_hours_43 : decode cX11_hours 43 = .ok (.getfield 205, 3) := by decide +kernel
theorem dX11_hours_46 : decode cX11_hours 46 = .ok (.sipush 1000, 3) := by decide +kernel
theorem dX11_hours_49 : decode cX11_hours 49 = .ok (.if_icmp .ge 16, 3) := by decide +kernel
theorem dX11_hours_52 : decode cX11_hours 52 = .ok (.aload_n 0, 1) := by decide +kernel
theorem dX11_hours_53 : decode cX11_hours 53 = .ok (.getfield 28, 3) := by decide +kernel
theorem dX11_hours_56 : decode cX11_hours 56 = .ok (.invokevirtual 256, 3) := by decide +kernel
theorem dX11_hours_59 : decode cX11_hours 59 = .ok (.iinc 3 1, 3) := by decide +kernel
theorem dX11_hours_62 : decode cX11_hours 62 = .ok (.goto (-28), 3) := by decide +kernel
theorem dX11_hours_65 : decode cX11_hours 65 = .ok (.aload_n 0, 1) := by decide +kernel
theorem dX11_hours_66 : decode cX11_hours 66 = .ok (.aload_n 0, 1) := by decide +kernel
theorem dX11_hours_67 : decode cX11_hours 67 = .ok (.getfield 28, 3) := by decide +kernel
theorem dX11_hours_70 : decode cX11_hours 70 = .ok (.getfield 205, 3) := by decide +kernel
theorem dX11_hours_73 : decode cX11_hours 73 = .ok (.iload_n 2, 1) := by decide +kernel
theorem dX11_hours_74 : decode cX11_hours 74 = .ok (.isub, 1) := by decide +kernel
theorem dX11_hours_75 : decode cX11_hours 75 = .ok (.invokevirtual 259, 3) := by decide +kernel
theorem dX11_hours_78 : decode cX11_hours 78 = .ok (.ireturn, 1) := by decide +kernel
def fX11_hours_65 (N n : Nat) (f : zF) (a0 : Nat) (a2 : Int32) : Option (zF × Int32) :=
    ((zgR n f 11 a0 2).bind fun x6 => ((zgI n f 8 x6 1).bind fun x7 => ((zck n f 11 a0).bind fun _ => (zbd (fX11_keepIfGone N n f a0 (x7 - a2)) fun f9 x8 => some (f9, x8)))))
set_option maxRecDepth 100000 in
set_option maxHeartbeats 4000000 in
theorem gX11_hours_65 (l : Launch) {G : zG} {p : Program} {e : Env} {s : State} {m : MethodId} {args : Array Value} {below : List Frame} {meth : Method} {c : Code} {N n : Nat} {f9 : zF} {r : Int32} (B : zB G p s m args meth c RX11 cX11_hours 4 (some .int)) : ∀ (f : zF) (a0 : Nat) (a2 : Int32) (H : Heap) (locs : List Loc) (ls : Array Slot), fX11_hours_65 N n f a0 a2 = some (f9, r) → zS G n f H locs → lv_has ls 4 [(0, zr G a0), (2, .int a2)] → W p l e (zrm 4) s m args below meth c H locs 0 0 (MQ below (zQc G n f9 (some (.int r))) args s 0 0 (zA G)) (F0 m 65 ls []) := by
  have he := B.1
  have hb := B.2.1
  intro f a0 a2 H locs ls h hS hl
  unfold fX11_hours_65 at h
  refine z_aload_n he hb dX11_hours_65 rfl (lv_at hl 0 rfl) (zref_r _ _) ?_
  refine z_aload_n he hb dX11_hours_66 rfl (lv_at hl 0 rfl) (zref_r _ _) ?_
  obtain ⟨x6, hx, h⟩ := zob h
  refine z_getR (ci := 11) (T := TX11) (N := 14) (j := 2) B hS hx rfl zin_X11 (by decide) zk_510 dX11_hours_67 ?_
  obtain ⟨x7, hx, h⟩ := zob h
  refine z_getI (ci := 8) (T := TX8) (N := 9) (j := 1) B hS hx rfl zin_X8 (by decide) zk_253 dX11_hours_70 ?_
  refine lv_iload_n he hb dX11_hours_73 rfl (lv_at hl 1 rfl) ?_
  refine lv_isub he hb dX11_hours_74 ?_
  obtain ⟨_, hc, h⟩ := zob h
  obtain ⟨f9, x8, hx, h⟩ := zbd_i h
  refine z_callV (ci := 11) (T := TX11) (N := 14) (rest := []) B hS (mX11_keepIfGone l G hx) zy_X11_keepIfGone zk_897 (by decide) hc rfl rfl hl rfl (Nat.le_of_ble_eq_true rfl) dX11_hours_75 (kk := (fun H locs hS => ?_))
  obtain ⟨rfl, rfl⟩ := Prod.mk.inj (Option.some.inj h)
  exact z_iret B hS dX11_hours_78
def fX11_hours_34 (N n : Nat) : Nat → zF → Nat → Int32 → Int32 → Int32 → Option (zF × Int32)
  | 0, _, _, _, _, _ => none
  | k + 1, f, a0, a1, a2, a3 =>
    (if a1 ≤ a3 then (fX11_hours_65 N n f a0 a2) else ((zgR n f 11 a0 2).bind fun x10 => ((zgI n f 8 x10 1).bind fun x11 => (if (1000 : Int32) ≤ x11 then (fX11_hours_65 N n f a0 a2) else ((zgR n f 11 a0 2).bind fun x12 => ((zck n f 8 x12).bind fun _ => ((fX8_goHour N n f x12).bind fun f13 => (fX11_hours_34 N n k f13 a0 a1 a2 (a3 + 1)))))))))
set_option maxRecDepth 100000 in
set_option maxHeartbeats 4000000 in
theorem gX11_hours_34 (l : Launch) {G : zG} {p : Program} {e : Env} {s : State} {m : MethodId} {args : Array Value} {below : List Frame} {meth : Method} {c : Code} {N n : Nat} {f9 : zF} {r : Int32} (B : zB G p s m args meth c RX11 cX11_hours 4 (some .int)) : ∀ (k : Nat), ∀ (f : zF) (a0 : Nat) (a1 : Int32) (a2 : Int32) (a3 : Int32) (H : Heap) (locs : List Loc) (ls : Array Slot), fX11_hours_34 N n k f a0 a1 a2 a3 = some (f9, r) → zS G n f H locs → lv_has ls 4 [(0, zr G a0), (1, .int a1), (2, .int a2), (3, .int a3)] → W p l e (zrm 4) s m args below meth c H locs 0 0 (MQ below (zQc G n f9 (some (.int r))) args s 0 0 (zA G)) (F0 m 34 ls []) := by
  have he := B.1
  have hb := B.2.1
  intro k
  induction k with
  | zero =>
    intro f a0 a1 a2 a3 H locs ls h
    unfold fX11_hours_34 at h
    cases h
  | succ k ih =>
    intro f a0 a1 a2 a3 H locs ls h hS hl
    unfold fX11_hours_34 at h
    refine lv_iload_n he hb dX11_hours_34 rfl (lv_at hl 3 rfl) ?_
    refine lv_iload_n he hb dX11_hours_35 rfl (lv_at hl 1 rfl) ?_
    refine lv_icmp_ge (tgt := 65) he hb dX11_hours_36 (by decide) (fun hc => ?_) (fun hc => ?_)
    · rw [if_pos hc] at h
      exact gX11_hours_65 l B _ _ _ _ _ _ h hS (lv_sub hl [0, 2] rfl)
    · rw [if_neg hc] at h
      refine z_aload_n he hb dX11_hours_39 rfl (lv_at hl 0 rfl) (zref_r _ _) ?_
      obtain ⟨x10, hx, h⟩ := zob h
      refine z_getR (ci := 11) (T := TX11) (N := 14) (j := 2) B hS hx rfl zin_X11 (by decide) zk_510 dX11_hours_40 ?_
      obtain ⟨x11, hx, h⟩ := zob h
      refine z_getI (ci := 8) (T := TX8) (N := 9) (j := 1) B hS hx rfl zin_X8 (by decide) zk_253 dX11_hours_43 ?_
      refine lv_sipush (v := (1000 : Int32)) he hb dX11_hours_46 (by decide) ?_
      refine lv_icmp_ge (tgt := 65) he hb dX11_hours_49 (by decide) (fun hc => ?_) (fun hc => ?_)
      · rw [if_pos hc] at h
        exact gX11_hours_65 l B _ _ _ _ _ _ h hS (lv_sub hl [0, 2] rfl)
      · rw [if_neg hc] at h
        refine z_aload_n he hb dX11_hours_52 rfl (lv_at hl 0 rfl) (zref_r _ _) ?_
        obtain ⟨x12, hx, h⟩ := zob h
        refine z_getR (ci := 11) (T := TX11) (N := 14) (j := 2) B hS hx rfl zin_X11 (by decide) zk_510 dX11_hours_53 ?_
        obtain ⟨_, hc, h⟩ := zob h
        obtain ⟨f13, hx, h⟩ := zob h
        refine z_callV (ci := 8) (T := TX8) (N := 9) (rest := []) B hS (mX8_goHour l G hx) zy_X8_goHour zk_885 (by decide) hc rfl rfl hl rfl (Nat.le_of_ble_eq_true rfl) dX11_hours_56 (kk := (fun H locs hS => ?_))
        refine lv_iinc (v := (a3 + 1)) (lv' := [(3, _), (0, _), (1, _), (2, _)]) he hb dX11_hours_59 hl (k := 3) rfl rfl (by decide) rfl (fun ls hl => ?_)
        refine lv_goto (tgt := 34) he hb dX11_hours_62 (by decide) ?_
        exact ih _ _ _ _ _ _ _ _ h hS (lv_sub hl [1, 2, 3, 0] rfl)
def fX11_hours (N n : Nat) (f : zF) (a0 : Nat) (a1 : Int32) : Option (zF × Int32) :=
    (if a1 < (1 : Int32) then some (f, (-1 : Int32)) else (if a1 ≤ (60 : Int32) then ((zgR n f 11 a0 2).bind fun x1 => ((zgI n f 8 x1 1).bind fun x2 => ((zgR n f 11 a0 8).bind fun x3 => ((zgR n f 11 a0 2).bind fun x4 => ((zck n f 10 x3).bind fun _ => ((fX10_hold N n f x3 x4).bind fun f5 => (fX11_hours_34 N n N f5 a0 a1 x2 (0 : Int32)))))))) else some (f, (-1 : Int32))))
set_option maxRecDepth 100000 in
set_option maxHeartbeats 4000000 in
theorem mX11_hours (l : Launch) (G : zG) {N n : Nat} {f : zF} {f9 : zF} {r : Int32} {a0 : Nat} {a1 : Int32} (h : fX11_hours N n f a0 a1 = some (f9, r)) : zM l G yX11_hours cX11_hours 4 (some .int) 4 n f [zr G a0, .int a1] (some (.int r)) f9 := by
  refine zM.of (by decide) (Nat.le_of_ble_eq_true rfl) ?_
  intro p e s m args below meth c locs ls B hS hl
  have he := B.1
  have hb := B.2.1
  have hl : lv_has ls 4 [(0, zr G a0), (1, .int a1)] := hl
  unfold fX11_hours at h
  generalize s.heap = H at hS ⊢
  refine lv_iload_n he hb dX11_hours_0 rfl (lv_at hl 1 rfl) ?_
  refine lv_iconst (v := (1 : Int32)) he hb dX11_hours_1 (by decide) ?_
  refine lv_icmp_lt (tgt := 11) he hb dX11_hours_2 (by decide) (fun hc => ?_) (fun hc => ?_)
  · rw [if_pos hc] at h
    refine lv_iconst (v := (-1 : Int32)) he hb dX11_hours_11 (by decide) ?_
    obtain ⟨rfl, rfl⟩ := Prod.mk.inj (Option.some.inj h)
    exact z_iret B hS dX11_hours_12
  · rw [if_neg hc] at h
    refine lv_iload_n he hb dX11_hours_5 rfl (lv_at hl 1 rfl) ?_
    refine lv_bipush (v := (60 : Int32)) he hb dX11_hours_6 (by decide) ?_
    refine lv_icmp_le (tgt := 13) he hb dX11_hours_8 (by decide) (fun hc => ?_) (fun hc => ?_)
    · rw [if_pos hc] at h
      refine z_aload_n he hb dX11_hours_13 rfl (lv_at hl 0 rfl) (zref_r _ _) ?_
      obtain ⟨x1, hx, h⟩ := zob h
      refine z_getR (ci := 11) (T := TX11) (N := 14) (j := 2) B hS hx rfl zin_X11 (by decide) zk_510 dX11_hours_14 ?_
      obtain ⟨x2, hx, h⟩ := zob h
      refine z_getI (ci := 8) (T := TX8) (N := 9) (j := 1) B hS hx rfl zin_X8 (by decide) zk_253 dX11_hours_17 ?_
      refine lv_istore_n (lv' := [(2, _), (0, _), (1, _)]) he hb dX11_hours_20 rfl hl (by decide) rfl (fun ls hl => ?_)
      refine z_aload_n he hb dX11_hours_21 rfl (lv_at hl 1 rfl) (zref_r _ _) ?_
      obtain ⟨x3, hx, h⟩ := zob h
      refine z_getR (ci := 11) (T := TX11) (N := 14) (j := 8) B hS hx rfl zin_X11 (by decide) zk_516 dX11_hours_22 ?_
      refine z_aload_n he hb dX11_hours_25 rfl (lv_at hl 1 rfl) (zref_r _ _) ?_
      obtain ⟨x4, hx, h⟩ := zob h
      refine z_getR (ci := 11) (T := TX11) (N := 14) (j := 2) B hS hx rfl zin_X11 (by decide) zk_510 dX11_hours_26 ?_
      obtain ⟨_, hc, h⟩ := zob h
      obtain ⟨f5, hx, h⟩ := zob h
      refine z_callV (ci := 10) (T := TX10) (N := 3) (rest := []) B hS (mX10_hold l G hx) zy_X10_hold zk_825 (by decide) hc rfl rfl hl rfl (Nat.le_of_ble_eq_true rfl) dX11_hours_29 (kk := (fun H locs hS => ?_))
      refine lv_iconst (v := (0 : Int32)) he hb dX11_hours_32 (by decide) ?_
      refine lv_istore_n (lv' := [(3, _), (2, _), (0, _), (1, _)]) he hb dX11_hours_33 rfl hl (by decide) rfl (fun ls hl => ?_)
      exact gX11_hours_34 l B N _ _ _ _ _ _ _ _ h hS (lv_sub hl [2, 3, 1, 0] rfl)
    · rw [if_neg hc] at h
      refine lv_iconst (v := (-1 : Int32)) he hb dX11_hours_11 (by decide) ?_
      obtain ⟨rfl, rfl⟩ := Prod.mk.inj (Option.some.inj h)
      exact z_iret B hS dX11_hours_12
theorem dX11_undo_0 : decode cX11_undo 0 = .ok (.aload_n 0, 1) := by decide +kernel
theorem dX11_undo_1 : decode cX11_undo 1 = .ok (.getfield 70, 3) := by decide +kernel
theorem dX11_undo_4 : decode cX11_undo 4 = .ok (.aload_n 0, 1) := by decide +kernel
theorem dX11_undo_5 : decode cX11_undo 5 = .ok (.getfield 28, 3) := by decide +kernel
theorem dX11_undo_8 : decode cX11_undo 8 = .ok (.invokevirtual 262, 3) := by decide +kernel
theorem dX11_undo_11 : decode cX11_undo 11 = .ok (.ireturn, 1) := by decide +kernel
def fX11_undo (N n : Nat) (f : zF) (a0 : Nat) : Option (zF × Int32) :=
    ((zgR n f 11 a0 8).bind fun x1 => ((zgR n f 11 a0 2).bind fun x2 => ((zck n f 10 x1).bind fun _ => (zbd (fX10_giveBack N n f x1 x2) fun f4 x3 => some (f4, x3)))))
set_option maxRecDepth 100000 in
set_option maxHeartbeats 4000000 in
theorem mX11_undo (l : Launch) (G : zG) {N n : Nat} {f : zF} {f9 : zF} {r : Int32} {a0 : Nat} (h : fX11_undo N n f a0 = some (f9, r)) : zM l G yX11_undo cX11_undo 1 (some .int) 4 n f [zr G a0] (some (.int r)) f9 := by
  refine zM.of (by decide) (Nat.le_of_ble_eq_true rfl) ?_
  intro p e s m args below meth c locs ls B hS hl
  have he := B.1
  have hb := B.2.1
  have hl : lv_has ls 1 [(0, zr G a0)] := hl
  unfold fX11_undo at h
  generalize s.heap = H at hS ⊢
  refine z_aload_n he hb dX11_undo_0 rfl (lv_at hl 0 rfl) (zref_r _ _) ?_
  obtain ⟨x1, hx, h⟩ := zob h
  refine z_getR (ci := 11) (T := TX11) (N := 14) (j := 8) B hS hx rfl zin_X11 (by decide) zk_516 dX11_undo_1 ?_
  refine z_aload_n he hb dX11_undo_4 rfl (lv_at hl 0 rfl) (zref_r _ _) ?_
  obtain ⟨x2, hx, h⟩ := zob h
  refine z_getR (ci := 11) (T := TX11) (N := 14) (j := 2) B hS hx rfl zin_X11 (by decide) zk_510 dX11_undo_5 ?_
  obtain ⟨_, hc, h⟩ := zob h
  obtain ⟨f4, x3, hx, h⟩ := zbd_i h
  refine z_callV (ci := 10) (T := TX10) (N := 3) (rest := []) B hS (mX10_giveBack l G hx) zy_X10_giveBack zk_905 (by decide) hc rfl rfl hl rfl (Nat.le_of_ble_eq_true rfl) dX11_undo_8 (kk := (fun H locs hS => ?_))
  obtain ⟨rfl, rfl⟩ := Prod.mk.inj (Option.some.inj h)
  exact z_iret B hS dX11_undo_11
theorem dX11_where_0 : decode cX11_where 0 = .ok (.aload_n 0, 1) := by decide +kernel
theorem dX11_where_1 : decode cX11_where 1 = .ok (.getfield 19, 3) := by decide +kernel
theorem dX11_where_4 : decode cX11_where 4 = .ok (.iload_n 1, 1) := by decide +kernel
theorem dX11_where_5 : decode cX11_where 5 = .ok (.invokevirtual 133, 3) := by decide +kernel
theorem dX11_where_8 : decode cX11_where 8 = .ok (.ifCond .eq 14, 3) := by decide +kernel
theorem dX11_where_11 : decode cX11_where 11 = .ok (.iload_n 2, 1) := by decide +kernel
theorem dX11_where_12 : decode cX11_where 12 = .ok (.ifCond .lt 10, 3) := by decide +kernel
theorem dX11_where_15 : decode cX11_where 15 = .ok (.iload_n 2, 1) := by decide +kernel
theorem dX11_where_16 : decode cX11_where 16 = .ok (.sipush 200, 3) := by decide +kernel
theorem dX11_where_19 : decode cX11_where 19 = .ok (.if_icmp .le 5, 3) := by decide +kernel
theorem dX11_where_22 : decode cX11_where 22 = .ok (.iconst (-1), 1) := by decide +kernel
theorem dX11_where_23 : decode cX11_where 23 = .ok (.ireturn, 1) := by decide +kernel
theorem dX11_where_24 : decode cX11_where 24 = .ok (.aload_n 0, 1) := by decide +kernel
theorem dX11_where_25 : decode cX11_where 25 = .ok (.getfield 32, 3) := by decide +kernel
theorem dX11_where_28 : decode cX11_where 28 = .ok (.aload_n 0, 1) := by decide +kernel
theorem dX11_where_29 : decode cX11_where 29 = .ok (.getfield 28, 3) := by decide +kernel
theorem dX11_where_32 : decode cX11_where 32 = .ok (.invokevirtual 126, 3) := by decide +kernel
theorem dX11_where_35 : decode cX11_where 35 = .ok (.iconst 0, 1) := by decide +kernel
theorem dX11_where_36 : decode cX11_where 36 = .ok (.istore_n 3, 1) := by decide +kernel
theorem dX11_where_37 : decode cX11_where 37 = .ok (.iload_n 3, 1) := by decide +kernel
theorem dX11_where_38 : decode cX11_where 38 = .ok (.iload_n 2, 1) := by decide +kernel
theorem dX11_where_39 : decode cX11_where 39 = .ok (.if_icmp .ge 16, 3) := by decide +kernel
theorem dX11_where_42 : decode cX11_where 42 = .ok (.aload_n 0, 1) := by decide +kernel
theorem dX11_where_43 : decode cX11_where 43 = .ok (.getfield 32, 3) := by decide +kernel
theorem dX11_where_46 : decode cX11_where 46 = .ok (.invokevirtual 256, 3) := by decide +kernel
theorem dX11_where_49 : decode cX11_where 49 = .ok (.iinc 3 1, 3) := by decide +kernel
theorem dX11_where_52 : decode cX11_where 52 = .ok (.goto (-15), 3) := by decide +kernel
theorem dX11_where_55 : decode cX11_where 55 = .ok (.aload_n 0, 1) := by decide +kernel
theorem dX11_where_56 : decode cX11_where 56 = .ok (.getfield 32, 3) := by decide +kernel
theorem dX11_where_59 : decode cX11_where 59 = .ok (.getfield 144, 3) := by decide +kernel
theorem dX11_where_62 : decode cX11_where 62 = .ok (.iload_n 1, 1) := by decide +kernel
theorem dX11_where_63 : decode cX11_where 63 = .ok (.invokestatic 147, 3) := by decide +kernel
theorem dX11_where_66 : decode cX11_where 66 = .ok (.ireturn, 1) := by decide +kernel
def fX11_where_37 (N n : Nat) : Nat → zF → Nat → Int32 → Int32 → Int32 → Option (zF × Int32)
  | 0, _, _, _, _, _ => none
  | k + 1, f, a0, a1, a2, a3 =>
    (if a2 ≤ a3 then ((zgR n f 11 a0 3).bind fun x6 => ((zgR n f 8 x6 2).bind fun x7 => ((fX11_at N n f x7 a1).bind fun x8 => some (f, x8)))) else ((zgR n f 11 a0 3).bind fun x9 => ((zck n f 8 x9).bind fun _ => ((fX8_goHour N n f x9).bind fun f10 => (fX11_where_37 N n k f10 a0 a1 a2 (a3 + 1))))))
set_option maxRecDepth 100000 in
set_option maxHeartbeats 4000000 in
theorem gX11_where_37 (l : Launch) {G : zG} {p : Program} {e : Env} {s : State} {m : MethodId} {args : Array Value} {below : List Frame} {meth : Method} {c : Code} {N n : Nat} {f9 : zF} {r : Int32} (B : zB G p s m args meth c RX11 cX11_where 4 (some .int)) : ∀ (k : Nat), ∀ (f : zF) (a0 : Nat) (a1 : Int32) (a2 : Int32) (a3 : Int32) (H : Heap) (locs : List Loc) (ls : Array Slot), fX11_where_37 N n k f a0 a1 a2 a3 = some (f9, r) → zS G n f H locs → lv_has ls 4 [(0, zr G a0), (1, .int a1), (2, .int a2), (3, .int a3)] → W p l e (zrm 4) s m args below meth c H locs 0 0 (MQ below (zQc G n f9 (some (.int r))) args s 0 0 (zA G)) (F0 m 37 ls []) := by
  have he := B.1
  have hb := B.2.1
  intro k
  induction k with
  | zero =>
    intro f a0 a1 a2 a3 H locs ls h
    unfold fX11_where_37 at h
    cases h
  | succ k ih =>
    intro f a0 a1 a2 a3 H locs ls h hS hl
    unfold fX11_where_37 at h
    refine lv_iload_n he hb dX11_where_37 rfl (lv_at hl 3 rfl) ?_
    refine lv_iload_n he hb dX11_where_38 rfl (lv_at hl 2 rfl) ?_
    refine lv_icmp_ge (tgt := 55) he hb dX11_where_39 (by decide) (fun hc => ?_) (fun hc => ?_)
    · rw [if_pos hc] at h
      refine z_aload_n he hb dX11_where_55 rfl (lv_at hl 0 rfl) (zref_r _ _) ?_
      obtain ⟨x6, hx, h⟩ := zob h
      refine z_getR (ci := 11) (T := TX11) (N := 14) (j := 3) B hS hx rfl zin_X11 (by decide) zk_511 dX11_where_56 ?_
      obtain ⟨x7, hx, h⟩ := zob h
      refine z_getR (ci := 8) (T := TX8) (N := 9) (j := 2) B hS hx rfl zin_X8 (by decide) zk_255 dX11_where_59 ?_
      refine lv_iload_n he hb dX11_where_62 rfl (lv_at hl 1 rfl) ?_
      obtain ⟨x8, hx, h⟩ := zob h
      refine z_callS (rest := []) B hS (mX11_at l G hx) zy_X11_at zk_755 (by decide) rfl hl rfl (Nat.le_of_ble_eq_true rfl) dX11_where_63 (kk := (fun H locs hS => ?_))
      obtain ⟨rfl, rfl⟩ := Prod.mk.inj (Option.some.inj h)
      exact z_iret B hS dX11_where_66
    · rw [if_neg hc] at h
      refine z_aload_n he hb dX11_where_42 rfl (lv_at hl 0 rfl) (zref_r _ _) ?_
      obtain ⟨x9, hx, h⟩ := zob h
      refine z_getR (ci := 11) (T := TX11) (N := 14) (j := 3) B hS hx rfl zin_X11 (by decide) zk_511 dX11_where_43 ?_
      obtain ⟨_, hc, h⟩ := zob h
      obtain ⟨f10, hx, h⟩ := zob h
      refine z_callV (ci := 8) (T := TX8) (N := 9) (rest := []) B hS (mX8_goHour l G hx) zy_X8_goHour zk_885 (by decide) hc rfl rfl hl rfl (Nat.le_of_ble_eq_true rfl) dX11_where_46 (kk := (fun H locs hS => ?_))
      refine lv_iinc (v := (a3 + 1)) (lv' := [(3, _), (0, _), (1, _), (2, _)]) he hb dX11_where_49 hl (k := 3) rfl rfl (by decide) rfl (fun ls hl => ?_)
      refine lv_goto (tgt := 37) he hb dX11_where_52 (by decide) ?_
      exact ih _ _ _ _ _ _ _ _ h hS (lv_sub hl [1, 2, 3, 0] rfl)
def fX11_where (N n : Nat) (f : zF) (a0 : Nat) (a1 : Int32) (a2 : Int32) : Option (zF × Int32) :=
    ((zgR n f 11 a0 1).bind fun x1 => ((zck n f 2 x1).bind fun _ => ((fX2_hasFigure N n f x1 a1).bind fun x2 => (if x2 = 0 then some (f, (-1 : Int32)) else (if a2 < 0 then some (f, (-1 : Int32)) else (if a2 ≤ (200 : Int32) then ((zgR n f 11 a0 3).bind fun x3 => ((zgR n f 11 a0 2).bind fun x4 => ((zck n f 8 x3).bind fun _ => ((fX8_copyFrom N n f x3 x4).bind fun f5 => (fX11_where_37 N n N f5 a0 a1 a2 (0 : Int32)))))) else some (f, (-1 : Int32))))))))
set_option maxRecDepth 100000 in
set_option maxHeartbeats 4000000 in
theorem mX11_where (l : Launch) (G : zG) {N n : Nat} {f : zF} {f9 : zF} {r : Int32} {a0 : Nat} {a1 : Int32} {a2 : Int32} (h : fX11_where N n f a0 a1 a2 = some (f9, r)) : zM l G yX11_where cX11_where 4 (some .int) 4 n f [zr G a0, .int a1, .int a2] (some (.int r)) f9 := by
  refine zM.of (by decide) (Nat.le_of_ble_eq_true rfl) ?_
  intro p e s m args below meth c locs ls B hS hl
  have he := B.1
  have hb := B.2.1
  have hl : lv_has ls 4 [(0, zr G a0), (1, .int a1), (2, .int a2)] := hl
  unfold fX11_where at h
  generalize s.heap = H at hS ⊢
  refine z_aload_n he hb dX11_where_0 rfl (lv_at hl 0 rfl) (zref_r _ _) ?_
  obtain ⟨x1, hx, h⟩ := zob h
  refine z_getR (ci := 11) (T := TX11) (N := 14) (j := 1) B hS hx rfl zin_X11 (by decide) zk_509 dX11_where_1 ?_
  refine lv_iload_n he hb dX11_where_4 rfl (lv_at hl 1 rfl) ?_
  obtain ⟨_, hc, h⟩ := zob h
  obtain ⟨x2, hx, h⟩ := zob h
  refine z_callV (ci := 2) (T := TX2) (N := 15) (rest := []) B hS (mX2_hasFigure l G hx) zy_X2_hasFigure zk_872 (by decide) hc rfl rfl hl rfl (Nat.le_of_ble_eq_true rfl) dX11_where_5 (kk := (fun H locs hS => ?_))
  refine lv_if_eq (tgt := 22) he hb dX11_where_8 (by decide) (fun hc => ?_) (fun hc => ?_)
  · rw [if_pos hc] at h
    refine lv_iconst (v := (-1 : Int32)) he hb dX11_where_22 (by decide) ?_
    obtain ⟨rfl, rfl⟩ := Prod.mk.inj (Option.some.inj h)
    exact z_iret B hS dX11_where_23
  · rw [if_neg hc] at h
    refine lv_iload_n he hb dX11_where_11 rfl (lv_at hl 2 rfl) ?_
    refine lv_if_lt (tgt := 22) he hb dX11_where_12 (by decide) (fun hc => ?_) (fun hc => ?_)
    · rw [if_pos hc] at h
      refine lv_iconst (v := (-1 : Int32)) he hb dX11_where_22 (by decide) ?_
      obtain ⟨rfl, rfl⟩ := Prod.mk.inj (Option.some.inj h)
      exact z_iret B hS dX11_where_23
    · rw [if_neg hc] at h
      refine lv_iload_n he hb dX11_where_15 rfl (lv_at hl 2 rfl) ?_
      refine lv_sipush (v := (200 : Int32)) he hb dX11_where_16 (by decide) ?_
      refine lv_icmp_le (tgt := 24) he hb dX11_where_19 (by decide) (fun hc => ?_) (fun hc => ?_)
      · rw [if_pos hc] at h
        refine z_aload_n he hb dX11_where_24 rfl (lv_at hl 0 rfl) (zref_r _ _) ?_
        obtain ⟨x3, hx, h⟩ := zob h
        refine z_getR (ci := 11) (T := TX11) (N := 14) (j := 3) B hS hx rfl zin_X11 (by decide) zk_511 dX11_where_25 ?_
        refine z_aload_n he hb dX11_where_28 rfl (lv_at hl 0 rfl) (zref_r _ _) ?_
        obtain ⟨x4, hx, h⟩ := zob h
        refine z_getR (ci := 11) (T := TX11) (N := 14) (j := 2) B hS hx rfl zin_X11 (by decide) zk_510 dX11_where_29 ?_
        obtain ⟨_, hc, h⟩ := zob h
        obtain ⟨f5, hx, h⟩ := zob h
        refine z_callV (ci := 8) (T := TX8) (N := 9) (rest := []) B hS (mX8_copyFrom l G hx) zy_X8_copyFrom zk_730 (by decide) hc rfl rfl hl rfl (Nat.le_of_ble_eq_true rfl) dX11_where_32 (kk := (fun H locs hS => ?_))
        refine lv_iconst (v := (0 : Int32)) he hb dX11_where_35 (by decide) ?_
        refine lv_istore_n (lv' := [(3, _), (0, _), (1, _), (2, _)]) he hb dX11_where_36 rfl hl (by decide) rfl (fun ls hl => ?_)
        exact gX11_where_37 l B N _ _ _ _ _ _ _ _ h hS (lv_sub hl [1, 2, 3, 0] rfl)
      · rw [if_neg hc] at h
        refine lv_iconst (v := (-1 : Int32)) he hb dX11_where_22 (by decide) ?_
        obtain ⟨rfl, rfl⟩ := Prod.mk.inj (Option.some.inj h)
        exact z_iret B hS dX11_where_23
theorem dX11_comes_0 : decode cX11_comes 0 = .ok (.aload_n 0, 1) := by decide +kernel
theorem dX11_comes_1 : decode cX11_comes 1 = .ok (.getfield 19, 3) := by decide +kernel
theorem dX11_comes_4 : decode cX11_comes 4 = .ok (.iload_n 1, 1) := by decide +kernel
theorem dX11_comes_5 : decode cX11_comes 5 = .ok (.invokevirtual 133, 3) := by decide +kernel
theorem dX11_comes_8 : decode cX11_comes 8 = .ok (.ifCond .eq 15, 3) := by decide +kernel
theorem dX11_comes_11 : decode cX11_comes 11 = .ok (.aload_n 0, 1) := by decide +kernel
theorem dX11_comes_12 : decode cX11_comes 12 = .ok (.getfield 19, 3) := by decide +kernel
theorem dX11_comes_15 : decode cX11_comes 15 = .ok (.iload_n 2, 1) := by decide +kernel
theorem dX11_comes_16 : decode cX11_comes 16 = .ok (.iload_n 3, 1) := by decide +kernel
theorem dX11_comes_17 : decode cX11_comes 17 = .ok (.invokevirtual 189, 3) := by decide +kernel
theorem dX11_comes_20 : decode cX11_comes 20 = .ok (.ifCond .ne 5, 3) := by decide +kernel
theorem dX11_comes_23 : decode cX11_comes 23 = .ok (.iconst (-1), 1) := by decide +kernel
theorem dX11_comes_24 : decode cX11_comes 24 = .ok (.ireturn, 1) := by decide +kernel
theorem dX11_comes_25 : decode cX11_comes 25 = .ok (.bipush 9, 2) := by decide +kernel
theorem dX11_comes_27 : decode cX11_comes 27 = .ok (.iload_n 3, 1) := by decide +kernel
theorem dX11_comes_28 : decode cX11_comes 28 = .ok (.imul, 1) := by decide +kernel
theorem dX11_comes_29 : decode cX11_comes 29 = .ok (.iload_n 2, 1) := by decide +kernel
theorem dX11_comes_30 : decode cX11_comes 30 = .ok (.iadd, 1) := by decide +kernel
theorem dX11_comes_31 : decode cX11_comes 31 = .ok (.istore 4, 2) := by decide +kernel
theorem dX11_comes_33 : decode cX11_comes 33 = .ok (.aload_n 0, 1) := by decide +kernel
theorem dX11_comes_34 : decode cX11_comes 34 = .ok (.getfield 32, 3) := by decide +kernel
theorem dX11_comes_37 : decode cX11_comes 37 = .ok (.aload_n 0, 1) := by decide +kernel
theorem dX11_comes_38 : decode cX11_comes 38 = .ok (.getfield 28, 3) := by decide +kernel
theorem dX11_comes_41 : decode cX11_comes 41 = .ok (.invokevirtual 126, 3) := by decide +kernel
theorem dX11_comes_44 : decode cX11_comes 44 = .ok (.iconst 0, 1) := by decide +kernel
theorem dX11_comes_45 : decode cX11_comes 45 = .ok (.istore 5, 2) := by decide +kernel
theorem dX11_comes_47 : decode cX11_comes 47 = .ok (.iload 5, 2) := by decide +kernel
theorem dX11_comes_49 : decode cX11_comes 49 = .ok (.sipush 200, 3) := by decide +kernel
theorem dX11_comes_52 : decode cX11_comes 52 = .ok (.if_icmp .gt 35, 3) := by decide +kernel
theorem dX11_comes_55 : decode cX11_comes 55 = .ok (.aload_n 0, 1) := by decide +kernel
theorem dX11_comes_56 : decode cX11_comes 56 = .ok (.getfield 32, 3) := by decide +kernel
theorem dX11_comes_59 : decode cX11_comes 59 = .ok (.getfield 144, 3) := by decide +kernel
theorem dX11_comes_62 : decode cX11_comes 62 = .ok (.iload_n 1, 1) := by decide +kernel
theorem dX11_comes_63 : decode cX11_comes 63 = .ok (.invokestatic 147, 3) := by decide +kernel
theorem dX11_comes_66 : decode cX11_comes 66 = .ok (.iload 4, 2) := by decide +kernel
theorem dX11_comes_68 : decode cX11_comes 68 = .ok (.if_icmp .ne 6, 3) := by decide +kernel
theorem dX11_comes_71 : decode cX11_comes 71 = .ok (.iload 5, 2) := by decide +kernel
theorem dX11_comes_73 : decode cX11_comes 73 = .ok (.ireturn, 1) := by decide +kernel
theorem dX11_comes_74 : decode cX11_comes 74 = .ok (.aload_n 0, 1) := by decide +kernel
theorem dX11_comes_75 : decode cX11_comes 75 = .ok (.getfield 32, 3) := by decide +kernel
theorem dX11_comes_78 : decode cX11_comes 78 = .ok (.invokevirtual 256, 3) := by decide +kernel
theorem dX11_comes_81 : decode cX11_comes 81 = .ok (.iinc 5 1, 3) := by decide +kernel
theorem dX11_comes_84 : decode cX11_comes 84 = .ok (.goto (-37), 3) := by decide +kernel
theorem dX11_comes_87 : decode cX11_comes 87 = .ok (.iconst (-1), 1) := by decide +kernel
theorem dX11_comes_88 : decode cX11_comes 88 = .ok (.ireturn, 1) := by decide +kernel
def fX11_comes_47 (N n : Nat) : Nat → zF → Nat → Int32 → Int32 → Int32 → Option (zF × Int32)
  | 0, _, _, _, _, _ => none
  | k + 1, f, a0, a1, a4, a5 =>
    (if (200 : Int32) < a5 then some (f, (-1 : Int32)) else ((zgR n f 11 a0 3).bind fun x8 => ((zgR n f 8 x8 2).bind fun x9 => ((fX11_at N n f x9 a1).bind fun x10 => (if x10 = a4 then some (f, a5) else ((zgR n f 11 a0 3).bind fun x11 => ((zck n f 8 x11).bind fun _ => ((fX8_goHour N n f x11).bind fun f12 => (fX11_comes_47 N n k f12 a0 a1 a4 (a5 + 1))))))))))
set_option maxRecDepth 100000 in
set_option maxHeartbeats 4000000 in
theorem gX11_comes_47 (l : Launch) {G : zG} {p : Program} {e : Env} {s : State} {m : MethodId} {args : Array Value} {below : List Frame} {meth : Method} {c : Code} {N n : Nat} {f9 : zF} {r : Int32} (B : zB G p s m args meth c RX11 cX11_comes 6 (some .int)) : ∀ (k : Nat), ∀ (f : zF) (a0 : Nat) (a1 : Int32) (a4 : Int32) (a5 : Int32) (H : Heap) (locs : List Loc) (ls : Array Slot), fX11_comes_47 N n k f a0 a1 a4 a5 = some (f9, r) → zS G n f H locs → lv_has ls 6 [(0, zr G a0), (1, .int a1), (4, .int a4), (5, .int a5)] → W p l e (zrm 4) s m args below meth c H locs 0 0 (MQ below (zQc G n f9 (some (.int r))) args s 0 0 (zA G)) (F0 m 47 ls []) := by
  have he := B.1
  have hb := B.2.1
  intro k
  induction k with
  | zero =>
    intro f a0 a1 a4 a5 H locs ls h
    unfold fX11_comes_47 at h
    cases h
  | succ k ih =>
    intro f a0 a1 a4 a5 H locs ls h hS hl
    unfold fX11_comes_47 at h
    refine lv_iload he hb dX11_comes_47 (lv_at hl 3 rfl) ?_
    refine lv_sipush (v := (200 : Int32)) he hb dX11_comes_49 (by decide) ?_
    refine lv_icmp_gt (tgt := 87) he hb dX11_comes_52 (by decide) (fun hc => ?_) (fun hc => ?_)
    · rw [if_pos hc] at h
      refine lv_iconst (v := (-1 : Int32)) he hb dX11_comes_87 (by decide) ?_
      obtain ⟨rfl, rfl⟩ := Prod.mk.inj (Option.some.inj h)
      exact z_iret B hS dX11_comes_88
    · rw [if_neg hc] at h
      refine z_aload_n he hb dX11_comes_55 rfl (lv_at hl 0 rfl) (zref_r _ _) ?_
      obtain ⟨x8, hx, h⟩ := zob h
      refine z_getR (ci := 11) (T := TX11) (N := 14) (j := 3) B hS hx rfl zin_X11 (by decide) zk_511 dX11_comes_56 ?_
      obtain ⟨x9, hx, h⟩ := zob h
      refine z_getR (ci := 8) (T := TX8) (N := 9) (j := 2) B hS hx rfl zin_X8 (by decide) zk_255 dX11_comes_59 ?_
      refine lv_iload_n he hb dX11_comes_62 rfl (lv_at hl 1 rfl) ?_
      obtain ⟨x10, hx, h⟩ := zob h
      refine z_callS (rest := []) B hS (mX11_at l G hx) zy_X11_at zk_755 (by decide) rfl hl rfl (Nat.le_of_ble_eq_true rfl) dX11_comes_63 (kk := (fun H locs hS => ?_))
      refine lv_iload he hb dX11_comes_66 (lv_at hl 2 rfl) ?_
      refine lv_icmp_ne (tgt := 74) he hb dX11_comes_68 (by decide) (fun hc => ?_) (fun hc => ?_)
      · rw [if_neg hc] at h
        refine z_aload_n he hb dX11_comes_74 rfl (lv_at hl 0 rfl) (zref_r _ _) ?_
        obtain ⟨x11, hx, h⟩ := zob h
        refine z_getR (ci := 11) (T := TX11) (N := 14) (j := 3) B hS hx rfl zin_X11 (by decide) zk_511 dX11_comes_75 ?_
        obtain ⟨_, hc, h⟩ := zob h
        obtain ⟨f12, hx, h⟩ := zob h
        refine z_callV (ci := 8) (T := TX8) (N := 9) (rest := []) B hS (mX8_goHour l G hx) zy_X8_goHour zk_885 (by decide) hc rfl rfl hl rfl (Nat.le_of_ble_eq_true rfl) dX11_comes_78 (kk := (fun H locs hS => ?_))
        refine lv_iinc (v := (a5 + 1)) (lv' := [(5, _), (0, _), (1, _), (4, _)]) he hb dX11_comes_81 hl (k := 3) rfl rfl (by decide) rfl (fun ls hl => ?_)
        refine lv_goto (tgt := 47) he hb dX11_comes_84 (by decide) ?_
        exact ih _ _ _ _ _ _ _ _ h hS (lv_sub hl [1, 2, 3, 0] rfl)
      · rw [if_pos hc] at h
        refine lv_iload he hb dX11_comes_71 (lv_at hl 3 rfl) ?_
        obtain ⟨rfl, rfl⟩ := Prod.mk.inj (Option.some.inj h)
        exact z_iret B hS dX11_comes_73
def fX11_comes (N n : Nat) (f : zF) (a0 : Nat) (a1 : Int32) (a2 : Int32) (a3 : Int32) : Option (zF × Int32) :=
    ((zgR n f 11 a0 1).bind fun x1 => ((zck n f 2 x1).bind fun _ => ((fX2_hasFigure N n f x1 a1).bind fun x2 => (if x2 = 0 then some (f, (-1 : Int32)) else ((zgR n f 11 a0 1).bind fun x3 => ((zck n f 2 x3).bind fun _ => ((fX2_hasCell N n f x3 a2 a3).bind fun x4 => (if x4 = 0 then some (f, (-1 : Int32)) else ((zgR n f 11 a0 3).bind fun x5 => ((zgR n f 11 a0 2).bind fun x6 => ((zck n f 8 x5).bind fun _ => ((fX8_copyFrom N n f x5 x6).bind fun f7 => (fX11_comes_47 N n N f7 a0 a1 (((9 : Int32) * a3) + a2) (0 : Int32))))))))))))))
set_option maxRecDepth 100000 in
set_option maxHeartbeats 4000000 in
theorem mX11_comes (l : Launch) (G : zG) {N n : Nat} {f : zF} {f9 : zF} {r : Int32} {a0 : Nat} {a1 : Int32} {a2 : Int32} {a3 : Int32} (h : fX11_comes N n f a0 a1 a2 a3 = some (f9, r)) : zM l G yX11_comes cX11_comes 6 (some .int) 4 n f [zr G a0, .int a1, .int a2, .int a3] (some (.int r)) f9 := by
  refine zM.of (by decide) (Nat.le_of_ble_eq_true rfl) ?_
  intro p e s m args below meth c locs ls B hS hl
  have he := B.1
  have hb := B.2.1
  have hl : lv_has ls 6 [(0, zr G a0), (1, .int a1), (2, .int a2), (3, .int a3)] := hl
  unfold fX11_comes at h
  generalize s.heap = H at hS ⊢
  refine z_aload_n he hb dX11_comes_0 rfl (lv_at hl 0 rfl) (zref_r _ _) ?_
  obtain ⟨x1, hx, h⟩ := zob h
  refine z_getR (ci := 11) (T := TX11) (N := 14) (j := 1) B hS hx rfl zin_X11 (by decide) zk_509 dX11_comes_1 ?_
  refine lv_iload_n he hb dX11_comes_4 rfl (lv_at hl 1 rfl) ?_
  obtain ⟨_, hc, h⟩ := zob h
  obtain ⟨x2, hx, h⟩ := zob h
  refine z_callV (ci := 2) (T := TX2) (N := 15) (rest := []) B hS (mX2_hasFigure l G hx) zy_X2_hasFigure zk_872 (by decide) hc rfl rfl hl rfl (Nat.le_of_ble_eq_true rfl) dX11_comes_5 (kk := (fun H locs hS => ?_))
  refine lv_if_eq (tgt := 23) he hb dX11_comes_8 (by decide) (fun hc => ?_) (fun hc => ?_)
  · rw [if_pos hc] at h
    refine lv_iconst (v := (-1 : Int32)) he hb dX11_comes_23 (by decide) ?_
    obtain ⟨rfl, rfl⟩ := Prod.mk.inj (Option.some.inj h)
    exact z_iret B hS dX11_comes_24
  · rw [if_neg hc] at h
    refine z_aload_n he hb dX11_comes_11 rfl (lv_at hl 0 rfl) (zref_r _ _) ?_
    obtain ⟨x3, hx, h⟩ := zob h
    refine z_getR (ci := 11) (T := TX11) (N := 14) (j := 1) B hS hx rfl zin_X11 (by decide) zk_509 dX11_comes_12 ?_
    refine lv_iload_n he hb dX11_comes_15 rfl (lv_at hl 2 rfl) ?_
    refine lv_iload_n he hb dX11_comes_16 rfl (lv_at hl 3 rfl) ?_
    obtain ⟨_, hc, h⟩ := zob h
    obtain ⟨x4, hx, h⟩ := zob h
    refine z_callV (ci := 2) (T := TX2) (N := 15) (rest := []) B hS (mX2_hasCell l G hx) zy_X2_hasCell zk_780 (by decide) hc rfl rfl hl rfl (Nat.le_of_ble_eq_true rfl) dX11_comes_17 (kk := (fun H locs hS => ?_))
    refine lv_if_ne (tgt := 25) he hb dX11_comes_20 (by decide) (fun hc => ?_) (fun hc => ?_)
    · rw [if_neg hc] at h
      refine lv_bipush (v := (9 : Int32)) he hb dX11_comes_25 (by decide) ?_
      refine lv_iload_n he hb dX11_comes_27 rfl (lv_at hl 3 rfl) ?_
      refine lv_imul he hb dX11_comes_28 ?_
      refine lv_iload_n he hb dX11_comes_29 rfl (lv_at hl 2 rfl) ?_
      refine lv_iadd he hb dX11_comes_30 ?_
      refine lv_istore (lv' := [(4, _), (0, _), (1, _), (2, _), (3, _)]) he hb dX11_comes_31 hl (by decide) rfl (fun ls hl => ?_)
      refine z_aload_n he hb dX11_comes_33 rfl (lv_at hl 1 rfl) (zref_r _ _) ?_
      obtain ⟨x5, hx, h⟩ := zob h
      refine z_getR (ci := 11) (T := TX11) (N := 14) (j := 3) B hS hx rfl zin_X11 (by decide) zk_511 dX11_comes_34 ?_
      refine z_aload_n he hb dX11_comes_37 rfl (lv_at hl 1 rfl) (zref_r _ _) ?_
      obtain ⟨x6, hx, h⟩ := zob h
      refine z_getR (ci := 11) (T := TX11) (N := 14) (j := 2) B hS hx rfl zin_X11 (by decide) zk_510 dX11_comes_38 ?_
      obtain ⟨_, hc, h⟩ := zob h
      obtain ⟨f7, hx, h⟩ := zob h
      refine z_callV (ci := 8) (T := TX8) (N := 9) (rest := []) B hS (mX8_copyFrom l G hx) zy_X8_copyFrom zk_730 (by decide) hc rfl rfl hl rfl (Nat.le_of_ble_eq_true rfl) dX11_comes_41 (kk := (fun H locs hS => ?_))
      refine lv_iconst (v := (0 : Int32)) he hb dX11_comes_44 (by decide) ?_
      refine lv_istore (lv' := [(5, _), (4, _), (0, _), (1, _), (2, _), (3, _)]) he hb dX11_comes_45 hl (by decide) rfl (fun ls hl => ?_)
      exact gX11_comes_47 l B N _ _ _ _ _ _ _ _ h hS (lv_sub hl [2, 3, 1, 0] rfl)
    · rw [if_pos hc] at h
      refine lv_iconst (v := (-1 : Int32)) he hb dX11_comes_23 (by decide) ?_
      obtain ⟨rfl, rfl⟩ := Prod.mk.inj (Option.some.inj h)
      exact z_iret B hS dX11_comes_24
theorem dX11_markSights_0 : decode cX11_markSights 0 = .ok (.iconst 0, 1) := by decide +kernel
theorem dX11_markSights_1 : decode cX11_markSights 1 = .ok (.istore_n 2, 1) := by decide +kernel
theorem dX11_markSights_2 : decode cX11_markSights 2 = .ok (.iload_n 2, 1) := by decide +kernel
theorem dX11_markSights_3 : decode cX11_markSights 3 = .ok (.aload_n 0, 1) := by decide +kernel
theorem dX11_markSights_4 : decode cX11_markSights 4 = .ok (.getfield 19, 3) := by decide +kernel
theorem dX11_markSights_7 : decode cX11_markSights 7 = .ok (.getfield 223, 3) := by decide +kernel
theorem dX11_markSights_10 : decode cX11_markSights 10 = .ok (.if_icmp .ge 76, 3) := by decide +kernel
theorem dX11_markSights_13 : decode cX11_markSights 13 = .ok (.iload_n 1, 1) := by decide +kernel
theorem dX11_markSights_14 : decode cX11_markSights 14 = .ok (.ifCond .eq 14, 3) := by decide +kernel
theorem dX11_markSights_17 : decode cX11_markSights 17 = .ok (.aload_n 0, 1) := by decide +kernel
theorem dX11_markSights_18 : decode cX11_markSights 18 = .ok (.getfield 28, 3) := by decide +kernel
theorem dX11_markSights_21 : decode cX11_markSights 21 = .ok (.iload_n 2, 1) := by decide +kernel
theorem dX11_markSights_22 : decode cX11_markSights 22 = .ok (.invokevirtual 182, 3) := by decide +kernel
theorem dX11_markSights_25 : decode cX11_markSights 25 = .ok (.ifCond .eq 7, 3) := by decide +kernel
theorem dX11_markSights_28 : decode cX11_markSights 28 = .ok (.iconst 1, 1) := by decide +kernel
theorem dX11_markSights_29 : decode cX11_markSights 29 = .ok (.goto 4, 3) := by decide +kernel
theorem dX11_markSights_32 : decode cX11_markSights 32 = .ok (.iconst 0, 1) := by decide +kernel
theorem dX11_markSights_33 : decode cX11_markSights 33 = .ok (.istore_n 3, 1) := by decide +kernel
theorem dX11_markSights_34 : decode cX11_markSights 34 = .ok (.iconst 0, 1) := by decide +kernel
theorem dX11_markSights_35 : decode cX11_markSights 35 = .ok (.istore 4, 2) := by decide +kernel
theorem dX11_markSights_37 : decode cX11_markSights 37 = .ok (.iload 4, 2) := by decide +kernel
theorem dX11_markSights_39 : decode cX11_markSights 39 = .ok (.iconst 4, 1) := by decide +kernel
theorem dX11_markSights_40 : decode cX11_markSights 40 = .ok (.if_icmp .ge 40, 3) := by decide +kernel
theorem dX11_markSights_43 : decode cX11_markSights 43 = .ok (.aload_n 0, 1) := by decide +kernel
theorem dX11_markSights_44 : decode cX11_markSights 44 = .ok (.getfield 98, 3) := by decide +kernel
theorem dX11_markSights_47 : decode cX11_markSights 47 = .ok (.iconst 4, 1) := by decide +kernel
theorem dX11_markSights_48 : decode cX11_markSights 48 = .ok (.iload_n 2, 1) := by decide +kernel
theorem dX11_markSights_49 : decode cX11_markSights 49 = .ok (.imul, 1) := by decide +kernel
theorem dX11_markSights_50 : decode cX11_markSights 50 = .ok (.iload 4, 2) := by decide +kernel
theorem dX11_markSights_52 : decode cX11_markSights 52 = .ok (.iadd, 1) := by decide +kernel
theorem dX11_markSights_53 : decode cX11_markSights 53 = .ok (.iload_n 3, 1) := by decide +kernel
theorem dX11_markSights_54 : decode cX11_markSights 54 = .ok (.ifCond .eq 16, 3) := by decide +kernel
theorem dX11_markSights_57 : decode cX11_markSights 57 = .ok (.aload_n 0, 1) := by decide +kernel
theorem dX11_markSights_58 : decode cX11_markSights 58 = .ok (.getfield 28, 3) := by decide +kernel
theorem dX11_markSights_61 : decode cX11_markSights 61 = .ok (.iload_n 2, 1) := by decide +kernel
theorem dX11_markSights_62 : decode cX11_markSights 62 = .ok (.iload 4, 2) := by decide +kernel
theorem dX11_markSights_64 : decode cX11_markSights 64 = .ok (.invokevirtual 185, 3) := by decide +kernel
theorem dX11_markSights_67 : decode cX11_markSights 67 = .ok (.goto 4, 3) := by decide +kernel
theorem dX11_markSights_70 : decode cX11_markSights 70 = .ok (.iconst 0, 1) := by decide +kernel
theorem dX11_markSights_71 : decode cX11_markSights 71 = .ok (.invokestatic 287, 3) := by decide +kernel
theorem dX11_markSights_74 : decode cX11_markSights 74 = .ok (.iinc 4 1, 3) := by decide +kernel
theorem dX11_markSights_77 : decode cX11_markSights 77 = .ok (.goto (-40), 3) := by decide +kernel
theorem dX11_markSights_80 : decode cX11_markSights 80 = .ok (.iinc 2 1, 3) := by decide +kernel
theorem dX11_markSights_83 : decode cX11_markSights 83 = .ok (.goto (-81), 3) := by decide +kernel
theorem dX11_markSights_86 : decode cX11_markSights 86 = .ok (.return_, 1) := by decide +kernel
def fX11_markSights_71 (r2 : zF → Nat → Int32 → Int32 → Option zF) (r37 : zF → Nat → Int32 → Int32 → Int32 → Int32 → Option zF) (N n : Nat) (f : zF) (a0 : Nat) (a1 : Int32) (a2 : Int32) (a3 : Int32) (a4 : Int32) (t0 : Nat) (t1 : Int32) (t2 : Int32) : Option zF :=
    ((fX11_put N n f t0 t1 t2).bind fun f4 => (r37 f4 a0 a1 a2 a3 (a4 + 1)))
set_option maxRecDepth 100000 in
set_option maxHeartbeats 4000000 in
theorem gX11_markSights_71 (l : Launch) {G : zG} {p : Program} {e : Env} {s : State} {m : MethodId} {args : Array Value} {below : List Frame} {meth : Method} {c : Code} {N n : Nat} {f9 : zF} {r2 : zF → Nat → Int32 → Int32 → Option zF} {r37 : zF → Nat → Int32 → Int32 → Int32 → Int32 → Option zF} (B : zB G p s m args meth c RX11 cX11_markSights 5 (none)) (hr2 : ∀ (f : zF) (a0 : Nat) (a1 : Int32) (a2 : Int32) (H : Heap) (locs : List Loc) (ls : Array Slot), r2 f a0 a1 a2 = some f9 → zS G n f H locs → lv_has ls 5 [(0, zr G a0), (1, .int a1), (2, .int a2)] → W p l e (zrm 3) s m args below meth c H locs 0 0 (MQ below (zQc G n f9 (none)) args s 0 0 (zA G)) (F0 m 2 ls [])) (hr37 : ∀ (f : zF) (a0 : Nat) (a1 : Int32) (a2 : Int32) (a3 : Int32) (a4 : Int32) (H : Heap) (locs : List Loc) (ls : Array Slot), r37 f a0 a1 a2 a3 a4 = some f9 → zS G n f H locs → lv_has ls 5 [(0, zr G a0), (1, .int a1), (2, .int a2), (3, .int a3), (4, .int a4)] → W p l e (zrm 3) s m args below meth c H locs 0 0 (MQ below (zQc G n f9 (none)) args s 0 0 (zA G)) (F0 m 37 ls [])) : ∀ (f : zF) (a0 : Nat) (a1 : Int32) (a2 : Int32) (a3 : Int32) (a4 : Int32) (t0 : Nat) (t1 : Int32) (t2 : Int32) (H : Heap) (locs : List Loc) (ls : Array Slot), fX11_markSights_71 r2 r37 N n f a0 a1 a2 a3 a4 t0 t1 t2 = some f9 → zS G n f H locs → lv_has ls 5 [(0, zr G a0), (1, .int a1), (2, .int a2), (3, .int a3), (4, .int a4)] → W p l e (zrm 3) s m args below meth c H locs 0 0 (MQ below (zQc G n f9 (none)) args s 0 0 (zA G)) (F0 m 71 ls [.int t2, .int t1, zr G t0]) := by
  have he := B.1
  have hb := B.2.1
  intro f a0 a1 a2 a3 a4 t0 t1 t2 H locs ls h hS hl
  unfold fX11_markSights_71 at h
  obtain ⟨f4, hx, h⟩ := zob h
  refine z_callS (rest := []) B hS (mX11_put l G hx) zy_X11_put zk_925 (by decide) rfl hl rfl (Nat.le_of_ble_eq_true rfl) dX11_markSights_71 (kk := (fun H locs hS => ?_))
  refine lv_iinc (v := (a4 + 1)) (lv' := [(4, _), (0, _), (1, _), (2, _), (3, _)]) he hb dX11_markSights_74 hl (k := 4) rfl rfl (by decide) rfl (fun ls hl => ?_)
  refine lv_goto (tgt := 37) he hb dX11_markSights_77 (by decide) ?_
  exact hr37 _ _ _ _ _ _ _ _ _ h hS (lv_sub hl [1, 2, 3, 4, 0] rfl)
def fX11_markSights_37 (r2 : zF → Nat → Int32 → Int32 → Option zF) (N n : Nat) : Nat → zF → Nat → Int32 → Int32 → Int32 → Int32 → Option zF
  | 0, _, _, _, _, _, _ => none
  | k + 1, f, a0, a1, a2, a3, a4 =>
    (if (4 : Int32) ≤ a4 then (r2 f a0 a1 (a2 + 1)) else ((zgR n f 11 a0 13).bind fun x3 => (if a3 = 0 then (fX11_markSights_71 r2 (fX11_markSights_37 r2 N n k) N n f a0 a1 a2 a3 a4 x3 (((4 : Int32) * a2) + a4) (0 : Int32)) else ((zgR n f 11 a0 2).bind fun x5 => ((zck n f 8 x5).bind fun _ => ((fX8_sight N n f x5 a2 a4).bind fun x6 => (fX11_markSights_71 r2 (fX11_markSights_37 r2 N n k) N n f a0 a1 a2 a3 a4 x3 (((4 : Int32) * a2) + a4) x6)))))))
set_option maxRecDepth 100000 in
set_option maxHeartbeats 4000000 in
theorem gX11_markSights_37 (l : Launch) {G : zG} {p : Program} {e : Env} {s : State} {m : MethodId} {args : Array Value} {below : List Frame} {meth : Method} {c : Code} {N n : Nat} {f9 : zF} {r2 : zF → Nat → Int32 → Int32 → Option zF} (B : zB G p s m args meth c RX11 cX11_markSights 5 (none)) (hr2 : ∀ (f : zF) (a0 : Nat) (a1 : Int32) (a2 : Int32) (H : Heap) (locs : List Loc) (ls : Array Slot), r2 f a0 a1 a2 = some f9 → zS G n f H locs → lv_has ls 5 [(0, zr G a0), (1, .int a1), (2, .int a2)] → W p l e (zrm 3) s m args below meth c H locs 0 0 (MQ below (zQc G n f9 (none)) args s 0 0 (zA G)) (F0 m 2 ls [])) : ∀ (k : Nat), ∀ (f : zF) (a0 : Nat) (a1 : Int32) (a2 : Int32) (a3 : Int32) (a4 : Int32) (H : Heap) (locs : List Loc) (ls : Array Slot), fX11_markSights_37 r2 N n k f a0 a1 a2 a3 a4 = some f9 → zS G n f H locs → lv_has ls 5 [(0, zr G a0), (1, .int a1), (2, .int a2), (3, .int a3), (4, .int a4)] → W p l e (zrm 3) s m args below meth c H locs 0 0 (MQ below (zQc G n f9 (none)) args s 0 0 (zA G)) (F0 m 37 ls []) := by
  have he := B.1
  have hb := B.2.1
  intro k
  induction k with
  | zero =>
    intro f a0 a1 a2 a3 a4 H locs ls h
    unfold fX11_markSights_37 at h
    cases h
  | succ k ih =>
    intro f a0 a1 a2 a3 a4 H locs ls h hS hl
    unfold fX11_markSights_37 at h
    refine lv_iload he hb dX11_markSights_37 (lv_at hl 4 rfl) ?_
    refine lv_iconst (v := (4 : Int32)) he hb dX11_markSights_39 (by decide) ?_
    refine lv_icmp_ge (tgt := 80) he hb dX11_markSights_40 (by decide) (fun hc => ?_) (fun hc => ?_)
    · rw [if_pos hc] at h
      refine lv_iinc (v := (a2 + 1)) (lv' := [(2, _), (0, _), (1, _), (3, _), (4, _)]) he hb dX11_markSights_80 hl (k := 2) rfl rfl (by decide) rfl (fun ls hl => ?_)
      refine lv_goto (tgt := 2) he hb dX11_markSights_83 (by decide) ?_
      exact hr2 _ _ _ _ _ _ _ h hS (lv_sub hl [1, 2, 0] rfl)
    · rw [if_neg hc] at h
      refine z_aload_n he hb dX11_markSights_43 rfl (lv_at hl 0 rfl) (zref_r _ _) ?_
      obtain ⟨x3, hx, h⟩ := zob h
      refine z_getR (ci := 11) (T := TX11) (N := 14) (j := 13) B hS hx rfl zin_X11 (by decide) zk_521 dX11_markSights_44 ?_
      refine lv_iconst (v := (4 : Int32)) he hb dX11_markSights_47 (by decide) ?_
      refine lv_iload_n he hb dX11_markSights_48 rfl (lv_at hl 2 rfl) ?_
      refine lv_imul he hb dX11_markSights_49 ?_
      refine lv_iload he hb dX11_markSights_50 (lv_at hl 4 rfl) ?_
      refine lv_iadd he hb dX11_markSights_52 ?_
      refine lv_iload_n he hb dX11_markSights_53 rfl (lv_at hl 3 rfl) ?_
      refine lv_if_eq (tgt := 70) he hb dX11_markSights_54 (by decide) (fun hc => ?_) (fun hc => ?_)
      · rw [if_pos hc] at h
        refine lv_iconst (v := (0 : Int32)) he hb dX11_markSights_70 (by decide) ?_
        exact gX11_markSights_71 l B hr2 ih _ _ _ _ _ _ _ _ _ _ _ _ h hS (lv_sub hl [0, 1, 2, 3, 4] rfl)
      · rw [if_neg hc] at h
        refine z_aload_n he hb dX11_markSights_57 rfl (lv_at hl 0 rfl) (zref_r _ _) ?_
        obtain ⟨x5, hx, h⟩ := zob h
        refine z_getR (ci := 11) (T := TX11) (N := 14) (j := 2) B hS hx rfl zin_X11 (by decide) zk_510 dX11_markSights_58 ?_
        refine lv_iload_n he hb dX11_markSights_61 rfl (lv_at hl 2 rfl) ?_
        refine lv_iload he hb dX11_markSights_62 (lv_at hl 4 rfl) ?_
        obtain ⟨_, hc, h⟩ := zob h
        obtain ⟨x6, hx, h⟩ := zob h
        refine z_callV (ci := 8) (T := TX8) (N := 9) (rest := [_, _]) B hS (mX8_sight l G hx) zy_X8_sight zk_763 (by decide) hc rfl rfl hl rfl (Nat.le_of_ble_eq_true rfl) dX11_markSights_64 (kk := (fun H locs hS => ?_))
        refine lv_goto (tgt := 71) he hb dX11_markSights_67 (by decide) ?_
        exact gX11_markSights_71 l B hr2 ih _ _ _ _ _ _ _ _ _ _ _ _ h hS (lv_sub hl [0, 1, 2, 3, 4] rfl)
def fX11_markSights_33 (r2 : zF → Nat → Int32 → Int32 → Option zF) (N n : Nat) (f : zF) (a0 : Nat) (a1 : Int32) (a2 : Int32) (t0 : Int32) : Option zF :=
    (fX11_markSights_37 r2 N n N f a0 a1 a2 t0 (0 : Int32))
set_option maxRecDepth 100000 in
set_option maxHeartbeats 4000000 in
theorem gX11_markSights_33 (l : Launch) {G : zG} {p : Program} {e : Env} {s : State} {m : MethodId} {args : Array Value} {below : List Frame} {meth : Method} {c : Code} {N n : Nat} {f9 : zF} {r2 : zF → Nat → Int32 → Int32 → Option zF} (B : zB G p s m args meth c RX11 cX11_markSights 5 (none)) (hr2 : ∀ (f : zF) (a0 : Nat) (a1 : Int32) (a2 : Int32) (H : Heap) (locs : List Loc) (ls : Array Slot), r2 f a0 a1 a2 = some f9 → zS G n f H locs → lv_has ls 5 [(0, zr G a0), (1, .int a1), (2, .int a2)] → W p l e (zrm 3) s m args below meth c H locs 0 0 (MQ below (zQc G n f9 (none)) args s 0 0 (zA G)) (F0 m 2 ls [])) : ∀ (f : zF) (a0 : Nat) (a1 : Int32) (a2 : Int32) (t0 : Int32) (H : Heap) (locs : List Loc) (ls : Array Slot), fX11_markSights_33 r2 N n f a0 a1 a2 t0 = some f9 → zS G n f H locs → lv_has ls 5 [(0, zr G a0), (1, .int a1), (2, .int a2)] → W p l e (zrm 3) s m args below meth c H locs 0 0 (MQ below (zQc G n f9 (none)) args s 0 0 (zA G)) (F0 m 33 ls [.int t0]) := by
  have he := B.1
  have hb := B.2.1
  intro f a0 a1 a2 t0 H locs ls h hS hl
  unfold fX11_markSights_33 at h
  refine lv_istore_n (lv' := [(3, _), (0, _), (1, _), (2, _)]) he hb dX11_markSights_33 rfl hl (by decide) rfl (fun ls hl => ?_)
  refine lv_iconst (v := (0 : Int32)) he hb dX11_markSights_34 (by decide) ?_
  refine lv_istore (lv' := [(4, _), (3, _), (0, _), (1, _), (2, _)]) he hb dX11_markSights_35 hl (by decide) rfl (fun ls hl => ?_)
  exact gX11_markSights_37 l B hr2 N _ _ _ _ _ _ _ _ _ h hS (lv_sub hl [2, 3, 4, 1, 0] rfl)
def fX11_markSights_28 (r2 : zF → Nat → Int32 → Int32 → Option zF) (N n : Nat) (f : zF) (a0 : Nat) (a1 : Int32) (a2 : Int32) : Option zF :=
    (fX11_markSights_33 r2 N n f a0 a1 a2 (1 : Int32))
set_option maxRecDepth 100000 in
set_option maxHeartbeats 4000000 in
theorem gX11_markSights_28 (l : Launch) {G : zG} {p : Program} {e : Env} {s : State} {m : MethodId} {args : Array Value} {below : List Frame} {meth : Method} {c : Code} {N n : Nat} {f9 : zF} {r2 : zF → Nat → Int32 → Int32 → Option zF} (B : zB G p s m args meth c RX11 cX11_markSights 5 (none)) (hr2 : ∀ (f : zF) (a0 : Nat) (a1 : Int32) (a2 : Int32) (H : Heap) (locs : List Loc) (ls : Array Slot), r2 f a0 a1 a2 = some f9 → zS G n f H locs → lv_has ls 5 [(0, zr G a0), (1, .int a1), (2, .int a2)] → W p l e (zrm 3) s m args below meth c H locs 0 0 (MQ below (zQc G n f9 (none)) args s 0 0 (zA G)) (F0 m 2 ls [])) : ∀ (f : zF) (a0 : Nat) (a1 : Int32) (a2 : Int32) (H : Heap) (locs : List Loc) (ls : Array Slot), fX11_markSights_28 r2 N n f a0 a1 a2 = some f9 → zS G n f H locs → lv_has ls 5 [(0, zr G a0), (1, .int a1), (2, .int a2)] → W p l e (zrm 3) s m args below meth c H locs 0 0 (MQ below (zQc G n f9 (none)) args s 0 0 (zA G)) (F0 m 28 ls []) := by
  have he := B.1
  have hb := B.2.1
  intro f a0 a1 a2 H locs ls h hS hl
  unfold fX11_markSights_28 at h
  refine lv_iconst (v := (1 : Int32)) he hb dX11_markSights_28 (by decide) ?_
  refine lv_goto (tgt := 33) he hb dX11_markSights_29 (by decide) ?_
  exact gX11_markSights_33 l B hr2 _ _ _ _ _ _ _ _ h hS (lv_sub hl [0, 1, 2] rfl)
def fX11_markSights_2 (N n : Nat) : Nat → zF → Nat → Int32 → Int32 → Option zF
  | 0, _, _, _, _ => none
  | k + 1, f, a0, a1, a2 =>
    ((zgR n f 11 a0 1).bind fun x1 => ((zgI n f 2 x1 4).bind fun x2 => (if x2 ≤ a2 then some f else (if a1 = 0 then (fX11_markSights_28 (fX11_markSights_2 N n k) N n f a0 a1 a2) else ((zgR n f 11 a0 2).bind fun x7 => ((zck n f 8 x7).bind fun _ => ((fX8_looks N n f x7 a2).bind fun x8 => (if x8 = 0 then (fX11_markSights_33 (fX11_markSights_2 N n k) N n f a0 a1 a2 (0 : Int32)) else (fX11_markSights_28 (fX11_markSights_2 N n k) N n f a0 a1 a2)))))))))
set_option maxRecDepth 100000 in
set_option maxHeartbeats 4000000 in
theorem gX11_markSights_2 (l : Launch) {G : zG} {p : Program} {e : Env} {s : State} {m : MethodId} {args : Array Value} {below : List Frame} {meth : Method} {c : Code} {N n : Nat} {f9 : zF} (B : zB G p s m args meth c RX11 cX11_markSights 5 (none)) : ∀ (k : Nat), ∀ (f : zF) (a0 : Nat) (a1 : Int32) (a2 : Int32) (H : Heap) (locs : List Loc) (ls : Array Slot), fX11_markSights_2 N n k f a0 a1 a2 = some f9 → zS G n f H locs → lv_has ls 5 [(0, zr G a0), (1, .int a1), (2, .int a2)] → W p l e (zrm 3) s m args below meth c H locs 0 0 (MQ below (zQc G n f9 (none)) args s 0 0 (zA G)) (F0 m 2 ls []) := by
  have he := B.1
  have hb := B.2.1
  intro k
  induction k with
  | zero =>
    intro f a0 a1 a2 H locs ls h
    unfold fX11_markSights_2 at h
    cases h
  | succ k ih =>
    intro f a0 a1 a2 H locs ls h hS hl
    unfold fX11_markSights_2 at h
    refine lv_iload_n he hb dX11_markSights_2 rfl (lv_at hl 2 rfl) ?_
    refine z_aload_n he hb dX11_markSights_3 rfl (lv_at hl 0 rfl) (zref_r _ _) ?_
    obtain ⟨x1, hx, h⟩ := zob h
    refine z_getR (ci := 11) (T := TX11) (N := 14) (j := 1) B hS hx rfl zin_X11 (by decide) zk_509 dX11_markSights_4 ?_
    obtain ⟨x2, hx, h⟩ := zob h
    refine z_getI (ci := 2) (T := TX2) (N := 15) (j := 4) B hS hx rfl zin_X2 (by decide) zk_173 dX11_markSights_7 ?_
    refine lv_icmp_ge (tgt := 86) he hb dX11_markSights_10 (by decide) (fun hc => ?_) (fun hc => ?_)
    · rw [if_pos hc] at h
      obtain rfl := Option.some.inj h
      exact z_vret B hS dX11_markSights_86
    · rw [if_neg hc] at h
      refine lv_iload_n he hb dX11_markSights_13 rfl (lv_at hl 1 rfl) ?_
      refine lv_if_eq (tgt := 28) he hb dX11_markSights_14 (by decide) (fun hc => ?_) (fun hc => ?_)
      · rw [if_pos hc] at h
        exact gX11_markSights_28 l B ih _ _ _ _ _ _ _ h hS (lv_sub hl [0, 1, 2] rfl)
      · rw [if_neg hc] at h
        refine z_aload_n he hb dX11_markSights_17 rfl (lv_at hl 0 rfl) (zref_r _ _) ?_
        obtain ⟨x7, hx, h⟩ := zob h
        refine z_getR (ci := 11) (T := TX11) (N := 14) (j := 2) B hS hx rfl zin_X11 (by decide) zk_510 dX11_markSights_18 ?_
        refine lv_iload_n he hb dX11_markSights_21 rfl (lv_at hl 2 rfl) ?_
        obtain ⟨_, hc, h⟩ := zob h
        obtain ⟨x8, hx, h⟩ := zob h
        refine z_callV (ci := 8) (T := TX8) (N := 9) (rest := []) B hS (mX8_looks l G hx) zy_X8_looks zk_756 (by decide) hc rfl rfl hl rfl (Nat.le_of_ble_eq_true rfl) dX11_markSights_22 (kk := (fun H locs hS => ?_))
        refine lv_if_eq (tgt := 32) he hb dX11_markSights_25 (by decide) (fun hc => ?_) (fun hc => ?_)
        · rw [if_pos hc] at h
          refine lv_iconst (v := (0 : Int32)) he hb dX11_markSights_32 (by decide) ?_
          exact gX11_markSights_33 l B ih _ _ _ _ _ _ _ _ h hS (lv_sub hl [0, 1, 2] rfl)
        · rw [if_neg hc] at h
          exact gX11_markSights_28 l B ih _ _ _ _ _ _ _ h hS (lv_sub hl [0, 1, 2] rfl)
def fX11_markSights (N n : Nat) (f : zF) (a0 : Nat) (a1 : Int32) : Option zF :=
    (fX11_markSights_2 N n N f a0 a1 (0 : Int32))
set_option maxRecDepth 100000 in
set_option maxHeartbeats 4000000 in
theorem mX11_markSights (l : Launch) (G : zG) {N n : Nat} {f : zF} {f9 : zF} {a0 : Nat} {a1 : Int32} (h : fX11_markSights N n f a0 a1 = some f9) : zM l G yX11_markSights cX11_markSights 5 (none) 3 n f [zr G a0, .int a1] (none) f9 := by
  refine zM.of (by decide) (Nat.le_of_ble_eq_true rfl) ?_
  intro p e s m args below meth c locs ls B hS hl
  have he := B.1
  have hb := B.2.1
  have hl : lv_has ls 5 [(0, zr G a0), (1, .int a1)] := hl
  unfold fX11_markSights at h
  generalize s.heap = H at hS ⊢
  refine lv_iconst (v := (0 : Int32)) he hb dX11_markSights_0 (by decide) ?_
  refine lv_istore_n (lv' := [(2, _), (0, _), (1, _)]) he hb dX11_markSights_1 rfl hl (by decide) rfl (fun ls hl => ?_)
  exact gX11_markSights_2 l B N _ _ _ _ _ _ _ h hS (lv_sub hl [1, 2, 0] rfl)
theorem dX11_digit_0 : decode cX11_digit 0 = .ok (.iload_n 1, 1) := by decide +kernel
theorem dX11_digit_1 : decode cX11_digit 1 = .ok (.iconst 2, 1) := by decide +kernel
theorem dX11_digit_2 : decode cX11_digit 2 = .ok (.aload_n 0, 1) := by decide +kernel
theorem dX11_digit_3 : decode cX11_digit 3 = .ok (.getfield 19, 3) := by decide +kernel
theorem dX11_digit_6 : decode cX11_digit 6 = .ok (.getfield 223, 3) := by decide +kernel
theorem dX11_digit_9 : decode cX11_digit 9 = .ok (.iconst 1, 1) := by decide +kernel
theorem dX11_digit_10 : decode cX11_digit 10 = .ok (.isub, 1) := by decide +kernel
theorem dX11_digit_11 : decode cX11_digit 11 = .ok (.iload_n 2, 1) := by decide +kernel
theorem dX11_digit_12 : decode cX11_digit 12 = .ok (.isub, 1) := by decide +kernel
theorem dX11_digit_13 : decode cX11_digit 13 = .ok (.imul, 1) := by decide +kernel
theorem dX11_digit_14 : decode cX11_digit 14 = .ok (.ishr, 1) := by decide +kernel
theorem dX11_digit_15 : decode cX11_digit 15 = .ok (.iconst 3, 1) := by decide +kernel
theorem dX11_digit_16 : decode cX11_digit 16 = .ok (.iand, 1) := by decide +kernel
theorem dX11_digit_17 : decode cX11_digit 17 = .ok (.ireturn, 1) := by decide +kernel
def fX11_digit (N n : Nat) (f : zF) (a0 : Nat) (a1 : Int32) (a2 : Int32) : Option Int32 :=
    ((zgR n f 11 a0 1).bind fun x1 => ((zgI n f 2 x1 4).bind fun x2 => some ((zishr a1 ((2 : Int32) * ((x2 - (1 : Int32)) - a2))) &&& (3 : Int32))))
set_option maxRecDepth 100000 in
set_option maxHeartbeats 4000000 in
theorem mX11_digit (l : Launch) (G : zG) {N n : Nat} {f : zF} {r : Int32} {a0 : Nat} {a1 : Int32} {a2 : Int32} (h : fX11_digit N n f a0 a1 a2 = some r) : zM l G yX11_digit cX11_digit 3 (some .int) 0 n f [zr G a0, .int a1, .int a2] (some (.int r)) f := by
  refine zM.of (by decide) (Nat.le_of_ble_eq_true rfl) ?_
  intro p e s m args below meth c locs ls B hS hl
  have he := B.1
  have hb := B.2.1
  have hl : lv_has ls 3 [(0, zr G a0), (1, .int a1), (2, .int a2)] := hl
  unfold fX11_digit at h
  generalize s.heap = H at hS ⊢
  refine lv_iload_n he hb dX11_digit_0 rfl (lv_at hl 1 rfl) ?_
  refine lv_iconst (v := (2 : Int32)) he hb dX11_digit_1 (by decide) ?_
  refine z_aload_n he hb dX11_digit_2 rfl (lv_at hl 0 rfl) (zref_r _ _) ?_
  obtain ⟨x1, hx, h⟩ := zob h
  refine z_getR (ci := 11) (T := TX11) (N := 14) (j := 1) B hS hx rfl zin_X11 (by decide) zk_509 dX11_digit_3 ?_
  obtain ⟨x2, hx, h⟩ := zob h
  refine z_getI (ci := 2) (T := TX2) (N := 15) (j := 4) B hS hx rfl zin_X2 (by decide) zk_173 dX11_digit_6 ?_
  refine lv_iconst (v := (1 : Int32)) he hb dX11_digit_9 (by decide) ?_
  refine lv_isub he hb dX11_digit_10 ?_
  refine lv_iload_n he hb dX11_digit_11 rfl (lv_at hl 2 rfl) ?_
  refine lv_isub he hb dX11_digit_12 ?_
  refine lv_imul he hb dX11_digit_13 ?_
  refine z_ishr he hb dX11_digit_14 ?_
  refine lv_iconst (v := (3 : Int32)) he hb dX11_digit_15 (by decide) ?_
  refine lv_iand he hb dX11_digit_16 ?_
  obtain rfl := Option.some.inj h
  exact z_iret B hS dX11_digit_17
theorem dX11_sightsOf_0 : decode cX11_sightsOf 0 = .ok (.iconst 0, 1) := by decide +kernel
theorem dX11_sightsOf_1 : decode cX11_sightsOf 1 = .ok (.istore_n 2, 1) := by decide +kernel
theorem dX11_sightsOf_2 : decode cX11_sightsOf 2 = .ok (.iconst 0, 1) := by decide +kernel
theorem dX11_sightsOf_3 : decode cX11_sightsOf 3 = .ok (.istore_n 3, 1) := by decide +kernel
theorem dX11_sightsOf_4 : decode cX11_sightsOf 4 = .ok (.iload_n 3, 1) := by decide +kernel
theorem dX11_sightsOf_5 : decode cX11_sightsOf 5 = .ok (.aload_n 0, 1) := by decide +kernel
theorem dX11_sightsOf_6 : decode cX11_sightsOf 6 = .ok (.getfield 19, 3) := by decide +kernel
theorem dX11_sightsOf_9 : decode cX11_sightsOf 9 = .ok (.getfield 223, 3) := by decide +kernel
theorem dX11_sightsOf_12 : decode cX11_sightsOf 12 = .ok (.if_icmp .ge 29, 3) := by decide +kernel
theorem dX11_sightsOf_15 : decode cX11_sightsOf 15 = .ok (.iload_n 2, 1) := by decide +kernel
theorem dX11_sightsOf_16 : decode cX11_sightsOf 16 = .ok (.aload_n 0, 1) := by decide +kernel
theorem dX11_sightsOf_17 : decode cX11_sightsOf 17 = .ok (.getfield 98, 3) := by decide +kernel
theorem dX11_sightsOf_20 : decode cX11_sightsOf 20 = .ok (.iconst 4, 1) := by decide +kernel
theorem dX11_sightsOf_21 : decode cX11_sightsOf 21 = .ok (.iload_n 3, 1) := by decide +kernel
theorem dX11_sightsOf_22 : decode cX11_sightsOf 22 = .ok (.imul, 1) := by decide +kernel
theorem dX11_sightsOf_23 : decode cX11_sightsOf 23 = .ok (.aload_n 0, 1) := by decide +kernel
theorem dX11_sightsOf_24 : decode cX11_sightsOf 24 = .ok (.iload_n 1, 1) := by decide +kernel
theorem dX11_sightsOf_25 : decode cX11_sightsOf 25 = .ok (.iload_n 3, 1) := by decide +kernel
theorem dX11_sightsOf_26 : decode cX11_sightsOf 26 = .ok (.invokevirtual 284, 3) := by decide +kernel
theorem dX11_sightsOf_29 : decode cX11_sightsOf 29 = .ok (.iadd, 1) := by decide +kernel
theorem dX11_sightsOf_30 : decode cX11_sightsOf 30 = .ok (.invokestatic 147, 3) := by decide +kernel
theorem dX11_sightsOf_33 : decode cX11_sightsOf 33 = .ok (.ior, 1) := by decide +kernel
theorem dX11_sightsOf_34 : decode cX11_sightsOf 34 = .ok (.istore_n 2, 1) := by decide +kernel
theorem dX11_sightsOf_35 : decode cX11_sightsOf 35 = .ok (.iinc 3 1, 3) := by decide +kernel
theorem dX11_sightsOf_38 : decode cX11_sightsOf 38 = .ok (.goto (-34), 3) := by decide +kernel
theorem dX11_sightsOf_41 : decode cX11_sightsOf 41 = .ok (.iload_n 2, 1) := by decide +kernel
theorem dX11_sightsOf_42 : decode cX11_sightsOf 42 = .ok (.ireturn, 1) := by decide +kernel
def fX11_sightsOf_4 (N n : Nat) (f : zF) : Nat → Nat → Int32 → Int32 → Int32 → Option Int32
  | 0, _, _, _, _ => none
  | k + 1, a0, a1, a2, a3 =>
    ((zgR n f 11 a0 1).bind fun x1 => ((zgI n f 2 x1 4).bind fun x2 => (if x2 ≤ a3 then some a2 else ((zgR n f 11 a0 13).bind fun x3 => ((zck n f 11 a0).bind fun _ => ((fX11_digit N n f a0 a1 a3).bind fun x4 => ((fX11_at N n f x3 (((4 : Int32) * a3) + x4)).bind fun x5 => (fX11_sightsOf_4 N n f k a0 a1 (a2 ||| x5) (a3 + 1)))))))))
set_option maxRecDepth 100000 in
set_option maxHeartbeats 4000000 in
theorem gX11_sightsOf_4 (l : Launch) {G : zG} {p : Program} {e : Env} {s : State} {m : MethodId} {args : Array Value} {below : List Frame} {meth : Method} {c : Code} {f : zF} {N n : Nat} {r : Int32} (B : zB G p s m args meth c RX11 cX11_sightsOf 4 (some .int)) : ∀ (k : Nat), ∀ (a0 : Nat) (a1 : Int32) (a2 : Int32) (a3 : Int32) (H : Heap) (locs : List Loc) (ls : Array Slot), fX11_sightsOf_4 N n f k a0 a1 a2 a3 = some r → zS G n f H locs → lv_has ls 4 [(0, zr G a0), (1, .int a1), (2, .int a2), (3, .int a3)] → W p l e (zrm 1) s m args below meth c H locs 0 0 (MQ below (zQc G n f (some (.int r))) args s 0 0 (zA G)) (F0 m 4 ls []) := by
  have he := B.1
  have hb := B.2.1
  intro k
  induction k with
  | zero =>
    intro a0 a1 a2 a3 H locs ls h
    unfold fX11_sightsOf_4 at h
    cases h
  | succ k ih =>
    intro a0 a1 a2 a3 H locs ls h hS hl
    unfold fX11_sightsOf_4 at h
    refine lv_iload_n he hb dX11_sightsOf_4 rfl (lv_at hl 3 rfl) ?_
    refine z_aload_n he hb dX11_sightsOf_5 rfl (lv_at hl 0 rfl) (zref_r _ _) ?_
    obtain ⟨x1, hx, h⟩ := zob h
    refine z_getR (ci := 11) (T := TX11) (N := 14) (j := 1) B hS hx rfl zin_X11 (by decide) zk_509 dX11_sightsOf_6 ?_
    obtain ⟨x2, hx, h⟩ := zob h
    refine z_getI (ci := 2) (T := TX2) (N := 15) (j := 4) B hS hx rfl zin_X2 (by decide) zk_173 dX11_sightsOf_9 ?_
    refine lv_icmp_ge (tgt := 41) he hb dX11_sightsOf_12 (by decide) (fun hc => ?_) (fun hc => ?_)
    · rw [if_pos hc] at h
      refine lv_iload_n he hb dX11_sightsOf_41 rfl (lv_at hl 2 rfl) ?_
      obtain rfl := Option.some.inj h
      exact z_iret B hS dX11_sightsOf_42
    · rw [if_neg hc] at h
      refine lv_iload_n he hb dX11_sightsOf_15 rfl (lv_at hl 2 rfl) ?_
      refine z_aload_n he hb dX11_sightsOf_16 rfl (lv_at hl 0 rfl) (zref_r _ _) ?_
      obtain ⟨x3, hx, h⟩ := zob h
      refine z_getR (ci := 11) (T := TX11) (N := 14) (j := 13) B hS hx rfl zin_X11 (by decide) zk_521 dX11_sightsOf_17 ?_
      refine lv_iconst (v := (4 : Int32)) he hb dX11_sightsOf_20 (by decide) ?_
      refine lv_iload_n he hb dX11_sightsOf_21 rfl (lv_at hl 3 rfl) ?_
      refine lv_imul he hb dX11_sightsOf_22 ?_
      refine z_aload_n he hb dX11_sightsOf_23 rfl (lv_at hl 0 rfl) (zref_r _ _) ?_
      refine lv_iload_n he hb dX11_sightsOf_24 rfl (lv_at hl 1 rfl) ?_
      refine lv_iload_n he hb dX11_sightsOf_25 rfl (lv_at hl 3 rfl) ?_
      obtain ⟨_, hc, h⟩ := zob h
      obtain ⟨x4, hx, h⟩ := zob h
      refine z_callV (ci := 11) (T := TX11) (N := 14) (rest := [_, _, _]) B hS (mX11_digit l G hx) zy_X11_digit zk_930 (by decide) hc rfl rfl hl rfl (Nat.le_of_ble_eq_true rfl) dX11_sightsOf_26 (kk := (fun H locs hS => ?_))
      refine lv_iadd he hb dX11_sightsOf_29 ?_
      obtain ⟨x5, hx, h⟩ := zob h
      refine z_callS (rest := [_]) B hS (mX11_at l G hx) zy_X11_at zk_755 (by decide) rfl hl rfl (Nat.le_of_ble_eq_true rfl) dX11_sightsOf_30 (kk := (fun H locs hS => ?_))
      refine lv_ior he hb dX11_sightsOf_33 ?_
      refine lv_istore_n (lv' := [(2, _), (0, _), (1, _), (3, _)]) he hb dX11_sightsOf_34 rfl hl (by decide) rfl (fun ls hl => ?_)
      refine lv_iinc (v := (a3 + 1)) (lv' := [(3, _), (2, _), (0, _), (1, _)]) he hb dX11_sightsOf_35 hl (k := 3) rfl rfl (by decide) rfl (fun ls hl => ?_)
      refine lv_goto (tgt := 4) he hb dX11_sightsOf_38 (by decide) ?_
      exact ih _ _ _ _ _ _ _ h hS (lv_sub hl [2, 3, 1, 0] rfl)
def fX11_sightsOf (N n : Nat) (f : zF) (a0 : Nat) (a1 : Int32) : Option Int32 :=
    (fX11_sightsOf_4 N n f N a0 a1 (0 : Int32) (0 : Int32))
set_option maxRecDepth 100000 in
set_option maxHeartbeats 4000000 in
theorem mX11_sightsOf (l : Launch) (G : zG) {N n : Nat} {f : zF} {r : Int32} {a0 : Nat} {a1 : Int32} (h : fX11_sightsOf N n f a0 a1 = some r) : zM l G yX11_sightsOf cX11_sightsOf 4 (some .int) 1 n f [zr G a0, .int a1] (some (.int r)) f := by
  refine zM.of (by decide) (Nat.le_of_ble_eq_true rfl) ?_
  intro p e s m args below meth c locs ls B hS hl
  have he := B.1
  have hb := B.2.1
  have hl : lv_has ls 4 [(0, zr G a0), (1, .int a1)] := hl
  unfold fX11_sightsOf at h
  generalize s.heap = H at hS ⊢
  refine lv_iconst (v := (0 : Int32)) he hb dX11_sightsOf_0 (by decide) ?_
  refine lv_istore_n (lv' := [(2, _), (0, _), (1, _)]) he hb dX11_sightsOf_1 rfl hl (by decide) rfl (fun ls hl => ?_)
  refine lv_iconst (v := (0 : Int32)) he hb dX11_sightsOf_2 (by decide) ?_
  refine lv_istore_n (lv' := [(3, _), (2, _), (0, _), (1, _)]) he hb dX11_sightsOf_3 rfl hl (by decide) rfl (fun ls hl => ?_)
  exact gX11_sightsOf_4 l B N _ _ _ _ _ _ _ h hS (lv_sub hl [2, 3, 1, 0] rfl)
theorem dX11_cover_0 : decode cX11_cover 0 = .ok (.aload_n 0, 1) := by decide +kernel
theorem dX11_cover_1 : decode cX11_cover 1 = .ok (.iconst 1, 1) := by decide +kernel
theorem dX11_cover_2 : decode cX11_cover 2 = .ok (.invokevirtual 266, 3) := by decide +kernel
theorem dX11_cover_5 : decode cX11_cover 5 = .ok (.iconst (-1), 1) := by decide +kernel
theorem dX11_cover_6 : decode cX11_cover 6 = .ok (.istore_n 1, 1) := by decide +kernel
theorem dX11_cover_7 : decode cX11_cover 7 = .ok (.iconst 0, 1) := by decide +kernel
theorem dX11_cover_8 : decode cX11_cover 8 = .ok (.istore_n 2, 1) := by decide +kernel
theorem dX11_cover_9 : decode cX11_cover 9 = .ok (.iconst 0, 1) := by decide +kernel
theorem dX11_cover_10 : decode cX11_cover 10 = .ok (.istore_n 3, 1) := by decide +kernel
theorem dX11_cover_11 : decode cX11_cover 11 = .ok (.iload_n 3, 1) := by decide +kernel
theorem dX11_cover_12 : decode cX11_cover 12 = .ok (.iconst 1, 1) := by decide +kernel
theorem dX11_cover_13 : decode cX11_cover 13 = .ok (.iconst 2, 1) := by decide +kernel
theorem dX11_cover_14 : decode cX11_cover 14 = .ok (.aload_n 0, 1) := by decide +kernel
theorem dX11_cover_15 : decode cX11_cover 15 = .ok (.getfield 19, 3) := by decide +kernel
theorem dX11_cover_18 : decode cX11_cover 18 = .ok (.getfield 223, 3) := by decide +kernel
theorem dX11_cover_21 : decode cX11_cover 21 = .ok (.imul, 1) := by decide +kernel
theorem dX11_cover_22 : decode cX11_cover 22 = .ok (.ishl, 1) := by decide +kernel
theorem dX11_cover_23 : decode cX11_cover 23 = .ok (.if_icmp .ge 30, 3) := by decide +kernel
theorem dX11_cover_26 : decode cX11_cover 26 = .ok (.aload_n 0, 1) := by decide +kernel
theorem dX11_cover_27 : decode cX11_cover 27 = .ok (.iload_n 3, 1) := by decide +kernel
theorem dX11_cover_28 : decode cX11_cover 28 = .ok (.invokevirtual 270, 3) := by decide +kernel
theorem dX11_cover_31 : decode cX11_cover 31 = .ok (.invokestatic 273, 3) := by decide +kernel
theorem dX11_cover_34 : decode cX11_cover 34 = .ok (.istore 4, 2) := by decide +kernel
theorem dX11_cover_36 : decode cX11_cover 36 = .ok (.iload 4, 2) := by decide +kernel
theorem dX11_cover_38 : decode cX11_cover 38 = .ok (.iload_n 1, 1) := by decide +kernel
theorem dX11_cover_39 : decode cX11_cover 39 = .ok (.if_icmp .le 8, 3) := by decide +kernel
theorem dX11_cover_42 : decode cX11_cover 42 = .ok (.iload 4, 2) := by decide +kernel
theorem dX11_cover_44 : decode cX11_cover 44 = .ok (.istore_n 1, 1) := by decide +kernel
theorem dX11_cover_45 : decode cX11_cover 45 = .ok (.iload_n 3, 1) := by decide +kernel
theorem dX11_cover_46 : decode cX11_cover 46 = .ok (.istore_n 2, 1) := by decide +kernel
theorem dX11_cover_47 : decode cX11_cover 47 = .ok (.iinc 3 1, 3) := by decide +kernel
theorem dX11_cover_50 : decode cX11_cover 50 = .ok (.goto (-39), 3) := by decide +kernel
theorem dX11_cover_53 : decode cX11_cover 53 = .ok (.aload_n 0, 1) := by decide +kernel
theorem dX11_cover_54 : decode cX11_cover 54 = .ok (.getfield 94, 3) := by decide +kernel
theorem dX11_cover_57 : decode cX11_cover 57 = .ok (.aload_n 0, 1) := by decide +kernel
theorem dX11_cover_58 : decode cX11_cover 58 = .ok (.getfield 19, 3) := by decide +kernel
theorem dX11_cover_61 : decode cX11_cover 61 = .ok (.getfield 223, 3) := by decide +kernel
theorem dX11_cover_64 : decode cX11_cover 64 = .ok (.putfield 278, 3) := by decide +kernel
theorem dX11_cover_67 : decode cX11_cover 67 = .ok (.iconst 0, 1) := by decide +kernel
theorem dX11_cover_68 : decode cX11_cover 68 = .ok (.istore_n 3, 1) := by decide +kernel
theorem dX11_cover_69 : decode cX11_cover 69 = .ok (.iload_n 3, 1) := by decide +kernel
theorem dX11_cover_70 : decode cX11_cover 70 = .ok (.aload_n 0, 1) := by decide +kernel
theorem dX11_cover_71 : decode cX11_cover 71 = .ok (.getfield 19, 3) := by decide +kernel
theorem dX11_cover_74 : decode cX11_cover 74 = .ok (.getfield 223, 3) := by decide +kernel
theorem dX11_cover_77 : decode cX11_cover 77 = .ok (.if_icmp .ge 26, 3) := by decide +kernel
theorem dX11_cover_80 : decode cX11_cover 80 = .ok (.aload_n 0, 1) := by decide +kernel
theorem dX11_cover_81 : decode cX11_cover 81 = .ok (.getfield 94, 3) := by decide +kernel
theorem dX11_cover_84 : decode cX11_cover 84 = .ok (.getfield 281, 3) := by decide +kernel
theorem dX11_cover_87 : decode cX11_cover 87 = .ok (.iload_n 3, 1) := by decide +kernel
theorem dX11_cover_88 : decode cX11_cover 88 = .ok (.aload_n 0, 1) := by decide +kernel
theorem dX11_cover_89 : decode cX11_cover 89 = .ok (.iload_n 2, 1) := by decide +kernel
theorem dX11_cover_90 : decode cX11_cover 90 = .ok (.iload_n 3, 1) := by decide +kernel
theorem dX11_cover_91 : decode cX11_cover 91 = .ok (.invokevirtual 284, 3) := by decide +kernel
theorem dX11_cover_94 : decode cX11_cover 94 = .ok (.invokestatic 287, 3) := by decide +kernel
theorem dX11_cover_97 : decode cX11_cover 97 = .ok (.iinc 3 1, 3) := by decide +kernel
theorem dX11_cover_100 : decode cX11_cover 100 = .ok (.goto (-31), 3) := by decide +kernel
theorem dX11_cover_103 : decode cX11_cover 103 = .ok (.iload_n 1, 1) := by decide +kernel
theorem dX11_cover_104 : decode cX11_cover 104 = .ok (.ireturn, 1) := by decide +kernel
def fX11_cover_69 (N n : Nat) : Nat → zF → Nat → Int32 → Int32 → Int32 → Option (zF × Int32)
  | 0, _, _, _, _, _ => none
  | k + 1, f, a0, a1, a2, a3 =>
    ((zgR n f 11 a0 1).bind fun x8 => ((zgI n f 2 x8 4).bind fun x9 => (if x9 ≤ a3 then some (f, a1) else ((zgR n f 11 a0 12).bind fun x10 => ((zgR n f 0 x10 1).bind fun x11 => ((zck n f 11 a0).bind fun _ => ((fX11_digit N n f a0 a2 a3).bind fun x12 => ((fX11_put N n f x11 a3 x12).bind fun f13 => (fX11_cover_69 N n k f13 a0 a1 a2 (a3 + 1))))))))))
set_option maxRecDepth 100000 in
set_option maxHeartbeats 4000000 in
theorem gX11_cover_69 (l : Launch) {G : zG} {p : Program} {e : Env} {s : State} {m : MethodId} {args : Array Value} {below : List Frame} {meth : Method} {c : Code} {N n : Nat} {f9 : zF} {r : Int32} (B : zB G p s m args meth c RX11 cX11_cover 5 (some .int)) : ∀ (k : Nat), ∀ (f : zF) (a0 : Nat) (a1 : Int32) (a2 : Int32) (a3 : Int32) (H : Heap) (locs : List Loc) (ls : Array Slot), fX11_cover_69 N n k f a0 a1 a2 a3 = some (f9, r) → zS G n f H locs → lv_has ls 5 [(0, zr G a0), (1, .int a1), (2, .int a2), (3, .int a3)] → W p l e (zrm 4) s m args below meth c H locs 0 0 (MQ below (zQc G n f9 (some (.int r))) args s 0 0 (zA G)) (F0 m 69 ls []) := by
  have he := B.1
  have hb := B.2.1
  intro k
  induction k with
  | zero =>
    intro f a0 a1 a2 a3 H locs ls h
    unfold fX11_cover_69 at h
    cases h
  | succ k ih =>
    intro f a0 a1 a2 a3 H locs ls h hS hl
    unfold fX11_cover_69 at h
    refine lv_iload_n he hb dX11_cover_69 rfl (lv_at hl 3 rfl) ?_
    refine z_aload_n he hb dX11_cover_70 rfl (lv_at hl 0 rfl) (zref_r _ _) ?_
    obtain ⟨x8, hx, h⟩ := zob h
    refine z_getR (ci := 11) (T := TX11) (N := 14) (j := 1) B hS hx rfl zin_X11 (by decide) zk_509 dX11_cover_71 ?_
    obtain ⟨x9, hx, h⟩ := zob h
    refine z_getI (ci := 2) (T := TX2) (N := 15) (j := 4) B hS hx rfl zin_X2 (by decide) zk_173 dX11_cover_74 ?_
    refine lv_icmp_ge (tgt := 103) he hb dX11_cover_77 (by decide) (fun hc => ?_) (fun hc => ?_)
    · rw [if_pos hc] at h
      refine lv_iload_n he hb dX11_cover_103 rfl (lv_at hl 1 rfl) ?_
      obtain ⟨rfl, rfl⟩ := Prod.mk.inj (Option.some.inj h)
      exact z_iret B hS dX11_cover_104
    · rw [if_neg hc] at h
      refine z_aload_n he hb dX11_cover_80 rfl (lv_at hl 0 rfl) (zref_r _ _) ?_
      obtain ⟨x10, hx, h⟩ := zob h
      refine z_getR (ci := 11) (T := TX11) (N := 14) (j := 12) B hS hx rfl zin_X11 (by decide) zk_520 dX11_cover_81 ?_
      obtain ⟨x11, hx, h⟩ := zob h
      refine z_getR (ci := 0) (T := TX0) (N := 9) (j := 1) B hS hx rfl zin_X0 (by decide) zk_475 dX11_cover_84 ?_
      refine lv_iload_n he hb dX11_cover_87 rfl (lv_at hl 3 rfl) ?_
      refine z_aload_n he hb dX11_cover_88 rfl (lv_at hl 0 rfl) (zref_r _ _) ?_
      refine lv_iload_n he hb dX11_cover_89 rfl (lv_at hl 2 rfl) ?_
      refine lv_iload_n he hb dX11_cover_90 rfl (lv_at hl 3 rfl) ?_
      obtain ⟨_, hc, h⟩ := zob h
      obtain ⟨x12, hx, h⟩ := zob h
      refine z_callV (ci := 11) (T := TX11) (N := 14) (rest := [_, _]) B hS (mX11_digit l G hx) zy_X11_digit zk_930 (by decide) hc rfl rfl hl rfl (Nat.le_of_ble_eq_true rfl) dX11_cover_91 (kk := (fun H locs hS => ?_))
      obtain ⟨f13, hx, h⟩ := zob h
      refine z_callS (rest := []) B hS (mX11_put l G hx) zy_X11_put zk_925 (by decide) rfl hl rfl (Nat.le_of_ble_eq_true rfl) dX11_cover_94 (kk := (fun H locs hS => ?_))
      refine lv_iinc (v := (a3 + 1)) (lv' := [(3, _), (0, _), (1, _), (2, _)]) he hb dX11_cover_97 hl (k := 3) rfl rfl (by decide) rfl (fun ls hl => ?_)
      refine lv_goto (tgt := 69) he hb dX11_cover_100 (by decide) ?_
      exact ih _ _ _ _ _ _ _ _ h hS (lv_sub hl [1, 2, 3, 0] rfl)
def fX11_cover_47 (r11 : zF → Nat → Int32 → Int32 → Int32 → Option (zF × Int32)) (N n : Nat) (f : zF) (a0 : Nat) (a1 : Int32) (a2 : Int32) (a3 : Int32) : Option (zF × Int32) :=
    (r11 f a0 a1 a2 (a3 + 1))
set_option maxRecDepth 100000 in
set_option maxHeartbeats 4000000 in
theorem gX11_cover_47 (l : Launch) {G : zG} {p : Program} {e : Env} {s : State} {m : MethodId} {args : Array Value} {below : List Frame} {meth : Method} {c : Code} {N n : Nat} {f9 : zF} {r : Int32} {r11 : zF → Nat → Int32 → Int32 → Int32 → Option (zF × Int32)} (B : zB G p s m args meth c RX11 cX11_cover 5 (some .int)) (hr11 : ∀ (f : zF) (a0 : Nat) (a1 : Int32) (a2 : Int32) (a3 : Int32) (H : Heap) (locs : List Loc) (ls : Array Slot), r11 f a0 a1 a2 a3 = some (f9, r) → zS G n f H locs → lv_has ls 5 [(0, zr G a0), (1, .int a1), (2, .int a2), (3, .int a3)] → W p l e (zrm 4) s m args below meth c H locs 0 0 (MQ below (zQc G n f9 (some (.int r))) args s 0 0 (zA G)) (F0 m 11 ls [])) : ∀ (f : zF) (a0 : Nat) (a1 : Int32) (a2 : Int32) (a3 : Int32) (H : Heap) (locs : List Loc) (ls : Array Slot), fX11_cover_47 r11 N n f a0 a1 a2 a3 = some (f9, r) → zS G n f H locs → lv_has ls 5 [(0, zr G a0), (1, .int a1), (2, .int a2), (3, .int a3)] → W p l e (zrm 4) s m args below meth c H locs 0 0 (MQ below (zQc G n f9 (some (.int r))) args s 0 0 (zA G)) (F0 m 47 ls []) := by
  have he := B.1
  have hb := B.2.1
  intro f a0 a1 a2 a3 H locs ls h hS hl
  unfold fX11_cover_47 at h
  refine lv_iinc (v := (a3 + 1)) (lv' := [(3, _), (0, _), (1, _), (2, _)]) he hb dX11_cover_47 hl (k := 3) rfl rfl (by decide) rfl (fun ls hl => ?_)
  refine lv_goto (tgt := 11) he hb dX11_cover_50 (by decide) ?_
  exact hr11 _ _ _ _ _ _ _ _ h hS (lv_sub hl [1, 2, 3, 0] rfl)
def fX11_cover_11 (N n : Nat) : Nat → zF → Nat → Int32 → Int32 → Int32 → Option (zF × Int32)
  | 0, _, _, _, _, _ => none
  | k + 1, f, a0, a1, a2, a3 =>
    ((zgR n f 11 a0 1).bind fun x2 => ((zgI n f 2 x2 4).bind fun x3 => (if (zishl (1 : Int32) ((2 : Int32) * x3)) ≤ a3 then ((zgR n f 11 a0 12).bind fun x4 => ((zgR n f 11 a0 1).bind fun x5 => ((zgI n f 2 x5 4).bind fun x6 => ((zpI n f 0 x4 2 x6).bind fun f7 => (fX11_cover_69 N n N f7 a0 a1 a2 (0 : Int32)))))) else ((zck n f 11 a0).bind fun _ => ((fX11_sightsOf N n f a0 a3).bind fun x14 => ((fJ6_bitCount_0f7a4 N n f x14).bind fun x15 => (if x15 ≤ a1 then (fX11_cover_47 (fX11_cover_11 N n k) N n f a0 a1 a2 a3) else (fX11_cover_47 (fX11_cover_11 N n k) N n f a0 x15 a3 a3))))))))
set_option maxRecDepth 100000 in
set_option maxHeartbeats 4000000 in
theorem gX11_cover_11 (l : Launch) {G : zG} {p : Program} {e : Env} {s : State} {m : MethodId} {args : Array Value} {below : List Frame} {meth : Method} {c : Code} {N n : Nat} {f9 : zF} {r : Int32} (B : zB G p s m args meth c RX11 cX11_cover 5 (some .int)) : ∀ (k : Nat), ∀ (f : zF) (a0 : Nat) (a1 : Int32) (a2 : Int32) (a3 : Int32) (H : Heap) (locs : List Loc) (ls : Array Slot), fX11_cover_11 N n k f a0 a1 a2 a3 = some (f9, r) → zS G n f H locs → lv_has ls 5 [(0, zr G a0), (1, .int a1), (2, .int a2), (3, .int a3)] → W p l e (zrm 4) s m args below meth c H locs 0 0 (MQ below (zQc G n f9 (some (.int r))) args s 0 0 (zA G)) (F0 m 11 ls []) := by
  have he := B.1
  have hb := B.2.1
  intro k
  induction k with
  | zero =>
    intro f a0 a1 a2 a3 H locs ls h
    unfold fX11_cover_11 at h
    cases h
  | succ k ih =>
    intro f a0 a1 a2 a3 H locs ls h hS hl
    unfold fX11_cover_11 at h
    refine lv_iload_n he hb dX11_cover_11 rfl (lv_at hl 3 rfl) ?_
    refine lv_iconst (v := (1 : Int32)) he hb dX11_cover_12 (by decide) ?_
    refine lv_iconst (v := (2 : Int32)) he hb dX11_cover_13 (by decide) ?_
    refine z_aload_n he hb dX11_cover_14 rfl (lv_at hl 0 rfl) (zref_r _ _) ?_
    obtain ⟨x2, hx, h⟩ := zob h
    refine z_getR (ci := 11) (T := TX11) (N := 14) (j := 1) B hS hx rfl zin_X11 (by decide) zk_509 dX11_cover_15 ?_
    obtain ⟨x3, hx, h⟩ := zob h
    refine z_getI (ci := 2) (T := TX2) (N := 15) (j := 4) B hS hx rfl zin_X2 (by decide) zk_173 dX11_cover_18 ?_
    refine lv_imul he hb dX11_cover_21 ?_
    refine z_ishl he hb dX11_cover_22 ?_
    refine lv_icmp_ge (tgt := 53) he hb dX11_cover_23 (by decide) (fun hc => ?_) (fun hc => ?_)
    · rw [if_pos hc] at h
      refine z_aload_n he hb dX11_cover_53 rfl (lv_at hl 0 rfl) (zref_r _ _) ?_
      obtain ⟨x4, hx, h⟩ := zob h
      refine z_getR (ci := 11) (T := TX11) (N := 14) (j := 12) B hS hx rfl zin_X11 (by decide) zk_520 dX11_cover_54 ?_
      refine z_aload_n he hb dX11_cover_57 rfl (lv_at hl 0 rfl) (zref_r _ _) ?_
      obtain ⟨x5, hx, h⟩ := zob h
      refine z_getR (ci := 11) (T := TX11) (N := 14) (j := 1) B hS hx rfl zin_X11 (by decide) zk_509 dX11_cover_58 ?_
      obtain ⟨x6, hx, h⟩ := zob h
      refine z_getI (ci := 2) (T := TX2) (N := 15) (j := 4) B hS hx rfl zin_X2 (by decide) zk_173 dX11_cover_61 ?_
      obtain ⟨f7, hx, h⟩ := zob h
      refine z_putI (ci := 0) (T := TX0) (N := 9) (j := 2) B hS hx rfl zin_X0 tyX0 tyX0_ok nmX0 (by decide) zk_476 rfl rfl dX11_cover_64 (fun H locs hS => ?_)
      refine lv_iconst (v := (0 : Int32)) he hb dX11_cover_67 (by decide) ?_
      refine lv_istore_n (lv' := [(3, _), (0, _), (1, _), (2, _)]) he hb dX11_cover_68 rfl hl (by decide) rfl (fun ls hl => ?_)
      exact gX11_cover_69 l B N _ _ _ _ _ _ _ _ h hS (lv_sub hl [1, 2, 3, 0] rfl)
    · rw [if_neg hc] at h
      refine z_aload_n he hb dX11_cover_26 rfl (lv_at hl 0 rfl) (zref_r _ _) ?_
      refine lv_iload_n he hb dX11_cover_27 rfl (lv_at hl 3 rfl) ?_
      obtain ⟨_, hc, h⟩ := zob h
      obtain ⟨x14, hx, h⟩ := zob h
      refine z_callV (ci := 11) (T := TX11) (N := 14) (rest := []) B hS (mX11_sightsOf l G hx) zy_X11_sightsOf zk_926 (by decide) hc rfl rfl hl rfl (Nat.le_of_ble_eq_true rfl) dX11_cover_28 (kk := (fun H locs hS => ?_))
      obtain ⟨x15, hx, h⟩ := zob h
      refine z_callT (rest := []) B hS (mJ6_bitCount_0f7a4 l G hx) zy_J6_bitCount_0f7a4 zk_934 (by decide) rfl hl rfl (Nat.le_of_ble_eq_true rfl) dX11_cover_31 (kk := (fun H locs hS => ?_))
      refine lv_istore (lv' := [(4, _), (0, _), (1, _), (2, _), (3, _)]) he hb dX11_cover_34 hl (by decide) rfl (fun ls hl => ?_)
      refine lv_iload he hb dX11_cover_36 (lv_at hl 0 rfl) ?_
      refine lv_iload_n he hb dX11_cover_38 rfl (lv_at hl 2 rfl) ?_
      refine lv_icmp_le (tgt := 47) he hb dX11_cover_39 (by decide) (fun hc => ?_) (fun hc => ?_)
      · rw [if_pos hc] at h
        exact gX11_cover_47 l B ih _ _ _ _ _ _ _ _ h hS (lv_sub hl [1, 2, 3, 4] rfl)
      · rw [if_neg hc] at h
        refine lv_iload he hb dX11_cover_42 (lv_at hl 0 rfl) ?_
        refine lv_istore_n (lv' := [(1, _), (4, _), (0, _), (2, _), (3, _)]) he hb dX11_cover_44 rfl hl (by decide) rfl (fun ls hl => ?_)
        refine lv_iload_n he hb dX11_cover_45 rfl (lv_at hl 4 rfl) ?_
        refine lv_istore_n (lv' := [(2, _), (1, _), (4, _), (0, _), (3, _)]) he hb dX11_cover_46 rfl hl (by decide) rfl (fun ls hl => ?_)
        exact gX11_cover_47 l B ih _ _ _ _ _ _ _ _ h hS (lv_sub hl [3, 1, 0, 4] rfl)
def fX11_cover (N n : Nat) (f : zF) (a0 : Nat) : Option (zF × Int32) :=
    ((zck n f 11 a0).bind fun _ => ((fX11_markSights N n f a0 (1 : Int32)).bind fun f1 => (fX11_cover_11 N n N f1 a0 (-1 : Int32) (0 : Int32) (0 : Int32))))
set_option maxRecDepth 100000 in
set_option maxHeartbeats 4000000 in
theorem mX11_cover (l : Launch) (G : zG) {N n : Nat} {f : zF} {f9 : zF} {r : Int32} {a0 : Nat} (h : fX11_cover N n f a0 = some (f9, r)) : zM l G yX11_cover cX11_cover 5 (some .int) 4 n f [zr G a0] (some (.int r)) f9 := by
  refine zM.of (by decide) (Nat.le_of_ble_eq_true rfl) ?_
  intro p e s m args below meth c locs ls B hS hl
  have he := B.1
  have hb := B.2.1
  have hl : lv_has ls 5 [(0, zr G a0)] := hl
  unfold fX11_cover at h
  generalize s.heap = H at hS ⊢
  refine z_aload_n he hb dX11_cover_0 rfl (lv_at hl 0 rfl) (zref_r _ _) ?_
  refine lv_iconst (v := (1 : Int32)) he hb dX11_cover_1 (by decide) ?_
  obtain ⟨_, hc, h⟩ := zob h
  obtain ⟨f1, hx, h⟩ := zob h
  refine z_callV (ci := 11) (T := TX11) (N := 14) (rest := []) B hS (mX11_markSights l G hx) zy_X11_markSights zk_921 (by decide) hc rfl rfl hl rfl (Nat.le_of_ble_eq_true rfl) dX11_cover_2 (kk := (fun H locs hS => ?_))
  refine lv_iconst (v := (-1 : Int32)) he hb dX11_cover_5 (by decide) ?_
  refine lv_istore_n (lv' := [(1, _), (0, _)]) he hb dX11_cover_6 rfl hl (by decide) rfl (fun ls hl => ?_)
  refine lv_iconst (v := (0 : Int32)) he hb dX11_cover_7 (by decide) ?_
  refine lv_istore_n (lv' := [(2, _), (1, _), (0, _)]) he hb dX11_cover_8 rfl hl (by decide) rfl (fun ls hl => ?_)
  refine lv_iconst (v := (0 : Int32)) he hb dX11_cover_9 (by decide) ?_
  refine lv_istore_n (lv' := [(3, _), (2, _), (1, _), (0, _)]) he hb dX11_cover_10 rfl hl (by decide) rfl (fun ls hl => ?_)
  exact gX11_cover_11 l B N _ _ _ _ _ _ _ _ h hS (lv_sub hl [3, 2, 1, 0] rfl)
theorem dX11_coverBy_0 : decode cX11_coverBy 0 = .ok (.iload_n 1, 1) := by decide +kernel
theorem dX11_coverBy_1 : decode cX11_coverBy 1 = .ok (.ifCond .lt 14, 3) := by decide +kernel
theorem dX11_coverBy_4 : decode cX11_coverBy 4 = .ok (.iload_n 1, 1) := by decide +kernel
theorem dX11_coverBy_5 : decode cX11_coverBy 5 = .ok (.aload_n 0, 1) := by decide +kernel
theorem dX11_coverBy_6 : decode cX11_coverBy 6 = .ok (.getfield 94, 3) := by decide +kernel
theorem dX11_coverBy_9 : decode cX11_coverBy 9 = .ok (.getfield 278, 3) := by decide +kernel
theorem dX11_coverBy_12 : decode cX11_coverBy 12 = .ok (.if_icmp .lt 7, 3) := by decide +kernel
theorem dX11_coverBy_15 : decode cX11_coverBy 15 = .ok (.iconst (-1), 1) := by decide +kernel
theorem dX11_coverBy_16 : decode cX11_coverBy 16 = .ok (.goto 14, 3) := by decide +kernel
theorem dX11_coverBy_19 : decode cX11_coverBy 19 = .ok (.aload_n 0, 1) := by decide +kernel
theorem dX11_coverBy_20 : decode cX11_coverBy 20 = .ok (.getfield 94, 3) := by decide +kernel
theorem dX11_coverBy_23 : decode cX11_coverBy 23 = .ok (.getfield 281, 3) := by decide +kernel
theorem dX11_coverBy_26 : decode cX11_coverBy 26 = .ok (.iload_n 1, 1) := by decide +kernel
theorem dX11_coverBy_27 : decode cX11_coverBy 27 = .ok (.invokestatic 147, 3) := by decide +kernel
theorem dX11_coverBy_30 : decode cX11_coverBy 30 = .ok (.ireturn, 1) := by decide +kernel
def fX11_coverBy (N n : Nat) (f : zF) (a0 : Nat) (a1 : Int32) : Option Int32 :=
    (if a1 < 0 then some (-1 : Int32) else ((zgR n f 11 a0 12).bind fun x1 => ((zgI n f 0 x1 2).bind fun x2 => (if a1 < x2 then ((zgR n f 11 a0 12).bind fun x3 => ((zgR n f 0 x3 1).bind fun x4 => ((fX11_at N n f x4 a1).bind fun x5 => some x5))) else some (-1 : Int32)))))
set_option maxRecDepth 100000 in
set_option maxHeartbeats 4000000 in
theorem mX11_coverBy (l : Launch) (G : zG) {N n : Nat} {f : zF} {r : Int32} {a0 : Nat} {a1 : Int32} (h : fX11_coverBy N n f a0 a1 = some r) : zM l G yX11_coverBy cX11_coverBy 2 (some .int) 1 n f [zr G a0, .int a1] (some (.int r)) f := by
  refine zM.of (by decide) (Nat.le_of_ble_eq_true rfl) ?_
  intro p e s m args below meth c locs ls B hS hl
  have he := B.1
  have hb := B.2.1
  have hl : lv_has ls 2 [(0, zr G a0), (1, .int a1)] := hl
  unfold fX11_coverBy at h
  generalize s.heap = H at hS ⊢
  refine lv_iload_n he hb dX11_coverBy_0 rfl (lv_at hl 1 rfl) ?_
  refine lv_if_lt (tgt := 15) he hb dX11_coverBy_1 (by decide) (fun hc => ?_) (fun hc => ?_)
  · rw [if_pos hc] at h
    refine lv_iconst (v := (-1 : Int32)) he hb dX11_coverBy_15 (by decide) ?_
    refine lv_goto (tgt := 30) he hb dX11_coverBy_16 (by decide) ?_
    obtain rfl := Option.some.inj h
    exact z_iret B hS dX11_coverBy_30
  · rw [if_neg hc] at h
    refine lv_iload_n he hb dX11_coverBy_4 rfl (lv_at hl 1 rfl) ?_
    refine z_aload_n he hb dX11_coverBy_5 rfl (lv_at hl 0 rfl) (zref_r _ _) ?_
    obtain ⟨x1, hx, h⟩ := zob h
    refine z_getR (ci := 11) (T := TX11) (N := 14) (j := 12) B hS hx rfl zin_X11 (by decide) zk_520 dX11_coverBy_6 ?_
    obtain ⟨x2, hx, h⟩ := zob h
    refine z_getI (ci := 0) (T := TX0) (N := 9) (j := 2) B hS hx rfl zin_X0 (by decide) zk_476 dX11_coverBy_9 ?_
    refine lv_icmp_lt (tgt := 19) he hb dX11_coverBy_12 (by decide) (fun hc => ?_) (fun hc => ?_)
    · rw [if_pos hc] at h
      refine z_aload_n he hb dX11_coverBy_19 rfl (lv_at hl 0 rfl) (zref_r _ _) ?_
      obtain ⟨x3, hx, h⟩ := zob h
      refine z_getR (ci := 11) (T := TX11) (N := 14) (j := 12) B hS hx rfl zin_X11 (by decide) zk_520 dX11_coverBy_20 ?_
      obtain ⟨x4, hx, h⟩ := zob h
      refine z_getR (ci := 0) (T := TX0) (N := 9) (j := 1) B hS hx rfl zin_X0 (by decide) zk_475 dX11_coverBy_23 ?_
      refine lv_iload_n he hb dX11_coverBy_26 rfl (lv_at hl 1 rfl) ?_
      obtain ⟨x5, hx, h⟩ := zob h
      refine z_callS (rest := []) B hS (mX11_at l G hx) zy_X11_at zk_755 (by decide) rfl hl rfl (Nat.le_of_ble_eq_true rfl) dX11_coverBy_27 (kk := (fun H locs hS => ?_))
      obtain rfl := Option.some.inj h
      exact z_iret B hS dX11_coverBy_30
    · rw [if_neg hc] at h
      refine lv_iconst (v := (-1 : Int32)) he hb dX11_coverBy_15 (by decide) ?_
      refine lv_goto (tgt := 30) he hb dX11_coverBy_16 (by decide) ?_
      obtain rfl := Option.some.inj h
      exact z_iret B hS dX11_coverBy_30
theorem dX11_couldSeeAll_0 : decode cX11_couldSeeAll 0 = .ok (.iconst 1, 1) := by decide +kernel
theorem dX11_couldSeeAll_1 : decode cX11_couldSeeAll 1 = .ok (.aload_n 0, 1) := by decide +kernel
theorem dX11_couldSeeAll_2 : decode cX11_couldSeeAll 2 = .ok (.getfield 19, 3) := by decide +kernel
theorem dX11_couldSeeAll_5 : decode cX11_couldSeeAll 5 = .ok (.getfield 220, 3) := by decide +kernel
theorem dX11_couldSeeAll_8 : decode cX11_couldSeeAll 8 = .ok (.ishl, 1) := by decide +kernel
theorem dX11_couldSeeAll_9 : decode cX11_couldSeeAll 9 = .ok (.iconst 1, 1) := by decide +kernel
theorem dX11_couldSeeAll_10 : decode cX11_couldSeeAll 10 = .ok (.isub, 1) := by decide +kernel
theorem dX11_couldSeeAll_11 : decode cX11_couldSeeAll 11 = .ok (.istore_n 2, 1) := by decide +kernel
theorem dX11_couldSeeAll_12 : decode cX11_couldSeeAll 12 = .ok (.iconst 1, 1) := by decide +kernel
theorem dX11_couldSeeAll_13 : decode cX11_couldSeeAll 13 = .ok (.iconst 2, 1) := by decide +kernel
theorem dX11_couldSeeAll_14 : decode cX11_couldSeeAll 14 = .ok (.iload_n 1, 1) := by decide +kernel
theorem dX11_couldSeeAll_15 : decode cX11_couldSeeAll 15 = .ok (.invokestatic 273, 3) := by decide +kernel
theorem dX11_couldSeeAll_18 : decode cX11_couldSeeAll 18 = .ok (.imul, 1) := by decide +kernel
theorem dX11_couldSeeAll_19 : decode cX11_couldSeeAll 19 = .ok (.ishl, 1) := by decide +kernel
theorem dX11_couldSeeAll_20 : decode cX11_couldSeeAll 20 = .ok (.istore_n 3, 1) := by decide +kernel
theorem dX11_couldSeeAll_21 : decode cX11_couldSeeAll 21 = .ok (.iconst 0, 1) := by decide +kernel
theorem dX11_couldSeeAll_22 : decode cX11_couldSeeAll 22 = .ok (.istore 4, 2) := by decide +kernel
theorem dX11_couldSeeAll_24 : decode cX11_couldSeeAll 24 = .ok (.iload 4, 2) := by decide +kernel
theorem dX11_couldSeeAll_26 : decode cX11_couldSeeAll 26 = .ok (.iload_n 3, 1) := by decide +kernel
theorem dX11_couldSeeAll_27 : decode cX11_couldSeeAll 27 = .ok (.if_icmp .ge 82, 3) := by decide +kernel
theorem dX11_couldSeeAll_30 : decode cX11_couldSeeAll 30 = .ok (.iload 4, 2) := by decide +kernel
theorem dX11_couldSeeAll_32 : decode cX11_couldSeeAll 32 = .ok (.istore 5, 2) := by decide +kernel
theorem dX11_couldSeeAll_34 : decode cX11_couldSeeAll 34 = .ok (.iconst 0, 1) := by decide +kernel
theorem dX11_couldSeeAll_35 : decode cX11_couldSeeAll 35 = .ok (.istore 6, 2) := by decide +kernel
theorem dX11_couldSeeAll_37 : decode cX11_couldSeeAll 37 = .ok (.iconst 0, 1) := by decide +kernel
theorem dX11_couldSeeAll_38 : decode cX11_couldSeeAll 38 = .ok (.istore 7, 2) := by decide +kernel
theorem dX11_couldSeeAll_40 : decode cX11_couldSeeAll 40 = .ok (.iload 7, 2) := by decide +kernel
theorem dX11_couldSeeAll_42 : decode cX11_couldSeeAll 42 = .ok (.aload_n 0, 1) := by decide +kernel
theorem dX11_couldSeeAll_43 : decode cX11_couldSeeAll 43 = .ok (.getfield 19, 3) := by decide +kernel
theorem dX11_couldSeeAll_46 : decode cX11_couldSeeAll 46 = .ok (.getfield 223, 3) := by decide +kernel
theorem dX11_couldSeeAll_49 : decode cX11_couldSeeAll 49 = .ok (.if_icmp .ge 46, 3) := by decide +kernel
theorem dX11_couldSeeAll_52 : decode cX11_couldSeeAll 52 = .ok (.iload_n 1, 1) := by decide +kernel
theorem dX11_couldSeeAll_53 : decode cX11_couldSeeAll 53 = .ok (.iload 7, 2) := by decide +kernel
theorem dX11_couldSeeAll_55 : decode cX11_couldSeeAll 55 = .ok (.ishr, 1) := by decide +kernel
theorem dX11_couldSeeAll_56 : decode cX11_couldSeeAll 56 = .ok (.iconst 1, 1) := by decide +kernel
theorem dX11_couldSeeAll_57 : decode cX11_couldSeeAll 57 = .ok (.iand, 1) := by decide +kernel
theorem dX11_couldSeeAll_58 : decode cX11_couldSeeAll 58 = .ok (.iconst 1, 1) := by decide +kernel
theorem dX11_couldSeeAll_59 : decode cX11_couldSeeAll 59 = .ok (.if_icmp .ne 30, 3) := by decide +kernel
theorem dX11_couldSeeAll_62 : decode cX11_couldSeeAll 62 = .ok (.iload 6, 2) := by decide +kernel
theorem dX11_couldSeeAll_64 : decode cX11_couldSeeAll 64 = .ok (.aload_n 0, 1) := by decide +kernel
theorem dX11_couldSeeAll_65 : decode cX11_couldSeeAll 65 = .ok (.getfield 98, 3) := by decide +kernel
theorem dX11_couldSeeAll_68 : decode cX11_couldSeeAll 68 = .ok (.iconst 4, 1) := by decide +kernel
theorem dX11_couldSeeAll_69 : decode cX11_couldSeeAll 69 = .ok (.iload 7, 2) := by decide +kernel
theorem dX11_couldSeeAll_71 : decode cX11_couldSeeAll 71 = .ok (.imul, 1) := by decide +kernel
theorem dX11_couldSeeAll_72 : decode cX11_couldSeeAll 72 = .ok (.iload 5, 2) := by decide +kernel
theorem dX11_couldSeeAll_74 : decode cX11_couldSeeAll 74 = .ok (.iconst 3, 1) := by decide +kernel
theorem dX11_couldSeeAll_75 : decode cX11_couldSeeAll 75 = .ok (.iand, 1) := by decide +kernel
theorem dX11_couldSeeAll_76 : decode cX11_couldSeeAll 76 = .ok (.iadd, 1) := by decide +kernel
theorem dX11_couldSeeAll_77 : decode cX11_couldSeeAll 77 = .ok (.invokestatic 147, 3) := by decide +kernel
theorem dX11_couldSeeAll_80 : decode cX11_couldSeeAll 80 = .ok (.ior, 1) := by decide +kernel
theorem dX11_couldSeeAll_81 : decode cX11_couldSeeAll 81 = .ok (.istore 6, 2) := by decide +kernel
theorem dX11_couldSeeAll_83 : decode cX11_couldSeeAll 83 = .ok (.iload 5, 2) := by decide +kernel
theorem dX11_couldSeeAll_85 : decode cX11_couldSeeAll 85 = .ok (.iconst 2, 1) := by decide +kernel
theorem dX11_couldSeeAll_86 : decode cX11_couldSeeAll 86 = .ok (.ishr, 1) := by decide +kernel
theorem dX11_couldSeeAll_87 : decode cX11_couldSeeAll 87 = .ok (.istore 5, 2) := by decide +kernel
theorem dX11_couldSeeAll_89 : decode cX11_couldSeeAll 89 = .ok (.iinc 7 1, 3) := by decide +kernel
theorem dX11_couldSeeAll_92 : decode cX11_couldSeeAll 92 = .ok (.goto (-52), 3) := by decide +kernel
theorem dX11_couldSeeAll_95 : decode cX11_couldSeeAll 95 = .ok (.iload 6, 2) := by decide +kernel
theorem dX11_couldSeeAll_97 : decode cX11_couldSeeAll 97 = .ok (.iload_n 2, 1) := by decide +kernel
theorem dX11_couldSeeAll_98 : decode cX11_couldSeeAll 98 = .ok (.if_icmp .ne 5, 3) := by decide +kernel
theorem dX11_couldSeeAll_101 : decode cX11_couldSeeAll 101 = .ok (.iconst 1, 1) := by decide +kernel
theorem dX11_couldSeeAll_102 : decode cX11_couldSeeAll 102 = .ok (.ireturn, 1) := by decide +kernel
theorem dX11_couldSeeAll_103 : decode cX11_couldSeeAll 103 = .ok (.iinc 4 1, 3) := by decide +kernel
theorem dX11_couldSeeAll_106 : decode cX11_couldSeeAll 106 = .ok (.goto (-82), 3) := by decide +kernel
theorem dX11_couldSeeAll_109 : decode cX11_couldSeeAll 109 = .ok (.iconst 0, 1) := by decide +kernel
theorem dX11_couldSeeAll_110 : decode cX11_couldSeeAll 110 = .ok (.ireturn, 1) := by decide +kernel
def fX11_couldSeeAll_89 (r24 : Nat → Int32 → Int32 → Int32 → Int32 → Option Int32) (r40 : Nat → Int32 → Int32 → Int32 → Int32 → Int32 → Int32 → Int32 → Option Int32) (N n : Nat) (f : zF) (a0 : Nat) (a1 : Int32) (a2 : Int32) (a3 : Int32) (a4 : Int32) (a5 : Int32) (a6 : Int32) (a7 : Int32) : Option Int32 :=
    (r40 a0 a1 a2 a3 a4 a5 a6 (a7 + 1))
set_option maxRecDepth 100000 in
set_option maxHeartbeats 4000000 in
theorem gX11_couldSeeAll_89 (l : Launch) {G : zG} {p : Program} {e : Env} {s : State} {m : MethodId} {args : Array Value} {below : List Frame} {meth : Method} {c : Code} {f : zF} {N n : Nat} {r : Int32} {r24 : Nat → Int32 → Int32 → Int32 → Int32 → Option Int32} {r40 : Nat → Int32 → Int32 → Int32 → Int32 → Int32 → Int32 → Int32 → Option Int32} (B : zB G p s m args meth c RX11 cX11_couldSeeAll 8 (some .boolean)) (hr24 : ∀ (a0 : Nat) (a1 : Int32) (a2 : Int32) (a3 : Int32) (a4 : Int32) (H : Heap) (locs : List Loc) (ls : Array Slot), r24 a0 a1 a2 a3 a4 = some r → zS G n f H locs → lv_has ls 8 [(0, zr G a0), (1, .int a1), (2, .int a2), (3, .int a3), (4, .int a4)] → W p l e (zrm 1) s m args below meth c H locs 0 0 (MQ below (zQc G n f (some (.int r))) args s 0 0 (zA G)) (F0 m 24 ls [])) (hr40 : ∀ (a0 : Nat) (a1 : Int32) (a2 : Int32) (a3 : Int32) (a4 : Int32) (a5 : Int32) (a6 : Int32) (a7 : Int32) (H : Heap) (locs : List Loc) (ls : Array Slot), r40 a0 a1 a2 a3 a4 a5 a6 a7 = some r → zS G n f H locs → lv_has ls 8 [(0, zr G a0), (1, .int a1), (2, .int a2), (3, .int a3), (4, .int a4), (5, .int a5), (6, .int a6), (7, .int a7)] → W p l e (zrm 1) s m args below meth c H locs 0 0 (MQ below (zQc G n f (some (.int r))) args s 0 0 (zA G)) (F0 m 40 ls [])) : ∀ (a0 : Nat) (a1 : Int32) (a2 : Int32) (a3 : Int32) (a4 : Int32) (a5 : Int32) (a6 : Int32) (a7 : Int32) (H : Heap) (locs : List Loc) (ls : Array Slot), fX11_couldSeeAll_89 r24 r40 N n f a0 a1 a2 a3 a4 a5 a6 a7 = some r → zS G n f H locs → lv_has ls 8 [(0, zr G a0), (1, .int a1), (2, .int a2), (3, .int a3), (4, .int a4), (5, .int a5), (6, .int a6), (7, .int a7)] → W p l e (zrm 1) s m args below meth c H locs 0 0 (MQ below (zQc G n f (some (.int r))) args s 0 0 (zA G)) (F0 m 89 ls []) := by
  have he := B.1
  have hb := B.2.1
  intro a0 a1 a2 a3 a4 a5 a6 a7 H locs ls h hS hl
  unfold fX11_couldSeeAll_89 at h
  refine lv_iinc (v := (a7 + 1)) (lv' := [(7, _), (0, _), (1, _), (2, _), (3, _), (4, _), (5, _), (6, _)]) he hb dX11_couldSeeAll_89 hl (k := 7) rfl rfl (by decide) rfl (fun ls hl => ?_)
  refine lv_goto (tgt := 40) he hb dX11_couldSeeAll_92 (by decide) ?_
  exact hr40 _ _ _ _ _ _ _ _ _ _ _ h hS (lv_sub hl [1, 2, 3, 4, 5, 6, 7, 0] rfl)
def fX11_couldSeeAll_40 (r24 : Nat → Int32 → Int32 → Int32 → Int32 → Option Int32) (N n : Nat) (f : zF) : Nat → Nat → Int32 → Int32 → Int32 → Int32 → Int32 → Int32 → Int32 → Option Int32
  | 0, _, _, _, _, _, _, _, _ => none
  | k + 1, a0, a1, a2, a3, a4, a5, a6, a7 =>
    ((zgR n f 11 a0 1).bind fun x4 => ((zgI n f 2 x4 4).bind fun x5 => (if x5 ≤ a7 then (if a6 = a2 then zbl (1 : Int32) else (r24 a0 a1 a2 a3 (a4 + 1))) else (if ((zishr a1 a7) &&& (1 : Int32)) = (1 : Int32) then ((zgR n f 11 a0 13).bind fun x6 => ((fX11_at N n f x6 (((4 : Int32) * a7) + (a5 &&& (3 : Int32)))).bind fun x7 => (fX11_couldSeeAll_89 r24 (fX11_couldSeeAll_40 r24 N n f k) N n f a0 a1 a2 a3 a4 (zishr a5 (2 : Int32)) (a6 ||| x7) a7))) else (fX11_couldSeeAll_89 r24 (fX11_couldSeeAll_40 r24 N n f k) N n f a0 a1 a2 a3 a4 a5 a6 a7)))))
set_option maxRecDepth 100000 in
set_option maxHeartbeats 4000000 in
theorem gX11_couldSeeAll_40 (l : Launch) {G : zG} {p : Program} {e : Env} {s : State} {m : MethodId} {args : Array Value} {below : List Frame} {meth : Method} {c : Code} {f : zF} {N n : Nat} {r : Int32} {r24 : Nat → Int32 → Int32 → Int32 → Int32 → Option Int32} (B : zB G p s m args meth c RX11 cX11_couldSeeAll 8 (some .boolean)) (hr24 : ∀ (a0 : Nat) (a1 : Int32) (a2 : Int32) (a3 : Int32) (a4 : Int32) (H : Heap) (locs : List Loc) (ls : Array Slot), r24 a0 a1 a2 a3 a4 = some r → zS G n f H locs → lv_has ls 8 [(0, zr G a0), (1, .int a1), (2, .int a2), (3, .int a3), (4, .int a4)] → W p l e (zrm 1) s m args below meth c H locs 0 0 (MQ below (zQc G n f (some (.int r))) args s 0 0 (zA G)) (F0 m 24 ls [])) : ∀ (k : Nat), ∀ (a0 : Nat) (a1 : Int32) (a2 : Int32) (a3 : Int32) (a4 : Int32) (a5 : Int32) (a6 : Int32) (a7 : Int32) (H : Heap) (locs : List Loc) (ls : Array Slot), fX11_couldSeeAll_40 r24 N n f k a0 a1 a2 a3 a4 a5 a6 a7 = some r → zS G n f H locs → lv_has ls 8 [(0, zr G a0), (1, .int a1), (2, .int a2), (3, .int a3), (4, .int a4), (5, .int a5), (6, .int a6), (7, .int a7)] → W p l e (zrm 1) s m args below meth c H locs 0 0 (MQ below (zQc G n f (some (.int r))) args s 0 0 (zA G)) (F0 m 40 ls []) := by
  have he := B.1
  have hb := B.2.1
  intro k
  induction k with
  | zero =>
    intro a0 a1 a2 a3 a4 a5 a6 a7 H locs ls h
    unfold fX11_couldSeeAll_40 at h
    cases h
  | succ k ih =>
    intro a0 a1 a2 a3 a4 a5 a6 a7 H locs ls h hS hl
    unfold fX11_couldSeeAll_40 at h
    refine lv_iload he hb dX11_couldSeeAll_40 (lv_at hl 7 rfl) ?_
    refine z_aload_n he hb dX11_couldSeeAll_42 rfl (lv_at hl 0 rfl) (zref_r _ _) ?_
    obtain ⟨x4, hx, h⟩ := zob h
    refine z_getR (ci := 11) (T := TX11) (N := 14) (j := 1) B hS hx rfl zin_X11 (by decide) zk_509 dX11_couldSeeAll_43 ?_
    obtain ⟨x5, hx, h⟩ := zob h
    refine z_getI (ci := 2) (T := TX2) (N := 15) (j := 4) B hS hx rfl zin_X2 (by decide) zk_173 dX11_couldSeeAll_46 ?_
    refine lv_icmp_ge (tgt := 95) he hb dX11_couldSeeAll_49 (by decide) (fun hc => ?_) (fun hc => ?_)
    · rw [if_pos hc] at h
      refine lv_iload he hb dX11_couldSeeAll_95 (lv_at hl 6 rfl) ?_
      refine lv_iload_n he hb dX11_couldSeeAll_97 rfl (lv_at hl 2 rfl) ?_
      refine lv_icmp_ne (tgt := 103) he hb dX11_couldSeeAll_98 (by decide) (fun hc => ?_) (fun hc => ?_)
      · rw [if_neg hc] at h
        refine lv_iinc (v := (a4 + 1)) (lv' := [(4, _), (0, _), (1, _), (2, _), (3, _), (5, _), (6, _), (7, _)]) he hb dX11_couldSeeAll_103 hl (k := 4) rfl rfl (by decide) rfl (fun ls hl => ?_)
        refine lv_goto (tgt := 24) he hb dX11_couldSeeAll_106 (by decide) ?_
        exact hr24 _ _ _ _ _ _ _ _ h hS (lv_sub hl [1, 2, 3, 4, 0] rfl)
      · rw [if_pos hc] at h
        refine lv_iconst (v := (1 : Int32)) he hb dX11_couldSeeAll_101 (by decide) ?_
        obtain ⟨hz, rfl⟩ := zbl_i h
        exact z_zret B hS hz dX11_couldSeeAll_102
    · rw [if_neg hc] at h
      refine lv_iload_n he hb dX11_couldSeeAll_52 rfl (lv_at hl 1 rfl) ?_
      refine lv_iload he hb dX11_couldSeeAll_53 (lv_at hl 7 rfl) ?_
      refine z_ishr he hb dX11_couldSeeAll_55 ?_
      refine lv_iconst (v := (1 : Int32)) he hb dX11_couldSeeAll_56 (by decide) ?_
      refine lv_iand he hb dX11_couldSeeAll_57 ?_
      refine lv_iconst (v := (1 : Int32)) he hb dX11_couldSeeAll_58 (by decide) ?_
      refine lv_icmp_ne (tgt := 89) he hb dX11_couldSeeAll_59 (by decide) (fun hc => ?_) (fun hc => ?_)
      · rw [if_neg hc] at h
        exact gX11_couldSeeAll_89 l B hr24 ih _ _ _ _ _ _ _ _ _ _ _ h hS (lv_sub hl [0, 1, 2, 3, 4, 5, 6, 7] rfl)
      · rw [if_pos hc] at h
        refine lv_iload he hb dX11_couldSeeAll_62 (lv_at hl 6 rfl) ?_
        refine z_aload_n he hb dX11_couldSeeAll_64 rfl (lv_at hl 0 rfl) (zref_r _ _) ?_
        obtain ⟨x6, hx, h⟩ := zob h
        refine z_getR (ci := 11) (T := TX11) (N := 14) (j := 13) B hS hx rfl zin_X11 (by decide) zk_521 dX11_couldSeeAll_65 ?_
        refine lv_iconst (v := (4 : Int32)) he hb dX11_couldSeeAll_68 (by decide) ?_
        refine lv_iload he hb dX11_couldSeeAll_69 (lv_at hl 7 rfl) ?_
        refine lv_imul he hb dX11_couldSeeAll_71 ?_
        refine lv_iload he hb dX11_couldSeeAll_72 (lv_at hl 5 rfl) ?_
        refine lv_iconst (v := (3 : Int32)) he hb dX11_couldSeeAll_74 (by decide) ?_
        refine lv_iand he hb dX11_couldSeeAll_75 ?_
        refine lv_iadd he hb dX11_couldSeeAll_76 ?_
        obtain ⟨x7, hx, h⟩ := zob h
        refine z_callS (rest := [_]) B hS (mX11_at l G hx) zy_X11_at zk_755 (by decide) rfl hl rfl (Nat.le_of_ble_eq_true rfl) dX11_couldSeeAll_77 (kk := (fun H locs hS => ?_))
        refine lv_ior he hb dX11_couldSeeAll_80 ?_
        refine lv_istore (lv' := [(6, _), (0, _), (1, _), (2, _), (3, _), (4, _), (5, _), (7, _)]) he hb dX11_couldSeeAll_81 hl (by decide) rfl (fun ls hl => ?_)
        refine lv_iload he hb dX11_couldSeeAll_83 (lv_at hl 6 rfl) ?_
        refine lv_iconst (v := (2 : Int32)) he hb dX11_couldSeeAll_85 (by decide) ?_
        refine z_ishr he hb dX11_couldSeeAll_86 ?_
        refine lv_istore (lv' := [(5, _), (6, _), (0, _), (1, _), (2, _), (3, _), (4, _), (7, _)]) he hb dX11_couldSeeAll_87 hl (by decide) rfl (fun ls hl => ?_)
        exact gX11_couldSeeAll_89 l B hr24 ih _ _ _ _ _ _ _ _ _ _ _ h hS (lv_sub hl [2, 3, 4, 5, 6, 0, 1, 7] rfl)
def fX11_couldSeeAll_24 (N n : Nat) (f : zF) : Nat → Nat → Int32 → Int32 → Int32 → Int32 → Option Int32
  | 0, _, _, _, _, _ => none
  | k + 1, a0, a1, a2, a3, a4 =>
    (if a3 ≤ a4 then zbl (0 : Int32) else (fX11_couldSeeAll_40 (fX11_couldSeeAll_24 N n f k) N n f N a0 a1 a2 a3 a4 a4 (0 : Int32) (0 : Int32)))
set_option maxRecDepth 100000 in
set_option maxHeartbeats 4000000 in
theorem gX11_couldSeeAll_24 (l : Launch) {G : zG} {p : Program} {e : Env} {s : State} {m : MethodId} {args : Array Value} {below : List Frame} {meth : Method} {c : Code} {f : zF} {N n : Nat} {r : Int32} (B : zB G p s m args meth c RX11 cX11_couldSeeAll 8 (some .boolean)) : ∀ (k : Nat), ∀ (a0 : Nat) (a1 : Int32) (a2 : Int32) (a3 : Int32) (a4 : Int32) (H : Heap) (locs : List Loc) (ls : Array Slot), fX11_couldSeeAll_24 N n f k a0 a1 a2 a3 a4 = some r → zS G n f H locs → lv_has ls 8 [(0, zr G a0), (1, .int a1), (2, .int a2), (3, .int a3), (4, .int a4)] → W p l e (zrm 1) s m args below meth c H locs 0 0 (MQ below (zQc G n f (some (.int r))) args s 0 0 (zA G)) (F0 m 24 ls []) := by
  have he := B.1
  have hb := B.2.1
  intro k
  induction k with
  | zero =>
    intro a0 a1 a2 a3 a4 H locs ls h
    unfold fX11_couldSeeAll_24 at h
    cases h
  | succ k ih =>
    intro a0 a1 a2 a3 a4 H locs ls h hS hl
    unfold fX11_couldSeeAll_24 at h
    refine lv_iload he hb dX11_couldSeeAll_24 (lv_at hl 4 rfl) ?_
    refine lv_iload_n he hb dX11_couldSeeAll_26 rfl (lv_at hl 3 rfl) ?_
    refine lv_icmp_ge (tgt := 109) he hb dX11_couldSeeAll_27 (by decide) (fun hc => ?_) (fun hc => ?_)
    · rw [if_pos hc] at h
      refine lv_iconst (v := (0 : Int32)) he hb dX11_couldSeeAll_109 (by decide) ?_
      obtain ⟨hz, rfl⟩ := zbl_i h
      exact z_zret B hS hz dX11_couldSeeAll_110
    · rw [if_neg hc] at h
      refine lv_iload he hb dX11_couldSeeAll_30 (lv_at hl 4 rfl) ?_
      refine lv_istore (lv' := [(5, _), (0, _), (1, _), (2, _), (3, _), (4, _)]) he hb dX11_couldSeeAll_32 hl (by decide) rfl (fun ls hl => ?_)
      refine lv_iconst (v := (0 : Int32)) he hb dX11_couldSeeAll_34 (by decide) ?_
      refine lv_istore (lv' := [(6, _), (5, _), (0, _), (1, _), (2, _), (3, _), (4, _)]) he hb dX11_couldSeeAll_35 hl (by decide) rfl (fun ls hl => ?_)
      refine lv_iconst (v := (0 : Int32)) he hb dX11_couldSeeAll_37 (by decide) ?_
      refine lv_istore (lv' := [(7, _), (6, _), (5, _), (0, _), (1, _), (2, _), (3, _), (4, _)]) he hb dX11_couldSeeAll_38 hl (by decide) rfl (fun ls hl => ?_)
      exact gX11_couldSeeAll_40 l B ih N _ _ _ _ _ _ _ _ _ _ _ h hS (lv_sub hl [3, 4, 5, 6, 7, 2, 1, 0] rfl)
def fX11_couldSeeAll (N n : Nat) (f : zF) (a0 : Nat) (a1 : Int32) : Option Int32 :=
    ((zgR n f 11 a0 1).bind fun x1 => ((zgI n f 2 x1 3).bind fun x2 => ((fJ6_bitCount_0f7a4 N n f a1).bind fun x3 => (fX11_couldSeeAll_24 N n f N a0 a1 ((zishl (1 : Int32) x2) - (1 : Int32)) (zishl (1 : Int32) ((2 : Int32) * x3)) (0 : Int32)))))
set_option maxRecDepth 100000 in
set_option maxHeartbeats 4000000 in
theorem mX11_couldSeeAll (l : Launch) (G : zG) {N n : Nat} {f : zF} {r : Int32} {a0 : Nat} {a1 : Int32} (h : fX11_couldSeeAll N n f a0 a1 = some r) : zM l G yX11_couldSeeAll cX11_couldSeeAll 8 (some .boolean) 1 n f [zr G a0, .int a1] (some (.int r)) f := by
  refine zM.of (by decide) (Nat.le_of_ble_eq_true rfl) ?_
  intro p e s m args below meth c locs ls B hS hl
  have he := B.1
  have hb := B.2.1
  have hl : lv_has ls 8 [(0, zr G a0), (1, .int a1)] := hl
  unfold fX11_couldSeeAll at h
  generalize s.heap = H at hS ⊢
  refine lv_iconst (v := (1 : Int32)) he hb dX11_couldSeeAll_0 (by decide) ?_
  refine z_aload_n he hb dX11_couldSeeAll_1 rfl (lv_at hl 0 rfl) (zref_r _ _) ?_
  obtain ⟨x1, hx, h⟩ := zob h
  refine z_getR (ci := 11) (T := TX11) (N := 14) (j := 1) B hS hx rfl zin_X11 (by decide) zk_509 dX11_couldSeeAll_2 ?_
  obtain ⟨x2, hx, h⟩ := zob h
  refine z_getI (ci := 2) (T := TX2) (N := 15) (j := 3) B hS hx rfl zin_X2 (by decide) zk_167 dX11_couldSeeAll_5 ?_
  refine z_ishl he hb dX11_couldSeeAll_8 ?_
  refine lv_iconst (v := (1 : Int32)) he hb dX11_couldSeeAll_9 (by decide) ?_
  refine lv_isub he hb dX11_couldSeeAll_10 ?_
  refine lv_istore_n (lv' := [(2, _), (0, _), (1, _)]) he hb dX11_couldSeeAll_11 rfl hl (by decide) rfl (fun ls hl => ?_)
  refine lv_iconst (v := (1 : Int32)) he hb dX11_couldSeeAll_12 (by decide) ?_
  refine lv_iconst (v := (2 : Int32)) he hb dX11_couldSeeAll_13 (by decide) ?_
  refine lv_iload_n he hb dX11_couldSeeAll_14 rfl (lv_at hl 2 rfl) ?_
  obtain ⟨x3, hx, h⟩ := zob h
  refine z_callT (rest := [_, _]) B hS (mJ6_bitCount_0f7a4 l G hx) zy_J6_bitCount_0f7a4 zk_934 (by decide) rfl hl rfl (Nat.le_of_ble_eq_true rfl) dX11_couldSeeAll_15 (kk := (fun H locs hS => ?_))
  refine lv_imul he hb dX11_couldSeeAll_18 ?_
  refine z_ishl he hb dX11_couldSeeAll_19 ?_
  refine lv_istore_n (lv' := [(3, _), (2, _), (0, _), (1, _)]) he hb dX11_couldSeeAll_20 rfl hl (by decide) rfl (fun ls hl => ?_)
  refine lv_iconst (v := (0 : Int32)) he hb dX11_couldSeeAll_21 (by decide) ?_
  refine lv_istore (lv' := [(4, _), (3, _), (2, _), (0, _), (1, _)]) he hb dX11_couldSeeAll_22 hl (by decide) rfl (fun ls hl => ?_)
  exact gX11_couldSeeAll_24 l B N _ _ _ _ _ _ _ _ h hS (lv_sub hl [3, 4, 2, 1, 0] rfl)
theorem dX11_few_0 : decode cX11_few 0 = .ok (.aload_n 0, 1) := by decide +kernel
theorem dX11_few_1 : decode cX11_few 1 = .ok (.iconst 0, 1) := by decide +kernel
theorem dX11_few_2 : decode cX11_few 2 = .ok (.invokevirtual 266, 3) := by decide +kernel
theorem dX11_few_5 : decode cX11_few 5 = .ok (.iconst 0, 1) := by decide +kernel
theorem dX11_few_6 : decode cX11_few 6 = .ok (.istore_n 1, 1) := by decide +kernel
theorem dX11_few_7 : decode cX11_few 7 = .ok (.iload_n 1, 1) := by decide +kernel
theorem dX11_few_8 : decode cX11_few 8 = .ok (.aload_n 0, 1) := by decide +kernel
theorem dX11_few_9 : decode cX11_few 9 = .ok (.getfield 19, 3) := by decide +kernel
theorem dX11_few_12 : decode cX11_few 12 = .ok (.getfield 223, 3) := by decide +kernel
theorem dX11_few_15 : decode cX11_few 15 = .ok (.if_icmp .gt 56, 3) := by decide +kernel
theorem dX11_few_18 : decode cX11_few 18 = .ok (.iconst 0, 1) := by decide +kernel
theorem dX11_few_19 : decode cX11_few 19 = .ok (.istore_n 2, 1) := by decide +kernel
theorem dX11_few_20 : decode cX11_few 20 = .ok (.iload_n 2, 1) := by decide +kernel
theorem dX11_few_21 : decode cX11_few 21 = .ok (.iconst 1, 1) := by decide +kernel
theorem dX11_few_22 : decode cX11_few 22 = .ok (.aload_n 0, 1) := by decide +kernel
theorem dX11_few_23 : decode cX11_few 23 = .ok (.getfield 19, 3) := by decide +kernel
theorem dX11_few_26 : decode cX11_few 26 = .ok (.getfield 223, 3) := by decide +kernel
theorem dX11_few_29 : decode cX11_few 29 = .ok (.ishl, 1) := by decide +kernel
theorem dX11_few_30 : decode cX11_few 30 = .ok (.if_icmp .ge 35, 3) := by decide +kernel
theorem dX11_few_33 : decode cX11_few 33 = .ok (.iload_n 2, 1) := by decide +kernel
theorem dX11_few_34 : decode cX11_few 34 = .ok (.invokestatic 273, 3) := by decide +kernel
theorem dX11_few_37 : decode cX11_few 37 = .ok (.iload_n 1, 1) := by decide +kernel
theorem dX11_few_38 : decode cX11_few 38 = .ok (.if_icmp .ne 21, 3) := by decide +kernel
theorem dX11_few_41 : decode cX11_few 41 = .ok (.aload_n 0, 1) := by decide +kernel
theorem dX11_few_42 : decode cX11_few 42 = .ok (.iload_n 2, 1) := by decide +kernel
theorem dX11_few_43 : decode cX11_few 43 = .ok (.invokevirtual 291, 3) := by decide +kernel
theorem dX11_few_46 : decode cX11_few 46 = .ok (.ifCond .eq 13, 3) := by decide +kernel
theorem dX11_few_49 : decode cX11_few 49 = .ok (.aload_n 0, 1) := by decide +kernel
theorem dX11_few_50 : decode cX11_few 50 = .ok (.getfield 94, 3) := by decide +kernel
theorem dX11_few_53 : decode cX11_few 53 = .ok (.iload_n 2, 1) := by decide +kernel
theorem dX11_few_54 : decode cX11_few 54 = .ok (.putfield 294, 3) := by decide +kernel
theorem dX11_few_57 : decode cX11_few 57 = .ok (.iload_n 1, 1) := by decide +kernel
theorem dX11_few_58 : decode cX11_few 58 = .ok (.ireturn, 1) := by decide +kernel
theorem dX11_few_59 : decode cX11_few 59 = .ok (.iinc 2 1, 3) := by decide +kernel
theorem dX11_few_62 : decode cX11_few 62 = .ok (.goto (-42), 3) := by decide +kernel
theorem dX11_few_65 : decode cX11_few 65 = .ok (.iinc 1 1, 3) := by decide +kernel
theorem dX11_few_68 : decode cX11_few 68 = .ok (.goto (-61), 3) := by decide +kernel
theorem dX11_few_71 : decode cX11_few 71 = .ok (.iconst (-1), 1) := by decide +kernel
theorem dX11_few_72 : decode cX11_few 72 = .ok (.ireturn, 1) := by decide +kernel
def fX11_few_59 (r7 : zF → Nat → Int32 → Option (zF × Int32)) (r20 : zF → Nat → Int32 → Int32 → Option (zF × Int32)) (N n : Nat) (f : zF) (a0 : Nat) (a1 : Int32) (a2 : Int32) : Option (zF × Int32) :=
    (r20 f a0 a1 (a2 + 1))
set_option maxRecDepth 100000 in
set_option maxHeartbeats 4000000 in
theorem gX11_few_59 (l : Launch) {G : zG} {p : Program} {e : Env} {s : State} {m : MethodId} {args : Array Value} {below : List Frame} {meth : Method} {c : Code} {N n : Nat} {f9 : zF} {r : Int32} {r7 : zF → Nat → Int32 → Option (zF × Int32)} {r20 : zF → Nat → Int32 → Int32 → Option (zF × Int32)} (B : zB G p s m args meth c RX11 cX11_few 3 (some .int)) (hr7 : ∀ (f : zF) (a0 : Nat) (a1 : Int32) (H : Heap) (locs : List Loc) (ls : Array Slot), r7 f a0 a1 = some (f9, r) → zS G n f H locs → lv_has ls 3 [(0, zr G a0), (1, .int a1)] → W p l e (zrm 4) s m args below meth c H locs 0 0 (MQ below (zQc G n f9 (some (.int r))) args s 0 0 (zA G)) (F0 m 7 ls [])) (hr20 : ∀ (f : zF) (a0 : Nat) (a1 : Int32) (a2 : Int32) (H : Heap) (locs : List Loc) (ls : Array Slot), r20 f a0 a1 a2 = some (f9, r) → zS G n f H locs → lv_has ls 3 [(0, zr G a0), (1, .int a1), (2, .int a2)] → W p l e (zrm 4) s m args below meth c H locs 0 0 (MQ below (zQc G n f9 (some (.int r))) args s 0 0 (zA G)) (F0 m 20 ls [])) : ∀ (f : zF) (a0 : Nat) (a1 : Int32) (a2 : Int32) (H : Heap) (locs : List Loc) (ls : Array Slot), fX11_few_59 r7 r20 N n f a0 a1 a2 = some (f9, r) → zS G n f H locs → lv_has ls 3 [(0, zr G a0), (1, .int a1), (2, .int a2)] → W p l e (zrm 4) s m args below meth c H locs 0 0 (MQ below (zQc G n f9 (some (.int r))) args s 0 0 (zA G)) (F0 m 59 ls []) := by
  have he := B.1
  have hb := B.2.1
  intro f a0 a1 a2 H locs ls h hS hl
  unfold fX11_few_59 at h
  refine lv_iinc (v := (a2 + 1)) (lv' := [(2, _), (0, _), (1, _)]) he hb dX11_few_59 hl (k := 2) rfl rfl (by decide) rfl (fun ls hl => ?_)
  refine lv_goto (tgt := 20) he hb dX11_few_62 (by decide) ?_
  exact hr20 _ _ _ _ _ _ _ h hS (lv_sub hl [1, 2, 0] rfl)
def fX11_few_20 (r7 : zF → Nat → Int32 → Option (zF × Int32)) (N n : Nat) : Nat → zF → Nat → Int32 → Int32 → Option (zF × Int32)
  | 0, _, _, _, _ => none
  | k + 1, f, a0, a1, a2 =>
    ((zgR n f 11 a0 1).bind fun x4 => ((zgI n f 2 x4 4).bind fun x5 => (if (zishl (1 : Int32) x5) ≤ a2 then (r7 f a0 (a1 + 1)) else ((fJ6_bitCount_0f7a4 N n f a2).bind fun x6 => (if x6 = a1 then ((zck n f 11 a0).bind fun _ => ((fX11_couldSeeAll N n f a0 a2).bind fun x7 => (if x7 = 0 then (fX11_few_59 r7 (fX11_few_20 r7 N n k) N n f a0 a1 a2) else ((zgR n f 11 a0 12).bind fun x8 => ((zpI n f 0 x8 3 a2).bind fun f9 => some (f9, a1)))))) else (fX11_few_59 r7 (fX11_few_20 r7 N n k) N n f a0 a1 a2))))))
set_option maxRecDepth 100000 in
set_option maxHeartbeats 4000000 in
theorem gX11_few_20 (l : Launch) {G : zG} {p : Program} {e : Env} {s : State} {m : MethodId} {args : Array Value} {below : List Frame} {meth : Method} {c : Code} {N n : Nat} {f9 : zF} {r : Int32} {r7 : zF → Nat → Int32 → Option (zF × Int32)} (B : zB G p s m args meth c RX11 cX11_few 3 (some .int)) (hr7 : ∀ (f : zF) (a0 : Nat) (a1 : Int32) (H : Heap) (locs : List Loc) (ls : Array Slot), r7 f a0 a1 = some (f9, r) → zS G n f H locs → lv_has ls 3 [(0, zr G a0), (1, .int a1)] → W p l e (zrm 4) s m args below meth c H locs 0 0 (MQ below (zQc G n f9 (some (.int r))) args s 0 0 (zA G)) (F0 m 7 ls [])) : ∀ (k : Nat), ∀ (f : zF) (a0 : Nat) (a1 : Int32) (a2 : Int32) (H : Heap) (locs : List Loc) (ls : Array Slot), fX11_few_20 r7 N n k f a0 a1 a2 = some (f9, r) → zS G n f H locs → lv_has ls 3 [(0, zr G a0), (1, .int a1), (2, .int a2)] → W p l e (zrm 4) s m args below meth c H locs 0 0 (MQ below (zQc G n f9 (some (.int r))) args s 0 0 (zA G)) (F0 m 20 ls []) := by
  have he := B.1
  have hb := B.2.1
  intro k
  induction k with
  | zero =>
    intro f a0 a1 a2 H locs ls h
    unfold fX11_few_20 at h
    cases h
  | succ k ih =>
    intro f a0 a1 a2 H locs ls h hS hl
    unfold fX11_few_20 at h
    refine lv_iload_n he hb dX11_few_20 rfl (lv_at hl 2 rfl) ?_
    refine lv_iconst (v := (1 : Int32)) he hb dX11_few_21 (by decide) ?_
    refine z_aload_n he hb dX11_few_22 rfl (lv_at hl 0 rfl) (zref_r _ _) ?_
    obtain ⟨x4, hx, h⟩ := zob h
    refine z_getR (ci := 11) (T := TX11) (N := 14) (j := 1) B hS hx rfl zin_X11 (by decide) zk_509 dX11_few_23 ?_
    obtain ⟨x5, hx, h⟩ := zob h
    refine z_getI (ci := 2) (T := TX2) (N := 15) (j := 4) B hS hx rfl zin_X2 (by decide) zk_173 dX11_few_26 ?_
    refine z_ishl he hb dX11_few_29 ?_
    refine lv_icmp_ge (tgt := 65) he hb dX11_few_30 (by decide) (fun hc => ?_) (fun hc => ?_)
    · rw [if_pos hc] at h
      refine lv_iinc (v := (a1 + 1)) (lv' := [(1, _), (0, _), (2, _)]) he hb dX11_few_65 hl (k := 1) rfl rfl (by decide) rfl (fun ls hl => ?_)
      refine lv_goto (tgt := 7) he hb dX11_few_68 (by decide) ?_
      exact hr7 _ _ _ _ _ _ h hS (lv_sub hl [1, 0] rfl)
    · rw [if_neg hc] at h
      refine lv_iload_n he hb dX11_few_33 rfl (lv_at hl 2 rfl) ?_
      obtain ⟨x6, hx, h⟩ := zob h
      refine z_callT (rest := []) B hS (mJ6_bitCount_0f7a4 l G hx) zy_J6_bitCount_0f7a4 zk_934 (by decide) rfl hl rfl (Nat.le_of_ble_eq_true rfl) dX11_few_34 (kk := (fun H locs hS => ?_))
      refine lv_iload_n he hb dX11_few_37 rfl (lv_at hl 1 rfl) ?_
      refine lv_icmp_ne (tgt := 59) he hb dX11_few_38 (by decide) (fun hc => ?_) (fun hc => ?_)
      · rw [if_neg hc] at h
        exact gX11_few_59 l B hr7 ih _ _ _ _ _ _ _ h hS (lv_sub hl [0, 1, 2] rfl)
      · rw [if_pos hc] at h
        refine z_aload_n he hb dX11_few_41 rfl (lv_at hl 0 rfl) (zref_r _ _) ?_
        refine lv_iload_n he hb dX11_few_42 rfl (lv_at hl 2 rfl) ?_
        obtain ⟨_, hc, h⟩ := zob h
        obtain ⟨x7, hx, h⟩ := zob h
        refine z_callV (ci := 11) (T := TX11) (N := 14) (rest := []) B hS (mX11_couldSeeAll l G hx) zy_X11_couldSeeAll zk_948 (by decide) hc rfl rfl hl rfl (Nat.le_of_ble_eq_true rfl) dX11_few_43 (kk := (fun H locs hS => ?_))
        refine lv_if_eq (tgt := 59) he hb dX11_few_46 (by decide) (fun hc => ?_) (fun hc => ?_)
        · rw [if_pos hc] at h
          exact gX11_few_59 l B hr7 ih _ _ _ _ _ _ _ h hS (lv_sub hl [0, 1, 2] rfl)
        · rw [if_neg hc] at h
          refine z_aload_n he hb dX11_few_49 rfl (lv_at hl 0 rfl) (zref_r _ _) ?_
          obtain ⟨x8, hx, h⟩ := zob h
          refine z_getR (ci := 11) (T := TX11) (N := 14) (j := 12) B hS hx rfl zin_X11 (by decide) zk_520 dX11_few_50 ?_
          refine lv_iload_n he hb dX11_few_53 rfl (lv_at hl 2 rfl) ?_
          obtain ⟨f9, hx, h⟩ := zob h
          refine z_putI (ci := 0) (T := TX0) (N := 9) (j := 3) B hS hx rfl zin_X0 tyX0 tyX0_ok nmX0 (by decide) zk_478 rfl rfl dX11_few_54 (fun H locs hS => ?_)
          refine lv_iload_n he hb dX11_few_57 rfl (lv_at hl 1 rfl) ?_
          obtain ⟨rfl, rfl⟩ := Prod.mk.inj (Option.some.inj h)
          exact z_iret B hS dX11_few_58
def fX11_few_7 (N n : Nat) : Nat → zF → Nat → Int32 → Option (zF × Int32)
  | 0, _, _, _ => none
  | k + 1, f, a0, a1 =>
    ((zgR n f 11 a0 1).bind fun x2 => ((zgI n f 2 x2 4).bind fun x3 => (if x3 < a1 then some (f, (-1 : Int32)) else (fX11_few_20 (fX11_few_7 N n k) N n N f a0 a1 (0 : Int32)))))
set_option maxRecDepth 100000 in
set_option maxHeartbeats 4000000 in
theorem gX11_few_7 (l : Launch) {G : zG} {p : Program} {e : Env} {s : State} {m : MethodId} {args : Array Value} {below : List Frame} {meth : Method} {c : Code} {N n : Nat} {f9 : zF} {r : Int32} (B : zB G p s m args meth c RX11 cX11_few 3 (some .int)) : ∀ (k : Nat), ∀ (f : zF) (a0 : Nat) (a1 : Int32) (H : Heap) (locs : List Loc) (ls : Array Slot), fX11_few_7 N n k f a0 a1 = some (f9, r) → zS G n f H locs → lv_has ls 3 [(0, zr G a0), (1, .int a1)] → W p l e (zrm 4) s m args below meth c H locs 0 0 (MQ below (zQc G n f9 (some (.int r))) args s 0 0 (zA G)) (F0 m 7 ls []) := by
  have he := B.1
  have hb := B.2.1
  intro k
  induction k with
  | zero =>
    intro f a0 a1 H locs ls h
    unfold fX11_few_7 at h
    cases h
  | succ k ih =>
    intro f a0 a1 H locs ls h hS hl
    unfold fX11_few_7 at h
    refine lv_iload_n he hb dX11_few_7 rfl (lv_at hl 1 rfl) ?_
    refine z_aload_n he hb dX11_few_8 rfl (lv_at hl 0 rfl) (zref_r _ _) ?_
    obtain ⟨x2, hx, h⟩ := zob h
    refine z_getR (ci := 11) (T := TX11) (N := 14) (j := 1) B hS hx rfl zin_X11 (by decide) zk_509 dX11_few_9 ?_
    obtain ⟨x3, hx, h⟩ := zob h
    refine z_getI (ci := 2) (T := TX2) (N := 15) (j := 4) B hS hx rfl zin_X2 (by decide) zk_173 dX11_few_12 ?_
    refine lv_icmp_gt (tgt := 71) he hb dX11_few_15 (by decide) (fun hc => ?_) (fun hc => ?_)
    · rw [if_pos hc] at h
      refine lv_iconst (v := (-1 : Int32)) he hb dX11_few_71 (by decide) ?_
      obtain ⟨rfl, rfl⟩ := Prod.mk.inj (Option.some.inj h)
      exact z_iret B hS dX11_few_72
    · rw [if_neg hc] at h
      refine lv_iconst (v := (0 : Int32)) he hb dX11_few_18 (by decide) ?_
      refine lv_istore_n (lv' := [(2, _), (0, _), (1, _)]) he hb dX11_few_19 rfl hl (by decide) rfl (fun ls hl => ?_)
      exact gX11_few_20 l B ih N _ _ _ _ _ _ _ h hS (lv_sub hl [1, 2, 0] rfl)
def fX11_few (N n : Nat) (f : zF) (a0 : Nat) : Option (zF × Int32) :=
    ((zck n f 11 a0).bind fun _ => ((fX11_markSights N n f a0 (0 : Int32)).bind fun f1 => (fX11_few_7 N n N f1 a0 (0 : Int32))))
set_option maxRecDepth 100000 in
set_option maxHeartbeats 4000000 in
theorem mX11_few (l : Launch) (G : zG) {N n : Nat} {f : zF} {f9 : zF} {r : Int32} {a0 : Nat} (h : fX11_few N n f a0 = some (f9, r)) : zM l G yX11_few cX11_few 3 (some .int) 4 n f [zr G a0] (some (.int r)) f9 := by
  refine zM.of (by decide) (Nat.le_of_ble_eq_true rfl) ?_
  intro p e s m args below meth c locs ls B hS hl
  have he := B.1
  have hb := B.2.1
  have hl : lv_has ls 3 [(0, zr G a0)] := hl
  unfold fX11_few at h
  generalize s.heap = H at hS ⊢
  refine z_aload_n he hb dX11_few_0 rfl (lv_at hl 0 rfl) (zref_r _ _) ?_
  refine lv_iconst (v := (0 : Int32)) he hb dX11_few_1 (by decide) ?_
  obtain ⟨_, hc, h⟩ := zob h
  obtain ⟨f1, hx, h⟩ := zob h
  refine z_callV (ci := 11) (T := TX11) (N := 14) (rest := []) B hS (mX11_markSights l G hx) zy_X11_markSights zk_921 (by decide) hc rfl rfl hl rfl (Nat.le_of_ble_eq_true rfl) dX11_few_2 (kk := (fun H locs hS => ?_))
  refine lv_iconst (v := (0 : Int32)) he hb dX11_few_5 (by decide) ?_
  refine lv_istore_n (lv' := [(1, _), (0, _)]) he hb dX11_few_6 rfl hl (by decide) rfl (fun ls hl => ?_)
  exact gX11_few_7 l B N _ _ _ _ _ _ h hS (lv_sub hl [1, 0] rfl)
theorem dX11_fewest_0 : decode cX11_fewest 0 = .ok (.aload_n 0, 1) := by decide +kernel
theorem dX11_fewest_1 : decode cX11_fewest 1 = .ok (.getfield 94, 3) := by decide +kernel
theorem dX11_fewest_4 : decode cX11_fewest 4 = .ok (.getfield 294, 3) := by decide +kernel
theorem dX11_fewest_7 : decode cX11_fewest 7 = .ok (.ireturn, 1) := by decide +kernel
def fX11_fewest (N n : Nat) (f : zF) (a0 : Nat) : Option Int32 :=
    ((zgR n f 11 a0 12).bind fun x1 => ((zgI n f 0 x1 3).bind fun x2 => some x2))
set_option maxRecDepth 100000 in
set_option maxHeartbeats 4000000 in
theorem mX11_fewest (l : Launch) (G : zG) {N n : Nat} {f : zF} {r : Int32} {a0 : Nat} (h : fX11_fewest N n f a0 = some r) : zM l G yX11_fewest cX11_fewest 1 (some .int) 0 n f [zr G a0] (some (.int r)) f := by
  refine zM.of (by decide) (Nat.le_of_ble_eq_true rfl) ?_
  intro p e s m args below meth c locs ls B hS hl
  have he := B.1
  have hb := B.2.1
  have hl : lv_has ls 1 [(0, zr G a0)] := hl
  unfold fX11_fewest at h
  generalize s.heap = H at hS ⊢
  refine z_aload_n he hb dX11_fewest_0 rfl (lv_at hl 0 rfl) (zref_r _ _) ?_
  obtain ⟨x1, hx, h⟩ := zob h
  refine z_getR (ci := 11) (T := TX11) (N := 14) (j := 12) B hS hx rfl zin_X11 (by decide) zk_520 dX11_fewest_1 ?_
  obtain ⟨x2, hx, h⟩ := zob h
  refine z_getI (ci := 0) (T := TX0) (N := 9) (j := 3) B hS hx rfl zin_X0 (by decide) zk_478 dX11_fewest_4 ?_
  obtain rfl := Option.some.inj h
  exact z_iret B hS dX11_fewest_7
theorem dX11_comesBlind_0 : decode cX11_comesBlind 0 = .ok (.aload_n 0, 1) := by decide +kernel
theorem dX11_comesBlind_1 : decode cX11_comesBlind 1 = .ok (.getfield 32, 3) := by decide +kernel
theorem dX11_comesBlind_4 : decode cX11_comesBlind 4 = .ok (.aload_n 0, 1) := by decide +kernel
theorem dX11_comesBlind_5 : decode cX11_comesBlind 5 = .ok (.getfield 28, 3) := by decide +kernel
theorem dX11_comesBlind_8 : decode cX11_comesBlind 8 = .ok (.invokevirtual 126, 3) := by decide +kernel
theorem dX11_comesBlind_11 : decode cX11_comesBlind 11 = .ok (.iconst 0, 1) := by decide +kernel
theorem dX11_comesBlind_12 : decode cX11_comesBlind 12 = .ok (.istore 5, 2) := by decide +kernel
theorem dX11_comesBlind_14 : decode cX11_comesBlind 14 = .ok (.iload 5, 2) := by decide +kernel
theorem dX11_comesBlind_16 : decode cX11_comesBlind 16 = .ok (.aload_n 0, 1) := by decide +kernel
theorem dX11_comesBlind_17 : decode cX11_comesBlind 17 = .ok (.getfield 19, 3) := by decide +kernel
theorem dX11_comesBlind_20 : decode cX11_comesBlind 20 = .ok (.getfield 223, 3) := by decide +kernel
theorem dX11_comesBlind_23 : decode cX11_comesBlind 23 = .ok (.if_icmp .ge 35, 3) := by decide +kernel
theorem dX11_comesBlind_26 : decode cX11_comesBlind 26 = .ok (.iload 4, 2) := by decide +kernel
theorem dX11_comesBlind_28 : decode cX11_comesBlind 28 = .ok (.iload 5, 2) := by decide +kernel
theorem dX11_comesBlind_30 : decode cX11_comesBlind 30 = .ok (.ishr, 1) := by decide +kernel
theorem dX11_comesBlind_31 : decode cX11_comesBlind 31 = .ok (.iconst 1, 1) := by decide +kernel
theorem dX11_comesBlind_32 : decode cX11_comesBlind 32 = .ok (.iand, 1) := by decide +kernel
theorem dX11_comesBlind_33 : decode cX11_comesBlind 33 = .ok (.iconst 1, 1) := by decide +kernel
theorem dX11_comesBlind_34 : decode cX11_comesBlind 34 = .ok (.if_icmp .ne 18, 3) := by decide +kernel
theorem dX11_comesBlind_37 : decode cX11_comesBlind 37 = .ok (.aload_n 0, 1) := by decide +kernel
theorem dX11_comesBlind_38 : decode cX11_comesBlind 38 = .ok (.getfield 32, 3) := by decide +kernel
theorem dX11_comesBlind_41 : decode cX11_comesBlind 41 = .ok (.iload 5, 2) := by decide +kernel
theorem dX11_comesBlind_43 : decode cX11_comesBlind 43 = .ok (.iconst 1, 1) := by decide +kernel
theorem dX11_comesBlind_44 : decode cX11_comesBlind 44 = .ok (.invokevirtual 247, 3) := by decide +kernel
theorem dX11_comesBlind_47 : decode cX11_comesBlind 47 = .ok (.ifCond .eq 5, 3) := by decide +kernel
theorem dX11_comesBlind_50 : decode cX11_comesBlind 50 = .ok (.iconst 0, 1) := by decide +kernel
theorem dX11_comesBlind_51 : decode cX11_comesBlind 51 = .ok (.ireturn, 1) := by decide +kernel
theorem dX11_comesBlind_52 : decode cX11_comesBlind 52 = .ok (.iinc 5 1, 3) := by decide +kernel
theorem dX11_comesBlind_55 : decode cX11_comesBlind 55 = .ok (.goto (-41), 3) := by decide +kernel
theorem dX11_comesBlind_58 : decode cX11_comesBlind 58 = .ok (.iconst 0, 1) := by decide +kernel
theorem dX11_comesBlind_59 : decode cX11_comesBlind 59 = .ok (.istore 5, 2) := by decide +kernel
theorem dX11_comesBlind_61 : decode cX11_comesBlind 61 = .ok (.iload 5, 2) := by decide +kernel
theorem dX11_comesBlind_63 : decode cX11_comesBlind 63 = .ok (.iload_n 3, 1) := by decide +kernel
theorem dX11_comesBlind_64 : decode cX11_comesBlind 64 = .ok (.if_icmp .ge 33, 3) := by decide +kernel
theorem dX11_comesBlind_67 : decode cX11_comesBlind 67 = .ok (.aload_n 0, 1) := by decide +kernel
theorem dX11_comesBlind_68 : decode cX11_comesBlind 68 = .ok (.getfield 32, 3) := by decide +kernel
theorem dX11_comesBlind_71 : decode cX11_comesBlind 71 = .ok (.invokevirtual 256, 3) := by decide +kernel
theorem dX11_comesBlind_74 : decode cX11_comesBlind 74 = .ok (.aload_n 0, 1) := by decide +kernel
theorem dX11_comesBlind_75 : decode cX11_comesBlind 75 = .ok (.getfield 32, 3) := by decide +kernel
theorem dX11_comesBlind_78 : decode cX11_comesBlind 78 = .ok (.getfield 144, 3) := by decide +kernel
theorem dX11_comesBlind_81 : decode cX11_comesBlind 81 = .ok (.iload_n 1, 1) := by decide +kernel
theorem dX11_comesBlind_82 : decode cX11_comesBlind 82 = .ok (.invokestatic 147, 3) := by decide +kernel
theorem dX11_comesBlind_85 : decode cX11_comesBlind 85 = .ok (.iload_n 2, 1) := by decide +kernel
theorem dX11_comesBlind_86 : decode cX11_comesBlind 86 = .ok (.if_icmp .ne 5, 3) := by decide +kernel
theorem dX11_comesBlind_89 : decode cX11_comesBlind 89 = .ok (.iconst 1, 1) := by decide +kernel
theorem dX11_comesBlind_90 : decode cX11_comesBlind 90 = .ok (.ireturn, 1) := by decide +kernel
theorem dX11_comesBlind_91 : decode cX11_comesBlind 91 = .ok (.iinc 5 1, 3) := by decide +kernel
theorem dX11_comesBlind_94 : decode cX11_comesBlind 94 = .ok (.goto (-33), 3) := by decide +kernel
theorem dX11_comesBlind_97 : decode cX11_comesBlind 97 = .ok (.iconst 0, 1) := by decide +kernel
theorem dX11_comesBlind_98 : decode cX11_comesBlind 98 = .ok (.ireturn, 1) := by decide +kernel
def fX11_comesBlind_61 (N n : Nat) : Nat → zF → Nat → Int32 → Int32 → Int32 → Int32 → Option (zF × Int32)
  | 0, _, _, _, _, _, _ => none
  | k + 1, f, a0, a1, a2, a3, a5 =>
    (if a3 ≤ a5 then ((zbl (0 : Int32)).bind fun y => some (f, y)) else ((zgR n f 11 a0 3).bind fun x6 => ((zck n f 8 x6).bind fun _ => ((fX8_goHour N n f x6).bind fun f7 => ((zgR n f7 11 a0 3).bind fun x8 => ((zgR n f7 8 x8 2).bind fun x9 => ((fX11_at N n f7 x9 a1).bind fun x10 => (if x10 = a2 then ((zbl (1 : Int32)).bind fun y => some (f7, y)) else (fX11_comesBlind_61 N n k f7 a0 a1 a2 a3 (a5 + 1))))))))))
set_option maxRecDepth 100000 in
set_option maxHeartbeats 4000000 in
theorem gX11_comesBlind_61 (l : Launch) {G : zG} {p : Program} {e : Env} {s : State} {m : MethodId} {args : Array Value} {below : List Frame} {meth : Method} {c : Code} {N n : Nat} {f9 : zF} {r : Int32} (B : zB G p s m args meth c RX11 cX11_comesBlind 6 (some .boolean)) : ∀ (k : Nat), ∀ (f : zF) (a0 : Nat) (a1 : Int32) (a2 : Int32) (a3 : Int32) (a5 : Int32) (H : Heap) (locs : List Loc) (ls : Array Slot), fX11_comesBlind_61 N n k f a0 a1 a2 a3 a5 = some (f9, r) → zS G n f H locs → lv_has ls 6 [(0, zr G a0), (1, .int a1), (2, .int a2), (3, .int a3), (5, .int a5)] → W p l e (zrm 4) s m args below meth c H locs 0 0 (MQ below (zQc G n f9 (some (.int r))) args s 0 0 (zA G)) (F0 m 61 ls []) := by
  have he := B.1
  have hb := B.2.1
  intro k
  induction k with
  | zero =>
    intro f a0 a1 a2 a3 a5 H locs ls h
    unfold fX11_comesBlind_61 at h
    cases h
  | succ k ih =>
    intro f a0 a1 a2 a3 a5 H locs ls h hS hl
    unfold fX11_comesBlind_61 at h
    refine lv_iload he hb dX11_comesBlind_61 (lv_at hl 4 rfl) ?_
    refine lv_iload_n he hb dX11_comesBlind_63 rfl (lv_at hl 3 rfl) ?_
    refine lv_icmp_ge (tgt := 97) he hb dX11_comesBlind_64 (by decide) (fun hc => ?_) (fun hc => ?_)
    · rw [if_pos hc] at h
      refine lv_iconst (v := (0 : Int32)) he hb dX11_comesBlind_97 (by decide) ?_
      obtain ⟨y, hx, h⟩ := zob h
      obtain ⟨hz, rfl⟩ := zbl_i hx
      obtain ⟨rfl, rfl⟩ := Prod.mk.inj (Option.some.inj h)
      exact z_zret B hS hz dX11_comesBlind_98
    · rw [if_neg hc] at h
      refine z_aload_n he hb dX11_comesBlind_67 rfl (lv_at hl 0 rfl) (zref_r _ _) ?_
      obtain ⟨x6, hx, h⟩ := zob h
      refine z_getR (ci := 11) (T := TX11) (N := 14) (j := 3) B hS hx rfl zin_X11 (by decide) zk_511 dX11_comesBlind_68 ?_
      obtain ⟨_, hc, h⟩ := zob h
      obtain ⟨f7, hx, h⟩ := zob h
      refine z_callV (ci := 8) (T := TX8) (N := 9) (rest := []) B hS (mX8_goHour l G hx) zy_X8_goHour zk_885 (by decide) hc rfl rfl hl rfl (Nat.le_of_ble_eq_true rfl) dX11_comesBlind_71 (kk := (fun H locs hS => ?_))
      refine z_aload_n he hb dX11_comesBlind_74 rfl (lv_at hl 0 rfl) (zref_r _ _) ?_
      obtain ⟨x8, hx, h⟩ := zob h
      refine z_getR (ci := 11) (T := TX11) (N := 14) (j := 3) B hS hx rfl zin_X11 (by decide) zk_511 dX11_comesBlind_75 ?_
      obtain ⟨x9, hx, h⟩ := zob h
      refine z_getR (ci := 8) (T := TX8) (N := 9) (j := 2) B hS hx rfl zin_X8 (by decide) zk_255 dX11_comesBlind_78 ?_
      refine lv_iload_n he hb dX11_comesBlind_81 rfl (lv_at hl 1 rfl) ?_
      obtain ⟨x10, hx, h⟩ := zob h
      refine z_callS (rest := []) B hS (mX11_at l G hx) zy_X11_at zk_755 (by decide) rfl hl rfl (Nat.le_of_ble_eq_true rfl) dX11_comesBlind_82 (kk := (fun H locs hS => ?_))
      refine lv_iload_n he hb dX11_comesBlind_85 rfl (lv_at hl 2 rfl) ?_
      refine lv_icmp_ne (tgt := 91) he hb dX11_comesBlind_86 (by decide) (fun hc => ?_) (fun hc => ?_)
      · rw [if_neg hc] at h
        refine lv_iinc (v := (a5 + 1)) (lv' := [(5, _), (0, _), (1, _), (2, _), (3, _)]) he hb dX11_comesBlind_91 hl (k := 4) rfl rfl (by decide) rfl (fun ls hl => ?_)
        refine lv_goto (tgt := 61) he hb dX11_comesBlind_94 (by decide) ?_
        exact ih _ _ _ _ _ _ _ _ _ h hS (lv_sub hl [1, 2, 3, 4, 0] rfl)
      · rw [if_pos hc] at h
        refine lv_iconst (v := (1 : Int32)) he hb dX11_comesBlind_89 (by decide) ?_
        obtain ⟨y, hx, h⟩ := zob h
        obtain ⟨hz, rfl⟩ := zbl_i hx
        obtain ⟨rfl, rfl⟩ := Prod.mk.inj (Option.some.inj h)
        exact z_zret B hS hz dX11_comesBlind_90
def fX11_comesBlind_52 (r14 : zF → Nat → Int32 → Int32 → Int32 → Int32 → Int32 → Option (zF × Int32)) (N n : Nat) (f : zF) (a0 : Nat) (a1 : Int32) (a2 : Int32) (a3 : Int32) (a4 : Int32) (a5 : Int32) : Option (zF × Int32) :=
    (r14 f a0 a1 a2 a3 a4 (a5 + 1))
set_option maxRecDepth 100000 in
set_option maxHeartbeats 4000000 in
theorem gX11_comesBlind_52 (l : Launch) {G : zG} {p : Program} {e : Env} {s : State} {m : MethodId} {args : Array Value} {below : List Frame} {meth : Method} {c : Code} {N n : Nat} {f9 : zF} {r : Int32} {r14 : zF → Nat → Int32 → Int32 → Int32 → Int32 → Int32 → Option (zF × Int32)} (B : zB G p s m args meth c RX11 cX11_comesBlind 6 (some .boolean)) (hr14 : ∀ (f : zF) (a0 : Nat) (a1 : Int32) (a2 : Int32) (a3 : Int32) (a4 : Int32) (a5 : Int32) (H : Heap) (locs : List Loc) (ls : Array Slot), r14 f a0 a1 a2 a3 a4 a5 = some (f9, r) → zS G n f H locs → lv_has ls 6 [(0, zr G a0), (1, .int a1), (2, .int a2), (3, .int a3), (4, .int a4), (5, .int a5)] → W p l e (zrm 4) s m args below meth c H locs 0 0 (MQ below (zQc G n f9 (some (.int r))) args s 0 0 (zA G)) (F0 m 14 ls [])) : ∀ (f : zF) (a0 : Nat) (a1 : Int32) (a2 : Int32) (a3 : Int32) (a4 : Int32) (a5 : Int32) (H : Heap) (locs : List Loc) (ls : Array Slot), fX11_comesBlind_52 r14 N n f a0 a1 a2 a3 a4 a5 = some (f9, r) → zS G n f H locs → lv_has ls 6 [(0, zr G a0), (1, .int a1), (2, .int a2), (3, .int a3), (4, .int a4), (5, .int a5)] → W p l e (zrm 4) s m args below meth c H locs 0 0 (MQ below (zQc G n f9 (some (.int r))) args s 0 0 (zA G)) (F0 m 52 ls []) := by
  have he := B.1
  have hb := B.2.1
  intro f a0 a1 a2 a3 a4 a5 H locs ls h hS hl
  unfold fX11_comesBlind_52 at h
  refine lv_iinc (v := (a5 + 1)) (lv' := [(5, _), (0, _), (1, _), (2, _), (3, _), (4, _)]) he hb dX11_comesBlind_52 hl (k := 5) rfl rfl (by decide) rfl (fun ls hl => ?_)
  refine lv_goto (tgt := 14) he hb dX11_comesBlind_55 (by decide) ?_
  exact hr14 _ _ _ _ _ _ _ _ _ _ h hS (lv_sub hl [1, 2, 3, 4, 5, 0] rfl)
def fX11_comesBlind_14 (N n : Nat) : Nat → zF → Nat → Int32 → Int32 → Int32 → Int32 → Int32 → Option (zF × Int32)
  | 0, _, _, _, _, _, _, _ => none
  | k + 1, f, a0, a1, a2, a3, a4, a5 =>
    ((zgR n f 11 a0 1).bind fun x4 => ((zgI n f 2 x4 4).bind fun x5 => (if x5 ≤ a5 then (fX11_comesBlind_61 N n N f a0 a1 a2 a3 (0 : Int32)) else (if ((zishr a4 a5) &&& (1 : Int32)) = (1 : Int32) then ((zgR n f 11 a0 3).bind fun x11 => ((zck n f 8 x11).bind fun _ => (zbd (fX8_setEyes N n f x11 a5 (1 : Int32)) fun f13 x12 => (if x12 = 0 then (fX11_comesBlind_52 (fX11_comesBlind_14 N n k) N n f13 a0 a1 a2 a3 a4 a5) else ((zbl (0 : Int32)).bind fun y => some (f13, y)))))) else (fX11_comesBlind_52 (fX11_comesBlind_14 N n k) N n f a0 a1 a2 a3 a4 a5)))))
set_option maxRecDepth 100000 in
set_option maxHeartbeats 4000000 in
theorem gX11_comesBlind_14 (l : Launch) {G : zG} {p : Program} {e : Env} {s : State} {m : MethodId} {args : Array Value} {below : List Frame} {meth : Method} {c : Code} {N n : Nat} {f9 : zF} {r : Int32} (B : zB G p s m args meth c RX11 cX11_comesBlind 6 (some .boolean)) : ∀ (k : Nat), ∀ (f : zF) (a0 : Nat) (a1 : Int32) (a2 : Int32) (a3 : Int32) (a4 : Int32) (a5 : Int32) (H : Heap) (locs : List Loc) (ls : Array Slot), fX11_comesBlind_14 N n k f a0 a1 a2 a3 a4 a5 = some (f9, r) → zS G n f H locs → lv_has ls 6 [(0, zr G a0), (1, .int a1), (2, .int a2), (3, .int a3), (4, .int a4), (5, .int a5)] → W p l e (zrm 4) s m args below meth c H locs 0 0 (MQ below (zQc G n f9 (some (.int r))) args s 0 0 (zA G)) (F0 m 14 ls []) := by
  have he := B.1
  have hb := B.2.1
  intro k
  induction k with
  | zero =>
    intro f a0 a1 a2 a3 a4 a5 H locs ls h
    unfold fX11_comesBlind_14 at h
    cases h
  | succ k ih =>
    intro f a0 a1 a2 a3 a4 a5 H locs ls h hS hl
    unfold fX11_comesBlind_14 at h
    refine lv_iload he hb dX11_comesBlind_14 (lv_at hl 5 rfl) ?_
    refine z_aload_n he hb dX11_comesBlind_16 rfl (lv_at hl 0 rfl) (zref_r _ _) ?_
    obtain ⟨x4, hx, h⟩ := zob h
    refine z_getR (ci := 11) (T := TX11) (N := 14) (j := 1) B hS hx rfl zin_X11 (by decide) zk_509 dX11_comesBlind_17 ?_
    obtain ⟨x5, hx, h⟩ := zob h
    refine z_getI (ci := 2) (T := TX2) (N := 15) (j := 4) B hS hx rfl zin_X2 (by decide) zk_173 dX11_comesBlind_20 ?_
    refine lv_icmp_ge (tgt := 58) he hb dX11_comesBlind_23 (by decide) (fun hc => ?_) (fun hc => ?_)
    · rw [if_pos hc] at h
      refine lv_iconst (v := (0 : Int32)) he hb dX11_comesBlind_58 (by decide) ?_
      refine lv_istore (lv' := [(5, _), (0, _), (1, _), (2, _), (3, _), (4, _)]) he hb dX11_comesBlind_59 hl (by decide) rfl (fun ls hl => ?_)
      exact gX11_comesBlind_61 l B N _ _ _ _ _ _ _ _ _ h hS (lv_sub hl [1, 2, 3, 4, 0] rfl)
    · rw [if_neg hc] at h
      refine lv_iload he hb dX11_comesBlind_26 (lv_at hl 4 rfl) ?_
      refine lv_iload he hb dX11_comesBlind_28 (lv_at hl 5 rfl) ?_
      refine z_ishr he hb dX11_comesBlind_30 ?_
      refine lv_iconst (v := (1 : Int32)) he hb dX11_comesBlind_31 (by decide) ?_
      refine lv_iand he hb dX11_comesBlind_32 ?_
      refine lv_iconst (v := (1 : Int32)) he hb dX11_comesBlind_33 (by decide) ?_
      refine lv_icmp_ne (tgt := 52) he hb dX11_comesBlind_34 (by decide) (fun hc => ?_) (fun hc => ?_)
      · rw [if_neg hc] at h
        exact gX11_comesBlind_52 l B ih _ _ _ _ _ _ _ _ _ _ h hS (lv_sub hl [0, 1, 2, 3, 4, 5] rfl)
      · rw [if_pos hc] at h
        refine z_aload_n he hb dX11_comesBlind_37 rfl (lv_at hl 0 rfl) (zref_r _ _) ?_
        obtain ⟨x11, hx, h⟩ := zob h
        refine z_getR (ci := 11) (T := TX11) (N := 14) (j := 3) B hS hx rfl zin_X11 (by decide) zk_511 dX11_comesBlind_38 ?_
        refine lv_iload he hb dX11_comesBlind_41 (lv_at hl 5 rfl) ?_
        refine lv_iconst (v := (1 : Int32)) he hb dX11_comesBlind_43 (by decide) ?_
        obtain ⟨_, hc, h⟩ := zob h
        obtain ⟨f13, x12, hx, h⟩ := zbd_i h
        refine z_callV (ci := 8) (T := TX8) (N := 9) (rest := []) B hS (mX8_setEyes l G hx) zy_X8_setEyes zk_860 (by decide) hc rfl rfl hl rfl (Nat.le_of_ble_eq_true rfl) dX11_comesBlind_44 (kk := (fun H locs hS => ?_))
        refine lv_if_eq (tgt := 52) he hb dX11_comesBlind_47 (by decide) (fun hc => ?_) (fun hc => ?_)
        · rw [if_pos hc] at h
          exact gX11_comesBlind_52 l B ih _ _ _ _ _ _ _ _ _ _ h hS (lv_sub hl [0, 1, 2, 3, 4, 5] rfl)
        · rw [if_neg hc] at h
          refine lv_iconst (v := (0 : Int32)) he hb dX11_comesBlind_50 (by decide) ?_
          obtain ⟨y, hx, h⟩ := zob h
          obtain ⟨hz, rfl⟩ := zbl_i hx
          obtain ⟨rfl, rfl⟩ := Prod.mk.inj (Option.some.inj h)
          exact z_zret B hS hz dX11_comesBlind_51
def fX11_comesBlind (N n : Nat) (f : zF) (a0 : Nat) (a1 : Int32) (a2 : Int32) (a3 : Int32) (a4 : Int32) : Option (zF × Int32) :=
    ((zgR n f 11 a0 3).bind fun x1 => ((zgR n f 11 a0 2).bind fun x2 => ((zck n f 8 x1).bind fun _ => ((fX8_copyFrom N n f x1 x2).bind fun f3 => (fX11_comesBlind_14 N n N f3 a0 a1 a2 a3 a4 (0 : Int32))))))
set_option maxRecDepth 100000 in
set_option maxHeartbeats 4000000 in
theorem mX11_comesBlind (l : Launch) (G : zG) {N n : Nat} {f : zF} {f9 : zF} {r : Int32} {a0 : Nat} {a1 : Int32} {a2 : Int32} {a3 : Int32} {a4 : Int32} (h : fX11_comesBlind N n f a0 a1 a2 a3 a4 = some (f9, r)) : zM l G yX11_comesBlind cX11_comesBlind 6 (some .boolean) 4 n f [zr G a0, .int a1, .int a2, .int a3, .int a4] (some (.int r)) f9 := by
  refine zM.of (by decide) (Nat.le_of_ble_eq_true rfl) ?_
  intro p e s m args below meth c locs ls B hS hl
  have he := B.1
  have hb := B.2.1
  have hl : lv_has ls 6 [(0, zr G a0), (1, .int a1), (2, .int a2), (3, .int a3), (4, .int a4)] := hl
  unfold fX11_comesBlind at h
  generalize s.heap = H at hS ⊢
  refine z_aload_n he hb dX11_comesBlind_0 rfl (lv_at hl 0 rfl) (zref_r _ _) ?_
  obtain ⟨x1, hx, h⟩ := zob h
  refine z_getR (ci := 11) (T := TX11) (N := 14) (j := 3) B hS hx rfl zin_X11 (by decide) zk_511 dX11_comesBlind_1 ?_
  refine z_aload_n he hb dX11_comesBlind_4 rfl (lv_at hl 0 rfl) (zref_r _ _) ?_
  obtain ⟨x2, hx, h⟩ := zob h
  refine z_getR (ci := 11) (T := TX11) (N := 14) (j := 2) B hS hx rfl zin_X11 (by decide) zk_510 dX11_comesBlind_5 ?_
  obtain ⟨_, hc, h⟩ := zob h
  obtain ⟨f3, hx, h⟩ := zob h
  refine z_callV (ci := 8) (T := TX8) (N := 9) (rest := []) B hS (mX8_copyFrom l G hx) zy_X8_copyFrom zk_730 (by decide) hc rfl rfl hl rfl (Nat.le_of_ble_eq_true rfl) dX11_comesBlind_8 (kk := (fun H locs hS => ?_))
  refine lv_iconst (v := (0 : Int32)) he hb dX11_comesBlind_11 (by decide) ?_
  refine lv_istore (lv' := [(5, _), (0, _), (1, _), (2, _), (3, _), (4, _)]) he hb dX11_comesBlind_12 hl (by decide) rfl (fun ls hl => ?_)
  exact gX11_comesBlind_14 l B N _ _ _ _ _ _ _ _ _ _ h hS (lv_sub hl [1, 2, 3, 4, 5, 0] rfl)
theorem dX11_blind_0 : decode cX11_blind 0 = .ok (.aload_n 0, 1) := by decide +kernel
theorem dX11_blind_1 : decode cX11_blind 1 = .ok (.getfield 19, 3) := by decide +kernel
theorem dX11_blind_4 : decode cX11_blind 4 = .ok (.iload_n 1, 1) := by decide +kernel
theorem dX11_blind_5 : decode cX11_blind 5 = .ok (.invokevirtual 133, 3) := by decide +kernel
theorem dX11_blind_8 : decode cX11_blind 8 = .ok (.ifCond .eq 28, 3) := by decide +kernel
theorem dX11_blind_11 : decode cX11_blind 11 = .ok (.aload_n 0, 1) := by decide +kernel
theorem dX11_blind_12 : decode cX11_blind 12 = .ok (.getfield 19, 3) := by decide +kernel
theorem dX11_blind_15 : decode cX11_blind 15 = .ok (.iload_n 2, 1) := by decide +kernel
theorem dX11_blind_16 : decode cX11_blind 16 = .ok (.iload_n 3, 1) := by decide +kernel
theorem dX11_blind_17 : decode cX11_blind 17 = .ok (.invokevirtual 189, 3) := by decide +kernel
theorem dX11_blind_20 : decode cX11_blind 20 = .ok (.ifCond .eq 16, 3) := by decide +kernel
theorem dX11_blind_23 : decode cX11_blind 23 = .ok (.iload 4, 2) := by decide +kernel
theorem dX11_blind_25 : decode cX11_blind 25 = .ok (.iconst 1, 1) := by decide +kernel
theorem dX11_blind_26 : decode cX11_blind 26 = .ok (.if_icmp .lt 10, 3) := by decide +kernel
theorem dX11_blind_29 : decode cX11_blind 29 = .ok (.iload 4, 2) := by decide +kernel
theorem dX11_blind_31 : decode cX11_blind 31 = .ok (.bipush 60, 2) := by decide +kernel
theorem dX11_blind_33 : decode cX11_blind 33 = .ok (.if_icmp .le 5, 3) := by decide +kernel
theorem dX11_blind_36 : decode cX11_blind 36 = .ok (.iconst (-1), 1) := by decide +kernel
theorem dX11_blind_37 : decode cX11_blind 37 = .ok (.ireturn, 1) := by decide +kernel
theorem dX11_blind_38 : decode cX11_blind 38 = .ok (.iconst 0, 1) := by decide +kernel
theorem dX11_blind_39 : decode cX11_blind 39 = .ok (.istore 5, 2) := by decide +kernel
theorem dX11_blind_41 : decode cX11_blind 41 = .ok (.iload 5, 2) := by decide +kernel
theorem dX11_blind_43 : decode cX11_blind 43 = .ok (.aload_n 0, 1) := by decide +kernel
theorem dX11_blind_44 : decode cX11_blind 44 = .ok (.getfield 19, 3) := by decide +kernel
theorem dX11_blind_47 : decode cX11_blind 47 = .ok (.getfield 223, 3) := by decide +kernel
theorem dX11_blind_50 : decode cX11_blind 50 = .ok (.if_icmp .gt 72, 3) := by decide +kernel
theorem dX11_blind_53 : decode cX11_blind 53 = .ok (.iconst 0, 1) := by decide +kernel
theorem dX11_blind_54 : decode cX11_blind 54 = .ok (.istore 6, 2) := by decide +kernel
theorem dX11_blind_56 : decode cX11_blind 56 = .ok (.iload 6, 2) := by decide +kernel
theorem dX11_blind_58 : decode cX11_blind 58 = .ok (.iconst 1, 1) := by decide +kernel
theorem dX11_blind_59 : decode cX11_blind 59 = .ok (.aload_n 0, 1) := by decide +kernel
theorem dX11_blind_60 : decode cX11_blind 60 = .ok (.getfield 19, 3) := by decide +kernel
theorem dX11_blind_63 : decode cX11_blind 63 = .ok (.getfield 223, 3) := by decide +kernel
theorem dX11_blind_66 : decode cX11_blind 66 = .ok (.ishl, 1) := by decide +kernel
theorem dX11_blind_67 : decode cX11_blind 67 = .ok (.if_icmp .ge 49, 3) := by decide +kernel
theorem dX11_blind_70 : decode cX11_blind 70 = .ok (.iload 6, 2) := by decide +kernel
theorem dX11_blind_72 : decode cX11_blind 72 = .ok (.invokestatic 273, 3) := by decide +kernel
theorem dX11_blind_75 : decode cX11_blind 75 = .ok (.iload 5, 2) := by decide +kernel
theorem dX11_blind_77 : decode cX11_blind 77 = .ok (.if_icmp .ne 33, 3) := by decide +kernel
theorem dX11_blind_80 : decode cX11_blind 80 = .ok (.aload_n 0, 1) := by decide +kernel
theorem dX11_blind_81 : decode cX11_blind 81 = .ok (.iload_n 1, 1) := by decide +kernel
theorem dX11_blind_82 : decode cX11_blind 82 = .ok (.bipush 9, 2) := by decide +kernel
theorem dX11_blind_84 : decode cX11_blind 84 = .ok (.iload_n 3, 1) := by decide +kernel
theorem dX11_blind_85 : decode cX11_blind 85 = .ok (.imul, 1) := by decide +kernel
theorem dX11_blind_86 : decode cX11_blind 86 = .ok (.iload_n 2, 1) := by decide +kernel
theorem dX11_blind_87 : decode cX11_blind 87 = .ok (.iadd, 1) := by decide +kernel
theorem dX11_blind_88 : decode cX11_blind 88 = .ok (.iload 4, 2) := by decide +kernel
theorem dX11_blind_90 : decode cX11_blind 90 = .ok (.iload 6, 2) := by decide +kernel
theorem dX11_blind_92 : decode cX11_blind 92 = .ok (.invokevirtual 297, 3) := by decide +kernel
theorem dX11_blind_95 : decode cX11_blind 95 = .ok (.ifCond .eq 15, 3) := by decide +kernel
theorem dX11_blind_98 : decode cX11_blind 98 = .ok (.aload_n 0, 1) := by decide +kernel
theorem dX11_blind_99 : decode cX11_blind 99 = .ok (.getfield 94, 3) := by decide +kernel
theorem dX11_blind_102 : decode cX11_blind 102 = .ok (.iload 6, 2) := by decide +kernel
theorem dX11_blind_104 : decode cX11_blind 104 = .ok (.putfield 301, 3) := by decide +kernel
theorem dX11_blind_107 : decode cX11_blind 107 = .ok (.iload 5, 2) := by decide +kernel
theorem dX11_blind_109 : decode cX11_blind 109 = .ok (.ireturn, 1) := by decide +kernel
theorem dX11_blind_110 : decode cX11_blind 110 = .ok (.iinc 6 1, 3) := by decide +kernel
theorem dX11_blind_113 : decode cX11_blind 113 = .ok (.goto (-57), 3) := by decide +kernel
theorem dX11_blind_116 : decode cX11_blind 116 = .ok (.iinc 5 1, 3) := by decide +kernel
theorem dX11_blind_119 : decode cX11_blind 119 = .ok (.goto (-78), 3) := by decide +kernel
theorem dX11_blind_122 : decode cX11_blind 122 = .ok (.iconst (-1), 1) := by decide +kernel
theorem dX11_blind_123 : decode cX11_blind 123 = .ok (.ireturn, 1) := by decide +kernel
def fX11_blind_110 (r41 : zF → Nat → Int32 → Int32 → Int32 → Int32 → Int32 → Option (zF × Int32)) (r56 : zF → Nat → Int32 → Int32 → Int32 → Int32 → Int32 → Int32 → Option (zF × Int32)) (N n : Nat) (f : zF) (a0 : Nat) (a1 : Int32) (a2 : Int32) (a3 : Int32) (a4 : Int32) (a5 : Int32) (a6 : Int32) : Option (zF × Int32) :=
    (r56 f a0 a1 a2 a3 a4 a5 (a6 + 1))
set_option maxRecDepth 100000 in
set_option maxHeartbeats 4000000 in
theorem gX11_blind_110 (l : Launch) {G : zG} {p : Program} {e : Env} {s : State} {m : MethodId} {args : Array Value} {below : List Frame} {meth : Method} {c : Code} {N n : Nat} {f9 : zF} {r : Int32} {r41 : zF → Nat → Int32 → Int32 → Int32 → Int32 → Int32 → Option (zF × Int32)} {r56 : zF → Nat → Int32 → Int32 → Int32 → Int32 → Int32 → Int32 → Option (zF × Int32)} (B : zB G p s m args meth c RX11 cX11_blind 7 (some .int)) (hr41 : ∀ (f : zF) (a0 : Nat) (a1 : Int32) (a2 : Int32) (a3 : Int32) (a4 : Int32) (a5 : Int32) (H : Heap) (locs : List Loc) (ls : Array Slot), r41 f a0 a1 a2 a3 a4 a5 = some (f9, r) → zS G n f H locs → lv_has ls 7 [(0, zr G a0), (1, .int a1), (2, .int a2), (3, .int a3), (4, .int a4), (5, .int a5)] → W p l e (zrm 5) s m args below meth c H locs 0 0 (MQ below (zQc G n f9 (some (.int r))) args s 0 0 (zA G)) (F0 m 41 ls [])) (hr56 : ∀ (f : zF) (a0 : Nat) (a1 : Int32) (a2 : Int32) (a3 : Int32) (a4 : Int32) (a5 : Int32) (a6 : Int32) (H : Heap) (locs : List Loc) (ls : Array Slot), r56 f a0 a1 a2 a3 a4 a5 a6 = some (f9, r) → zS G n f H locs → lv_has ls 7 [(0, zr G a0), (1, .int a1), (2, .int a2), (3, .int a3), (4, .int a4), (5, .int a5), (6, .int a6)] → W p l e (zrm 5) s m args below meth c H locs 0 0 (MQ below (zQc G n f9 (some (.int r))) args s 0 0 (zA G)) (F0 m 56 ls [])) : ∀ (f : zF) (a0 : Nat) (a1 : Int32) (a2 : Int32) (a3 : Int32) (a4 : Int32) (a5 : Int32) (a6 : Int32) (H : Heap) (locs : List Loc) (ls : Array Slot), fX11_blind_110 r41 r56 N n f a0 a1 a2 a3 a4 a5 a6 = some (f9, r) → zS G n f H locs → lv_has ls 7 [(0, zr G a0), (1, .int a1), (2, .int a2), (3, .int a3), (4, .int a4), (5, .int a5), (6, .int a6)] → W p l e (zrm 5) s m args below meth c H locs 0 0 (MQ below (zQc G n f9 (some (.int r))) args s 0 0 (zA G)) (F0 m 110 ls []) := by
  have he := B.1
  have hb := B.2.1
  intro f a0 a1 a2 a3 a4 a5 a6 H locs ls h hS hl
  unfold fX11_blind_110 at h
  refine lv_iinc (v := (a6 + 1)) (lv' := [(6, _), (0, _), (1, _), (2, _), (3, _), (4, _), (5, _)]) he hb dX11_blind_110 hl (k := 6) rfl rfl (by decide) rfl (fun ls hl => ?_)
  refine lv_goto (tgt := 56) he hb dX11_blind_113 (by decide) ?_
  exact hr56 _ _ _ _ _ _ _ _ _ _ _ h hS (lv_sub hl [1, 2, 3, 4, 5, 6, 0] rfl)
def fX11_blind_56 (r41 : zF → Nat → Int32 → Int32 → Int32 → Int32 → Int32 → Option (zF × Int32)) (N n : Nat) : Nat → zF → Nat → Int32 → Int32 → Int32 → Int32 → Int32 → Int32 → Option (zF × Int32)
  | 0, _, _, _, _, _, _, _, _ => none
  | k + 1, f, a0, a1, a2, a3, a4, a5, a6 =>
    ((zgR n f 11 a0 1).bind fun x7 => ((zgI n f 2 x7 4).bind fun x8 => (if (zishl (1 : Int32) x8) ≤ a6 then (r41 f a0 a1 a2 a3 a4 (a5 + 1)) else ((fJ6_bitCount_0f7a4 N n f a6).bind fun x9 => (if x9 = a5 then ((zck n f 11 a0).bind fun _ => (zbd (fX11_comesBlind N n f a0 a1 (((9 : Int32) * a3) + a2) a4 a6) fun f11 x10 => (if x10 = 0 then (fX11_blind_110 r41 (fX11_blind_56 r41 N n k) N n f11 a0 a1 a2 a3 a4 a5 a6) else ((zgR n f11 11 a0 12).bind fun x12 => ((zpI n f11 0 x12 4 a6).bind fun f13 => some (f13, a5)))))) else (fX11_blind_110 r41 (fX11_blind_56 r41 N n k) N n f a0 a1 a2 a3 a4 a5 a6))))))
set_option maxRecDepth 100000 in
set_option maxHeartbeats 4000000 in
theorem gX11_blind_56 (l : Launch) {G : zG} {p : Program} {e : Env} {s : State} {m : MethodId} {args : Array Value} {below : List Frame} {meth : Method} {c : Code} {N n : Nat} {f9 : zF} {r : Int32} {r41 : zF → Nat → Int32 → Int32 → Int32 → Int32 → Int32 → Option (zF × Int32)} (B : zB G p s m args meth c RX11 cX11_blind 7 (some .int)) (hr41 : ∀ (f : zF) (a0 : Nat) (a1 : Int32) (a2 : Int32) (a3 : Int32) (a4 : Int32) (a5 : Int32) (H : Heap) (locs : List Loc) (ls : Array Slot), r41 f a0 a1 a2 a3 a4 a5 = some (f9, r) → zS G n f H locs → lv_has ls 7 [(0, zr G a0), (1, .int a1), (2, .int a2), (3, .int a3), (4, .int a4), (5, .int a5)] → W p l e (zrm 5) s m args below meth c H locs 0 0 (MQ below (zQc G n f9 (some (.int r))) args s 0 0 (zA G)) (F0 m 41 ls [])) : ∀ (k : Nat), ∀ (f : zF) (a0 : Nat) (a1 : Int32) (a2 : Int32) (a3 : Int32) (a4 : Int32) (a5 : Int32) (a6 : Int32) (H : Heap) (locs : List Loc) (ls : Array Slot), fX11_blind_56 r41 N n k f a0 a1 a2 a3 a4 a5 a6 = some (f9, r) → zS G n f H locs → lv_has ls 7 [(0, zr G a0), (1, .int a1), (2, .int a2), (3, .int a3), (4, .int a4), (5, .int a5), (6, .int a6)] → W p l e (zrm 5) s m args below meth c H locs 0 0 (MQ below (zQc G n f9 (some (.int r))) args s 0 0 (zA G)) (F0 m 56 ls []) := by
  have he := B.1
  have hb := B.2.1
  intro k
  induction k with
  | zero =>
    intro f a0 a1 a2 a3 a4 a5 a6 H locs ls h
    unfold fX11_blind_56 at h
    cases h
  | succ k ih =>
    intro f a0 a1 a2 a3 a4 a5 a6 H locs ls h hS hl
    unfold fX11_blind_56 at h
    refine lv_iload he hb dX11_blind_56 (lv_at hl 6 rfl) ?_
    refine lv_iconst (v := (1 : Int32)) he hb dX11_blind_58 (by decide) ?_
    refine z_aload_n he hb dX11_blind_59 rfl (lv_at hl 0 rfl) (zref_r _ _) ?_
    obtain ⟨x7, hx, h⟩ := zob h
    refine z_getR (ci := 11) (T := TX11) (N := 14) (j := 1) B hS hx rfl zin_X11 (by decide) zk_509 dX11_blind_60 ?_
    obtain ⟨x8, hx, h⟩ := zob h
    refine z_getI (ci := 2) (T := TX2) (N := 15) (j := 4) B hS hx rfl zin_X2 (by decide) zk_173 dX11_blind_63 ?_
    refine z_ishl he hb dX11_blind_66 ?_
    refine lv_icmp_ge (tgt := 116) he hb dX11_blind_67 (by decide) (fun hc => ?_) (fun hc => ?_)
    · rw [if_pos hc] at h
      refine lv_iinc (v := (a5 + 1)) (lv' := [(5, _), (0, _), (1, _), (2, _), (3, _), (4, _), (6, _)]) he hb dX11_blind_116 hl (k := 5) rfl rfl (by decide) rfl (fun ls hl => ?_)
      refine lv_goto (tgt := 41) he hb dX11_blind_119 (by decide) ?_
      exact hr41 _ _ _ _ _ _ _ _ _ _ h hS (lv_sub hl [1, 2, 3, 4, 5, 0] rfl)
    · rw [if_neg hc] at h
      refine lv_iload he hb dX11_blind_70 (lv_at hl 6 rfl) ?_
      obtain ⟨x9, hx, h⟩ := zob h
      refine z_callT (rest := []) B hS (mJ6_bitCount_0f7a4 l G hx) zy_J6_bitCount_0f7a4 zk_934 (by decide) rfl hl rfl (Nat.le_of_ble_eq_true rfl) dX11_blind_72 (kk := (fun H locs hS => ?_))
      refine lv_iload he hb dX11_blind_75 (lv_at hl 5 rfl) ?_
      refine lv_icmp_ne (tgt := 110) he hb dX11_blind_77 (by decide) (fun hc => ?_) (fun hc => ?_)
      · rw [if_neg hc] at h
        exact gX11_blind_110 l B hr41 ih _ _ _ _ _ _ _ _ _ _ _ h hS (lv_sub hl [0, 1, 2, 3, 4, 5, 6] rfl)
      · rw [if_pos hc] at h
        refine z_aload_n he hb dX11_blind_80 rfl (lv_at hl 0 rfl) (zref_r _ _) ?_
        refine lv_iload_n he hb dX11_blind_81 rfl (lv_at hl 1 rfl) ?_
        refine lv_bipush (v := (9 : Int32)) he hb dX11_blind_82 (by decide) ?_
        refine lv_iload_n he hb dX11_blind_84 rfl (lv_at hl 3 rfl) ?_
        refine lv_imul he hb dX11_blind_85 ?_
        refine lv_iload_n he hb dX11_blind_86 rfl (lv_at hl 2 rfl) ?_
        refine lv_iadd he hb dX11_blind_87 ?_
        refine lv_iload he hb dX11_blind_88 (lv_at hl 4 rfl) ?_
        refine lv_iload he hb dX11_blind_90 (lv_at hl 6 rfl) ?_
        obtain ⟨_, hc, h⟩ := zob h
        obtain ⟨f11, x10, hx, h⟩ := zbd_i h
        refine z_callV (ci := 11) (T := TX11) (N := 14) (rest := []) B hS (mX11_comesBlind l G hx) zy_X11_comesBlind zk_960 (by decide) hc rfl rfl hl rfl (Nat.le_of_ble_eq_true rfl) dX11_blind_92 (kk := (fun H locs hS => ?_))
        refine lv_if_eq (tgt := 110) he hb dX11_blind_95 (by decide) (fun hc => ?_) (fun hc => ?_)
        · rw [if_pos hc] at h
          exact gX11_blind_110 l B hr41 ih _ _ _ _ _ _ _ _ _ _ _ h hS (lv_sub hl [0, 1, 2, 3, 4, 5, 6] rfl)
        · rw [if_neg hc] at h
          refine z_aload_n he hb dX11_blind_98 rfl (lv_at hl 0 rfl) (zref_r _ _) ?_
          obtain ⟨x12, hx, h⟩ := zob h
          refine z_getR (ci := 11) (T := TX11) (N := 14) (j := 12) B hS hx rfl zin_X11 (by decide) zk_520 dX11_blind_99 ?_
          refine lv_iload he hb dX11_blind_102 (lv_at hl 6 rfl) ?_
          obtain ⟨f13, hx, h⟩ := zob h
          refine z_putI (ci := 0) (T := TX0) (N := 9) (j := 4) B hS hx rfl zin_X0 tyX0 tyX0_ok nmX0 (by decide) zk_480 rfl rfl dX11_blind_104 (fun H locs hS => ?_)
          refine lv_iload he hb dX11_blind_107 (lv_at hl 5 rfl) ?_
          obtain ⟨rfl, rfl⟩ := Prod.mk.inj (Option.some.inj h)
          exact z_iret B hS dX11_blind_109
def fX11_blind_41 (N n : Nat) : Nat → zF → Nat → Int32 → Int32 → Int32 → Int32 → Int32 → Option (zF × Int32)
  | 0, _, _, _, _, _, _, _ => none
  | k + 1, f, a0, a1, a2, a3, a4, a5 =>
    ((zgR n f 11 a0 1).bind fun x5 => ((zgI n f 2 x5 4).bind fun x6 => (if x6 < a5 then some (f, (-1 : Int32)) else (fX11_blind_56 (fX11_blind_41 N n k) N n N f a0 a1 a2 a3 a4 a5 (0 : Int32)))))
set_option maxRecDepth 100000 in
set_option maxHeartbeats 4000000 in
theorem gX11_blind_41 (l : Launch) {G : zG} {p : Program} {e : Env} {s : State} {m : MethodId} {args : Array Value} {below : List Frame} {meth : Method} {c : Code} {N n : Nat} {f9 : zF} {r : Int32} (B : zB G p s m args meth c RX11 cX11_blind 7 (some .int)) : ∀ (k : Nat), ∀ (f : zF) (a0 : Nat) (a1 : Int32) (a2 : Int32) (a3 : Int32) (a4 : Int32) (a5 : Int32) (H : Heap) (locs : List Loc) (ls : Array Slot), fX11_blind_41 N n k f a0 a1 a2 a3 a4 a5 = some (f9, r) → zS G n f H locs → lv_has ls 7 [(0, zr G a0), (1, .int a1), (2, .int a2), (3, .int a3), (4, .int a4), (5, .int a5)] → W p l e (zrm 5) s m args below meth c H locs 0 0 (MQ below (zQc G n f9 (some (.int r))) args s 0 0 (zA G)) (F0 m 41 ls []) := by
  have he := B.1
  have hb := B.2.1
  intro k
  induction k with
  | zero =>
    intro f a0 a1 a2 a3 a4 a5 H locs ls h
    unfold fX11_blind_41 at h
    cases h
  | succ k ih =>
    intro f a0 a1 a2 a3 a4 a5 H locs ls h hS hl
    unfold fX11_blind_41 at h
    refine lv_iload he hb dX11_blind_41 (lv_at hl 5 rfl) ?_
    refine z_aload_n he hb dX11_blind_43 rfl (lv_at hl 0 rfl) (zref_r _ _) ?_
    obtain ⟨x5, hx, h⟩ := zob h
    refine z_getR (ci := 11) (T := TX11) (N := 14) (j := 1) B hS hx rfl zin_X11 (by decide) zk_509 dX11_blind_44 ?_
    obtain ⟨x6, hx, h⟩ := zob h
    refine z_getI (ci := 2) (T := TX2) (N := 15) (j := 4) B hS hx rfl zin_X2 (by decide) zk_173 dX11_blind_47 ?_
    refine lv_icmp_gt (tgt := 122) he hb dX11_blind_50 (by decide) (fun hc => ?_) (fun hc => ?_)
    · rw [if_pos hc] at h
      refine lv_iconst (v := (-1 : Int32)) he hb dX11_blind_122 (by decide) ?_
      obtain ⟨rfl, rfl⟩ := Prod.mk.inj (Option.some.inj h)
      exact z_iret B hS dX11_blind_123
    · rw [if_neg hc] at h
      refine lv_iconst (v := (0 : Int32)) he hb dX11_blind_53 (by decide) ?_
      refine lv_istore (lv' := [(6, _), (0, _), (1, _), (2, _), (3, _), (4, _), (5, _)]) he hb dX11_blind_54 hl (by decide) rfl (fun ls hl => ?_)
      exact gX11_blind_56 l B ih N _ _ _ _ _ _ _ _ _ _ _ h hS (lv_sub hl [1, 2, 3, 4, 5, 6, 0] rfl)
def fX11_blind (N n : Nat) (f : zF) (a0 : Nat) (a1 : Int32) (a2 : Int32) (a3 : Int32) (a4 : Int32) : Option (zF × Int32) :=
    ((zgR n f 11 a0 1).bind fun x1 => ((zck n f 2 x1).bind fun _ => ((fX2_hasFigure N n f x1 a1).bind fun x2 => (if x2 = 0 then some (f, (-1 : Int32)) else ((zgR n f 11 a0 1).bind fun x3 => ((zck n f 2 x3).bind fun _ => ((fX2_hasCell N n f x3 a2 a3).bind fun x4 => (if x4 = 0 then some (f, (-1 : Int32)) else (if a4 < (1 : Int32) then some (f, (-1 : Int32)) else (if a4 ≤ (60 : Int32) then (fX11_blind_41 N n N f a0 a1 a2 a3 a4 (0 : Int32)) else some (f, (-1 : Int32))))))))))))
set_option maxRecDepth 100000 in
set_option maxHeartbeats 4000000 in
theorem mX11_blind (l : Launch) (G : zG) {N n : Nat} {f : zF} {f9 : zF} {r : Int32} {a0 : Nat} {a1 : Int32} {a2 : Int32} {a3 : Int32} {a4 : Int32} (h : fX11_blind N n f a0 a1 a2 a3 a4 = some (f9, r)) : zM l G yX11_blind cX11_blind 7 (some .int) 5 n f [zr G a0, .int a1, .int a2, .int a3, .int a4] (some (.int r)) f9 := by
  refine zM.of (by decide) (Nat.le_of_ble_eq_true rfl) ?_
  intro p e s m args below meth c locs ls B hS hl
  have he := B.1
  have hb := B.2.1
  have hl : lv_has ls 7 [(0, zr G a0), (1, .int a1), (2, .int a2), (3, .int a3), (4, .int a4)] := hl
  unfold fX11_blind at h
  generalize s.heap = H at hS ⊢
  refine z_aload_n he hb dX11_blind_0 rfl (lv_at hl 0 rfl) (zref_r _ _) ?_
  obtain ⟨x1, hx, h⟩ := zob h
  refine z_getR (ci := 11) (T := TX11) (N := 14) (j := 1) B hS hx rfl zin_X11 (by decide) zk_509 dX11_blind_1 ?_
  refine lv_iload_n he hb dX11_blind_4 rfl (lv_at hl 1 rfl) ?_
  obtain ⟨_, hc, h⟩ := zob h
  obtain ⟨x2, hx, h⟩ := zob h
  refine z_callV (ci := 2) (T := TX2) (N := 15) (rest := []) B hS (mX2_hasFigure l G hx) zy_X2_hasFigure zk_872 (by decide) hc rfl rfl hl rfl (Nat.le_of_ble_eq_true rfl) dX11_blind_5 (kk := (fun H locs hS => ?_))
  refine lv_if_eq (tgt := 36) he hb dX11_blind_8 (by decide) (fun hc => ?_) (fun hc => ?_)
  · rw [if_pos hc] at h
    refine lv_iconst (v := (-1 : Int32)) he hb dX11_blind_36 (by decide) ?_
    obtain ⟨rfl, rfl⟩ := Prod.mk.inj (Option.some.inj h)
    exact z_iret B hS dX11_blind_37
  · rw [if_neg hc] at h
    refine z_aload_n he hb dX11_blind_11 rfl (lv_at hl 0 rfl) (zref_r _ _) ?_
    obtain ⟨x3, hx, h⟩ := zob h
    refine z_getR (ci := 11) (T := TX11) (N := 14) (j := 1) B hS hx rfl zin_X11 (by decide) zk_509 dX11_blind_12 ?_
    refine lv_iload_n he hb dX11_blind_15 rfl (lv_at hl 2 rfl) ?_
    refine lv_iload_n he hb dX11_blind_16 rfl (lv_at hl 3 rfl) ?_
    obtain ⟨_, hc, h⟩ := zob h
    obtain ⟨x4, hx, h⟩ := zob h
    refine z_callV (ci := 2) (T := TX2) (N := 15) (rest := []) B hS (mX2_hasCell l G hx) zy_X2_hasCell zk_780 (by decide) hc rfl rfl hl rfl (Nat.le_of_ble_eq_true rfl) dX11_blind_17 (kk := (fun H locs hS => ?_))
    refine lv_if_eq (tgt := 36) he hb dX11_blind_20 (by decide) (fun hc => ?_) (fun hc => ?_)
    · rw [if_pos hc] at h
      refine lv_iconst (v := (-1 : Int32)) he hb dX11_blind_36 (by decide) ?_
      obtain ⟨rfl, rfl⟩ := Prod.mk.inj (Option.some.inj h)
      exact z_iret B hS dX11_blind_37
    · rw [if_neg hc] at h
      refine lv_iload he hb dX11_blind_23 (lv_at hl 4 rfl) ?_
      refine lv_iconst (v := (1 : Int32)) he hb dX11_blind_25 (by decide) ?_
      refine lv_icmp_lt (tgt := 36) he hb dX11_blind_26 (by decide) (fun hc => ?_) (fun hc => ?_)
      · rw [if_pos hc] at h
        refine lv_iconst (v := (-1 : Int32)) he hb dX11_blind_36 (by decide) ?_
        obtain ⟨rfl, rfl⟩ := Prod.mk.inj (Option.some.inj h)
        exact z_iret B hS dX11_blind_37
      · rw [if_neg hc] at h
        refine lv_iload he hb dX11_blind_29 (lv_at hl 4 rfl) ?_
        refine lv_bipush (v := (60 : Int32)) he hb dX11_blind_31 (by decide) ?_
        refine lv_icmp_le (tgt := 38) he hb dX11_blind_33 (by decide) (fun hc => ?_) (fun hc => ?_)
        · rw [if_pos hc] at h
          refine lv_iconst (v := (0 : Int32)) he hb dX11_blind_38 (by decide) ?_
          refine lv_istore (lv' := [(5, _), (0, _), (1, _), (2, _), (3, _), (4, _)]) he hb dX11_blind_39 hl (by decide) rfl (fun ls hl => ?_)
          exact gX11_blind_41 l B N _ _ _ _ _ _ _ _ _ _ h hS (lv_sub hl [1, 2, 3, 4, 5, 0] rfl)
        · rw [if_neg hc] at h
          refine lv_iconst (v := (-1 : Int32)) he hb dX11_blind_36 (by decide) ?_
          obtain ⟨rfl, rfl⟩ := Prod.mk.inj (Option.some.inj h)
          exact z_iret B hS dX11_blind_37
theorem dX11_blinded_0 : decode cX11_blinded 0 = .ok (.aload_n 0, 1) := by decide +kernel
theorem dX11_blinded_1 : decode cX11_blinded 1 = .ok (.getfield 94, 3) := by decide +kernel
theorem dX11_blinded_4 : decode cX11_blinded 4 = .ok (.getfield 301, 3) := by decide +kernel
theorem dX11_blinded_7 : decode cX11_blinded 7 = .ok (.ireturn, 1) := by decide +kernel
def fX11_blinded (N n : Nat) (f : zF) (a0 : Nat) : Option Int32 :=
    ((zgR n f 11 a0 12).bind fun x1 => ((zgI n f 0 x1 4).bind fun x2 => some x2))
set_option maxRecDepth 100000 in
set_option maxHeartbeats 4000000 in
theorem mX11_blinded (l : Launch) (G : zG) {N n : Nat} {f : zF} {r : Int32} {a0 : Nat} (h : fX11_blinded N n f a0 = some r) : zM l G yX11_blinded cX11_blinded 1 (some .int) 0 n f [zr G a0] (some (.int r)) f := by
  refine zM.of (by decide) (Nat.le_of_ble_eq_true rfl) ?_
  intro p e s m args below meth c locs ls B hS hl
  have he := B.1
  have hb := B.2.1
  have hl : lv_has ls 1 [(0, zr G a0)] := hl
  unfold fX11_blinded at h
  generalize s.heap = H at hS ⊢
  refine z_aload_n he hb dX11_blinded_0 rfl (lv_at hl 0 rfl) (zref_r _ _) ?_
  obtain ⟨x1, hx, h⟩ := zob h
  refine z_getR (ci := 11) (T := TX11) (N := 14) (j := 12) B hS hx rfl zin_X11 (by decide) zk_520 dX11_blinded_1 ?_
  obtain ⟨x2, hx, h⟩ := zob h
  refine z_getI (ci := 0) (T := TX0) (N := 9) (j := 4) B hS hx rfl zin_X0 (by decide) zk_480 dX11_blinded_4 ?_
  obtain rfl := Option.some.inj h
  exact z_iret B hS dX11_blinded_7
theorem dX11_fits_0 : decode cX11_fits 0 = .ok (.aload_n 0, 1) := by decide +kernel
theorem dX11_fits_1 : decode cX11_fits 1 = .ok (.getfield 87, 3) := by decide +kernel
theorem dX11_fits_4 : decode cX11_fits 4 = .ok (.aload_n 0, 1) := by decide +kernel
theorem dX11_fits_5 : decode cX11_fits 5 = .ok (.getfield 10, 3) := by decide +kernel
theorem dX11_fits_8 : decode cX11_fits 8 = .ok (.aload_n 0, 1) := by decide +kernel
theorem dX11_fits_9 : decode cX11_fits 9 = .ok (.getfield 19, 3) := by decide +kernel
theorem dX11_fits_12 : decode cX11_fits 12 = .ok (.invokevirtual 304, 3) := by decide +kernel
theorem dX11_fits_15 : decode cX11_fits 15 = .ok (.istore_n 1, 1) := by decide +kernel
theorem dX11_fits_16 : decode cX11_fits 16 = .ok (.aload_n 0, 1) := by decide +kernel
theorem dX11_fits_17 : decode cX11_fits 17 = .ok (.getfield 10, 3) := by decide +kernel
theorem dX11_fits_20 : decode cX11_fits 20 = .ok (.iconst 0, 1) := by decide +kernel
theorem dX11_fits_21 : decode cX11_fits 21 = .ok (.putfield 102, 3) := by decide +kernel
theorem dX11_fits_24 : decode cX11_fits 24 = .ok (.iload_n 1, 1) := by decide +kernel
theorem dX11_fits_25 : decode cX11_fits 25 = .ok (.ifCond .eq 17, 3) := by decide +kernel
theorem dX11_fits_28 : decode cX11_fits 28 = .ok (.aload_n 0, 1) := by decide +kernel
theorem dX11_fits_29 : decode cX11_fits 29 = .ok (.getfield 87, 3) := by decide +kernel
theorem dX11_fits_32 : decode cX11_fits 32 = .ok (.aload_n 0, 1) := by decide +kernel
theorem dX11_fits_33 : decode cX11_fits 33 = .ok (.getfield 19, 3) := by decide +kernel
theorem dX11_fits_36 : decode cX11_fits 36 = .ok (.invokevirtual 308, 3) := by decide +kernel
theorem dX11_fits_39 : decode cX11_fits 39 = .ok (.goto 4, 3) := by decide +kernel
theorem dX11_fits_42 : decode cX11_fits 42 = .ok (.iconst (-1), 1) := by decide +kernel
theorem dX11_fits_43 : decode cX11_fits 43 = .ok (.ireturn, 1) := by decide +kernel
def fX11_fits (N n : Nat) (f : zF) (a0 : Nat) : Option (zF × Int32) :=
    ((zgR n f 11 a0 11).bind fun x1 => ((zgR n f 11 a0 0).bind fun x2 => ((zgR n f 11 a0 1).bind fun x3 => ((zck n f 4 x1).bind fun _ => (zbd (fX4_readCells N n f x1 x2 x3) fun f5 x4 => ((zgR n f5 11 a0 0).bind fun x6 => ((zpI n f5 9 x6 2 (0 : Int32)).bind fun f7 => (if x4 = 0 then some (f7, (-1 : Int32)) else ((zgR n f7 11 a0 11).bind fun x8 => ((zgR n f7 11 a0 1).bind fun x9 => ((zck n f7 4 x8).bind fun _ => (zbd (fX4_find N n f7 x8 x9) fun f11 x10 => some (f11, x10)))))))))))))
set_option maxRecDepth 100000 in
set_option maxHeartbeats 4000000 in
theorem mX11_fits (l : Launch) (G : zG) {N n : Nat} {f : zF} {f9 : zF} {r : Int32} {a0 : Nat} (h : fX11_fits N n f a0 = some (f9, r)) : zM l G yX11_fits cX11_fits 2 (some .int) 4 n f [zr G a0] (some (.int r)) f9 := by
  refine zM.of (by decide) (Nat.le_of_ble_eq_true rfl) ?_
  intro p e s m args below meth c locs ls B hS hl
  have he := B.1
  have hb := B.2.1
  have hl : lv_has ls 2 [(0, zr G a0)] := hl
  unfold fX11_fits at h
  generalize s.heap = H at hS ⊢
  refine z_aload_n he hb dX11_fits_0 rfl (lv_at hl 0 rfl) (zref_r _ _) ?_
  obtain ⟨x1, hx, h⟩ := zob h
  refine z_getR (ci := 11) (T := TX11) (N := 14) (j := 11) B hS hx rfl zin_X11 (by decide) zk_519 dX11_fits_1 ?_
  refine z_aload_n he hb dX11_fits_4 rfl (lv_at hl 0 rfl) (zref_r _ _) ?_
  obtain ⟨x2, hx, h⟩ := zob h
  refine z_getR (ci := 11) (T := TX11) (N := 14) (j := 0) B hS hx rfl zin_X11 (by decide) zk_508 dX11_fits_5 ?_
  refine z_aload_n he hb dX11_fits_8 rfl (lv_at hl 0 rfl) (zref_r _ _) ?_
  obtain ⟨x3, hx, h⟩ := zob h
  refine z_getR (ci := 11) (T := TX11) (N := 14) (j := 1) B hS hx rfl zin_X11 (by decide) zk_509 dX11_fits_9 ?_
  obtain ⟨_, hc, h⟩ := zob h
  obtain ⟨f5, x4, hx, h⟩ := zbd_i h
  refine z_callV (ci := 4) (T := TX4) (N := 6) (rest := []) B hS (mX4_readCells l G hx) zy_X4_readCells zk_972 (by decide) hc rfl rfl hl rfl (Nat.le_of_ble_eq_true rfl) dX11_fits_12 (kk := (fun H locs hS => ?_))
  refine lv_istore_n (lv' := [(1, _), (0, _)]) he hb dX11_fits_15 rfl hl (by decide) rfl (fun ls hl => ?_)
  refine z_aload_n he hb dX11_fits_16 rfl (lv_at hl 1 rfl) (zref_r _ _) ?_
  obtain ⟨x6, hx, h⟩ := zob h
  refine z_getR (ci := 11) (T := TX11) (N := 14) (j := 0) B hS hx rfl zin_X11 (by decide) zk_508 dX11_fits_17 ?_
  refine lv_iconst (v := (0 : Int32)) he hb dX11_fits_20 (by decide) ?_
  obtain ⟨f7, hx, h⟩ := zob h
  refine z_putI (ci := 9) (T := TX9) (N := 12) (j := 2) B hS hx rfl zin_X9 tyX9 tyX9_ok nmX9 (by decide) zk_95 rfl rfl dX11_fits_21 (fun H locs hS => ?_)
  refine lv_iload_n he hb dX11_fits_24 rfl (lv_at hl 0 rfl) ?_
  refine lv_if_eq (tgt := 42) he hb dX11_fits_25 (by decide) (fun hc => ?_) (fun hc => ?_)
  · rw [if_pos hc] at h
    refine lv_iconst (v := (-1 : Int32)) he hb dX11_fits_42 (by decide) ?_
    obtain ⟨rfl, rfl⟩ := Prod.mk.inj (Option.some.inj h)
    exact z_iret B hS dX11_fits_43
  · rw [if_neg hc] at h
    refine z_aload_n he hb dX11_fits_28 rfl (lv_at hl 1 rfl) (zref_r _ _) ?_
    obtain ⟨x8, hx, h⟩ := zob h
    refine z_getR (ci := 11) (T := TX11) (N := 14) (j := 11) B hS hx rfl zin_X11 (by decide) zk_519 dX11_fits_29 ?_
    refine z_aload_n he hb dX11_fits_32 rfl (lv_at hl 1 rfl) (zref_r _ _) ?_
    obtain ⟨x9, hx, h⟩ := zob h
    refine z_getR (ci := 11) (T := TX11) (N := 14) (j := 1) B hS hx rfl zin_X11 (by decide) zk_509 dX11_fits_33 ?_
    obtain ⟨_, hc, h⟩ := zob h
    obtain ⟨f11, x10, hx, h⟩ := zbd_i h
    refine z_callV (ci := 4) (T := TX4) (N := 6) (rest := []) B hS (mX4_find l G hx) zy_X4_find zk_980 (by decide) hc rfl rfl hl rfl (Nat.le_of_ble_eq_true rfl) dX11_fits_36 (kk := (fun H locs hS => ?_))
    refine lv_goto (tgt := 43) he hb dX11_fits_39 (by decide) ?_
    obtain ⟨rfl, rfl⟩ := Prod.mk.inj (Option.some.inj h)
    exact z_iret B hS dX11_fits_43
theorem dX11_fitsAt_0 : decode cX11_fitsAt 0 = .ok (.iload_n 1, 1) := by decide +kernel
theorem dX11_fitsAt_1 : decode cX11_fitsAt 1 = .ok (.ifCond .lt 14, 3) := by decide +kernel
theorem dX11_fitsAt_4 : decode cX11_fitsAt 4 = .ok (.iload_n 1, 1) := by decide +kernel
theorem dX11_fitsAt_5 : decode cX11_fitsAt 5 = .ok (.aload_n 0, 1) := by decide +kernel
theorem dX11_fitsAt_6 : decode cX11_fitsAt 6 = .ok (.getfield 87, 3) := by decide +kernel
theorem dX11_fitsAt_9 : decode cX11_fitsAt 9 = .ok (.getfield 312, 3) := by decide +kernel
theorem dX11_fitsAt_12 : decode cX11_fitsAt 12 = .ok (.if_icmp .lt 7, 3) := by decide +kernel
theorem dX11_fitsAt_15 : decode cX11_fitsAt 15 = .ok (.iconst (-1), 1) := by decide +kernel
theorem dX11_fitsAt_16 : decode cX11_fitsAt 16 = .ok (.goto 14, 3) := by decide +kernel
theorem dX11_fitsAt_19 : decode cX11_fitsAt 19 = .ok (.aload_n 0, 1) := by decide +kernel
theorem dX11_fitsAt_20 : decode cX11_fitsAt 20 = .ok (.getfield 87, 3) := by decide +kernel
theorem dX11_fitsAt_23 : decode cX11_fitsAt 23 = .ok (.getfield 313, 3) := by decide +kernel
theorem dX11_fitsAt_26 : decode cX11_fitsAt 26 = .ok (.iload_n 1, 1) := by decide +kernel
theorem dX11_fitsAt_27 : decode cX11_fitsAt 27 = .ok (.invokestatic 147, 3) := by decide +kernel
theorem dX11_fitsAt_30 : decode cX11_fitsAt 30 = .ok (.ireturn, 1) := by decide +kernel
def fX11_fitsAt (N n : Nat) (f : zF) (a0 : Nat) (a1 : Int32) : Option Int32 :=
    (if a1 < 0 then some (-1 : Int32) else ((zgR n f 11 a0 11).bind fun x1 => ((zgI n f 4 x1 1).bind fun x2 => (if a1 < x2 then ((zgR n f 11 a0 11).bind fun x3 => ((zgR n f 4 x3 0).bind fun x4 => ((fX11_at N n f x4 a1).bind fun x5 => some x5))) else some (-1 : Int32)))))
set_option maxRecDepth 100000 in
set_option maxHeartbeats 4000000 in
theorem mX11_fitsAt (l : Launch) (G : zG) {N n : Nat} {f : zF} {r : Int32} {a0 : Nat} {a1 : Int32} (h : fX11_fitsAt N n f a0 a1 = some r) : zM l G yX11_fitsAt cX11_fitsAt 2 (some .int) 1 n f [zr G a0, .int a1] (some (.int r)) f := by
  refine zM.of (by decide) (Nat.le_of_ble_eq_true rfl) ?_
  intro p e s m args below meth c locs ls B hS hl
  have he := B.1
  have hb := B.2.1
  have hl : lv_has ls 2 [(0, zr G a0), (1, .int a1)] := hl
  unfold fX11_fitsAt at h
  generalize s.heap = H at hS ⊢
  refine lv_iload_n he hb dX11_fitsAt_0 rfl (lv_at hl 1 rfl) ?_
  refine lv_if_lt (tgt := 15) he hb dX11_fitsAt_1 (by decide) (fun hc => ?_) (fun hc => ?_)
  · rw [if_pos hc] at h
    refine lv_iconst (v := (-1 : Int32)) he hb dX11_fitsAt_15 (by decide) ?_
    refine lv_goto (tgt := 30) he hb dX11_fitsAt_16 (by decide) ?_
    obtain rfl := Option.some.inj h
    exact z_iret B hS dX11_fitsAt_30
  · rw [if_neg hc] at h
    refine lv_iload_n he hb dX11_fitsAt_4 rfl (lv_at hl 1 rfl) ?_
    refine z_aload_n he hb dX11_fitsAt_5 rfl (lv_at hl 0 rfl) (zref_r _ _) ?_
    obtain ⟨x1, hx, h⟩ := zob h
    refine z_getR (ci := 11) (T := TX11) (N := 14) (j := 11) B hS hx rfl zin_X11 (by decide) zk_519 dX11_fitsAt_6 ?_
    obtain ⟨x2, hx, h⟩ := zob h
    refine z_getI (ci := 4) (T := TX4) (N := 6) (j := 1) B hS hx rfl zin_X4 (by decide) zk_448 dX11_fitsAt_9 ?_
    refine lv_icmp_lt (tgt := 19) he hb dX11_fitsAt_12 (by decide) (fun hc => ?_) (fun hc => ?_)
    · rw [if_pos hc] at h
      refine z_aload_n he hb dX11_fitsAt_19 rfl (lv_at hl 0 rfl) (zref_r _ _) ?_
      obtain ⟨x3, hx, h⟩ := zob h
      refine z_getR (ci := 11) (T := TX11) (N := 14) (j := 11) B hS hx rfl zin_X11 (by decide) zk_519 dX11_fitsAt_20 ?_
      obtain ⟨x4, hx, h⟩ := zob h
      refine z_getR (ci := 4) (T := TX4) (N := 6) (j := 0) B hS hx rfl zin_X4 (by decide) zk_446 dX11_fitsAt_23 ?_
      refine lv_iload_n he hb dX11_fitsAt_26 rfl (lv_at hl 1 rfl) ?_
      obtain ⟨x5, hx, h⟩ := zob h
      refine z_callS (rest := []) B hS (mX11_at l G hx) zy_X11_at zk_755 (by decide) rfl hl rfl (Nat.le_of_ble_eq_true rfl) dX11_fitsAt_27 (kk := (fun H locs hS => ?_))
      obtain rfl := Option.some.inj h
      exact z_iret B hS dX11_fitsAt_30
    · rw [if_neg hc] at h
      refine lv_iconst (v := (-1 : Int32)) he hb dX11_fitsAt_15 (by decide) ?_
      refine lv_goto (tgt := 30) he hb dX11_fitsAt_16 (by decide) ?_
      obtain rfl := Option.some.inj h
      exact z_iret B hS dX11_fitsAt_30
theorem dX11_ask_0 : decode cX11_ask 0 = .ok (.aload_n 0, 1) := by decide +kernel
theorem dX11_ask_1 : decode cX11_ask 1 = .ok (.getfield 87, 3) := by decide +kernel
theorem dX11_ask_4 : decode cX11_ask 4 = .ok (.getfield 316, 3) := by decide +kernel
theorem dX11_ask_7 : decode cX11_ask 7 = .ok (.ireturn, 1) := by decide +kernel
def fX11_ask (N n : Nat) (f : zF) (a0 : Nat) : Option Int32 :=
    ((zgR n f 11 a0 11).bind fun x1 => ((zgI n f 4 x1 2).bind fun x2 => some x2))
set_option maxRecDepth 100000 in
set_option maxHeartbeats 4000000 in
theorem mX11_ask (l : Launch) (G : zG) {N n : Nat} {f : zF} {r : Int32} {a0 : Nat} (h : fX11_ask N n f a0 = some r) : zM l G yX11_ask cX11_ask 1 (some .int) 0 n f [zr G a0] (some (.int r)) f := by
  refine zM.of (by decide) (Nat.le_of_ble_eq_true rfl) ?_
  intro p e s m args below meth c locs ls B hS hl
  have he := B.1
  have hb := B.2.1
  have hl : lv_has ls 1 [(0, zr G a0)] := hl
  unfold fX11_ask at h
  generalize s.heap = H at hS ⊢
  refine z_aload_n he hb dX11_ask_0 rfl (lv_at hl 0 rfl) (zref_r _ _) ?_
  obtain ⟨x1, hx, h⟩ := zob h
  refine z_getR (ci := 11) (T := TX11) (N := 14) (j := 11) B hS hx rfl zin_X11 (by decide) zk_519 dX11_ask_1 ?_
  obtain ⟨x2, hx, h⟩ := zob h
  refine z_getI (ci := 4) (T := TX4) (N := 6) (j := 2) B hS hx rfl zin_X4 (by decide) zk_450 dX11_ask_4 ?_
  obtain rfl := Option.some.inj h
  exact z_iret B hS dX11_ask_7
theorem dX11_grown_0 : decode cX11_grown 0 = .ok (.iconst (-1), 1) := by decide +kernel
theorem dX11_grown_1 : decode cX11_grown 1 = .ok (.istore_n 1, 1) := by decide +kernel
theorem dX11_grown_2 : decode cX11_grown 2 = .ok (.iconst 0, 1) := by decide +kernel
theorem dX11_grown_3 : decode cX11_grown 3 = .ok (.istore_n 2, 1) := by decide +kernel
theorem dX11_grown_4 : decode cX11_grown 4 = .ok (.iconst 0, 1) := by decide +kernel
theorem dX11_grown_5 : decode cX11_grown 5 = .ok (.istore_n 3, 1) := by decide +kernel
theorem dX11_grown_6 : decode cX11_grown 6 = .ok (.iload_n 3, 1) := by decide +kernel
theorem dX11_grown_7 : decode cX11_grown 7 = .ok (.aload_n 0, 1) := by decide +kernel
theorem dX11_grown_8 : decode cX11_grown 8 = .ok (.getfield 19, 3) := by decide +kernel
theorem dX11_grown_11 : decode cX11_grown 11 = .ok (.getfield 226, 3) := by decide +kernel
theorem dX11_grown_14 : decode cX11_grown 14 = .ok (.if_icmp .ge 47, 3) := by decide +kernel
theorem dX11_grown_17 : decode cX11_grown 17 = .ok (.aload_n 0, 1) := by decide +kernel
theorem dX11_grown_18 : decode cX11_grown 18 = .ok (.getfield 28, 3) := by decide +kernel
theorem dX11_grown_21 : decode cX11_grown 21 = .ok (.iload_n 3, 1) := by decide +kernel
theorem dX11_grown_22 : decode cX11_grown 22 = .ok (.invokevirtual 229, 3) := by decide +kernel
theorem dX11_grown_25 : decode cX11_grown 25 = .ok (.aload_n 0, 1) := by decide +kernel
theorem dX11_grown_26 : decode cX11_grown 26 = .ok (.getfield 19, 3) := by decide +kernel
theorem dX11_grown_29 : decode cX11_grown 29 = .ok (.getfield 319, 3) := by decide +kernel
theorem dX11_grown_32 : decode cX11_grown 32 = .ok (.iload_n 3, 1) := by decide +kernel
theorem dX11_grown_33 : decode cX11_grown 33 = .ok (.invokestatic 147, 3) := by decide +kernel
theorem dX11_grown_36 : decode cX11_grown 36 = .ok (.isub, 1) := by decide +kernel
theorem dX11_grown_37 : decode cX11_grown 37 = .ok (.istore 4, 2) := by decide +kernel
theorem dX11_grown_39 : decode cX11_grown 39 = .ok (.iload_n 1, 1) := by decide +kernel
theorem dX11_grown_40 : decode cX11_grown 40 = .ok (.iconst (-1), 1) := by decide +kernel
theorem dX11_grown_41 : decode cX11_grown 41 = .ok (.if_icmp .eq 9, 3) := by decide +kernel
theorem dX11_grown_44 : decode cX11_grown 44 = .ok (.iload 4, 2) := by decide +kernel
theorem dX11_grown_46 : decode cX11_grown 46 = .ok (.iload_n 2, 1) := by decide +kernel
theorem dX11_grown_47 : decode cX11_grown 47 = .ok (.if_icmp .le 8, 3) := by decide +kernel
theorem dX11_grown_50 : decode cX11_grown 50 = .ok (.iload_n 3, 1) := by decide +kernel
theorem dX11_grown_51 : decode cX11_grown 51 = .ok (.istore_n 1, 1) := by decide +kernel
theorem dX11_grown_52 : decode cX11_grown 52 = .ok (.iload 4, 2) := by decide +kernel
theorem dX11_grown_54 : decode cX11_grown 54 = .ok (.istore_n 2, 1) := by decide +kernel
theorem dX11_grown_55 : decode cX11_grown 55 = .ok (.iinc 3 1, 3) := by decide +kernel
theorem dX11_grown_58 : decode cX11_grown 58 = .ok (.goto (-52), 3) := by decide +kernel
theorem dX11_grown_61 : decode cX11_grown 61 = .ok (.iload_n 1, 1) := by decide +kernel
theorem dX11_grown_62 : decode cX11_grown 62 = .ok (.ireturn, 1) := by decide +kernel
def fX11_grown_55 (r6 : Nat → Int32 → Int32 → Int32 → Option Int32) (N n : Nat) (f : zF) (a0 : Nat) (a1 : Int32) (a2 : Int32) (a3 : Int32) : Option Int32 :=
    (r6 a0 a1 a2 (a3 + 1))
set_option maxRecDepth 100000 in
set_option maxHeartbeats 4000000 in
theorem gX11_grown_55 (l : Launch) {G : zG} {p : Program} {e : Env} {s : State} {m : MethodId} {args : Array Value} {below : List Frame} {meth : Method} {c : Code} {f : zF} {N n : Nat} {r : Int32} {r6 : Nat → Int32 → Int32 → Int32 → Option Int32} (B : zB G p s m args meth c RX11 cX11_grown 5 (some .int)) (hr6 : ∀ (a0 : Nat) (a1 : Int32) (a2 : Int32) (a3 : Int32) (H : Heap) (locs : List Loc) (ls : Array Slot), r6 a0 a1 a2 a3 = some r → zS G n f H locs → lv_has ls 5 [(0, zr G a0), (1, .int a1), (2, .int a2), (3, .int a3)] → W p l e (zrm 1) s m args below meth c H locs 0 0 (MQ below (zQc G n f (some (.int r))) args s 0 0 (zA G)) (F0 m 6 ls [])) : ∀ (a0 : Nat) (a1 : Int32) (a2 : Int32) (a3 : Int32) (H : Heap) (locs : List Loc) (ls : Array Slot), fX11_grown_55 r6 N n f a0 a1 a2 a3 = some r → zS G n f H locs → lv_has ls 5 [(0, zr G a0), (1, .int a1), (2, .int a2), (3, .int a3)] → W p l e (zrm 1) s m args below meth c H locs 0 0 (MQ below (zQc G n f (some (.int r))) args s 0 0 (zA G)) (F0 m 55 ls []) := by
  have he := B.1
  have hb := B.2.1
  intro a0 a1 a2 a3 H locs ls h hS hl
  unfold fX11_grown_55 at h
  refine lv_iinc (v := (a3 + 1)) (lv' := [(3, _), (0, _), (1, _), (2, _)]) he hb dX11_grown_55 hl (k := 3) rfl rfl (by decide) rfl (fun ls hl => ?_)
  refine lv_goto (tgt := 6) he hb dX11_grown_58 (by decide) ?_
  exact hr6 _ _ _ _ _ _ _ h hS (lv_sub hl [1, 2, 3, 0] rfl)
def fX11_grown_50 (r6 : Nat → Int32 → Int32 → Int32 → Option Int32) (N n : Nat) (f : zF) (a0 : Nat) (a3 : Int32) (a4 : Int32) : Option Int32 :=
    (fX11_grown_55 r6 N n f a0 a3 a4 a3)
set_option maxRecDepth 100000 in
set_option maxHeartbeats 4000000 in
theorem gX11_grown_50 (l : Launch) {G : zG} {p : Program} {e : Env} {s : State} {m : MethodId} {args : Array Value} {below : List Frame} {meth : Method} {c : Code} {f : zF} {N n : Nat} {r : Int32} {r6 : Nat → Int32 → Int32 → Int32 → Option Int32} (B : zB G p s m args meth c RX11 cX11_grown 5 (some .int)) (hr6 : ∀ (a0 : Nat) (a1 : Int32) (a2 : Int32) (a3 : Int32) (H : Heap) (locs : List Loc) (ls : Array Slot), r6 a0 a1 a2 a3 = some r → zS G n f H locs → lv_has ls 5 [(0, zr G a0), (1, .int a1), (2, .int a2), (3, .int a3)] → W p l e (zrm 1) s m args below meth c H locs 0 0 (MQ below (zQc G n f (some (.int r))) args s 0 0 (zA G)) (F0 m 6 ls [])) : ∀ (a0 : Nat) (a3 : Int32) (a4 : Int32) (H : Heap) (locs : List Loc) (ls : Array Slot), fX11_grown_50 r6 N n f a0 a3 a4 = some r → zS G n f H locs → lv_has ls 5 [(0, zr G a0), (3, .int a3), (4, .int a4)] → W p l e (zrm 1) s m args below meth c H locs 0 0 (MQ below (zQc G n f (some (.int r))) args s 0 0 (zA G)) (F0 m 50 ls []) := by
  have he := B.1
  have hb := B.2.1
  intro a0 a3 a4 H locs ls h hS hl
  unfold fX11_grown_50 at h
  refine lv_iload_n he hb dX11_grown_50 rfl (lv_at hl 1 rfl) ?_
  refine lv_istore_n (lv' := [(1, _), (0, _), (3, _), (4, _)]) he hb dX11_grown_51 rfl hl (by decide) rfl (fun ls hl => ?_)
  refine lv_iload he hb dX11_grown_52 (lv_at hl 3 rfl) ?_
  refine lv_istore_n (lv' := [(2, _), (1, _), (0, _), (3, _), (4, _)]) he hb dX11_grown_54 rfl hl (by decide) rfl (fun ls hl => ?_)
  exact gX11_grown_55 l B hr6 _ _ _ _ _ _ _ h hS (lv_sub hl [2, 1, 0, 3] rfl)
def fX11_grown_6 (N n : Nat) (f : zF) : Nat → Nat → Int32 → Int32 → Int32 → Option Int32
  | 0, _, _, _, _ => none
  | k + 1, a0, a1, a2, a3 =>
    ((zgR n f 11 a0 1).bind fun x1 => ((zgI n f 2 x1 2).bind fun x2 => (if x2 ≤ a3 then some a1 else ((zgR n f 11 a0 2).bind fun x3 => ((zck n f 8 x3).bind fun _ => ((fX8_landOf N n f x3 a3).bind fun x4 => ((zgR n f 11 a0 1).bind fun x5 => ((zgR n f 2 x5 9).bind fun x6 => ((fX11_at N n f x6 a3).bind fun x7 => (if a1 = (-1 : Int32) then (fX11_grown_50 (fX11_grown_6 N n f k) N n f a0 a3 (x4 - x7)) else (if (x4 - x7) ≤ a2 then (fX11_grown_55 (fX11_grown_6 N n f k) N n f a0 a1 a2 a3) else (fX11_grown_50 (fX11_grown_6 N n f k) N n f a0 a3 (x4 - x7)))))))))))))
set_option maxRecDepth 100000 in
set_option maxHeartbeats 4000000 in
theorem gX11_grown_6 (l : Launch) {G : zG} {p : Program} {e : Env} {s : State} {m : MethodId} {args : Array Value} {below : List Frame} {meth : Method} {c : Code} {f : zF} {N n : Nat} {r : Int32} (B : zB G p s m args meth c RX11 cX11_grown 5 (some .int)) : ∀ (k : Nat), ∀ (a0 : Nat) (a1 : Int32) (a2 : Int32) (a3 : Int32) (H : Heap) (locs : List Loc) (ls : Array Slot), fX11_grown_6 N n f k a0 a1 a2 a3 = some r → zS G n f H locs → lv_has ls 5 [(0, zr G a0), (1, .int a1), (2, .int a2), (3, .int a3)] → W p l e (zrm 1) s m args below meth c H locs 0 0 (MQ below (zQc G n f (some (.int r))) args s 0 0 (zA G)) (F0 m 6 ls []) := by
  have he := B.1
  have hb := B.2.1
  intro k
  induction k with
  | zero =>
    intro a0 a1 a2 a3 H locs ls h
    unfold fX11_grown_6 at h
    cases h
  | succ k ih =>
    intro a0 a1 a2 a3 H locs ls h hS hl
    unfold fX11_grown_6 at h
    refine lv_iload_n he hb dX11_grown_6 rfl (lv_at hl 3 rfl) ?_
    refine z_aload_n he hb dX11_grown_7 rfl (lv_at hl 0 rfl) (zref_r _ _) ?_
    obtain ⟨x1, hx, h⟩ := zob h
    refine z_getR (ci := 11) (T := TX11) (N := 14) (j := 1) B hS hx rfl zin_X11 (by decide) zk_509 dX11_grown_8 ?_
    obtain ⟨x2, hx, h⟩ := zob h
    refine z_getI (ci := 2) (T := TX2) (N := 15) (j := 2) B hS hx rfl zin_X2 (by decide) zk_162 dX11_grown_11 ?_
    refine lv_icmp_ge (tgt := 61) he hb dX11_grown_14 (by decide) (fun hc => ?_) (fun hc => ?_)
    · rw [if_pos hc] at h
      refine lv_iload_n he hb dX11_grown_61 rfl (lv_at hl 1 rfl) ?_
      obtain rfl := Option.some.inj h
      exact z_iret B hS dX11_grown_62
    · rw [if_neg hc] at h
      refine z_aload_n he hb dX11_grown_17 rfl (lv_at hl 0 rfl) (zref_r _ _) ?_
      obtain ⟨x3, hx, h⟩ := zob h
      refine z_getR (ci := 11) (T := TX11) (N := 14) (j := 2) B hS hx rfl zin_X11 (by decide) zk_510 dX11_grown_18 ?_
      refine lv_iload_n he hb dX11_grown_21 rfl (lv_at hl 3 rfl) ?_
      obtain ⟨_, hc, h⟩ := zob h
      obtain ⟨x4, hx, h⟩ := zob h
      refine z_callV (ci := 8) (T := TX8) (N := 9) (rest := []) B hS (mX8_landOf l G hx) zy_X8_landOf zk_819 (by decide) hc rfl rfl hl rfl (Nat.le_of_ble_eq_true rfl) dX11_grown_22 (kk := (fun H locs hS => ?_))
      refine z_aload_n he hb dX11_grown_25 rfl (lv_at hl 0 rfl) (zref_r _ _) ?_
      obtain ⟨x5, hx, h⟩ := zob h
      refine z_getR (ci := 11) (T := TX11) (N := 14) (j := 1) B hS hx rfl zin_X11 (by decide) zk_509 dX11_grown_26 ?_
      obtain ⟨x6, hx, h⟩ := zob h
      refine z_getR (ci := 2) (T := TX2) (N := 15) (j := 9) B hS hx rfl zin_X2 (by decide) zk_190 dX11_grown_29 ?_
      refine lv_iload_n he hb dX11_grown_32 rfl (lv_at hl 3 rfl) ?_
      obtain ⟨x7, hx, h⟩ := zob h
      refine z_callS (rest := [_]) B hS (mX11_at l G hx) zy_X11_at zk_755 (by decide) rfl hl rfl (Nat.le_of_ble_eq_true rfl) dX11_grown_33 (kk := (fun H locs hS => ?_))
      refine lv_isub he hb dX11_grown_36 ?_
      refine lv_istore (lv' := [(4, _), (0, _), (1, _), (2, _), (3, _)]) he hb dX11_grown_37 hl (by decide) rfl (fun ls hl => ?_)
      refine lv_iload_n he hb dX11_grown_39 rfl (lv_at hl 2 rfl) ?_
      refine lv_iconst (v := (-1 : Int32)) he hb dX11_grown_40 (by decide) ?_
      refine lv_icmp_eq (tgt := 50) he hb dX11_grown_41 (by decide) (fun hc => ?_) (fun hc => ?_)
      · rw [if_pos hc] at h
        exact gX11_grown_50 l B ih _ _ _ _ _ _ h hS (lv_sub hl [1, 4, 0] rfl)
      · rw [if_neg hc] at h
        refine lv_iload he hb dX11_grown_44 (lv_at hl 0 rfl) ?_
        refine lv_iload_n he hb dX11_grown_46 rfl (lv_at hl 3 rfl) ?_
        refine lv_icmp_le (tgt := 55) he hb dX11_grown_47 (by decide) (fun hc => ?_) (fun hc => ?_)
        · rw [if_pos hc] at h
          exact gX11_grown_55 l B ih _ _ _ _ _ _ _ h hS (lv_sub hl [1, 2, 3, 4] rfl)
        · rw [if_neg hc] at h
          exact gX11_grown_50 l B ih _ _ _ _ _ _ h hS (lv_sub hl [1, 4, 0] rfl)
def fX11_grown (N n : Nat) (f : zF) (a0 : Nat) : Option Int32 :=
    (fX11_grown_6 N n f N a0 (-1 : Int32) (0 : Int32) (0 : Int32))
set_option maxRecDepth 100000 in
set_option maxHeartbeats 4000000 in
theorem mX11_grown (l : Launch) (G : zG) {N n : Nat} {f : zF} {r : Int32} {a0 : Nat} (h : fX11_grown N n f a0 = some r) : zM l G yX11_grown cX11_grown 5 (some .int) 1 n f [zr G a0] (some (.int r)) f := by
  refine zM.of (by decide) (Nat.le_of_ble_eq_true rfl) ?_
  intro p e s m args below meth c locs ls B hS hl
  have he := B.1
  have hb := B.2.1
  have hl : lv_has ls 5 [(0, zr G a0)] := hl
  unfold fX11_grown at h
  generalize s.heap = H at hS ⊢
  refine lv_iconst (v := (-1 : Int32)) he hb dX11_grown_0 (by decide) ?_
  refine lv_istore_n (lv' := [(1, _), (0, _)]) he hb dX11_grown_1 rfl hl (by decide) rfl (fun ls hl => ?_)
  refine lv_iconst (v := (0 : Int32)) he hb dX11_grown_2 (by decide) ?_
  refine lv_istore_n (lv' := [(2, _), (1, _), (0, _)]) he hb dX11_grown_3 rfl hl (by decide) rfl (fun ls hl => ?_)
  refine lv_iconst (v := (0 : Int32)) he hb dX11_grown_4 (by decide) ?_
  refine lv_istore_n (lv' := [(3, _), (2, _), (1, _), (0, _)]) he hb dX11_grown_5 rfl hl (by decide) rfl (fun ls hl => ?_)
  exact gX11_grown_6 l B N _ _ _ _ _ _ _ h hS (lv_sub hl [3, 2, 1, 0] rfl)
theorem dX11_farthest_0 : decode cX11_farthest 0 = .ok (.iconst (-1), 1) := by decide +kernel
theorem dX11_farthest_1 : decode cX11_farthest 1 = .ok (.istore_n 1, 1) := by decide +kernel
theorem dX11_farthest_2 : decode cX11_farthest 2 = .ok (.iconst 0, 1) := by decide +kernel
theorem dX11_farthest_3 : decode cX11_farthest 3 = .ok (.istore_n 2, 1) := by decide +kernel
theorem dX11_farthest_4 : decode cX11_farthest 4 = .ok (.iload_n 2, 1) := by decide +kernel
theorem dX11_farthest_5 : decode cX11_farthest 5 = .ok (.aload_n 0, 1) := by decide +kernel
theorem dX11_farthest_6 : decode cX11_farthest 6 = .ok (.getfield 19, 3) := by decide +kernel
theorem dX11_farthest_9 : decode cX11_farthest 9 = .ok (.getfield 220, 3) := by decide +kernel
theorem dX11_farthest_12 : decode cX11_farthest 12 = .ok (.if_icmp .ge 41, 3) := by decide +kernel
theorem dX11_farthest_15 : decode cX11_farthest 15 = .ok (.iload_n 1, 1) := by decide +kernel
theorem dX11_farthest_16 : decode cX11_farthest 16 = .ok (.iconst (-1), 1) := by decide +kernel
theorem dX11_farthest_17 : decode cX11_farthest 17 = .ok (.if_icmp .eq 28, 3) := by decide +kernel
theorem dX11_farthest_20 : decode cX11_farthest 20 = .ok (.aload_n 0, 1) := by decide +kernel
theorem dX11_farthest_21 : decode cX11_farthest 21 = .ok (.getfield 28, 3) := by decide +kernel
theorem dX11_farthest_24 : decode cX11_farthest 24 = .ok (.getfield 160, 3) := by decide +kernel
theorem dX11_farthest_27 : decode cX11_farthest 27 = .ok (.iload_n 2, 1) := by decide +kernel
theorem dX11_farthest_28 : decode cX11_farthest 28 = .ok (.invokestatic 147, 3) := by decide +kernel
theorem dX11_farthest_31 : decode cX11_farthest 31 = .ok (.aload_n 0, 1) := by decide +kernel
theorem dX11_farthest_32 : decode cX11_farthest 32 = .ok (.getfield 28, 3) := by decide +kernel
theorem dX11_farthest_35 : decode cX11_farthest 35 = .ok (.getfield 160, 3) := by decide +kernel
theorem dX11_farthest_38 : decode cX11_farthest 38 = .ok (.iload_n 1, 1) := by decide +kernel
theorem dX11_farthest_39 : decode cX11_farthest 39 = .ok (.invokestatic 147, 3) := by decide +kernel
theorem dX11_farthest_42 : decode cX11_farthest 42 = .ok (.if_icmp .le 5, 3) := by decide +kernel
theorem dX11_farthest_45 : decode cX11_farthest 45 = .ok (.iload_n 2, 1) := by decide +kernel
theorem dX11_farthest_46 : decode cX11_farthest 46 = .ok (.istore_n 1, 1) := by decide +kernel
theorem dX11_farthest_47 : decode cX11_farthest 47 = .ok (.iinc 2 1, 3) := by decide +kernel
theorem dX11_farthest_50 : decode cX11_farthest 50 = .ok (.goto (-46), 3) := by decide +kernel
theorem dX11_farthest_53 : decode cX11_farthest 53 = .ok (.iload_n 1, 1) := by decide +kernel
theorem dX11_farthest_54 : decode cX11_farthest 54 = .ok (.ireturn, 1) := by decide +kernel
def fX11_farthest_47 (r4 : Nat → Int32 → Int32 → Option Int32) (N n : Nat) (f : zF) (a0 : Nat) (a1 : Int32) (a2 : Int32) : Option Int32 :=
    (r4 a0 a1 (a2 + 1))
set_option maxRecDepth 100000 in
set_option maxHeartbeats 4000000 in
theorem gX11_farthest_47 (l : Launch) {G : zG} {p : Program} {e : Env} {s : State} {m : MethodId} {args : Array Value} {below : List Frame} {meth : Method} {c : Code} {f : zF} {N n : Nat} {r : Int32} {r4 : Nat → Int32 → Int32 → Option Int32} (B : zB G p s m args meth c RX11 cX11_farthest 3 (some .int)) (hr4 : ∀ (a0 : Nat) (a1 : Int32) (a2 : Int32) (H : Heap) (locs : List Loc) (ls : Array Slot), r4 a0 a1 a2 = some r → zS G n f H locs → lv_has ls 3 [(0, zr G a0), (1, .int a1), (2, .int a2)] → W p l e (zrm 1) s m args below meth c H locs 0 0 (MQ below (zQc G n f (some (.int r))) args s 0 0 (zA G)) (F0 m 4 ls [])) : ∀ (a0 : Nat) (a1 : Int32) (a2 : Int32) (H : Heap) (locs : List Loc) (ls : Array Slot), fX11_farthest_47 r4 N n f a0 a1 a2 = some r → zS G n f H locs → lv_has ls 3 [(0, zr G a0), (1, .int a1), (2, .int a2)] → W p l e (zrm 1) s m args below meth c H locs 0 0 (MQ below (zQc G n f (some (.int r))) args s 0 0 (zA G)) (F0 m 47 ls []) := by
  have he := B.1
  have hb := B.2.1
  intro a0 a1 a2 H locs ls h hS hl
  unfold fX11_farthest_47 at h
  refine lv_iinc (v := (a2 + 1)) (lv' := [(2, _), (0, _), (1, _)]) he hb dX11_farthest_47 hl (k := 2) rfl rfl (by decide) rfl (fun ls hl => ?_)
  refine lv_goto (tgt := 4) he hb dX11_farthest_50 (by decide) ?_
  exact hr4 _ _ _ _ _ _ h hS (lv_sub hl [1, 2, 0] rfl)
def fX11_farthest_45 (r4 : Nat → Int32 → Int32 → Option Int32) (N n : Nat) (f : zF) (a0 : Nat) (a2 : Int32) : Option Int32 :=
    (fX11_farthest_47 r4 N n f a0 a2 a2)
set_option maxRecDepth 100000 in
set_option maxHeartbeats 4000000 in
theorem gX11_farthest_45 (l : Launch) {G : zG} {p : Program} {e : Env} {s : State} {m : MethodId} {args : Array Value} {below : List Frame} {meth : Method} {c : Code} {f : zF} {N n : Nat} {r : Int32} {r4 : Nat → Int32 → Int32 → Option Int32} (B : zB G p s m args meth c RX11 cX11_farthest 3 (some .int)) (hr4 : ∀ (a0 : Nat) (a1 : Int32) (a2 : Int32) (H : Heap) (locs : List Loc) (ls : Array Slot), r4 a0 a1 a2 = some r → zS G n f H locs → lv_has ls 3 [(0, zr G a0), (1, .int a1), (2, .int a2)] → W p l e (zrm 1) s m args below meth c H locs 0 0 (MQ below (zQc G n f (some (.int r))) args s 0 0 (zA G)) (F0 m 4 ls [])) : ∀ (a0 : Nat) (a2 : Int32) (H : Heap) (locs : List Loc) (ls : Array Slot), fX11_farthest_45 r4 N n f a0 a2 = some r → zS G n f H locs → lv_has ls 3 [(0, zr G a0), (2, .int a2)] → W p l e (zrm 1) s m args below meth c H locs 0 0 (MQ below (zQc G n f (some (.int r))) args s 0 0 (zA G)) (F0 m 45 ls []) := by
  have he := B.1
  have hb := B.2.1
  intro a0 a2 H locs ls h hS hl
  unfold fX11_farthest_45 at h
  refine lv_iload_n he hb dX11_farthest_45 rfl (lv_at hl 1 rfl) ?_
  refine lv_istore_n (lv' := [(1, _), (0, _), (2, _)]) he hb dX11_farthest_46 rfl hl (by decide) rfl (fun ls hl => ?_)
  exact gX11_farthest_47 l B hr4 _ _ _ _ _ _ h hS (lv_sub hl [1, 0, 2] rfl)
def fX11_farthest_4 (N n : Nat) (f : zF) : Nat → Nat → Int32 → Int32 → Option Int32
  | 0, _, _, _ => none
  | k + 1, a0, a1, a2 =>
    ((zgR n f 11 a0 1).bind fun x1 => ((zgI n f 2 x1 3).bind fun x2 => (if x2 ≤ a2 then some a1 else (if a1 = (-1 : Int32) then (fX11_farthest_45 (fX11_farthest_4 N n f k) N n f a0 a2) else ((zgR n f 11 a0 2).bind fun x3 => ((zgR n f 8 x3 4).bind fun x4 => ((fX11_at N n f x4 a2).bind fun x5 => ((zgR n f 11 a0 2).bind fun x6 => ((zgR n f 8 x6 4).bind fun x7 => ((fX11_at N n f x7 a1).bind fun x8 => (if x5 ≤ x8 then (fX11_farthest_47 (fX11_farthest_4 N n f k) N n f a0 a1 a2) else (fX11_farthest_45 (fX11_farthest_4 N n f k) N n f a0 a2))))))))))))
set_option maxRecDepth 100000 in
set_option maxHeartbeats 4000000 in
theorem gX11_farthest_4 (l : Launch) {G : zG} {p : Program} {e : Env} {s : State} {m : MethodId} {args : Array Value} {below : List Frame} {meth : Method} {c : Code} {f : zF} {N n : Nat} {r : Int32} (B : zB G p s m args meth c RX11 cX11_farthest 3 (some .int)) : ∀ (k : Nat), ∀ (a0 : Nat) (a1 : Int32) (a2 : Int32) (H : Heap) (locs : List Loc) (ls : Array Slot), fX11_farthest_4 N n f k a0 a1 a2 = some r → zS G n f H locs → lv_has ls 3 [(0, zr G a0), (1, .int a1), (2, .int a2)] → W p l e (zrm 1) s m args below meth c H locs 0 0 (MQ below (zQc G n f (some (.int r))) args s 0 0 (zA G)) (F0 m 4 ls []) := by
  have he := B.1
  have hb := B.2.1
  intro k
  induction k with
  | zero =>
    intro a0 a1 a2 H locs ls h
    unfold fX11_farthest_4 at h
    cases h
  | succ k ih =>
    intro a0 a1 a2 H locs ls h hS hl
    unfold fX11_farthest_4 at h
    refine lv_iload_n he hb dX11_farthest_4 rfl (lv_at hl 2 rfl) ?_
    refine z_aload_n he hb dX11_farthest_5 rfl (lv_at hl 0 rfl) (zref_r _ _) ?_
    obtain ⟨x1, hx, h⟩ := zob h
    refine z_getR (ci := 11) (T := TX11) (N := 14) (j := 1) B hS hx rfl zin_X11 (by decide) zk_509 dX11_farthest_6 ?_
    obtain ⟨x2, hx, h⟩ := zob h
    refine z_getI (ci := 2) (T := TX2) (N := 15) (j := 3) B hS hx rfl zin_X2 (by decide) zk_167 dX11_farthest_9 ?_
    refine lv_icmp_ge (tgt := 53) he hb dX11_farthest_12 (by decide) (fun hc => ?_) (fun hc => ?_)
    · rw [if_pos hc] at h
      refine lv_iload_n he hb dX11_farthest_53 rfl (lv_at hl 1 rfl) ?_
      obtain rfl := Option.some.inj h
      exact z_iret B hS dX11_farthest_54
    · rw [if_neg hc] at h
      refine lv_iload_n he hb dX11_farthest_15 rfl (lv_at hl 1 rfl) ?_
      refine lv_iconst (v := (-1 : Int32)) he hb dX11_farthest_16 (by decide) ?_
      refine lv_icmp_eq (tgt := 45) he hb dX11_farthest_17 (by decide) (fun hc => ?_) (fun hc => ?_)
      · rw [if_pos hc] at h
        exact gX11_farthest_45 l B ih _ _ _ _ _ h hS (lv_sub hl [0, 2] rfl)
      · rw [if_neg hc] at h
        refine z_aload_n he hb dX11_farthest_20 rfl (lv_at hl 0 rfl) (zref_r _ _) ?_
        obtain ⟨x3, hx, h⟩ := zob h
        refine z_getR (ci := 11) (T := TX11) (N := 14) (j := 2) B hS hx rfl zin_X11 (by decide) zk_510 dX11_farthest_21 ?_
        obtain ⟨x4, hx, h⟩ := zob h
        refine z_getR (ci := 8) (T := TX8) (N := 9) (j := 4) B hS hx rfl zin_X8 (by decide) zk_262 dX11_farthest_24 ?_
        refine lv_iload_n he hb dX11_farthest_27 rfl (lv_at hl 2 rfl) ?_
        obtain ⟨x5, hx, h⟩ := zob h
        refine z_callS (rest := []) B hS (mX11_at l G hx) zy_X11_at zk_755 (by decide) rfl hl rfl (Nat.le_of_ble_eq_true rfl) dX11_farthest_28 (kk := (fun H locs hS => ?_))
        refine z_aload_n he hb dX11_farthest_31 rfl (lv_at hl 0 rfl) (zref_r _ _) ?_
        obtain ⟨x6, hx, h⟩ := zob h
        refine z_getR (ci := 11) (T := TX11) (N := 14) (j := 2) B hS hx rfl zin_X11 (by decide) zk_510 dX11_farthest_32 ?_
        obtain ⟨x7, hx, h⟩ := zob h
        refine z_getR (ci := 8) (T := TX8) (N := 9) (j := 4) B hS hx rfl zin_X8 (by decide) zk_262 dX11_farthest_35 ?_
        refine lv_iload_n he hb dX11_farthest_38 rfl (lv_at hl 1 rfl) ?_
        obtain ⟨x8, hx, h⟩ := zob h
        refine z_callS (rest := [_]) B hS (mX11_at l G hx) zy_X11_at zk_755 (by decide) rfl hl rfl (Nat.le_of_ble_eq_true rfl) dX11_farthest_39 (kk := (fun H locs hS => ?_))
        refine lv_icmp_le (tgt := 47) he hb dX11_farthest_42 (by decide) (fun hc => ?_) (fun hc => ?_)
        · rw [if_pos hc] at h
          exact gX11_farthest_47 l B ih _ _ _ _ _ _ h hS (lv_sub hl [0, 1, 2] rfl)
        · rw [if_neg hc] at h
          exact gX11_farthest_45 l B ih _ _ _ _ _ h hS (lv_sub hl [0, 2] rfl)
def fX11_farthest (N n : Nat) (f : zF) (a0 : Nat) : Option Int32 :=
    (fX11_farthest_4 N n f N a0 (-1 : Int32) (0 : Int32))
set_option maxRecDepth 100000 in
set_option maxHeartbeats 4000000 in
theorem mX11_farthest (l : Launch) (G : zG) {N n : Nat} {f : zF} {r : Int32} {a0 : Nat} (h : fX11_farthest N n f a0 = some r) : zM l G yX11_farthest cX11_farthest 3 (some .int) 1 n f [zr G a0] (some (.int r)) f := by
  refine zM.of (by decide) (Nat.le_of_ble_eq_true rfl) ?_
  intro p e s m args below meth c locs ls B hS hl
  have he := B.1
  have hb := B.2.1
  have hl : lv_has ls 3 [(0, zr G a0)] := hl
  unfold fX11_farthest at h
  generalize s.heap = H at hS ⊢
  refine lv_iconst (v := (-1 : Int32)) he hb dX11_farthest_0 (by decide) ?_
  refine lv_istore_n (lv' := [(1, _), (0, _)]) he hb dX11_farthest_1 rfl hl (by decide) rfl (fun ls hl => ?_)
  refine lv_iconst (v := (0 : Int32)) he hb dX11_farthest_2 (by decide) ?_
  refine lv_istore_n (lv' := [(2, _), (1, _), (0, _)]) he hb dX11_farthest_3 rfl hl (by decide) rfl (fun ls hl => ?_)
  exact gX11_farthest_4 l B N _ _ _ _ _ _ h hS (lv_sub hl [2, 1, 0] rfl)
theorem dX11_byteAt_0 : decode cX11_byteAt 0 = .ok (.iload_n 1, 1) := by decide +kernel
theorem dX11_byteAt_1 : decode cX11_byteAt 1 = .ok (.ifCond .lt 14, 3) := by decide +kernel
theorem dX11_byteAt_4 : decode cX11_byteAt 4 = .ok (.iload_n 1, 1) := by decide +kernel
theorem dX11_byteAt_5 : decode cX11_byteAt 5 = .ok (.aload_n 0, 1) := by decide +kernel
theorem dX11_byteAt_6 : decode cX11_byteAt 6 = .ok (.getfield 94, 3) := by decide +kernel
theorem dX11_byteAt_9 : decode cX11_byteAt 9 = .ok (.getfield 327, 3) := by decide +kernel
theorem dX11_byteAt_12 : decode cX11_byteAt 12 = .ok (.if_icmp .lt 7, 3) := by decide +kernel
theorem dX11_byteAt_15 : decode cX11_byteAt 15 = .ok (.iconst (-1), 1) := by decide +kernel
theorem dX11_byteAt_16 : decode cX11_byteAt 16 = .ok (.goto 14, 3) := by decide +kernel
theorem dX11_byteAt_19 : decode cX11_byteAt 19 = .ok (.aload_n 0, 1) := by decide +kernel
theorem dX11_byteAt_20 : decode cX11_byteAt 20 = .ok (.getfield 94, 3) := by decide +kernel
theorem dX11_byteAt_23 : decode cX11_byteAt 23 = .ok (.getfield 357, 3) := by decide +kernel
theorem dX11_byteAt_26 : decode cX11_byteAt 26 = .ok (.iload_n 1, 1) := by decide +kernel
theorem dX11_byteAt_27 : decode cX11_byteAt 27 = .ok (.invokestatic 147, 3) := by decide +kernel
theorem dX11_byteAt_30 : decode cX11_byteAt 30 = .ok (.ireturn, 1) := by decide +kernel
def fX11_byteAt (N n : Nat) (f : zF) (a0 : Nat) (a1 : Int32) : Option Int32 :=
    (if a1 < 0 then some (-1 : Int32) else ((zgR n f 11 a0 12).bind fun x1 => ((zgI n f 0 x1 6).bind fun x2 => (if a1 < x2 then ((zgR n f 11 a0 12).bind fun x3 => ((zgR n f 0 x3 5).bind fun x4 => ((fX11_at N n f x4 a1).bind fun x5 => some x5))) else some (-1 : Int32)))))
set_option maxRecDepth 100000 in
set_option maxHeartbeats 4000000 in
theorem mX11_byteAt (l : Launch) (G : zG) {N n : Nat} {f : zF} {r : Int32} {a0 : Nat} {a1 : Int32} (h : fX11_byteAt N n f a0 a1 = some r) : zM l G yX11_byteAt cX11_byteAt 2 (some .int) 1 n f [zr G a0, .int a1] (some (.int r)) f := by
  refine zM.of (by decide) (Nat.le_of_ble_eq_true rfl) ?_
  intro p e s m args below meth c locs ls B hS hl
  have he := B.1
  have hb := B.2.1
  have hl : lv_has ls 2 [(0, zr G a0), (1, .int a1)] := hl
  unfold fX11_byteAt at h
  generalize s.heap = H at hS ⊢
  refine lv_iload_n he hb dX11_byteAt_0 rfl (lv_at hl 1 rfl) ?_
  refine lv_if_lt (tgt := 15) he hb dX11_byteAt_1 (by decide) (fun hc => ?_) (fun hc => ?_)
  · rw [if_pos hc] at h
    refine lv_iconst (v := (-1 : Int32)) he hb dX11_byteAt_15 (by decide) ?_
    refine lv_goto (tgt := 30) he hb dX11_byteAt_16 (by decide) ?_
    obtain rfl := Option.some.inj h
    exact z_iret B hS dX11_byteAt_30
  · rw [if_neg hc] at h
    refine lv_iload_n he hb dX11_byteAt_4 rfl (lv_at hl 1 rfl) ?_
    refine z_aload_n he hb dX11_byteAt_5 rfl (lv_at hl 0 rfl) (zref_r _ _) ?_
    obtain ⟨x1, hx, h⟩ := zob h
    refine z_getR (ci := 11) (T := TX11) (N := 14) (j := 12) B hS hx rfl zin_X11 (by decide) zk_520 dX11_byteAt_6 ?_
    obtain ⟨x2, hx, h⟩ := zob h
    refine z_getI (ci := 0) (T := TX0) (N := 9) (j := 6) B hS hx rfl zin_X0 (by decide) zk_484 dX11_byteAt_9 ?_
    refine lv_icmp_lt (tgt := 19) he hb dX11_byteAt_12 (by decide) (fun hc => ?_) (fun hc => ?_)
    · rw [if_pos hc] at h
      refine z_aload_n he hb dX11_byteAt_19 rfl (lv_at hl 0 rfl) (zref_r _ _) ?_
      obtain ⟨x3, hx, h⟩ := zob h
      refine z_getR (ci := 11) (T := TX11) (N := 14) (j := 12) B hS hx rfl zin_X11 (by decide) zk_520 dX11_byteAt_20 ?_
      obtain ⟨x4, hx, h⟩ := zob h
      refine z_getR (ci := 0) (T := TX0) (N := 9) (j := 5) B hS hx rfl zin_X0 (by decide) zk_482 dX11_byteAt_23 ?_
      refine lv_iload_n he hb dX11_byteAt_26 rfl (lv_at hl 1 rfl) ?_
      obtain ⟨x5, hx, h⟩ := zob h
      refine z_callS (rest := []) B hS (mX11_at l G hx) zy_X11_at zk_755 (by decide) rfl hl rfl (Nat.le_of_ble_eq_true rfl) dX11_byteAt_27 (kk := (fun H locs hS => ?_))
      obtain rfl := Option.some.inj h
      exact z_iret B hS dX11_byteAt_30
    · rw [if_neg hc] at h
      refine lv_iconst (v := (-1 : Int32)) he hb dX11_byteAt_15 (by decide) ?_
      refine lv_goto (tgt := 30) he hb dX11_byteAt_16 (by decide) ?_
      obtain rfl := Option.some.inj h
      exact z_iret B hS dX11_byteAt_30
theorem dX11_drawn_0 : decode cX11_drawn 0 = .ok (.iload_n 1, 1) := by decide +kernel
theorem dX11_drawn_1 : decode cX11_drawn 1 = .ok (.iconst 1, 1) := by decide +kernel
theorem dX11_drawn_2 : decode cX11_drawn 2 = .ok (.if_icmp .lt 9, 3) := by decide +kernel
theorem dX11_drawn_5 : decode cX11_drawn 5 = .ok (.iload_n 1, 1) := by decide +kernel
theorem dX11_drawn_6 : decode cX11_drawn 6 = .ok (.bipush 60, 2) := by decide +kernel
theorem dX11_drawn_8 : decode cX11_drawn 8 = .ok (.if_icmp .le 5, 3) := by decide +kernel
theorem dX11_drawn_11 : decode cX11_drawn 11 = .ok (.iconst (-1), 1) := by decide +kernel
theorem dX11_drawn_12 : decode cX11_drawn 12 = .ok (.ireturn, 1) := by decide +kernel
theorem dX11_drawn_13 : decode cX11_drawn 13 = .ok (.aload_n 0, 1) := by decide +kernel
theorem dX11_drawn_14 : decode cX11_drawn 14 = .ok (.getfield 28, 3) := by decide +kernel
theorem dX11_drawn_17 : decode cX11_drawn 17 = .ok (.getfield 205, 3) := by decide +kernel
theorem dX11_drawn_20 : decode cX11_drawn 20 = .ok (.istore_n 3, 1) := by decide +kernel
theorem dX11_drawn_21 : decode cX11_drawn 21 = .ok (.iload_n 2, 1) := by decide +kernel
theorem dX11_drawn_22 : decode cX11_drawn 22 = .ok (.istore 4, 2) := by decide +kernel
theorem dX11_drawn_24 : decode cX11_drawn 24 = .ok (.aload_n 0, 1) := by decide +kernel
theorem dX11_drawn_25 : decode cX11_drawn 25 = .ok (.getfield 70, 3) := by decide +kernel
theorem dX11_drawn_28 : decode cX11_drawn 28 = .ok (.aload_n 0, 1) := by decide +kernel
theorem dX11_drawn_29 : decode cX11_drawn 29 = .ok (.getfield 28, 3) := by decide +kernel
theorem dX11_drawn_32 : decode cX11_drawn 32 = .ok (.invokevirtual 235, 3) := by decide +kernel
theorem dX11_drawn_35 : decode cX11_drawn 35 = .ok (.iconst 0, 1) := by decide +kernel
theorem dX11_drawn_36 : decode cX11_drawn 36 = .ok (.istore 5, 2) := by decide +kernel
theorem dX11_drawn_38 : decode cX11_drawn 38 = .ok (.iload 5, 2) := by decide +kernel
theorem dX11_drawn_40 : decode cX11_drawn 40 = .ok (.iload_n 1, 1) := by decide +kernel
theorem dX11_drawn_41 : decode cX11_drawn 41 = .ok (.if_icmp .ge 33, 3) := by decide +kernel
theorem dX11_drawn_44 : decode cX11_drawn 44 = .ok (.aload_n 0, 1) := by decide +kernel
theorem dX11_drawn_45 : decode cX11_drawn 45 = .ok (.getfield 28, 3) := by decide +kernel
theorem dX11_drawn_48 : decode cX11_drawn 48 = .ok (.getfield 205, 3) := by decide +kernel
theorem dX11_drawn_51 : decode cX11_drawn 51 = .ok (.sipush 1000, 3) := by decide +kernel
theorem dX11_drawn_54 : decode cX11_drawn 54 = .ok (.if_icmp .ge 20, 3) := by decide +kernel
theorem dX11_drawn_57 : decode cX11_drawn 57 = .ok (.aload_n 0, 1) := by decide +kernel
theorem dX11_drawn_58 : decode cX11_drawn 58 = .ok (.getfield 28, 3) := by decide +kernel
theorem dX11_drawn_61 : decode cX11_drawn 61 = .ok (.iload 4, 2) := by decide +kernel
theorem dX11_drawn_63 : decode cX11_drawn 63 = .ok (.invokevirtual 360, 3) := by decide +kernel
theorem dX11_drawn_66 : decode cX11_drawn 66 = .ok (.istore 4, 2) := by decide +kernel
theorem dX11_drawn_68 : decode cX11_drawn 68 = .ok (.iinc 5 1, 3) := by decide +kernel
theorem dX11_drawn_71 : decode cX11_drawn 71 = .ok (.goto (-33), 3) := by decide +kernel
theorem dX11_drawn_74 : decode cX11_drawn 74 = .ok (.aload_n 0, 1) := by decide +kernel
theorem dX11_drawn_75 : decode cX11_drawn 75 = .ok (.aload_n 0, 1) := by decide +kernel
theorem dX11_drawn_76 : decode cX11_drawn 76 = .ok (.getfield 28, 3) := by decide +kernel
theorem dX11_drawn_79 : decode cX11_drawn 79 = .ok (.getfield 205, 3) := by decide +kernel
theorem dX11_drawn_82 : decode cX11_drawn 82 = .ok (.iload_n 3, 1) := by decide +kernel
theorem dX11_drawn_83 : decode cX11_drawn 83 = .ok (.isub, 1) := by decide +kernel
theorem dX11_drawn_84 : decode cX11_drawn 84 = .ok (.invokevirtual 259, 3) := by decide +kernel
theorem dX11_drawn_87 : decode cX11_drawn 87 = .ok (.ireturn, 1) := by decide +kernel
def fX11_drawn_74 (N n : Nat) (f : zF) (a0 : Nat) (a3 : Int32) : Option (zF × Int32) :=
    ((zgR n f 11 a0 2).bind fun x6 => ((zgI n f 8 x6 1).bind fun x7 => ((zck n f 11 a0).bind fun _ => (zbd (fX11_keepIfGone N n f a0 (x7 - a3)) fun f9 x8 => some (f9, x8)))))
set_option maxRecDepth 100000 in
set_option maxHeartbeats 4000000 in
theorem gX11_drawn_74 (l : Launch) {G : zG} {p : Program} {e : Env} {s : State} {m : MethodId} {args : Array Value} {below : List Frame} {meth : Method} {c : Code} {N n : Nat} {f9 : zF} {r : Int32} (B : zB G p s m args meth c RX11 cX11_drawn 6 (some .int)) : ∀ (f : zF) (a0 : Nat) (a3 : Int32) (H : Heap) (locs : List Loc) (ls : Array Slot), fX11_drawn_74 N n f a0 a3 = some (f9, r) → zS G n f H locs → lv_has ls 6 [(0, zr G a0), (3, .int a3)] → W p l e (zrm 5) s m args below meth c H locs 0 0 (MQ below (zQc G n f9 (some (.int r))) args s 0 0 (zA G)) (F0 m 74 ls []) := by
  have he := B.1
  have hb := B.2.1
  intro f a0 a3 H locs ls h hS hl
  unfold fX11_drawn_74 at h
  refine z_aload_n he hb dX11_drawn_74 rfl (lv_at hl 0 rfl) (zref_r _ _) ?_
  refine z_aload_n he hb dX11_drawn_75 rfl (lv_at hl 0 rfl) (zref_r _ _) ?_
  obtain ⟨x6, hx, h⟩ := zob h
  refine z_getR (ci := 11) (T := TX11) (N := 14) (j := 2) B hS hx rfl zin_X11 (by decide) zk_510 dX11_drawn_76 ?_
  obtain ⟨x7, hx, h⟩ := zob h
  refine z_getI (ci := 8) (T := TX8) (N := 9) (j := 1) B hS hx rfl zin_X8 (by decide) zk_253 dX11_drawn_79 ?_
  refine lv_iload_n he hb dX11_drawn_82 rfl (lv_at hl 1 rfl) ?_
  refine lv_isub he hb dX11_drawn_83 ?_
  obtain ⟨_, hc, h⟩ := zob h
  obtain ⟨f9, x8, hx, h⟩ := zbd_i h
  refine z_callV (ci := 11) (T := TX11) (N := 14) (rest := []) B hS (mX11_keepIfGone l G hx) zy_X11_keepIfGone zk_897 (by decide) hc rfl rfl hl rfl (Nat.le_of_ble_eq_true rfl) dX11_drawn_84 (kk := (fun H locs hS => ?_))
  obtain ⟨rfl, rfl⟩ := Prod.mk.inj (Option.some.inj h)
  exact z_iret B hS dX11_drawn_87
def fX11_drawn_38 (N n : Nat) : Nat → zF → Nat → Int32 → Int32 → Int32 → Int32 → Option (zF × Int32)
  | 0, _, _, _, _, _, _ => none
  | k + 1, f, a0, a1, a3, a4, a5 =>
    (if a1 ≤ a5 then (fX11_drawn_74 N n f a0 a3) else ((zgR n f 11 a0 2).bind fun x10 => ((zgI n f 8 x10 1).bind fun x11 => (if (1000 : Int32) ≤ x11 then (fX11_drawn_74 N n f a0 a3) else ((zgR n f 11 a0 2).bind fun x12 => ((zck n f 8 x12).bind fun _ => (zbd (fX8_goDrawnHour N n f x12 a4) fun f14 x13 => (fX11_drawn_38 N n k f14 a0 a1 a3 x13 (a5 + 1)))))))))
set_option maxRecDepth 100000 in
set_option maxHeartbeats 4000000 in
theorem gX11_drawn_38 (l : Launch) {G : zG} {p : Program} {e : Env} {s : State} {m : MethodId} {args : Array Value} {below : List Frame} {meth : Method} {c : Code} {N n : Nat} {f9 : zF} {r : Int32} (B : zB G p s m args meth c RX11 cX11_drawn 6 (some .int)) : ∀ (k : Nat), ∀ (f : zF) (a0 : Nat) (a1 : Int32) (a3 : Int32) (a4 : Int32) (a5 : Int32) (H : Heap) (locs : List Loc) (ls : Array Slot), fX11_drawn_38 N n k f a0 a1 a3 a4 a5 = some (f9, r) → zS G n f H locs → lv_has ls 6 [(0, zr G a0), (1, .int a1), (3, .int a3), (4, .int a4), (5, .int a5)] → W p l e (zrm 5) s m args below meth c H locs 0 0 (MQ below (zQc G n f9 (some (.int r))) args s 0 0 (zA G)) (F0 m 38 ls []) := by
  have he := B.1
  have hb := B.2.1
  intro k
  induction k with
  | zero =>
    intro f a0 a1 a3 a4 a5 H locs ls h
    unfold fX11_drawn_38 at h
    cases h
  | succ k ih =>
    intro f a0 a1 a3 a4 a5 H locs ls h hS hl
    unfold fX11_drawn_38 at h
    refine lv_iload he hb dX11_drawn_38 (lv_at hl 4 rfl) ?_
    refine lv_iload_n he hb dX11_drawn_40 rfl (lv_at hl 1 rfl) ?_
    refine lv_icmp_ge (tgt := 74) he hb dX11_drawn_41 (by decide) (fun hc => ?_) (fun hc => ?_)
    · rw [if_pos hc] at h
      exact gX11_drawn_74 l B _ _ _ _ _ _ h hS (lv_sub hl [0, 2] rfl)
    · rw [if_neg hc] at h
      refine z_aload_n he hb dX11_drawn_44 rfl (lv_at hl 0 rfl) (zref_r _ _) ?_
      obtain ⟨x10, hx, h⟩ := zob h
      refine z_getR (ci := 11) (T := TX11) (N := 14) (j := 2) B hS hx rfl zin_X11 (by decide) zk_510 dX11_drawn_45 ?_
      obtain ⟨x11, hx, h⟩ := zob h
      refine z_getI (ci := 8) (T := TX8) (N := 9) (j := 1) B hS hx rfl zin_X8 (by decide) zk_253 dX11_drawn_48 ?_
      refine lv_sipush (v := (1000 : Int32)) he hb dX11_drawn_51 (by decide) ?_
      refine lv_icmp_ge (tgt := 74) he hb dX11_drawn_54 (by decide) (fun hc => ?_) (fun hc => ?_)
      · rw [if_pos hc] at h
        exact gX11_drawn_74 l B _ _ _ _ _ _ h hS (lv_sub hl [0, 2] rfl)
      · rw [if_neg hc] at h
        refine z_aload_n he hb dX11_drawn_57 rfl (lv_at hl 0 rfl) (zref_r _ _) ?_
        obtain ⟨x12, hx, h⟩ := zob h
        refine z_getR (ci := 11) (T := TX11) (N := 14) (j := 2) B hS hx rfl zin_X11 (by decide) zk_510 dX11_drawn_58 ?_
        refine lv_iload he hb dX11_drawn_61 (lv_at hl 3 rfl) ?_
        obtain ⟨_, hc, h⟩ := zob h
        obtain ⟨f14, x13, hx, h⟩ := zbd_i h
        refine z_callV (ci := 8) (T := TX8) (N := 9) (rest := []) B hS (mX8_goDrawnHour l G hx) zy_X8_goDrawnHour zk_1056 (by decide) hc rfl rfl hl rfl (Nat.le_of_ble_eq_true rfl) dX11_drawn_63 (kk := (fun H locs hS => ?_))
        refine lv_istore (lv' := [(4, _), (0, _), (1, _), (3, _), (5, _)]) he hb dX11_drawn_66 hl (by decide) rfl (fun ls hl => ?_)
        refine lv_iinc (v := (a5 + 1)) (lv' := [(5, _), (4, _), (0, _), (1, _), (3, _)]) he hb dX11_drawn_68 hl (k := 4) rfl rfl (by decide) rfl (fun ls hl => ?_)
        refine lv_goto (tgt := 38) he hb dX11_drawn_71 (by decide) ?_
        exact ih _ _ _ _ _ _ _ _ _ h hS (lv_sub hl [2, 3, 4, 1, 0] rfl)
def fX11_drawn (N n : Nat) (f : zF) (a0 : Nat) (a1 : Int32) (a2 : Int32) : Option (zF × Int32) :=
    (if a1 < (1 : Int32) then some (f, (-1 : Int32)) else (if a1 ≤ (60 : Int32) then ((zgR n f 11 a0 2).bind fun x1 => ((zgI n f 8 x1 1).bind fun x2 => ((zgR n f 11 a0 8).bind fun x3 => ((zgR n f 11 a0 2).bind fun x4 => ((zck n f 10 x3).bind fun _ => ((fX10_hold N n f x3 x4).bind fun f5 => (fX11_drawn_38 N n N f5 a0 a1 x2 a2 (0 : Int32)))))))) else some (f, (-1 : Int32))))
set_option maxRecDepth 100000 in
set_option maxHeartbeats 4000000 in
theorem mX11_drawn (l : Launch) (G : zG) {N n : Nat} {f : zF} {f9 : zF} {r : Int32} {a0 : Nat} {a1 : Int32} {a2 : Int32} (h : fX11_drawn N n f a0 a1 a2 = some (f9, r)) : zM l G yX11_drawn cX11_drawn 6 (some .int) 5 n f [zr G a0, .int a1, .int a2] (some (.int r)) f9 := by
  refine zM.of (by decide) (Nat.le_of_ble_eq_true rfl) ?_
  intro p e s m args below meth c locs ls B hS hl
  have he := B.1
  have hb := B.2.1
  have hl : lv_has ls 6 [(0, zr G a0), (1, .int a1), (2, .int a2)] := hl
  unfold fX11_drawn at h
  generalize s.heap = H at hS ⊢
  refine lv_iload_n he hb dX11_drawn_0 rfl (lv_at hl 1 rfl) ?_
  refine lv_iconst (v := (1 : Int32)) he hb dX11_drawn_1 (by decide) ?_
  refine lv_icmp_lt (tgt := 11) he hb dX11_drawn_2 (by decide) (fun hc => ?_) (fun hc => ?_)
  · rw [if_pos hc] at h
    refine lv_iconst (v := (-1 : Int32)) he hb dX11_drawn_11 (by decide) ?_
    obtain ⟨rfl, rfl⟩ := Prod.mk.inj (Option.some.inj h)
    exact z_iret B hS dX11_drawn_12
  · rw [if_neg hc] at h
    refine lv_iload_n he hb dX11_drawn_5 rfl (lv_at hl 1 rfl) ?_
    refine lv_bipush (v := (60 : Int32)) he hb dX11_drawn_6 (by decide) ?_
    refine lv_icmp_le (tgt := 13) he hb dX11_drawn_8 (by decide) (fun hc => ?_) (fun hc => ?_)
    · rw [if_pos hc] at h
      refine z_aload_n he hb dX11_drawn_13 rfl (lv_at hl 0 rfl) (zref_r _ _) ?_
      obtain ⟨x1, hx, h⟩ := zob h
      refine z_getR (ci := 11) (T := TX11) (N := 14) (j := 2) B hS hx rfl zin_X11 (by decide) zk_510 dX11_drawn_14 ?_
      obtain ⟨x2, hx, h⟩ := zob h
      refine z_getI (ci := 8) (T := TX8) (N := 9) (j := 1) B hS hx rfl zin_X8 (by decide) zk_253 dX11_drawn_17 ?_
      refine lv_istore_n (lv' := [(3, _), (0, _), (1, _), (2, _)]) he hb dX11_drawn_20 rfl hl (by decide) rfl (fun ls hl => ?_)
      refine lv_iload_n he hb dX11_drawn_21 rfl (lv_at hl 3 rfl) ?_
      refine lv_istore (lv' := [(4, _), (3, _), (0, _), (1, _), (2, _)]) he hb dX11_drawn_22 hl (by decide) rfl (fun ls hl => ?_)
      refine z_aload_n he hb dX11_drawn_24 rfl (lv_at hl 2 rfl) (zref_r _ _) ?_
      obtain ⟨x3, hx, h⟩ := zob h
      refine z_getR (ci := 11) (T := TX11) (N := 14) (j := 8) B hS hx rfl zin_X11 (by decide) zk_516 dX11_drawn_25 ?_
      refine z_aload_n he hb dX11_drawn_28 rfl (lv_at hl 2 rfl) (zref_r _ _) ?_
      obtain ⟨x4, hx, h⟩ := zob h
      refine z_getR (ci := 11) (T := TX11) (N := 14) (j := 2) B hS hx rfl zin_X11 (by decide) zk_510 dX11_drawn_29 ?_
      obtain ⟨_, hc, h⟩ := zob h
      obtain ⟨f5, hx, h⟩ := zob h
      refine z_callV (ci := 10) (T := TX10) (N := 3) (rest := []) B hS (mX10_hold l G hx) zy_X10_hold zk_825 (by decide) hc rfl rfl hl rfl (Nat.le_of_ble_eq_true rfl) dX11_drawn_32 (kk := (fun H locs hS => ?_))
      refine lv_iconst (v := (0 : Int32)) he hb dX11_drawn_35 (by decide) ?_
      refine lv_istore (lv' := [(5, _), (4, _), (3, _), (0, _), (1, _), (2, _)]) he hb dX11_drawn_36 hl (by decide) rfl (fun ls hl => ?_)
      exact gX11_drawn_38 l B N _ _ _ _ _ _ _ _ _ h hS (lv_sub hl [3, 4, 2, 1, 0] rfl)
    · rw [if_neg hc] at h
      refine lv_iconst (v := (-1 : Int32)) he hb dX11_drawn_11 (by decide) ?_
      obtain ⟨rfl, rfl⟩ := Prod.mk.inj (Option.some.inj h)
      exact z_iret B hS dX11_drawn_12
theorem dX11_goesDrawn_0 : decode cX11_goesDrawn 0 = .ok (.iload_n 2, 1) := by decide +kernel
theorem dX11_goesDrawn_1 : decode cX11_goesDrawn 1 = .ok (.istore_n 3, 1) := by decide +kernel
theorem dX11_goesDrawn_2 : decode cX11_goesDrawn 2 = .ok (.aload_n 0, 1) := by decide +kernel
theorem dX11_goesDrawn_3 : decode cX11_goesDrawn 3 = .ok (.getfield 32, 3) := by decide +kernel
theorem dX11_goesDrawn_6 : decode cX11_goesDrawn 6 = .ok (.aload_n 0, 1) := by decide +kernel
theorem dX11_goesDrawn_7 : decode cX11_goesDrawn 7 = .ok (.getfield 28, 3) := by decide +kernel
theorem dX11_goesDrawn_10 : decode cX11_goesDrawn 10 = .ok (.invokevirtual 126, 3) := by decide +kernel
theorem dX11_goesDrawn_13 : decode cX11_goesDrawn 13 = .ok (.iconst 0, 1) := by decide +kernel
theorem dX11_goesDrawn_14 : decode cX11_goesDrawn 14 = .ok (.istore 4, 2) := by decide +kernel
theorem dX11_goesDrawn_16 : decode cX11_goesDrawn 16 = .ok (.iload 4, 2) := by decide +kernel
theorem dX11_goesDrawn_18 : decode cX11_goesDrawn 18 = .ok (.bipush 20, 2) := by decide +kernel
theorem dX11_goesDrawn_20 : decode cX11_goesDrawn 20 = .ok (.if_icmp .ge 58, 3) := by decide +kernel
theorem dX11_goesDrawn_23 : decode cX11_goesDrawn 23 = .ok (.aload_n 0, 1) := by decide +kernel
theorem dX11_goesDrawn_24 : decode cX11_goesDrawn 24 = .ok (.getfield 32, 3) := by decide +kernel
theorem dX11_goesDrawn_27 : decode cX11_goesDrawn 27 = .ok (.getfield 205, 3) := by decide +kernel
theorem dX11_goesDrawn_30 : decode cX11_goesDrawn 30 = .ok (.sipush 1000, 3) := by decide +kernel
theorem dX11_goesDrawn_33 : decode cX11_goesDrawn 33 = .ok (.if_icmp .ge 45, 3) := by decide +kernel
theorem dX11_goesDrawn_36 : decode cX11_goesDrawn 36 = .ok (.aload_n 0, 1) := by decide +kernel
theorem dX11_goesDrawn_37 : decode cX11_goesDrawn 37 = .ok (.getfield 32, 3) := by decide +kernel
theorem dX11_goesDrawn_40 : decode cX11_goesDrawn 40 = .ok (.iload_n 3, 1) := by decide +kernel
theorem dX11_goesDrawn_41 : decode cX11_goesDrawn 41 = .ok (.invokevirtual 360, 3) := by decide +kernel
theorem dX11_goesDrawn_44 : decode cX11_goesDrawn 44 = .ok (.istore_n 3, 1) := by decide +kernel
theorem dX11_goesDrawn_45 : decode cX11_goesDrawn 45 = .ok (.aload_n 0, 1) := by decide +kernel
theorem dX11_goesDrawn_46 : decode cX11_goesDrawn 46 = .ok (.getfield 32, 3) := by decide +kernel
theorem dX11_goesDrawn_49 : decode cX11_goesDrawn 49 = .ok (.getfield 160, 3) := by decide +kernel
theorem dX11_goesDrawn_52 : decode cX11_goesDrawn 52 = .ok (.iload_n 1, 1) := by decide +kernel
theorem dX11_goesDrawn_53 : decode cX11_goesDrawn 53 = .ok (.invokestatic 147, 3) := by decide +kernel
theorem dX11_goesDrawn_56 : decode cX11_goesDrawn 56 = .ok (.aload_n 0, 1) := by decide +kernel
theorem dX11_goesDrawn_57 : decode cX11_goesDrawn 57 = .ok (.getfield 28, 3) := by decide +kernel
theorem dX11_goesDrawn_60 : decode cX11_goesDrawn 60 = .ok (.getfield 160, 3) := by decide +kernel
theorem dX11_goesDrawn_63 : decode cX11_goesDrawn 63 = .ok (.iload_n 1, 1) := by decide +kernel
theorem dX11_goesDrawn_64 : decode cX11_goesDrawn 64 = .ok (.invokestatic 147, 3) := by decide +kernel
theorem dX11_goesDrawn_67 : decode cX11_goesDrawn 67 = .ok (.if_icmp .le 5, 3) := by decide +kernel
theorem dX11_goesDrawn_70 : decode cX11_goesDrawn 70 = .ok (.iconst 1, 1) := by decide +kernel
theorem dX11_goesDrawn_71 : decode cX11_goesDrawn 71 = .ok (.ireturn, 1) := by decide +kernel
theorem dX11_goesDrawn_72 : decode cX11_goesDrawn 72 = .ok (.iinc 4 1, 3) := by decide +kernel
theorem dX11_goesDrawn_75 : decode cX11_goesDrawn 75 = .ok (.goto (-59), 3) := by decide +kernel
theorem dX11_goesDrawn_78 : decode cX11_goesDrawn 78 = .ok (.iconst 0, 1) := by decide +kernel
theorem dX11_goesDrawn_79 : decode cX11_goesDrawn 79 = .ok (.ireturn, 1) := by decide +kernel
def fX11_goesDrawn_16 (N n : Nat) : Nat → zF → Nat → Int32 → Int32 → Int32 → Option (zF × Int32)
  | 0, _, _, _, _, _ => none
  | k + 1, f, a0, a1, a3, a4 =>
    (if (20 : Int32) ≤ a4 then ((zbl (0 : Int32)).bind fun y => some (f, y)) else ((zgR n f 11 a0 3).bind fun x4 => ((zgI n f 8 x4 1).bind fun x5 => (if (1000 : Int32) ≤ x5 then ((zbl (0 : Int32)).bind fun y => some (f, y)) else ((zgR n f 11 a0 3).bind fun x6 => ((zck n f 8 x6).bind fun _ => (zbd (fX8_goDrawnHour N n f x6 a3) fun f8 x7 => ((zgR n f8 11 a0 3).bind fun x9 => ((zgR n f8 8 x9 4).bind fun x10 => ((fX11_at N n f8 x10 a1).bind fun x11 => ((zgR n f8 11 a0 2).bind fun x12 => ((zgR n f8 8 x12 4).bind fun x13 => ((fX11_at N n f8 x13 a1).bind fun x14 => (if x11 ≤ x14 then (fX11_goesDrawn_16 N n k f8 a0 a1 x7 (a4 + 1)) else ((zbl (1 : Int32)).bind fun y => some (f8, y))))))))))))))))
set_option maxRecDepth 100000 in
set_option maxHeartbeats 4000000 in
theorem gX11_goesDrawn_16 (l : Launch) {G : zG} {p : Program} {e : Env} {s : State} {m : MethodId} {args : Array Value} {below : List Frame} {meth : Method} {c : Code} {N n : Nat} {f9 : zF} {r : Int32} (B : zB G p s m args meth c RX11 cX11_goesDrawn 5 (some .boolean)) : ∀ (k : Nat), ∀ (f : zF) (a0 : Nat) (a1 : Int32) (a3 : Int32) (a4 : Int32) (H : Heap) (locs : List Loc) (ls : Array Slot), fX11_goesDrawn_16 N n k f a0 a1 a3 a4 = some (f9, r) → zS G n f H locs → lv_has ls 5 [(0, zr G a0), (1, .int a1), (3, .int a3), (4, .int a4)] → W p l e (zrm 5) s m args below meth c H locs 0 0 (MQ below (zQc G n f9 (some (.int r))) args s 0 0 (zA G)) (F0 m 16 ls []) := by
  have he := B.1
  have hb := B.2.1
  intro k
  induction k with
  | zero =>
    intro f a0 a1 a3 a4 H locs ls h
    unfold fX11_goesDrawn_16 at h
    cases h
  | succ k ih =>
    intro f a0 a1 a3 a4 H locs ls h hS hl
    unfold fX11_goesDrawn_16 at h
    refine lv_iload he hb dX11_goesDrawn_16 (lv_at hl 3 rfl) ?_
    refine lv_bipush (v := (20 : Int32)) he hb dX11_goesDrawn_18 (by decide) ?_
    refine lv_icmp_ge (tgt := 78) he hb dX11_goesDrawn_20 (by decide) (fun hc => ?_) (fun hc => ?_)
    · rw [if_pos hc] at h
      refine lv_iconst (v := (0 : Int32)) he hb dX11_goesDrawn_78 (by decide) ?_
      obtain ⟨y, hx, h⟩ := zob h
      obtain ⟨hz, rfl⟩ := zbl_i hx
      obtain ⟨rfl, rfl⟩ := Prod.mk.inj (Option.some.inj h)
      exact z_zret B hS hz dX11_goesDrawn_79
    · rw [if_neg hc] at h
      refine z_aload_n he hb dX11_goesDrawn_23 rfl (lv_at hl 0 rfl) (zref_r _ _) ?_
      obtain ⟨x4, hx, h⟩ := zob h
      refine z_getR (ci := 11) (T := TX11) (N := 14) (j := 3) B hS hx rfl zin_X11 (by decide) zk_511 dX11_goesDrawn_24 ?_
      obtain ⟨x5, hx, h⟩ := zob h
      refine z_getI (ci := 8) (T := TX8) (N := 9) (j := 1) B hS hx rfl zin_X8 (by decide) zk_253 dX11_goesDrawn_27 ?_
      refine lv_sipush (v := (1000 : Int32)) he hb dX11_goesDrawn_30 (by decide) ?_
      refine lv_icmp_ge (tgt := 78) he hb dX11_goesDrawn_33 (by decide) (fun hc => ?_) (fun hc => ?_)
      · rw [if_pos hc] at h
        refine lv_iconst (v := (0 : Int32)) he hb dX11_goesDrawn_78 (by decide) ?_
        obtain ⟨y, hx, h⟩ := zob h
        obtain ⟨hz, rfl⟩ := zbl_i hx
        obtain ⟨rfl, rfl⟩ := Prod.mk.inj (Option.some.inj h)
        exact z_zret B hS hz dX11_goesDrawn_79
      · rw [if_neg hc] at h
        refine z_aload_n he hb dX11_goesDrawn_36 rfl (lv_at hl 0 rfl) (zref_r _ _) ?_
        obtain ⟨x6, hx, h⟩ := zob h
        refine z_getR (ci := 11) (T := TX11) (N := 14) (j := 3) B hS hx rfl zin_X11 (by decide) zk_511 dX11_goesDrawn_37 ?_
        refine lv_iload_n he hb dX11_goesDrawn_40 rfl (lv_at hl 2 rfl) ?_
        obtain ⟨_, hc, h⟩ := zob h
        obtain ⟨f8, x7, hx, h⟩ := zbd_i h
        refine z_callV (ci := 8) (T := TX8) (N := 9) (rest := []) B hS (mX8_goDrawnHour l G hx) zy_X8_goDrawnHour zk_1056 (by decide) hc rfl rfl hl rfl (Nat.le_of_ble_eq_true rfl) dX11_goesDrawn_41 (kk := (fun H locs hS => ?_))
        refine lv_istore_n (lv' := [(3, _), (0, _), (1, _), (4, _)]) he hb dX11_goesDrawn_44 rfl hl (by decide) rfl (fun ls hl => ?_)
        refine z_aload_n he hb dX11_goesDrawn_45 rfl (lv_at hl 1 rfl) (zref_r _ _) ?_
        obtain ⟨x9, hx, h⟩ := zob h
        refine z_getR (ci := 11) (T := TX11) (N := 14) (j := 3) B hS hx rfl zin_X11 (by decide) zk_511 dX11_goesDrawn_46 ?_
        obtain ⟨x10, hx, h⟩ := zob h
        refine z_getR (ci := 8) (T := TX8) (N := 9) (j := 4) B hS hx rfl zin_X8 (by decide) zk_262 dX11_goesDrawn_49 ?_
        refine lv_iload_n he hb dX11_goesDrawn_52 rfl (lv_at hl 2 rfl) ?_
        obtain ⟨x11, hx, h⟩ := zob h
        refine z_callS (rest := []) B hS (mX11_at l G hx) zy_X11_at zk_755 (by decide) rfl hl rfl (Nat.le_of_ble_eq_true rfl) dX11_goesDrawn_53 (kk := (fun H locs hS => ?_))
        refine z_aload_n he hb dX11_goesDrawn_56 rfl (lv_at hl 1 rfl) (zref_r _ _) ?_
        obtain ⟨x12, hx, h⟩ := zob h
        refine z_getR (ci := 11) (T := TX11) (N := 14) (j := 2) B hS hx rfl zin_X11 (by decide) zk_510 dX11_goesDrawn_57 ?_
        obtain ⟨x13, hx, h⟩ := zob h
        refine z_getR (ci := 8) (T := TX8) (N := 9) (j := 4) B hS hx rfl zin_X8 (by decide) zk_262 dX11_goesDrawn_60 ?_
        refine lv_iload_n he hb dX11_goesDrawn_63 rfl (lv_at hl 2 rfl) ?_
        obtain ⟨x14, hx, h⟩ := zob h
        refine z_callS (rest := [_]) B hS (mX11_at l G hx) zy_X11_at zk_755 (by decide) rfl hl rfl (Nat.le_of_ble_eq_true rfl) dX11_goesDrawn_64 (kk := (fun H locs hS => ?_))
        refine lv_icmp_le (tgt := 72) he hb dX11_goesDrawn_67 (by decide) (fun hc => ?_) (fun hc => ?_)
        · rw [if_pos hc] at h
          refine lv_iinc (v := (a4 + 1)) (lv' := [(4, _), (3, _), (0, _), (1, _)]) he hb dX11_goesDrawn_72 hl (k := 3) rfl rfl (by decide) rfl (fun ls hl => ?_)
          refine lv_goto (tgt := 16) he hb dX11_goesDrawn_75 (by decide) ?_
          exact ih _ _ _ _ _ _ _ _ h hS (lv_sub hl [2, 3, 1, 0] rfl)
        · rw [if_neg hc] at h
          refine lv_iconst (v := (1 : Int32)) he hb dX11_goesDrawn_70 (by decide) ?_
          obtain ⟨y, hx, h⟩ := zob h
          obtain ⟨hz, rfl⟩ := zbl_i hx
          obtain ⟨rfl, rfl⟩ := Prod.mk.inj (Option.some.inj h)
          exact z_zret B hS hz dX11_goesDrawn_71
def fX11_goesDrawn (N n : Nat) (f : zF) (a0 : Nat) (a1 : Int32) (a2 : Int32) : Option (zF × Int32) :=
    ((zgR n f 11 a0 3).bind fun x1 => ((zgR n f 11 a0 2).bind fun x2 => ((zck n f 8 x1).bind fun _ => ((fX8_copyFrom N n f x1 x2).bind fun f3 => (fX11_goesDrawn_16 N n N f3 a0 a1 a2 (0 : Int32))))))
set_option maxRecDepth 100000 in
set_option maxHeartbeats 4000000 in
theorem mX11_goesDrawn (l : Launch) (G : zG) {N n : Nat} {f : zF} {f9 : zF} {r : Int32} {a0 : Nat} {a1 : Int32} {a2 : Int32} (h : fX11_goesDrawn N n f a0 a1 a2 = some (f9, r)) : zM l G yX11_goesDrawn cX11_goesDrawn 5 (some .boolean) 5 n f [zr G a0, .int a1, .int a2] (some (.int r)) f9 := by
  refine zM.of (by decide) (Nat.le_of_ble_eq_true rfl) ?_
  intro p e s m args below meth c locs ls B hS hl
  have he := B.1
  have hb := B.2.1
  have hl : lv_has ls 5 [(0, zr G a0), (1, .int a1), (2, .int a2)] := hl
  unfold fX11_goesDrawn at h
  generalize s.heap = H at hS ⊢
  refine lv_iload_n he hb dX11_goesDrawn_0 rfl (lv_at hl 2 rfl) ?_
  refine lv_istore_n (lv' := [(3, _), (0, _), (1, _), (2, _)]) he hb dX11_goesDrawn_1 rfl hl (by decide) rfl (fun ls hl => ?_)
  refine z_aload_n he hb dX11_goesDrawn_2 rfl (lv_at hl 1 rfl) (zref_r _ _) ?_
  obtain ⟨x1, hx, h⟩ := zob h
  refine z_getR (ci := 11) (T := TX11) (N := 14) (j := 3) B hS hx rfl zin_X11 (by decide) zk_511 dX11_goesDrawn_3 ?_
  refine z_aload_n he hb dX11_goesDrawn_6 rfl (lv_at hl 1 rfl) (zref_r _ _) ?_
  obtain ⟨x2, hx, h⟩ := zob h
  refine z_getR (ci := 11) (T := TX11) (N := 14) (j := 2) B hS hx rfl zin_X11 (by decide) zk_510 dX11_goesDrawn_7 ?_
  obtain ⟨_, hc, h⟩ := zob h
  obtain ⟨f3, hx, h⟩ := zob h
  refine z_callV (ci := 8) (T := TX8) (N := 9) (rest := []) B hS (mX8_copyFrom l G hx) zy_X8_copyFrom zk_730 (by decide) hc rfl rfl hl rfl (Nat.le_of_ble_eq_true rfl) dX11_goesDrawn_10 (kk := (fun H locs hS => ?_))
  refine lv_iconst (v := (0 : Int32)) he hb dX11_goesDrawn_13 (by decide) ?_
  refine lv_istore (lv' := [(4, _), (3, _), (0, _), (1, _), (2, _)]) he hb dX11_goesDrawn_14 hl (by decide) rfl (fun ls hl => ?_)
  exact gX11_goesDrawn_16 l B N _ _ _ _ _ _ _ _ h hS (lv_sub hl [2, 3, 1, 0] rfl)
theorem dX11_odds_0 : decode cX11_odds 0 = .ok (.aload_n 0, 1) := by decide +kernel
theorem dX11_odds_1 : decode cX11_odds 1 = .ok (.getfield 19, 3) := by decide +kernel
theorem dX11_odds_4 : decode cX11_odds 4 = .ok (.iload_n 1, 1) := by decide +kernel
theorem dX11_odds_5 : decode cX11_odds 5 = .ok (.invokevirtual 133, 3) := by decide +kernel
theorem dX11_odds_8 : decode cX11_odds 8 = .ok (.ifCond .eq 14, 3) := by decide +kernel
theorem dX11_odds_11 : decode cX11_odds 11 = .ok (.iload_n 2, 1) := by decide +kernel
theorem dX11_odds_12 : decode cX11_odds 12 = .ok (.iconst 1, 1) := by decide +kernel
theorem dX11_odds_13 : decode cX11_odds 13 = .ok (.if_icmp .lt 9, 3) := by decide +kernel
theorem dX11_odds_16 : decode cX11_odds 16 = .ok (.iload_n 2, 1) := by decide +kernel
theorem dX11_odds_17 : decode cX11_odds 17 = .ok (.bipush 30, 2) := by decide +kernel
theorem dX11_odds_19 : decode cX11_odds 19 = .ok (.if_icmp .le 5, 3) := by decide +kernel
theorem dX11_odds_22 : decode cX11_odds 22 = .ok (.iconst (-1), 1) := by decide +kernel
theorem dX11_odds_23 : decode cX11_odds 23 = .ok (.ireturn, 1) := by decide +kernel
theorem dX11_odds_24 : decode cX11_odds 24 = .ok (.iconst 0, 1) := by decide +kernel
theorem dX11_odds_25 : decode cX11_odds 25 = .ok (.istore 4, 2) := by decide +kernel
theorem dX11_odds_27 : decode cX11_odds 27 = .ok (.iconst 0, 1) := by decide +kernel
theorem dX11_odds_28 : decode cX11_odds 28 = .ok (.istore 5, 2) := by decide +kernel
theorem dX11_odds_30 : decode cX11_odds 30 = .ok (.iload 5, 2) := by decide +kernel
theorem dX11_odds_32 : decode cX11_odds 32 = .ok (.iload_n 2, 1) := by decide +kernel
theorem dX11_odds_33 : decode cX11_odds 33 = .ok (.if_icmp .ge 24, 3) := by decide +kernel
theorem dX11_odds_36 : decode cX11_odds 36 = .ok (.aload_n 0, 1) := by decide +kernel
theorem dX11_odds_37 : decode cX11_odds 37 = .ok (.iload_n 1, 1) := by decide +kernel
theorem dX11_odds_38 : decode cX11_odds 38 = .ok (.iload_n 3, 1) := by decide +kernel
theorem dX11_odds_39 : decode cX11_odds 39 = .ok (.iload 5, 2) := by decide +kernel
theorem dX11_odds_41 : decode cX11_odds 41 = .ok (.iadd, 1) := by decide +kernel
theorem dX11_odds_42 : decode cX11_odds 42 = .ok (.invokevirtual 363, 3) := by decide +kernel
theorem dX11_odds_45 : decode cX11_odds 45 = .ok (.ifCond .eq 6, 3) := by decide +kernel
theorem dX11_odds_48 : decode cX11_odds 48 = .ok (.iinc 4 1, 3) := by decide +kernel
theorem dX11_odds_51 : decode cX11_odds 51 = .ok (.iinc 5 1, 3) := by decide +kernel
theorem dX11_odds_54 : decode cX11_odds 54 = .ok (.goto (-24), 3) := by decide +kernel
theorem dX11_odds_57 : decode cX11_odds 57 = .ok (.iload 4, 2) := by decide +kernel
theorem dX11_odds_59 : decode cX11_odds 59 = .ok (.ireturn, 1) := by decide +kernel
def fX11_odds_51 (r30 : zF → Nat → Int32 → Int32 → Int32 → Int32 → Int32 → Option (zF × Int32)) (N n : Nat) (f : zF) (a0 : Nat) (a1 : Int32) (a2 : Int32) (a3 : Int32) (a4 : Int32) (a5 : Int32) : Option (zF × Int32) :=
    (r30 f a0 a1 a2 a3 a4 (a5 + 1))
set_option maxRecDepth 100000 in
set_option maxHeartbeats 4000000 in
theorem gX11_odds_51 (l : Launch) {G : zG} {p : Program} {e : Env} {s : State} {m : MethodId} {args : Array Value} {below : List Frame} {meth : Method} {c : Code} {N n : Nat} {f9 : zF} {r : Int32} {r30 : zF → Nat → Int32 → Int32 → Int32 → Int32 → Int32 → Option (zF × Int32)} (B : zB G p s m args meth c RX11 cX11_odds 6 (some .int)) (hr30 : ∀ (f : zF) (a0 : Nat) (a1 : Int32) (a2 : Int32) (a3 : Int32) (a4 : Int32) (a5 : Int32) (H : Heap) (locs : List Loc) (ls : Array Slot), r30 f a0 a1 a2 a3 a4 a5 = some (f9, r) → zS G n f H locs → lv_has ls 6 [(0, zr G a0), (1, .int a1), (2, .int a2), (3, .int a3), (4, .int a4), (5, .int a5)] → W p l e (zrm 6) s m args below meth c H locs 0 0 (MQ below (zQc G n f9 (some (.int r))) args s 0 0 (zA G)) (F0 m 30 ls [])) : ∀ (f : zF) (a0 : Nat) (a1 : Int32) (a2 : Int32) (a3 : Int32) (a4 : Int32) (a5 : Int32) (H : Heap) (locs : List Loc) (ls : Array Slot), fX11_odds_51 r30 N n f a0 a1 a2 a3 a4 a5 = some (f9, r) → zS G n f H locs → lv_has ls 6 [(0, zr G a0), (1, .int a1), (2, .int a2), (3, .int a3), (4, .int a4), (5, .int a5)] → W p l e (zrm 6) s m args below meth c H locs 0 0 (MQ below (zQc G n f9 (some (.int r))) args s 0 0 (zA G)) (F0 m 51 ls []) := by
  have he := B.1
  have hb := B.2.1
  intro f a0 a1 a2 a3 a4 a5 H locs ls h hS hl
  unfold fX11_odds_51 at h
  refine lv_iinc (v := (a5 + 1)) (lv' := [(5, _), (0, _), (1, _), (2, _), (3, _), (4, _)]) he hb dX11_odds_51 hl (k := 5) rfl rfl (by decide) rfl (fun ls hl => ?_)
  refine lv_goto (tgt := 30) he hb dX11_odds_54 (by decide) ?_
  exact hr30 _ _ _ _ _ _ _ _ _ _ h hS (lv_sub hl [1, 2, 3, 4, 5, 0] rfl)
def fX11_odds_30 (N n : Nat) : Nat → zF → Nat → Int32 → Int32 → Int32 → Int32 → Int32 → Option (zF × Int32)
  | 0, _, _, _, _, _, _, _ => none
  | k + 1, f, a0, a1, a2, a3, a4, a5 =>
    (if a2 ≤ a5 then some (f, a4) else ((zck n f 11 a0).bind fun _ => (zbd (fX11_goesDrawn N n f a0 a1 (a3 + a5)) fun f4 x3 => (if x3 = 0 then (fX11_odds_51 (fX11_odds_30 N n k) N n f4 a0 a1 a2 a3 a4 a5) else (fX11_odds_51 (fX11_odds_30 N n k) N n f4 a0 a1 a2 a3 (a4 + 1) a5)))))
set_option maxRecDepth 100000 in
set_option maxHeartbeats 4000000 in
theorem gX11_odds_30 (l : Launch) {G : zG} {p : Program} {e : Env} {s : State} {m : MethodId} {args : Array Value} {below : List Frame} {meth : Method} {c : Code} {N n : Nat} {f9 : zF} {r : Int32} (B : zB G p s m args meth c RX11 cX11_odds 6 (some .int)) : ∀ (k : Nat), ∀ (f : zF) (a0 : Nat) (a1 : Int32) (a2 : Int32) (a3 : Int32) (a4 : Int32) (a5 : Int32) (H : Heap) (locs : List Loc) (ls : Array Slot), fX11_odds_30 N n k f a0 a1 a2 a3 a4 a5 = some (f9, r) → zS G n f H locs → lv_has ls 6 [(0, zr G a0), (1, .int a1), (2, .int a2), (3, .int a3), (4, .int a4), (5, .int a5)] → W p l e (zrm 6) s m args below meth c H locs 0 0 (MQ below (zQc G n f9 (some (.int r))) args s 0 0 (zA G)) (F0 m 30 ls []) := by
  have he := B.1
  have hb := B.2.1
  intro k
  induction k with
  | zero =>
    intro f a0 a1 a2 a3 a4 a5 H locs ls h
    unfold fX11_odds_30 at h
    cases h
  | succ k ih =>
    intro f a0 a1 a2 a3 a4 a5 H locs ls h hS hl
    unfold fX11_odds_30 at h
    refine lv_iload he hb dX11_odds_30 (lv_at hl 5 rfl) ?_
    refine lv_iload_n he hb dX11_odds_32 rfl (lv_at hl 2 rfl) ?_
    refine lv_icmp_ge (tgt := 57) he hb dX11_odds_33 (by decide) (fun hc => ?_) (fun hc => ?_)
    · rw [if_pos hc] at h
      refine lv_iload he hb dX11_odds_57 (lv_at hl 4 rfl) ?_
      obtain ⟨rfl, rfl⟩ := Prod.mk.inj (Option.some.inj h)
      exact z_iret B hS dX11_odds_59
    · rw [if_neg hc] at h
      refine z_aload_n he hb dX11_odds_36 rfl (lv_at hl 0 rfl) (zref_r _ _) ?_
      refine lv_iload_n he hb dX11_odds_37 rfl (lv_at hl 1 rfl) ?_
      refine lv_iload_n he hb dX11_odds_38 rfl (lv_at hl 3 rfl) ?_
      refine lv_iload he hb dX11_odds_39 (lv_at hl 5 rfl) ?_
      refine lv_iadd he hb dX11_odds_41 ?_
      obtain ⟨_, hc, h⟩ := zob h
      obtain ⟨f4, x3, hx, h⟩ := zbd_i h
      refine z_callV (ci := 11) (T := TX11) (N := 14) (rest := []) B hS (mX11_goesDrawn l G hx) zy_X11_goesDrawn zk_1072 (by decide) hc rfl rfl hl rfl (Nat.le_of_ble_eq_true rfl) dX11_odds_42 (kk := (fun H locs hS => ?_))
      refine lv_if_eq (tgt := 51) he hb dX11_odds_45 (by decide) (fun hc => ?_) (fun hc => ?_)
      · rw [if_pos hc] at h
        exact gX11_odds_51 l B ih _ _ _ _ _ _ _ _ _ _ h hS (lv_sub hl [0, 1, 2, 3, 4, 5] rfl)
      · rw [if_neg hc] at h
        refine lv_iinc (v := (a4 + 1)) (lv' := [(4, _), (0, _), (1, _), (2, _), (3, _), (5, _)]) he hb dX11_odds_48 hl (k := 4) rfl rfl (by decide) rfl (fun ls hl => ?_)
        exact gX11_odds_51 l B ih _ _ _ _ _ _ _ _ _ _ h hS (lv_sub hl [1, 2, 3, 4, 0, 5] rfl)
def fX11_odds (N n : Nat) (f : zF) (a0 : Nat) (a1 : Int32) (a2 : Int32) (a3 : Int32) : Option (zF × Int32) :=
    ((zgR n f 11 a0 1).bind fun x1 => ((zck n f 2 x1).bind fun _ => ((fX2_hasFigure N n f x1 a1).bind fun x2 => (if x2 = 0 then some (f, (-1 : Int32)) else (if a2 < (1 : Int32) then some (f, (-1 : Int32)) else (if a2 ≤ (30 : Int32) then (fX11_odds_30 N n N f a0 a1 a2 a3 (0 : Int32) (0 : Int32)) else some (f, (-1 : Int32))))))))
set_option maxRecDepth 100000 in
set_option maxHeartbeats 4000000 in
theorem mX11_odds (l : Launch) (G : zG) {N n : Nat} {f : zF} {f9 : zF} {r : Int32} {a0 : Nat} {a1 : Int32} {a2 : Int32} {a3 : Int32} (h : fX11_odds N n f a0 a1 a2 a3 = some (f9, r)) : zM l G yX11_odds cX11_odds 6 (some .int) 6 n f [zr G a0, .int a1, .int a2, .int a3] (some (.int r)) f9 := by
  refine zM.of (by decide) (Nat.le_of_ble_eq_true rfl) ?_
  intro p e s m args below meth c locs ls B hS hl
  have he := B.1
  have hb := B.2.1
  have hl : lv_has ls 6 [(0, zr G a0), (1, .int a1), (2, .int a2), (3, .int a3)] := hl
  unfold fX11_odds at h
  generalize s.heap = H at hS ⊢
  refine z_aload_n he hb dX11_odds_0 rfl (lv_at hl 0 rfl) (zref_r _ _) ?_
  obtain ⟨x1, hx, h⟩ := zob h
  refine z_getR (ci := 11) (T := TX11) (N := 14) (j := 1) B hS hx rfl zin_X11 (by decide) zk_509 dX11_odds_1 ?_
  refine lv_iload_n he hb dX11_odds_4 rfl (lv_at hl 1 rfl) ?_
  obtain ⟨_, hc, h⟩ := zob h
  obtain ⟨x2, hx, h⟩ := zob h
  refine z_callV (ci := 2) (T := TX2) (N := 15) (rest := []) B hS (mX2_hasFigure l G hx) zy_X2_hasFigure zk_872 (by decide) hc rfl rfl hl rfl (Nat.le_of_ble_eq_true rfl) dX11_odds_5 (kk := (fun H locs hS => ?_))
  refine lv_if_eq (tgt := 22) he hb dX11_odds_8 (by decide) (fun hc => ?_) (fun hc => ?_)
  · rw [if_pos hc] at h
    refine lv_iconst (v := (-1 : Int32)) he hb dX11_odds_22 (by decide) ?_
    obtain ⟨rfl, rfl⟩ := Prod.mk.inj (Option.some.inj h)
    exact z_iret B hS dX11_odds_23
  · rw [if_neg hc] at h
    refine lv_iload_n he hb dX11_odds_11 rfl (lv_at hl 2 rfl) ?_
    refine lv_iconst (v := (1 : Int32)) he hb dX11_odds_12 (by decide) ?_
    refine lv_icmp_lt (tgt := 22) he hb dX11_odds_13 (by decide) (fun hc => ?_) (fun hc => ?_)
    · rw [if_pos hc] at h
      refine lv_iconst (v := (-1 : Int32)) he hb dX11_odds_22 (by decide) ?_
      obtain ⟨rfl, rfl⟩ := Prod.mk.inj (Option.some.inj h)
      exact z_iret B hS dX11_odds_23
    · rw [if_neg hc] at h
      refine lv_iload_n he hb dX11_odds_16 rfl (lv_at hl 2 rfl) ?_
      refine lv_bipush (v := (30 : Int32)) he hb dX11_odds_17 (by decide) ?_
      refine lv_icmp_le (tgt := 24) he hb dX11_odds_19 (by decide) (fun hc => ?_) (fun hc => ?_)
      · rw [if_pos hc] at h
        refine lv_iconst (v := (0 : Int32)) he hb dX11_odds_24 (by decide) ?_
        refine lv_istore (lv' := [(4, _), (0, _), (1, _), (2, _), (3, _)]) he hb dX11_odds_25 hl (by decide) rfl (fun ls hl => ?_)
        refine lv_iconst (v := (0 : Int32)) he hb dX11_odds_27 (by decide) ?_
        refine lv_istore (lv' := [(5, _), (4, _), (0, _), (1, _), (2, _), (3, _)]) he hb dX11_odds_28 hl (by decide) rfl (fun ls hl => ?_)
        exact gX11_odds_30 l B N _ _ _ _ _ _ _ _ _ _ h hS (lv_sub hl [2, 3, 4, 5, 1, 0] rfl)
      · rw [if_neg hc] at h
        refine lv_iconst (v := (-1 : Int32)) he hb dX11_odds_22 (by decide) ?_
        obtain ⟨rfl, rfl⟩ := Prod.mk.inj (Option.some.inj h)
        exact z_iret B hS dX11_odds_23
theorem dX11_book_0 : decode cX11_book 0 = .ok (.iload_n 1, 1) := by decide +kernel
theorem dX11_book_1 : decode cX11_book 1 = .ok (.ifCond .lt 8, 3) := by decide +kernel
theorem dX11_book_4 : decode cX11_book 4 = .ok (.iload_n 1, 1) := by decide +kernel
theorem dX11_book_5 : decode cX11_book 5 = .ok (.iconst 1, 1) := by decide +kernel
theorem dX11_book_6 : decode cX11_book 6 = .ok (.if_icmp .le 7, 3) := by decide +kernel
theorem dX11_book_9 : decode cX11_book 9 = .ok (.sipush (-1000), 3) := by decide +kernel
theorem dX11_book_12 : decode cX11_book 12 = .ok (.ireturn, 1) := by decide +kernel
theorem dX11_book_13 : decode cX11_book 13 = .ok (.aload_n 0, 1) := by decide +kernel
theorem dX11_book_14 : decode cX11_book 14 = .ok (.getfield 56, 3) := by decide +kernel
theorem dX11_book_17 : decode cX11_book 17 = .ok (.invokevirtual 366, 3) := by decide +kernel
theorem dX11_book_20 : decode cX11_book 20 = .ok (.aload_n 0, 1) := by decide +kernel
theorem dX11_book_21 : decode cX11_book 21 = .ok (.getfield 10, 3) := by decide +kernel
theorem dX11_book_24 : decode cX11_book 24 = .ok (.iconst 0, 1) := by decide +kernel
theorem dX11_book_25 : decode cX11_book 25 = .ok (.putfield 102, 3) := by decide +kernel
theorem dX11_book_28 : decode cX11_book 28 = .ok (.aload_n 0, 1) := by decide +kernel
theorem dX11_book_29 : decode cX11_book 29 = .ok (.getfield 94, 3) := by decide +kernel
theorem dX11_book_32 : decode cX11_book 32 = .ok (.aload_n 0, 1) := by decide +kernel
theorem dX11_book_33 : decode cX11_book 33 = .ok (.getfield 10, 3) := by decide +kernel
theorem dX11_book_36 : decode cX11_book 36 = .ok (.getfield 114, 3) := by decide +kernel
theorem dX11_book_39 : decode cX11_book 39 = .ok (.putfield 117, 3) := by decide +kernel
theorem dX11_book_42 : decode cX11_book 42 = .ok (.aload_n 0, 1) := by decide +kernel
theorem dX11_book_43 : decode cX11_book 43 = .ok (.getfield 10, 3) := by decide +kernel
theorem dX11_book_46 : decode cX11_book 46 = .ok (.getfield 114, 3) := by decide +kernel
theorem dX11_book_49 : decode cX11_book 49 = .ok (.ifCond .eq 14, 3) := by decide +kernel
theorem dX11_book_52 : decode cX11_book 52 = .ok (.bipush (-2), 2) := by decide +kernel
theorem dX11_book_54 : decode cX11_book 54 = .ok (.aload_n 0, 1) := by decide +kernel
theorem dX11_book_55 : decode cX11_book 55 = .ok (.getfield 10, 3) := by decide +kernel
theorem dX11_book_58 : decode cX11_book 58 = .ok (.getfield 118, 3) := by decide +kernel
theorem dX11_book_61 : decode cX11_book 61 = .ok (.isub, 1) := by decide +kernel
theorem dX11_book_62 : decode cX11_book 62 = .ok (.ireturn, 1) := by decide +kernel
theorem dX11_book_63 : decode cX11_book 63 = .ok (.iconst 0, 1) := by decide +kernel
theorem dX11_book_64 : decode cX11_book 64 = .ok (.istore_n 2, 1) := by decide +kernel
theorem dX11_book_65 : decode cX11_book 65 = .ok (.iconst 0, 1) := by decide +kernel
theorem dX11_book_66 : decode cX11_book 66 = .ok (.istore_n 3, 1) := by decide +kernel
theorem dX11_book_67 : decode cX11_book 67 = .ok (.aload_n 0, 1) := by decide +kernel
theorem dX11_book_68 : decode cX11_book 68 = .ok (.getfield 32, 3) := by decide +kernel
theorem dX11_book_71 : decode cX11_book 71 = .ok (.aload_n 0, 1) := by decide +kernel
theorem dX11_book_72 : decode cX11_book 72 = .ok (.getfield 28, 3) := by decide +kernel
theorem dX11_book_75 : decode cX11_book 75 = .ok (.invokevirtual 126, 3) := by decide +kernel
theorem dX11_book_78 : decode cX11_book 78 = .ok (.iconst 0, 1) := by decide +kernel
theorem dX11_book_79 : decode cX11_book 79 = .ok (.istore 4, 2) := by decide +kernel
theorem dX11_book_81 : decode cX11_book 81 = .ok (.iload 4, 2) := by decide +kernel
theorem dX11_book_83 : decode cX11_book 83 = .ok (.aload_n 0, 1) := by decide +kernel
theorem dX11_book_84 : decode cX11_book 84 = .ok (.getfield 56, 3) := by decide +kernel
theorem dX11_book_87 : decode cX11_book 87 = .ok (.getfield 368, 3) := by decide +kernel
theorem dX11_book_90 : decode cX11_book 90 = .ok (.if_icmp .ge 41, 3) := by decide +kernel
theorem dX11_book_93 : decode cX11_book 93 = .ok (.iload_n 3, 1) := by decide +kernel
theorem dX11_book_94 : decode cX11_book 94 = .ok (.ifCond .ne 37, 3) := by decide +kernel
theorem dX11_book_97 : decode cX11_book 97 = .ok (.aload_n 0, 1) := by decide +kernel
theorem dX11_book_98 : decode cX11_book 98 = .ok (.getfield 56, 3) := by decide +kernel
theorem dX11_book_101 : decode cX11_book 101 = .ok (.aload_n 0, 1) := by decide +kernel
theorem dX11_book_102 : decode cX11_book 102 = .ok (.getfield 32, 3) := by decide +kernel
theorem dX11_book_105 : decode cX11_book 105 = .ok (.iload 4, 2) := by decide +kernel
theorem dX11_book_107 : decode cX11_book 107 = .ok (.invokevirtual 369, 3) := by decide +kernel
theorem dX11_book_110 : decode cX11_book 110 = .ok (.istore_n 3, 1) := by decide +kernel
theorem dX11_book_111 : decode cX11_book 111 = .ok (.iload_n 3, 1) := by decide +kernel
theorem dX11_book_112 : decode cX11_book 112 = .ok (.ifCond .ne 10, 3) := by decide +kernel
theorem dX11_book_115 : decode cX11_book 115 = .ok (.iload 4, 2) := by decide +kernel
theorem dX11_book_117 : decode cX11_book 117 = .ok (.iconst 1, 1) := by decide +kernel
theorem dX11_book_118 : decode cX11_book 118 = .ok (.iadd, 1) := by decide +kernel
theorem dX11_book_119 : decode cX11_book 119 = .ok (.goto 5, 3) := by decide +kernel
theorem dX11_book_122 : decode cX11_book 122 = .ok (.iload 4, 2) := by decide +kernel
theorem dX11_book_124 : decode cX11_book 124 = .ok (.istore_n 2, 1) := by decide +kernel
theorem dX11_book_125 : decode cX11_book 125 = .ok (.iinc 4 1, 3) := by decide +kernel
theorem dX11_book_128 : decode cX11_book 128 = .ok (.goto (-47), 3) := by decide +kernel
theorem dX11_book_131 : decode cX11_book 131 = .ok (.aload_n 0, 1) := by decide +kernel
theorem dX11_book_132 : decode cX11_book 132 = .ok (.getfield 94, 3) := by decide +kernel
theorem dX11_book_135 : decode cX11_book 135 = .ok (.iload_n 3, 1) := by decide +kernel
theorem dX11_book_136 : decode cX11_book 136 = .ok (.iload_n 2, 1) := by decide +kernel
theorem dX11_book_137 : decode cX11_book 137 = .ok (.aload_n 0, 1) := by decide +kernel
theorem dX11_book_138 : decode cX11_book 138 = .ok (.getfield 32, 3) := by decide +kernel
theorem dX11_book_141 : decode cX11_book 141 = .ok (.invokevirtual 373, 3) := by decide +kernel
theorem dX11_book_144 : decode cX11_book 144 = .ok (.iload_n 1, 1) := by decide +kernel
theorem dX11_book_145 : decode cX11_book 145 = .ok (.iconst 1, 1) := by decide +kernel
theorem dX11_book_146 : decode cX11_book 146 = .ok (.if_icmp .ne 36, 3) := by decide +kernel
theorem dX11_book_149 : decode cX11_book 149 = .ok (.iload_n 2, 1) := by decide +kernel
theorem dX11_book_150 : decode cX11_book 150 = .ok (.ifCond .le 32, 3) := by decide +kernel
theorem dX11_book_153 : decode cX11_book 153 = .ok (.aload_n 0, 1) := by decide +kernel
theorem dX11_book_154 : decode cX11_book 154 = .ok (.getfield 70, 3) := by decide +kernel
theorem dX11_book_157 : decode cX11_book 157 = .ok (.aload_n 0, 1) := by decide +kernel
theorem dX11_book_158 : decode cX11_book 158 = .ok (.getfield 28, 3) := by decide +kernel
theorem dX11_book_161 : decode cX11_book 161 = .ok (.invokevirtual 235, 3) := by decide +kernel
theorem dX11_book_164 : decode cX11_book 164 = .ok (.aload_n 0, 1) := by decide +kernel
theorem dX11_book_165 : decode cX11_book 165 = .ok (.getfield 70, 3) := by decide +kernel
theorem dX11_book_168 : decode cX11_book 168 = .ok (.invokevirtual 253, 3) := by decide +kernel
theorem dX11_book_171 : decode cX11_book 171 = .ok (.aload_n 0, 1) := by decide +kernel
theorem dX11_book_172 : decode cX11_book 172 = .ok (.getfield 28, 3) := by decide +kernel
theorem dX11_book_175 : decode cX11_book 175 = .ok (.aload_n 0, 1) := by decide +kernel
theorem dX11_book_176 : decode cX11_book 176 = .ok (.getfield 32, 3) := by decide +kernel
theorem dX11_book_179 : decode cX11_book 179 = .ok (.invokevirtual 126, 3) := by decide +kernel
theorem dX11_book_182 : decode cX11_book 182 = .ok (.iload_n 3, 1) := by decide +kernel
theorem dX11_book_183 : decode cX11_book 183 = .ok (.ifCond .ne 7, 3) := by decide +kernel
theorem dX11_book_186 : decode cX11_book 186 = .ok (.iconst (-1), 1) := by decide +kernel
theorem dX11_book_187 : decode cX11_book 187 = .ok (.goto 4, 3) := by decide +kernel
theorem dX11_book_190 : decode cX11_book 190 = .ok (.iload_n 2, 1) := by decide +kernel
theorem dX11_book_191 : decode cX11_book 191 = .ok (.ireturn, 1) := by decide +kernel
def fX11_book_9 (N n : Nat) (f : zF) : Option (zF × Int32) :=
    some (f, (-1000 : Int32))
set_option maxRecDepth 100000 in
set_option maxHeartbeats 4000000 in
theorem gX11_book_9 (l : Launch) {G : zG} {p : Program} {e : Env} {s : State} {m : MethodId} {args : Array Value} {below : List Frame} {meth : Method} {c : Code} {N n : Nat} {f9 : zF} {r : Int32} (B : zB G p s m args meth c RX11 cX11_book 5 (some .int)) : ∀ (f : zF) (H : Heap) (locs : List Loc) (ls : Array Slot), fX11_book_9 N n f = some (f9, r) → zS G n f H locs → lv_has ls 5 [] → W p l e (zrm 6) s m args below meth c H locs 0 0 (MQ below (zQc G n f9 (some (.int r))) args s 0 0 (zA G)) (F0 m 9 ls []) := by
  have he := B.1
  have hb := B.2.1
  intro f H locs ls h hS hl
  unfold fX11_book_9 at h
  refine lv_sipush (v := (-1000 : Int32)) he hb dX11_book_9 (by decide) ?_
  obtain ⟨rfl, rfl⟩ := Prod.mk.inj (Option.some.inj h)
  exact z_iret B hS dX11_book_12
def fX11_book_182 (N n : Nat) (f : zF) (a2 : Int32) (a3 : Int32) : Option (zF × Int32) :=
    (if a3 = 0 then some (f, (-1 : Int32)) else some (f, a2))
set_option maxRecDepth 100000 in
set_option maxHeartbeats 4000000 in
theorem gX11_book_182 (l : Launch) {G : zG} {p : Program} {e : Env} {s : State} {m : MethodId} {args : Array Value} {below : List Frame} {meth : Method} {c : Code} {N n : Nat} {f9 : zF} {r : Int32} (B : zB G p s m args meth c RX11 cX11_book 5 (some .int)) : ∀ (f : zF) (a2 : Int32) (a3 : Int32) (H : Heap) (locs : List Loc) (ls : Array Slot), fX11_book_182 N n f a2 a3 = some (f9, r) → zS G n f H locs → lv_has ls 5 [(2, .int a2), (3, .int a3)] → W p l e (zrm 6) s m args below meth c H locs 0 0 (MQ below (zQc G n f9 (some (.int r))) args s 0 0 (zA G)) (F0 m 182 ls []) := by
  have he := B.1
  have hb := B.2.1
  intro f a2 a3 H locs ls h hS hl
  unfold fX11_book_182 at h
  refine lv_iload_n he hb dX11_book_182 rfl (lv_at hl 1 rfl) ?_
  refine lv_if_ne (tgt := 190) he hb dX11_book_183 (by decide) (fun hc => ?_) (fun hc => ?_)
  · rw [if_neg hc] at h
    refine lv_iload_n he hb dX11_book_190 rfl (lv_at hl 0 rfl) ?_
    obtain ⟨rfl, rfl⟩ := Prod.mk.inj (Option.some.inj h)
    exact z_iret B hS dX11_book_191
  · rw [if_pos hc] at h
    refine lv_iconst (v := (-1 : Int32)) he hb dX11_book_186 (by decide) ?_
    refine lv_goto (tgt := 191) he hb dX11_book_187 (by decide) ?_
    obtain ⟨rfl, rfl⟩ := Prod.mk.inj (Option.some.inj h)
    exact z_iret B hS dX11_book_191
def fX11_book_131 (N n : Nat) (f : zF) (a0 : Nat) (a1 : Int32) (a2 : Int32) (a3 : Int32) : Option (zF × Int32) :=
    ((zgR n f 11 a0 12).bind fun x16 => ((zgR n f 11 a0 3).bind fun x17 => ((zck n f 0 x16).bind fun _ => ((fX0_tell N n f x16 a3 a2 x17).bind fun f18 => (if a1 = (1 : Int32) then (if a2 ≤ 0 then (fX11_book_182 N n f18 a2 a3) else ((zgR n f18 11 a0 8).bind fun x19 => ((zgR n f18 11 a0 2).bind fun x20 => ((zck n f18 10 x19).bind fun _ => ((fX10_hold N n f18 x19 x20).bind fun f21 => ((zgR n f21 11 a0 8).bind fun x22 => ((zck n f21 10 x22).bind fun _ => ((fX10_keep N n f21 x22).bind fun f23 => ((zgR n f23 11 a0 2).bind fun x24 => ((zgR n f23 11 a0 3).bind fun x25 => ((zck n f23 8 x24).bind fun _ => ((fX8_copyFrom N n f23 x24 x25).bind fun f26 => (fX11_book_182 N n f26 a2 a3))))))))))))) else (fX11_book_182 N n f18 a2 a3))))))
set_option maxRecDepth 100000 in
set_option maxHeartbeats 4000000 in
theorem gX11_book_131 (l : Launch) {G : zG} {p : Program} {e : Env} {s : State} {m : MethodId} {args : Array Value} {below : List Frame} {meth : Method} {c : Code} {N n : Nat} {f9 : zF} {r : Int32} (B : zB G p s m args meth c RX11 cX11_book 5 (some .int)) : ∀ (f : zF) (a0 : Nat) (a1 : Int32) (a2 : Int32) (a3 : Int32) (H : Heap) (locs : List Loc) (ls : Array Slot), fX11_book_131 N n f a0 a1 a2 a3 = some (f9, r) → zS G n f H locs → lv_has ls 5 [(0, zr G a0), (1, .int a1), (2, .int a2), (3, .int a3)] → W p l e (zrm 6) s m args below meth c H locs 0 0 (MQ below (zQc G n f9 (some (.int r))) args s 0 0 (zA G)) (F0 m 131 ls []) := by
  have he := B.1
  have hb := B.2.1
  intro f a0 a1 a2 a3 H locs ls h hS hl
  unfold fX11_book_131 at h
  refine z_aload_n he hb dX11_book_131 rfl (lv_at hl 0 rfl) (zref_r _ _) ?_
  obtain ⟨x16, hx, h⟩ := zob h
  refine z_getR (ci := 11) (T := TX11) (N := 14) (j := 12) B hS hx rfl zin_X11 (by decide) zk_520 dX11_book_132 ?_
  refine lv_iload_n he hb dX11_book_135 rfl (lv_at hl 3 rfl) ?_
  refine lv_iload_n he hb dX11_book_136 rfl (lv_at hl 2 rfl) ?_
  refine z_aload_n he hb dX11_book_137 rfl (lv_at hl 0 rfl) (zref_r _ _) ?_
  obtain ⟨x17, hx, h⟩ := zob h
  refine z_getR (ci := 11) (T := TX11) (N := 14) (j := 3) B hS hx rfl zin_X11 (by decide) zk_511 dX11_book_138 ?_
  obtain ⟨_, hc, h⟩ := zob h
  obtain ⟨f18, hx, h⟩ := zob h
  refine z_callV (ci := 0) (T := TX0) (N := 9) (rest := []) B hS (mX0_tell l G hx) zy_X0_tell zk_1127 (by decide) hc rfl rfl hl rfl (Nat.le_of_ble_eq_true rfl) dX11_book_141 (kk := (fun H locs hS => ?_))
  refine lv_iload_n he hb dX11_book_144 rfl (lv_at hl 1 rfl) ?_
  refine lv_iconst (v := (1 : Int32)) he hb dX11_book_145 (by decide) ?_
  refine lv_icmp_ne (tgt := 182) he hb dX11_book_146 (by decide) (fun hc => ?_) (fun hc => ?_)
  · rw [if_neg hc] at h
    exact gX11_book_182 l B _ _ _ _ _ _ h hS (lv_sub hl [2, 3] rfl)
  · rw [if_pos hc] at h
    refine lv_iload_n he hb dX11_book_149 rfl (lv_at hl 2 rfl) ?_
    refine lv_if_le (tgt := 182) he hb dX11_book_150 (by decide) (fun hc => ?_) (fun hc => ?_)
    · rw [if_pos hc] at h
      exact gX11_book_182 l B _ _ _ _ _ _ h hS (lv_sub hl [2, 3] rfl)
    · rw [if_neg hc] at h
      refine z_aload_n he hb dX11_book_153 rfl (lv_at hl 0 rfl) (zref_r _ _) ?_
      obtain ⟨x19, hx, h⟩ := zob h
      refine z_getR (ci := 11) (T := TX11) (N := 14) (j := 8) B hS hx rfl zin_X11 (by decide) zk_516 dX11_book_154 ?_
      refine z_aload_n he hb dX11_book_157 rfl (lv_at hl 0 rfl) (zref_r _ _) ?_
      obtain ⟨x20, hx, h⟩ := zob h
      refine z_getR (ci := 11) (T := TX11) (N := 14) (j := 2) B hS hx rfl zin_X11 (by decide) zk_510 dX11_book_158 ?_
      obtain ⟨_, hc, h⟩ := zob h
      obtain ⟨f21, hx, h⟩ := zob h
      refine z_callV (ci := 10) (T := TX10) (N := 3) (rest := []) B hS (mX10_hold l G hx) zy_X10_hold zk_825 (by decide) hc rfl rfl hl rfl (Nat.le_of_ble_eq_true rfl) dX11_book_161 (kk := (fun H locs hS => ?_))
      refine z_aload_n he hb dX11_book_164 rfl (lv_at hl 0 rfl) (zref_r _ _) ?_
      obtain ⟨x22, hx, h⟩ := zob h
      refine z_getR (ci := 11) (T := TX11) (N := 14) (j := 8) B hS hx rfl zin_X11 (by decide) zk_516 dX11_book_165 ?_
      obtain ⟨_, hc, h⟩ := zob h
      obtain ⟨f23, hx, h⟩ := zob h
      refine z_callV (ci := 10) (T := TX10) (N := 3) (rest := []) B hS (mX10_keep l G hx) zy_X10_keep zk_842 (by decide) hc rfl rfl hl rfl (Nat.le_of_ble_eq_true rfl) dX11_book_168 (kk := (fun H locs hS => ?_))
      refine z_aload_n he hb dX11_book_171 rfl (lv_at hl 0 rfl) (zref_r _ _) ?_
      obtain ⟨x24, hx, h⟩ := zob h
      refine z_getR (ci := 11) (T := TX11) (N := 14) (j := 2) B hS hx rfl zin_X11 (by decide) zk_510 dX11_book_172 ?_
      refine z_aload_n he hb dX11_book_175 rfl (lv_at hl 0 rfl) (zref_r _ _) ?_
      obtain ⟨x25, hx, h⟩ := zob h
      refine z_getR (ci := 11) (T := TX11) (N := 14) (j := 3) B hS hx rfl zin_X11 (by decide) zk_511 dX11_book_176 ?_
      obtain ⟨_, hc, h⟩ := zob h
      obtain ⟨f26, hx, h⟩ := zob h
      refine z_callV (ci := 8) (T := TX8) (N := 9) (rest := []) B hS (mX8_copyFrom l G hx) zy_X8_copyFrom zk_730 (by decide) hc rfl rfl hl rfl (Nat.le_of_ble_eq_true rfl) dX11_book_179 (kk := (fun H locs hS => ?_))
      exact gX11_book_182 l B _ _ _ _ _ _ h hS (lv_sub hl [2, 3] rfl)
def fX11_book_124 (r81 : zF → Nat → Int32 → Int32 → Int32 → Int32 → Option (zF × Int32)) (N n : Nat) (f : zF) (a0 : Nat) (a1 : Int32) (a3 : Int32) (a4 : Int32) (t0 : Int32) : Option (zF × Int32) :=
    (r81 f a0 a1 t0 a3 (a4 + 1))
set_option maxRecDepth 100000 in
set_option maxHeartbeats 4000000 in
theorem gX11_book_124 (l : Launch) {G : zG} {p : Program} {e : Env} {s : State} {m : MethodId} {args : Array Value} {below : List Frame} {meth : Method} {c : Code} {N n : Nat} {f9 : zF} {r : Int32} {r81 : zF → Nat → Int32 → Int32 → Int32 → Int32 → Option (zF × Int32)} (B : zB G p s m args meth c RX11 cX11_book 5 (some .int)) (hr81 : ∀ (f : zF) (a0 : Nat) (a1 : Int32) (a2 : Int32) (a3 : Int32) (a4 : Int32) (H : Heap) (locs : List Loc) (ls : Array Slot), r81 f a0 a1 a2 a3 a4 = some (f9, r) → zS G n f H locs → lv_has ls 5 [(0, zr G a0), (1, .int a1), (2, .int a2), (3, .int a3), (4, .int a4)] → W p l e (zrm 6) s m args below meth c H locs 0 0 (MQ below (zQc G n f9 (some (.int r))) args s 0 0 (zA G)) (F0 m 81 ls [])) : ∀ (f : zF) (a0 : Nat) (a1 : Int32) (a3 : Int32) (a4 : Int32) (t0 : Int32) (H : Heap) (locs : List Loc) (ls : Array Slot), fX11_book_124 r81 N n f a0 a1 a3 a4 t0 = some (f9, r) → zS G n f H locs → lv_has ls 5 [(0, zr G a0), (1, .int a1), (3, .int a3), (4, .int a4)] → W p l e (zrm 6) s m args below meth c H locs 0 0 (MQ below (zQc G n f9 (some (.int r))) args s 0 0 (zA G)) (F0 m 124 ls [.int t0]) := by
  have he := B.1
  have hb := B.2.1
  intro f a0 a1 a3 a4 t0 H locs ls h hS hl
  unfold fX11_book_124 at h
  refine lv_istore_n (lv' := [(2, _), (0, _), (1, _), (3, _), (4, _)]) he hb dX11_book_124 rfl hl (by decide) rfl (fun ls hl => ?_)
  refine lv_iinc (v := (a4 + 1)) (lv' := [(4, _), (2, _), (0, _), (1, _), (3, _)]) he hb dX11_book_125 hl (k := 4) rfl rfl (by decide) rfl (fun ls hl => ?_)
  refine lv_goto (tgt := 81) he hb dX11_book_128 (by decide) ?_
  exact hr81 _ _ _ _ _ _ _ _ _ h hS (lv_sub hl [2, 3, 1, 4, 0] rfl)
def fX11_book_81 (N n : Nat) : Nat → zF → Nat → Int32 → Int32 → Int32 → Int32 → Option (zF × Int32)
  | 0, _, _, _, _, _, _ => none
  | k + 1, f, a0, a1, a2, a3, a4 =>
    ((zgR n f 11 a0 6).bind fun x14 => ((zgI n f 1 x14 2).bind fun x15 => (if x15 ≤ a4 then (fX11_book_131 N n f a0 a1 a2 a3) else (if a3 = 0 then ((zgR n f 11 a0 6).bind fun x27 => ((zgR n f 11 a0 3).bind fun x28 => ((zck n f 1 x27).bind fun _ => (zbd (fX1_doLine N n f x27 x28 a4) fun f30 x29 => (if x29 = 0 then (fX11_book_124 (fX11_book_81 N n k) N n f30 a0 a1 x29 a4 (a4 + (1 : Int32))) else (fX11_book_124 (fX11_book_81 N n k) N n f30 a0 a1 x29 a4 a4)))))) else (fX11_book_131 N n f a0 a1 a2 a3)))))
set_option maxRecDepth 100000 in
set_option maxHeartbeats 4000000 in
theorem gX11_book_81 (l : Launch) {G : zG} {p : Program} {e : Env} {s : State} {m : MethodId} {args : Array Value} {below : List Frame} {meth : Method} {c : Code} {N n : Nat} {f9 : zF} {r : Int32} (B : zB G p s m args meth c RX11 cX11_book 5 (some .int)) : ∀ (k : Nat), ∀ (f : zF) (a0 : Nat) (a1 : Int32) (a2 : Int32) (a3 : Int32) (a4 : Int32) (H : Heap) (locs : List Loc) (ls : Array Slot), fX11_book_81 N n k f a0 a1 a2 a3 a4 = some (f9, r) → zS G n f H locs → lv_has ls 5 [(0, zr G a0), (1, .int a1), (2, .int a2), (3, .int a3), (4, .int a4)] → W p l e (zrm 6) s m args below meth c H locs 0 0 (MQ below (zQc G n f9 (some (.int r))) args s 0 0 (zA G)) (F0 m 81 ls []) := by
  have he := B.1
  have hb := B.2.1
  intro k
  induction k with
  | zero =>
    intro f a0 a1 a2 a3 a4 H locs ls h
    unfold fX11_book_81 at h
    cases h
  | succ k ih =>
    intro f a0 a1 a2 a3 a4 H locs ls h hS hl
    unfold fX11_book_81 at h
    refine lv_iload he hb dX11_book_81 (lv_at hl 4 rfl) ?_
    refine z_aload_n he hb dX11_book_83 rfl (lv_at hl 0 rfl) (zref_r _ _) ?_
    obtain ⟨x14, hx, h⟩ := zob h
    refine z_getR (ci := 11) (T := TX11) (N := 14) (j := 6) B hS hx rfl zin_X11 (by decide) zk_514 dX11_book_84 ?_
    obtain ⟨x15, hx, h⟩ := zob h
    refine z_getI (ci := 1) (T := TX1) (N := 6) (j := 2) B hS hx rfl zin_X1 (by decide) zk_353 dX11_book_87 ?_
    refine lv_icmp_ge (tgt := 131) he hb dX11_book_90 (by decide) (fun hc => ?_) (fun hc => ?_)
    · rw [if_pos hc] at h
      exact gX11_book_131 l B _ _ _ _ _ _ _ _ h hS (lv_sub hl [0, 1, 2, 3] rfl)
    · rw [if_neg hc] at h
      refine lv_iload_n he hb dX11_book_93 rfl (lv_at hl 3 rfl) ?_
      refine lv_if_ne (tgt := 131) he hb dX11_book_94 (by decide) (fun hc => ?_) (fun hc => ?_)
      · rw [if_neg hc] at h
        exact gX11_book_131 l B _ _ _ _ _ _ _ _ h hS (lv_sub hl [0, 1, 2, 3] rfl)
      · rw [if_pos hc] at h
        refine z_aload_n he hb dX11_book_97 rfl (lv_at hl 0 rfl) (zref_r _ _) ?_
        obtain ⟨x27, hx, h⟩ := zob h
        refine z_getR (ci := 11) (T := TX11) (N := 14) (j := 6) B hS hx rfl zin_X11 (by decide) zk_514 dX11_book_98 ?_
        refine z_aload_n he hb dX11_book_101 rfl (lv_at hl 0 rfl) (zref_r _ _) ?_
        obtain ⟨x28, hx, h⟩ := zob h
        refine z_getR (ci := 11) (T := TX11) (N := 14) (j := 3) B hS hx rfl zin_X11 (by decide) zk_511 dX11_book_102 ?_
        refine lv_iload he hb dX11_book_105 (lv_at hl 4 rfl) ?_
        obtain ⟨_, hc, h⟩ := zob h
        obtain ⟨f30, x29, hx, h⟩ := zbd_i h
        refine z_callV (ci := 1) (T := TX1) (N := 6) (rest := []) B hS (mX1_doLine l G hx) zy_X1_doLine zk_1114 (by decide) hc rfl rfl hl rfl (Nat.le_of_ble_eq_true rfl) dX11_book_107 (kk := (fun H locs hS => ?_))
        refine lv_istore_n (lv' := [(3, _), (0, _), (1, _), (2, _), (4, _)]) he hb dX11_book_110 rfl hl (by decide) rfl (fun ls hl => ?_)
        refine lv_iload_n he hb dX11_book_111 rfl (lv_at hl 0 rfl) ?_
        refine lv_if_ne (tgt := 122) he hb dX11_book_112 (by decide) (fun hc => ?_) (fun hc => ?_)
        · rw [if_neg hc] at h
          refine lv_iload he hb dX11_book_122 (lv_at hl 4 rfl) ?_
          exact gX11_book_124 l B ih _ _ _ _ _ _ _ _ _ h hS (lv_sub hl [1, 2, 0, 4] rfl)
        · rw [if_pos hc] at h
          refine lv_iload he hb dX11_book_115 (lv_at hl 4 rfl) ?_
          refine lv_iconst (v := (1 : Int32)) he hb dX11_book_117 (by decide) ?_
          refine lv_iadd he hb dX11_book_118 ?_
          refine lv_goto (tgt := 124) he hb dX11_book_119 (by decide) ?_
          exact gX11_book_124 l B ih _ _ _ _ _ _ _ _ _ h hS (lv_sub hl [1, 2, 0, 4] rfl)
def fX11_book (N n : Nat) (f : zF) (a0 : Nat) (a1 : Int32) : Option (zF × Int32) :=
    (if a1 < 0 then (fX11_book_9 N n f) else (if a1 ≤ (1 : Int32) then ((zgR n f 11 a0 6).bind fun x1 => ((zck n f 1 x1).bind fun _ => ((fX1_read N n f x1).bind fun f2 => ((zgR n f2 11 a0 0).bind fun x3 => ((zpI n f2 9 x3 2 (0 : Int32)).bind fun f4 => ((zgR n f4 11 a0 12).bind fun x5 => ((zgR n f4 11 a0 0).bind fun x6 => ((zgI n f4 9 x6 10).bind fun x7 => ((zpI n f4 0 x5 0 x7).bind fun f8 => ((zgR n f8 11 a0 0).bind fun x9 => ((zgI n f8 9 x9 10).bind fun x10 => (if x10 = 0 then ((zgR n f8 11 a0 3).bind fun x11 => ((zgR n f8 11 a0 2).bind fun x12 => ((zck n f8 8 x11).bind fun _ => ((fX8_copyFrom N n f8 x11 x12).bind fun f13 => (fX11_book_81 N n N f13 a0 a1 (0 : Int32) (0 : Int32) (0 : Int32)))))) else ((zgR n f8 11 a0 0).bind fun x31 => ((zgI n f8 9 x31 11).bind fun x32 => some (f8, ((-2 : Int32) - x32)))))))))))))))) else (fX11_book_9 N n f)))
set_option maxRecDepth 100000 in
set_option maxHeartbeats 4000000 in
theorem mX11_book (l : Launch) (G : zG) {N n : Nat} {f : zF} {f9 : zF} {r : Int32} {a0 : Nat} {a1 : Int32} (h : fX11_book N n f a0 a1 = some (f9, r)) : zM l G yX11_book cX11_book 5 (some .int) 6 n f [zr G a0, .int a1] (some (.int r)) f9 := by
  refine zM.of (by decide) (Nat.le_of_ble_eq_true rfl) ?_
  intro p e s m args below meth c locs ls B hS hl
  have he := B.1
  have hb := B.2.1
  have hl : lv_has ls 5 [(0, zr G a0), (1, .int a1)] := hl
  unfold fX11_book at h
  generalize s.heap = H at hS ⊢
  refine lv_iload_n he hb dX11_book_0 rfl (lv_at hl 1 rfl) ?_
  refine lv_if_lt (tgt := 9) he hb dX11_book_1 (by decide) (fun hc => ?_) (fun hc => ?_)
  · rw [if_pos hc] at h
    exact gX11_book_9 l B _ _ _ _ h hS (lv_sub hl [] rfl)
  · rw [if_neg hc] at h
    refine lv_iload_n he hb dX11_book_4 rfl (lv_at hl 1 rfl) ?_
    refine lv_iconst (v := (1 : Int32)) he hb dX11_book_5 (by decide) ?_
    refine lv_icmp_le (tgt := 13) he hb dX11_book_6 (by decide) (fun hc => ?_) (fun hc => ?_)
    · rw [if_pos hc] at h
      refine z_aload_n he hb dX11_book_13 rfl (lv_at hl 0 rfl) (zref_r _ _) ?_
      obtain ⟨x1, hx, h⟩ := zob h
      refine z_getR (ci := 11) (T := TX11) (N := 14) (j := 6) B hS hx rfl zin_X11 (by decide) zk_514 dX11_book_14 ?_
      obtain ⟨_, hc, h⟩ := zob h
      obtain ⟨f2, hx, h⟩ := zob h
      refine z_callV (ci := 1) (T := TX1) (N := 6) (rest := []) B hS (mX1_read l G hx) zy_X1_read zk_1080 (by decide) hc rfl rfl hl rfl (Nat.le_of_ble_eq_true rfl) dX11_book_17 (kk := (fun H locs hS => ?_))
      refine z_aload_n he hb dX11_book_20 rfl (lv_at hl 0 rfl) (zref_r _ _) ?_
      obtain ⟨x3, hx, h⟩ := zob h
      refine z_getR (ci := 11) (T := TX11) (N := 14) (j := 0) B hS hx rfl zin_X11 (by decide) zk_508 dX11_book_21 ?_
      refine lv_iconst (v := (0 : Int32)) he hb dX11_book_24 (by decide) ?_
      obtain ⟨f4, hx, h⟩ := zob h
      refine z_putI (ci := 9) (T := TX9) (N := 12) (j := 2) B hS hx rfl zin_X9 tyX9 tyX9_ok nmX9 (by decide) zk_95 rfl rfl dX11_book_25 (fun H locs hS => ?_)
      refine z_aload_n he hb dX11_book_28 rfl (lv_at hl 0 rfl) (zref_r _ _) ?_
      obtain ⟨x5, hx, h⟩ := zob h
      refine z_getR (ci := 11) (T := TX11) (N := 14) (j := 12) B hS hx rfl zin_X11 (by decide) zk_520 dX11_book_29 ?_
      refine z_aload_n he hb dX11_book_32 rfl (lv_at hl 0 rfl) (zref_r _ _) ?_
      obtain ⟨x6, hx, h⟩ := zob h
      refine z_getR (ci := 11) (T := TX11) (N := 14) (j := 0) B hS hx rfl zin_X11 (by decide) zk_508 dX11_book_33 ?_
      obtain ⟨x7, hx, h⟩ := zob h
      refine z_getI (ci := 9) (T := TX9) (N := 12) (j := 10) B hS hx rfl zin_X9 (by decide) zk_114 dX11_book_36 ?_
      obtain ⟨f8, hx, h⟩ := zob h
      refine z_putI (ci := 0) (T := TX0) (N := 9) (j := 0) B hS hx rfl zin_X0 tyX0 tyX0_ok nmX0 (by decide) zk_473 rfl rfl dX11_book_39 (fun H locs hS => ?_)
      refine z_aload_n he hb dX11_book_42 rfl (lv_at hl 0 rfl) (zref_r _ _) ?_
      obtain ⟨x9, hx, h⟩ := zob h
      refine z_getR (ci := 11) (T := TX11) (N := 14) (j := 0) B hS hx rfl zin_X11 (by decide) zk_508 dX11_book_43 ?_
      obtain ⟨x10, hx, h⟩ := zob h
      refine z_getI (ci := 9) (T := TX9) (N := 12) (j := 10) B hS hx rfl zin_X9 (by decide) zk_114 dX11_book_46 ?_
      refine lv_if_eq (tgt := 63) he hb dX11_book_49 (by decide) (fun hc => ?_) (fun hc => ?_)
      · rw [if_pos hc] at h
        refine lv_iconst (v := (0 : Int32)) he hb dX11_book_63 (by decide) ?_
        refine lv_istore_n (lv' := [(2, _), (0, _), (1, _)]) he hb dX11_book_64 rfl hl (by decide) rfl (fun ls hl => ?_)
        refine lv_iconst (v := (0 : Int32)) he hb dX11_book_65 (by decide) ?_
        refine lv_istore_n (lv' := [(3, _), (2, _), (0, _), (1, _)]) he hb dX11_book_66 rfl hl (by decide) rfl (fun ls hl => ?_)
        refine z_aload_n he hb dX11_book_67 rfl (lv_at hl 2 rfl) (zref_r _ _) ?_
        obtain ⟨x11, hx, h⟩ := zob h
        refine z_getR (ci := 11) (T := TX11) (N := 14) (j := 3) B hS hx rfl zin_X11 (by decide) zk_511 dX11_book_68 ?_
        refine z_aload_n he hb dX11_book_71 rfl (lv_at hl 2 rfl) (zref_r _ _) ?_
        obtain ⟨x12, hx, h⟩ := zob h
        refine z_getR (ci := 11) (T := TX11) (N := 14) (j := 2) B hS hx rfl zin_X11 (by decide) zk_510 dX11_book_72 ?_
        obtain ⟨_, hc, h⟩ := zob h
        obtain ⟨f13, hx, h⟩ := zob h
        refine z_callV (ci := 8) (T := TX8) (N := 9) (rest := []) B hS (mX8_copyFrom l G hx) zy_X8_copyFrom zk_730 (by decide) hc rfl rfl hl rfl (Nat.le_of_ble_eq_true rfl) dX11_book_75 (kk := (fun H locs hS => ?_))
        refine lv_iconst (v := (0 : Int32)) he hb dX11_book_78 (by decide) ?_
        refine lv_istore (lv' := [(4, _), (3, _), (2, _), (0, _), (1, _)]) he hb dX11_book_79 hl (by decide) rfl (fun ls hl => ?_)
        exact gX11_book_81 l B N _ _ _ _ _ _ _ _ _ h hS (lv_sub hl [3, 4, 2, 1, 0] rfl)
      · rw [if_neg hc] at h
        refine lv_bipush (v := (-2 : Int32)) he hb dX11_book_52 (by decide) ?_
        refine z_aload_n he hb dX11_book_54 rfl (lv_at hl 0 rfl) (zref_r _ _) ?_
        obtain ⟨x31, hx, h⟩ := zob h
        refine z_getR (ci := 11) (T := TX11) (N := 14) (j := 0) B hS hx rfl zin_X11 (by decide) zk_508 dX11_book_55 ?_
        obtain ⟨x32, hx, h⟩ := zob h
        refine z_getI (ci := 9) (T := TX9) (N := 12) (j := 11) B hS hx rfl zin_X9 (by decide) zk_116 dX11_book_58 ?_
        refine lv_isub he hb dX11_book_61 ?_
        obtain ⟨rfl, rfl⟩ := Prod.mk.inj (Option.some.inj h)
        exact z_iret B hS dX11_book_62
    · rw [if_neg hc] at h
      exact gX11_book_9 l B _ _ _ _ h hS (lv_sub hl [] rfl)
theorem dX11_told_0 : decode cX11_told 0 = .ok (.iload_n 1, 1) := by decide +kernel
theorem dX11_told_1 : decode cX11_told 1 = .ok (.ifCond .lt 18, 3) := by decide +kernel
theorem dX11_told_4 : decode cX11_told 4 = .ok (.iload_n 1, 1) := by decide +kernel
theorem dX11_told_5 : decode cX11_told 5 = .ok (.iconst 3, 1) := by decide +kernel
theorem dX11_told_6 : decode cX11_told 6 = .ok (.if_icmp .gt 13, 3) := by decide +kernel
theorem dX11_told_9 : decode cX11_told 9 = .ok (.aload_n 0, 1) := by decide +kernel
theorem dX11_told_10 : decode cX11_told 10 = .ok (.getfield 94, 3) := by decide +kernel
theorem dX11_told_13 : decode cX11_told 13 = .ok (.getfield 377, 3) := by decide +kernel
theorem dX11_told_16 : decode cX11_told 16 = .ok (.ifCond .ne 7, 3) := by decide +kernel
theorem dX11_told_19 : decode cX11_told 19 = .ok (.iconst (-1), 1) := by decide +kernel
theorem dX11_told_20 : decode cX11_told 20 = .ok (.goto 14, 3) := by decide +kernel
theorem dX11_told_23 : decode cX11_told 23 = .ok (.aload_n 0, 1) := by decide +kernel
theorem dX11_told_24 : decode cX11_told 24 = .ok (.getfield 94, 3) := by decide +kernel
theorem dX11_told_27 : decode cX11_told 27 = .ok (.getfield 381, 3) := by decide +kernel
theorem dX11_told_30 : decode cX11_told 30 = .ok (.iload_n 1, 1) := by decide +kernel
theorem dX11_told_31 : decode cX11_told 31 = .ok (.invokestatic 147, 3) := by decide +kernel
theorem dX11_told_34 : decode cX11_told 34 = .ok (.ireturn, 1) := by decide +kernel
def fX11_told (N n : Nat) (f : zF) (a0 : Nat) (a1 : Int32) : Option Int32 :=
    (if a1 < 0 then some (-1 : Int32) else (if (3 : Int32) < a1 then some (-1 : Int32) else ((zgR n f 11 a0 12).bind fun x1 => ((zgI n f 0 x1 8).bind fun x2 => (if x2 = 0 then some (-1 : Int32) else ((zgR n f 11 a0 12).bind fun x3 => ((zgR n f 0 x3 7).bind fun x4 => ((fX11_at N n f x4 a1).bind fun x5 => some x5))))))))
set_option maxRecDepth 100000 in
set_option maxHeartbeats 4000000 in
theorem mX11_told (l : Launch) (G : zG) {N n : Nat} {f : zF} {r : Int32} {a0 : Nat} {a1 : Int32} (h : fX11_told N n f a0 a1 = some r) : zM l G yX11_told cX11_told 2 (some .int) 1 n f [zr G a0, .int a1] (some (.int r)) f := by
  refine zM.of (by decide) (Nat.le_of_ble_eq_true rfl) ?_
  intro p e s m args below meth c locs ls B hS hl
  have he := B.1
  have hb := B.2.1
  have hl : lv_has ls 2 [(0, zr G a0), (1, .int a1)] := hl
  unfold fX11_told at h
  generalize s.heap = H at hS ⊢
  refine lv_iload_n he hb dX11_told_0 rfl (lv_at hl 1 rfl) ?_
  refine lv_if_lt (tgt := 19) he hb dX11_told_1 (by decide) (fun hc => ?_) (fun hc => ?_)
  · rw [if_pos hc] at h
    refine lv_iconst (v := (-1 : Int32)) he hb dX11_told_19 (by decide) ?_
    refine lv_goto (tgt := 34) he hb dX11_told_20 (by decide) ?_
    obtain rfl := Option.some.inj h
    exact z_iret B hS dX11_told_34
  · rw [if_neg hc] at h
    refine lv_iload_n he hb dX11_told_4 rfl (lv_at hl 1 rfl) ?_
    refine lv_iconst (v := (3 : Int32)) he hb dX11_told_5 (by decide) ?_
    refine lv_icmp_gt (tgt := 19) he hb dX11_told_6 (by decide) (fun hc => ?_) (fun hc => ?_)
    · rw [if_pos hc] at h
      refine lv_iconst (v := (-1 : Int32)) he hb dX11_told_19 (by decide) ?_
      refine lv_goto (tgt := 34) he hb dX11_told_20 (by decide) ?_
      obtain rfl := Option.some.inj h
      exact z_iret B hS dX11_told_34
    · rw [if_neg hc] at h
      refine z_aload_n he hb dX11_told_9 rfl (lv_at hl 0 rfl) (zref_r _ _) ?_
      obtain ⟨x1, hx, h⟩ := zob h
      refine z_getR (ci := 11) (T := TX11) (N := 14) (j := 12) B hS hx rfl zin_X11 (by decide) zk_520 dX11_told_10 ?_
      obtain ⟨x2, hx, h⟩ := zob h
      refine z_getI (ci := 0) (T := TX0) (N := 9) (j := 8) B hS hx rfl zin_X0 (by decide) zk_488 dX11_told_13 ?_
      refine lv_if_ne (tgt := 23) he hb dX11_told_16 (by decide) (fun hc => ?_) (fun hc => ?_)
      · rw [if_neg hc] at h
        refine z_aload_n he hb dX11_told_23 rfl (lv_at hl 0 rfl) (zref_r _ _) ?_
        obtain ⟨x3, hx, h⟩ := zob h
        refine z_getR (ci := 11) (T := TX11) (N := 14) (j := 12) B hS hx rfl zin_X11 (by decide) zk_520 dX11_told_24 ?_
        obtain ⟨x4, hx, h⟩ := zob h
        refine z_getR (ci := 0) (T := TX0) (N := 9) (j := 7) B hS hx rfl zin_X0 (by decide) zk_486 dX11_told_27 ?_
        refine lv_iload_n he hb dX11_told_30 rfl (lv_at hl 1 rfl) ?_
        obtain ⟨x5, hx, h⟩ := zob h
        refine z_callS (rest := []) B hS (mX11_at l G hx) zy_X11_at zk_755 (by decide) rfl hl rfl (Nat.le_of_ble_eq_true rfl) dX11_told_31 (kk := (fun H locs hS => ?_))
        obtain rfl := Option.some.inj h
        exact z_iret B hS dX11_told_34
      · rw [if_pos hc] at h
        refine lv_iconst (v := (-1 : Int32)) he hb dX11_told_19 (by decide) ?_
        refine lv_goto (tgt := 34) he hb dX11_told_20 (by decide) ?_
        obtain rfl := Option.some.inj h
        exact z_iret B hS dX11_told_34
theorem dX11_said_0 : decode cX11_said 0 = .ok (.aload_n 0, 1) := by decide +kernel
theorem dX11_said_1 : decode cX11_said 1 = .ok (.getfield 38, 3) := by decide +kernel
theorem dX11_said_4 : decode cX11_said 4 = .ok (.getfield 389, 3) := by decide +kernel
theorem dX11_said_7 : decode cX11_said 7 = .ok (.ifCond .eq 8, 3) := by decide +kernel
theorem dX11_said_10 : decode cX11_said 10 = .ok (.iload_n 1, 1) := by decide +kernel
theorem dX11_said_11 : decode cX11_said 11 = .ok (.iconst (-1), 1) := by decide +kernel
theorem dX11_said_12 : decode cX11_said 12 = .ok (.if_icmp .ge 5, 3) := by decide +kernel
theorem dX11_said_15 : decode cX11_said 15 = .ok (.iconst (-1), 1) := by decide +kernel
theorem dX11_said_16 : decode cX11_said 16 = .ok (.ireturn, 1) := by decide +kernel
theorem dX11_said_17 : decode cX11_said 17 = .ok (.iconst 0, 1) := by decide +kernel
theorem dX11_said_18 : decode cX11_said 18 = .ok (.istore_n 2, 1) := by decide +kernel
theorem dX11_said_19 : decode cX11_said 19 = .ok (.iconst 0, 1) := by decide +kernel
theorem dX11_said_20 : decode cX11_said 20 = .ok (.istore_n 3, 1) := by decide +kernel
theorem dX11_said_21 : decode cX11_said 21 = .ok (.iload_n 3, 1) := by decide +kernel
theorem dX11_said_22 : decode cX11_said 22 = .ok (.aload_n 0, 1) := by decide +kernel
theorem dX11_said_23 : decode cX11_said 23 = .ok (.getfield 19, 3) := by decide +kernel
theorem dX11_said_26 : decode cX11_said 26 = .ok (.getfield 220, 3) := by decide +kernel
theorem dX11_said_29 : decode cX11_said 29 = .ok (.if_icmp .ge 34, 3) := by decide +kernel
theorem dX11_said_32 : decode cX11_said 32 = .ok (.aload_n 0, 1) := by decide +kernel
theorem dX11_said_33 : decode cX11_said 33 = .ok (.getfield 38, 3) := by decide +kernel
theorem dX11_said_36 : decode cX11_said 36 = .ok (.aload_n 0, 1) := by decide +kernel
theorem dX11_said_37 : decode cX11_said 37 = .ok (.getfield 28, 3) := by decide +kernel
theorem dX11_said_40 : decode cX11_said 40 = .ok (.iload_n 3, 1) := by decide +kernel
theorem dX11_said_41 : decode cX11_said 41 = .ok (.invokevirtual 390, 3) := by decide +kernel
theorem dX11_said_44 : decode cX11_said 44 = .ok (.ifCond .eq 13, 3) := by decide +kernel
theorem dX11_said_47 : decode cX11_said 47 = .ok (.iload_n 2, 1) := by decide +kernel
theorem dX11_said_48 : decode cX11_said 48 = .ok (.iload_n 1, 1) := by decide +kernel
theorem dX11_said_49 : decode cX11_said 49 = .ok (.if_icmp .ne 5, 3) := by decide +kernel
theorem dX11_said_52 : decode cX11_said 52 = .ok (.iload_n 3, 1) := by decide +kernel
theorem dX11_said_53 : decode cX11_said 53 = .ok (.ireturn, 1) := by decide +kernel
theorem dX11_said_54 : decode cX11_said 54 = .ok (.iinc 2 1, 3) := by decide +kernel
theorem dX11_said_57 : decode cX11_said 57 = .ok (.iinc 3 1, 3) := by decide +kernel
theorem dX11_said_60 : decode cX11_said 60 = .ok (.goto (-39), 3) := by decide +kernel
theorem dX11_said_63 : decode cX11_said 63 = .ok (.iload_n 1, 1) := by decide +kernel
theorem dX11_said_64 : decode cX11_said 64 = .ok (.iconst (-1), 1) := by decide +kernel
theorem dX11_said_65 : decode cX11_said 65 = .ok (.if_icmp .ne 7, 3) := by decide +kernel
theorem dX11_said_68 : decode cX11_said 68 = .ok (.iload_n 2, 1) := by decide +kernel
theorem dX11_said_69 : decode cX11_said 69 = .ok (.goto 4, 3) := by decide +kernel
theorem dX11_said_72 : decode cX11_said 72 = .ok (.iconst (-1), 1) := by decide +kernel
theorem dX11_said_73 : decode cX11_said 73 = .ok (.ireturn, 1) := by decide +kernel
def fX11_said_57 (r21 : Nat → Int32 → Int32 → Int32 → Option Int32) (N n : Nat) (f : zF) (a0 : Nat) (a1 : Int32) (a2 : Int32) (a3 : Int32) : Option Int32 :=
    (r21 a0 a1 a2 (a3 + 1))
set_option maxRecDepth 100000 in
set_option maxHeartbeats 4000000 in
theorem gX11_said_57 (l : Launch) {G : zG} {p : Program} {e : Env} {s : State} {m : MethodId} {args : Array Value} {below : List Frame} {meth : Method} {c : Code} {f : zF} {N n : Nat} {r : Int32} {r21 : Nat → Int32 → Int32 → Int32 → Option Int32} (B : zB G p s m args meth c RX11 cX11_said 4 (some .int)) (hr21 : ∀ (a0 : Nat) (a1 : Int32) (a2 : Int32) (a3 : Int32) (H : Heap) (locs : List Loc) (ls : Array Slot), r21 a0 a1 a2 a3 = some r → zS G n f H locs → lv_has ls 4 [(0, zr G a0), (1, .int a1), (2, .int a2), (3, .int a3)] → W p l e (zrm 5) s m args below meth c H locs 0 0 (MQ below (zQc G n f (some (.int r))) args s 0 0 (zA G)) (F0 m 21 ls [])) : ∀ (a0 : Nat) (a1 : Int32) (a2 : Int32) (a3 : Int32) (H : Heap) (locs : List Loc) (ls : Array Slot), fX11_said_57 r21 N n f a0 a1 a2 a3 = some r → zS G n f H locs → lv_has ls 4 [(0, zr G a0), (1, .int a1), (2, .int a2), (3, .int a3)] → W p l e (zrm 5) s m args below meth c H locs 0 0 (MQ below (zQc G n f (some (.int r))) args s 0 0 (zA G)) (F0 m 57 ls []) := by
  have he := B.1
  have hb := B.2.1
  intro a0 a1 a2 a3 H locs ls h hS hl
  unfold fX11_said_57 at h
  refine lv_iinc (v := (a3 + 1)) (lv' := [(3, _), (0, _), (1, _), (2, _)]) he hb dX11_said_57 hl (k := 3) rfl rfl (by decide) rfl (fun ls hl => ?_)
  refine lv_goto (tgt := 21) he hb dX11_said_60 (by decide) ?_
  exact hr21 _ _ _ _ _ _ _ h hS (lv_sub hl [1, 2, 3, 0] rfl)
def fX11_said_21 (N n : Nat) (f : zF) : Nat → Nat → Int32 → Int32 → Int32 → Option Int32
  | 0, _, _, _, _ => none
  | k + 1, a0, a1, a2, a3 =>
    ((zgR n f 11 a0 1).bind fun x3 => ((zgI n f 2 x3 3).bind fun x4 => (if x4 ≤ a3 then (if a1 = (-1 : Int32) then some a2 else some (-1 : Int32)) else ((zgR n f 11 a0 4).bind fun x5 => ((zgR n f 11 a0 2).bind fun x6 => ((zck n f 6 x5).bind fun _ => ((fX6_holds N n f x5 x6 a3).bind fun x7 => (if x7 = 0 then (fX11_said_57 (fX11_said_21 N n f k) N n f a0 a1 a2 a3) else (if a2 = a1 then some a3 else (fX11_said_57 (fX11_said_21 N n f k) N n f a0 a1 (a2 + 1) a3))))))))))
set_option maxRecDepth 100000 in
set_option maxHeartbeats 4000000 in
theorem gX11_said_21 (l : Launch) {G : zG} {p : Program} {e : Env} {s : State} {m : MethodId} {args : Array Value} {below : List Frame} {meth : Method} {c : Code} {f : zF} {N n : Nat} {r : Int32} (B : zB G p s m args meth c RX11 cX11_said 4 (some .int)) : ∀ (k : Nat), ∀ (a0 : Nat) (a1 : Int32) (a2 : Int32) (a3 : Int32) (H : Heap) (locs : List Loc) (ls : Array Slot), fX11_said_21 N n f k a0 a1 a2 a3 = some r → zS G n f H locs → lv_has ls 4 [(0, zr G a0), (1, .int a1), (2, .int a2), (3, .int a3)] → W p l e (zrm 5) s m args below meth c H locs 0 0 (MQ below (zQc G n f (some (.int r))) args s 0 0 (zA G)) (F0 m 21 ls []) := by
  have he := B.1
  have hb := B.2.1
  intro k
  induction k with
  | zero =>
    intro a0 a1 a2 a3 H locs ls h
    unfold fX11_said_21 at h
    cases h
  | succ k ih =>
    intro a0 a1 a2 a3 H locs ls h hS hl
    unfold fX11_said_21 at h
    refine lv_iload_n he hb dX11_said_21 rfl (lv_at hl 3 rfl) ?_
    refine z_aload_n he hb dX11_said_22 rfl (lv_at hl 0 rfl) (zref_r _ _) ?_
    obtain ⟨x3, hx, h⟩ := zob h
    refine z_getR (ci := 11) (T := TX11) (N := 14) (j := 1) B hS hx rfl zin_X11 (by decide) zk_509 dX11_said_23 ?_
    obtain ⟨x4, hx, h⟩ := zob h
    refine z_getI (ci := 2) (T := TX2) (N := 15) (j := 3) B hS hx rfl zin_X2 (by decide) zk_167 dX11_said_26 ?_
    refine lv_icmp_ge (tgt := 63) he hb dX11_said_29 (by decide) (fun hc => ?_) (fun hc => ?_)
    · rw [if_pos hc] at h
      refine lv_iload_n he hb dX11_said_63 rfl (lv_at hl 1 rfl) ?_
      refine lv_iconst (v := (-1 : Int32)) he hb dX11_said_64 (by decide) ?_
      refine lv_icmp_ne (tgt := 72) he hb dX11_said_65 (by decide) (fun hc => ?_) (fun hc => ?_)
      · rw [if_neg hc] at h
        refine lv_iconst (v := (-1 : Int32)) he hb dX11_said_72 (by decide) ?_
        obtain rfl := Option.some.inj h
        exact z_iret B hS dX11_said_73
      · rw [if_pos hc] at h
        refine lv_iload_n he hb dX11_said_68 rfl (lv_at hl 2 rfl) ?_
        refine lv_goto (tgt := 73) he hb dX11_said_69 (by decide) ?_
        obtain rfl := Option.some.inj h
        exact z_iret B hS dX11_said_73
    · rw [if_neg hc] at h
      refine z_aload_n he hb dX11_said_32 rfl (lv_at hl 0 rfl) (zref_r _ _) ?_
      obtain ⟨x5, hx, h⟩ := zob h
      refine z_getR (ci := 11) (T := TX11) (N := 14) (j := 4) B hS hx rfl zin_X11 (by decide) zk_512 dX11_said_33 ?_
      refine z_aload_n he hb dX11_said_36 rfl (lv_at hl 0 rfl) (zref_r _ _) ?_
      obtain ⟨x6, hx, h⟩ := zob h
      refine z_getR (ci := 11) (T := TX11) (N := 14) (j := 2) B hS hx rfl zin_X11 (by decide) zk_510 dX11_said_37 ?_
      refine lv_iload_n he hb dX11_said_40 rfl (lv_at hl 3 rfl) ?_
      obtain ⟨_, hc, h⟩ := zob h
      obtain ⟨x7, hx, h⟩ := zob h
      refine z_callV (ci := 6) (T := TX6) (N := 4) (rest := []) B hS (mX6_holds l G hx) zy_X6_holds zk_1180 (by decide) hc rfl rfl hl rfl (Nat.le_of_ble_eq_true rfl) dX11_said_41 (kk := (fun H locs hS => ?_))
      refine lv_if_eq (tgt := 57) he hb dX11_said_44 (by decide) (fun hc => ?_) (fun hc => ?_)
      · rw [if_pos hc] at h
        exact gX11_said_57 l B ih _ _ _ _ _ _ _ h hS (lv_sub hl [0, 1, 2, 3] rfl)
      · rw [if_neg hc] at h
        refine lv_iload_n he hb dX11_said_47 rfl (lv_at hl 2 rfl) ?_
        refine lv_iload_n he hb dX11_said_48 rfl (lv_at hl 1 rfl) ?_
        refine lv_icmp_ne (tgt := 54) he hb dX11_said_49 (by decide) (fun hc => ?_) (fun hc => ?_)
        · rw [if_neg hc] at h
          refine lv_iinc (v := (a2 + 1)) (lv' := [(2, _), (0, _), (1, _), (3, _)]) he hb dX11_said_54 hl (k := 2) rfl rfl (by decide) rfl (fun ls hl => ?_)
          exact gX11_said_57 l B ih _ _ _ _ _ _ _ h hS (lv_sub hl [1, 2, 0, 3] rfl)
        · rw [if_pos hc] at h
          refine lv_iload_n he hb dX11_said_52 rfl (lv_at hl 3 rfl) ?_
          obtain rfl := Option.some.inj h
          exact z_iret B hS dX11_said_53
def fX11_said (N n : Nat) (f : zF) (a0 : Nat) (a1 : Int32) : Option Int32 :=
    ((zgR n f 11 a0 4).bind fun x1 => ((zgI n f 6 x1 0).bind fun x2 => (if x2 = 0 then some (-1 : Int32) else (if (-1 : Int32) ≤ a1 then (fX11_said_21 N n f N a0 a1 (0 : Int32) (0 : Int32)) else some (-1 : Int32)))))
set_option maxRecDepth 100000 in
set_option maxHeartbeats 4000000 in
theorem mX11_said (l : Launch) (G : zG) {N n : Nat} {f : zF} {r : Int32} {a0 : Nat} {a1 : Int32} (h : fX11_said N n f a0 a1 = some r) : zM l G yX11_said cX11_said 4 (some .int) 5 n f [zr G a0, .int a1] (some (.int r)) f := by
  refine zM.of (by decide) (Nat.le_of_ble_eq_true rfl) ?_
  intro p e s m args below meth c locs ls B hS hl
  have he := B.1
  have hb := B.2.1
  have hl : lv_has ls 4 [(0, zr G a0), (1, .int a1)] := hl
  unfold fX11_said at h
  generalize s.heap = H at hS ⊢
  refine z_aload_n he hb dX11_said_0 rfl (lv_at hl 0 rfl) (zref_r _ _) ?_
  obtain ⟨x1, hx, h⟩ := zob h
  refine z_getR (ci := 11) (T := TX11) (N := 14) (j := 4) B hS hx rfl zin_X11 (by decide) zk_512 dX11_said_1 ?_
  obtain ⟨x2, hx, h⟩ := zob h
  refine z_getI (ci := 6) (T := TX6) (N := 4) (j := 0) B hS hx rfl zin_X6 (by decide) zk_300 dX11_said_4 ?_
  refine lv_if_eq (tgt := 15) he hb dX11_said_7 (by decide) (fun hc => ?_) (fun hc => ?_)
  · rw [if_pos hc] at h
    refine lv_iconst (v := (-1 : Int32)) he hb dX11_said_15 (by decide) ?_
    obtain rfl := Option.some.inj h
    exact z_iret B hS dX11_said_16
  · rw [if_neg hc] at h
    refine lv_iload_n he hb dX11_said_10 rfl (lv_at hl 1 rfl) ?_
    refine lv_iconst (v := (-1 : Int32)) he hb dX11_said_11 (by decide) ?_
    refine lv_icmp_ge (tgt := 17) he hb dX11_said_12 (by decide) (fun hc => ?_) (fun hc => ?_)
    · rw [if_pos hc] at h
      refine lv_iconst (v := (0 : Int32)) he hb dX11_said_17 (by decide) ?_
      refine lv_istore_n (lv' := [(2, _), (0, _), (1, _)]) he hb dX11_said_18 rfl hl (by decide) rfl (fun ls hl => ?_)
      refine lv_iconst (v := (0 : Int32)) he hb dX11_said_19 (by decide) ?_
      refine lv_istore_n (lv' := [(3, _), (2, _), (0, _), (1, _)]) he hb dX11_said_20 rfl hl (by decide) rfl (fun ls hl => ?_)
      exact gX11_said_21 l B N _ _ _ _ _ _ _ h hS (lv_sub hl [2, 3, 1, 0] rfl)
    · rw [if_neg hc] at h
      refine lv_iconst (v := (-1 : Int32)) he hb dX11_said_15 (by decide) ?_
      obtain rfl := Option.some.inj h
      exact z_iret B hS dX11_said_16
theorem dX11_imageIn_0 : decode cX11_imageIn 0 = .ok (.iload_n 1, 1) := by decide +kernel
theorem dX11_imageIn_1 : decode cX11_imageIn 1 = .ok (.ifCond .ne 8, 3) := by decide +kernel
theorem dX11_imageIn_4 : decode cX11_imageIn 4 = .ok (.aload_n 0, 1) := by decide +kernel
theorem dX11_imageIn_5 : decode cX11_imageIn 5 = .ok (.getfield 77, 3) := by decide +kernel
theorem dX11_imageIn_8 : decode cX11_imageIn 8 = .ok (.areturn, 1) := by decide +kernel
theorem dX11_imageIn_9 : decode cX11_imageIn 9 = .ok (.iload_n 1, 1) := by decide +kernel
theorem dX11_imageIn_10 : decode cX11_imageIn 10 = .ok (.iconst 1, 1) := by decide +kernel
theorem dX11_imageIn_11 : decode cX11_imageIn 11 = .ok (.if_icmp .ne 10, 3) := by decide +kernel
theorem dX11_imageIn_14 : decode cX11_imageIn 14 = .ok (.aload_n 0, 1) := by decide +kernel
theorem dX11_imageIn_15 : decode cX11_imageIn 15 = .ok (.getfield 81, 3) := by decide +kernel
theorem dX11_imageIn_18 : decode cX11_imageIn 18 = .ok (.goto 4, 3) := by decide +kernel
theorem dX11_imageIn_21 : decode cX11_imageIn 21 = .ok (.aconst_null, 1) := by decide +kernel
theorem dX11_imageIn_22 : decode cX11_imageIn 22 = .ok (.areturn, 1) := by decide +kernel
def fX11_imageIn (N n : Nat) (f : zF) (a0 : Nat) (a1 : Int32) : Option (Option Nat) :=
    (if a1 = 0 then ((zgR n f 11 a0 9).bind fun x2 => some (some x2)) else (if a1 = (1 : Int32) then ((zgR n f 11 a0 10).bind fun x1 => some (some x1)) else some none))
set_option maxRecDepth 100000 in
set_option maxHeartbeats 4000000 in
theorem mX11_imageIn (l : Launch) (G : zG) {N n : Nat} {f : zF} {r : Option Nat} {a0 : Nat} {a1 : Int32} (h : fX11_imageIn N n f a0 a1 = some r) : zM l G yX11_imageIn cX11_imageIn 2 (some (.object "SeenToMove$Image")) 0 n f [zr G a0, .int a1] (some (zn G r)) f := by
  refine zM.of (by decide) (Nat.le_of_ble_eq_true rfl) ?_
  intro p e s m args below meth c locs ls B hS hl
  have he := B.1
  have hb := B.2.1
  have hl : lv_has ls 2 [(0, zr G a0), (1, .int a1)] := hl
  unfold fX11_imageIn at h
  generalize s.heap = H at hS ⊢
  refine lv_iload_n he hb dX11_imageIn_0 rfl (lv_at hl 1 rfl) ?_
  refine lv_if_ne (tgt := 9) he hb dX11_imageIn_1 (by decide) (fun hc => ?_) (fun hc => ?_)
  · rw [if_neg hc] at h
    refine lv_iload_n he hb dX11_imageIn_9 rfl (lv_at hl 1 rfl) ?_
    refine lv_iconst (v := (1 : Int32)) he hb dX11_imageIn_10 (by decide) ?_
    refine lv_icmp_ne (tgt := 21) he hb dX11_imageIn_11 (by decide) (fun hc => ?_) (fun hc => ?_)
    · rw [if_neg hc] at h
      refine lv_null he hb dX11_imageIn_21 ?_
      obtain rfl := Option.some.inj h
      exact z_aret B hS dX11_imageIn_22
    · rw [if_pos hc] at h
      refine z_aload_n he hb dX11_imageIn_14 rfl (lv_at hl 0 rfl) (zref_r _ _) ?_
      obtain ⟨x1, hx, h⟩ := zob h
      refine z_getR (ci := 11) (T := TX11) (N := 14) (j := 10) B hS hx rfl zin_X11 (by decide) zk_518 dX11_imageIn_15 ?_
      refine lv_goto (tgt := 22) he hb dX11_imageIn_18 (by decide) ?_
      obtain rfl := Option.some.inj h
      exact z_aret B hS dX11_imageIn_22
  · rw [if_pos hc] at h
    refine z_aload_n he hb dX11_imageIn_4 rfl (lv_at hl 0 rfl) (zref_r _ _) ?_
    obtain ⟨x2, hx, h⟩ := zob h
    refine z_getR (ci := 11) (T := TX11) (N := 14) (j := 9) B hS hx rfl zin_X11 (by decide) zk_517 dX11_imageIn_5 ?_
    obtain rfl := Option.some.inj h
    exact z_aret B hS dX11_imageIn_8
theorem dX11_image_0 : decode cX11_image 0 = .ok (.aload_n 0, 1) := by decide +kernel
theorem dX11_image_1 : decode cX11_image 1 = .ok (.iload_n 1, 1) := by decide +kernel
theorem dX11_image_2 : decode cX11_image 2 = .ok (.invokevirtual 394, 3) := by decide +kernel
theorem dX11_image_5 : decode cX11_image 5 = .ok (.astore_n 2, 1) := by decide +kernel
theorem dX11_image_6 : decode cX11_image 6 = .ok (.aload_n 2, 1) := by decide +kernel
theorem dX11_image_7 : decode cX11_image 7 = .ok (.ifnonnull 5, 3) := by decide +kernel
theorem dX11_image_10 : decode cX11_image 10 = .ok (.iconst 0, 1) := by decide +kernel
theorem dX11_image_11 : decode cX11_image 11 = .ok (.ireturn, 1) := by decide +kernel
theorem dX11_image_12 : decode cX11_image 12 = .ok (.aload_n 2, 1) := by decide +kernel
theorem dX11_image_13 : decode cX11_image 13 = .ok (.getfield 398, 3) := by decide +kernel
theorem dX11_image_16 : decode cX11_image 16 = .ok (.aload_n 0, 1) := by decide +kernel
theorem dX11_image_17 : decode cX11_image 17 = .ok (.getfield 19, 3) := by decide +kernel
theorem dX11_image_20 : decode cX11_image 20 = .ok (.invokevirtual 122, 3) := by decide +kernel
theorem dX11_image_23 : decode cX11_image 23 = .ok (.aload_n 2, 1) := by decide +kernel
theorem dX11_image_24 : decode cX11_image 24 = .ok (.getfield 399, 3) := by decide +kernel
theorem dX11_image_27 : decode cX11_image 27 = .ok (.aload_n 0, 1) := by decide +kernel
theorem dX11_image_28 : decode cX11_image 28 = .ok (.getfield 28, 3) := by decide +kernel
theorem dX11_image_31 : decode cX11_image 31 = .ok (.invokevirtual 126, 3) := by decide +kernel
theorem dX11_image_34 : decode cX11_image 34 = .ok (.aload_n 2, 1) := by decide +kernel
theorem dX11_image_35 : decode cX11_image 35 = .ok (.getfield 400, 3) := by decide +kernel
theorem dX11_image_38 : decode cX11_image 38 = .ok (.aload_n 0, 1) := by decide +kernel
theorem dX11_image_39 : decode cX11_image 39 = .ok (.getfield 38, 3) := by decide +kernel
theorem dX11_image_42 : decode cX11_image 42 = .ok (.invokevirtual 386, 3) := by decide +kernel
theorem dX11_image_45 : decode cX11_image 45 = .ok (.aload_n 2, 1) := by decide +kernel
theorem dX11_image_46 : decode cX11_image 46 = .ok (.iconst 1, 1) := by decide +kernel
theorem dX11_image_47 : decode cX11_image 47 = .ok (.putfield 401, 3) := by decide +kernel
theorem dX11_image_50 : decode cX11_image 50 = .ok (.iconst 1, 1) := by decide +kernel
theorem dX11_image_51 : decode cX11_image 51 = .ok (.ireturn, 1) := by decide +kernel
def fX11_image (N n : Nat) (f : zF) (a0 : Nat) (a1 : Int32) : Option (zF × Int32) :=
    ((zck n f 11 a0).bind fun _ => ((fX11_imageIn N n f a0 a1).bind fun x1 => (match x1 with | none => ((zbl (0 : Int32)).bind fun y => some (f, y)) | some x2 => ((zgR n f 5 x2 0).bind fun x3 => ((zgR n f 11 a0 1).bind fun x4 => ((zck n f 2 x3).bind fun _ => ((fX2_copyFrom N n f x3 x4).bind fun f5 => ((zgR n f5 5 x2 1).bind fun x6 => ((zgR n f5 11 a0 2).bind fun x7 => ((zck n f5 8 x6).bind fun _ => ((fX8_copyFrom N n f5 x6 x7).bind fun f8 => ((zgR n f8 5 x2 2).bind fun x9 => ((zgR n f8 11 a0 4).bind fun x10 => ((zck n f8 6 x9).bind fun _ => ((fX6_copyFrom N n f8 x9 x10).bind fun f11 => ((zpZ n f11 5 x2 3 (1 : Int32)).bind fun f12 => ((zbl (1 : Int32)).bind fun y => some (f12, y))))))))))))))))))
set_option maxRecDepth 100000 in
set_option maxHeartbeats 4000000 in
theorem mX11_image (l : Launch) (G : zG) {N n : Nat} {f : zF} {f9 : zF} {r : Int32} {a0 : Nat} {a1 : Int32} (h : fX11_image N n f a0 a1 = some (f9, r)) : zM l G yX11_image cX11_image 3 (some .boolean) 3 n f [zr G a0, .int a1] (some (.int r)) f9 := by
  refine zM.of (by decide) (Nat.le_of_ble_eq_true rfl) ?_
  intro p e s m args below meth c locs ls B hS hl
  have he := B.1
  have hb := B.2.1
  have hl : lv_has ls 3 [(0, zr G a0), (1, .int a1)] := hl
  unfold fX11_image at h
  generalize s.heap = H at hS ⊢
  refine z_aload_n he hb dX11_image_0 rfl (lv_at hl 0 rfl) (zref_r _ _) ?_
  refine lv_iload_n he hb dX11_image_1 rfl (lv_at hl 1 rfl) ?_
  obtain ⟨_, hc, h⟩ := zob h
  obtain ⟨x1, hx, h⟩ := zob h
  refine z_callV (ci := 11) (T := TX11) (N := 14) (rest := []) B hS (mX11_imageIn l G hx) zy_X11_imageIn zk_1198 (by decide) hc rfl rfl hl rfl (Nat.le_of_ble_eq_true rfl) dX11_image_2 (kk := (fun H locs hS => ?_))
  refine z_astore_n (lv' := [(2, _), (0, _), (1, _)]) he hb dX11_image_5 rfl hl (by decide) (zref_n _ _) rfl (fun ls hl => ?_)
  refine z_aload_n he hb dX11_image_6 rfl (lv_at hl 0 rfl) (zref_n _ _) ?_
  refine z_ifnonnull (tgt := 12) he hb dX11_image_7 (by decide) (fun x2 ho => ?_) (fun ho => ?_)
  · subst ho
    dsimp only at h
    refine z_aload_n he hb dX11_image_12 rfl (lv_at hl 0 rfl) (zref_r _ _) ?_
    obtain ⟨x3, hx, h⟩ := zob h
    refine z_getR (ci := 5) (T := TX5) (N := 4) (j := 0) B hS hx rfl zin_X5 (by decide) zk_424 dX11_image_13 ?_
    refine z_aload_n he hb dX11_image_16 rfl (lv_at hl 1 rfl) (zref_r _ _) ?_
    obtain ⟨x4, hx, h⟩ := zob h
    refine z_getR (ci := 11) (T := TX11) (N := 14) (j := 1) B hS hx rfl zin_X11 (by decide) zk_509 dX11_image_17 ?_
    obtain ⟨_, hc, h⟩ := zob h
    obtain ⟨f5, hx, h⟩ := zob h
    refine z_callV (ci := 2) (T := TX2) (N := 15) (rest := []) B hS (mX2_copyFrom l G hx) zy_X2_copyFrom zk_716 (by decide) hc rfl rfl hl rfl (Nat.le_of_ble_eq_true rfl) dX11_image_20 (kk := (fun H locs hS => ?_))
    refine z_aload_n he hb dX11_image_23 rfl (lv_at hl 0 rfl) (zref_r _ _) ?_
    obtain ⟨x6, hx, h⟩ := zob h
    refine z_getR (ci := 5) (T := TX5) (N := 4) (j := 1) B hS hx rfl zin_X5 (by decide) zk_426 dX11_image_24 ?_
    refine z_aload_n he hb dX11_image_27 rfl (lv_at hl 1 rfl) (zref_r _ _) ?_
    obtain ⟨x7, hx, h⟩ := zob h
    refine z_getR (ci := 11) (T := TX11) (N := 14) (j := 2) B hS hx rfl zin_X11 (by decide) zk_510 dX11_image_28 ?_
    obtain ⟨_, hc, h⟩ := zob h
    obtain ⟨f8, hx, h⟩ := zob h
    refine z_callV (ci := 8) (T := TX8) (N := 9) (rest := []) B hS (mX8_copyFrom l G hx) zy_X8_copyFrom zk_730 (by decide) hc rfl rfl hl rfl (Nat.le_of_ble_eq_true rfl) dX11_image_31 (kk := (fun H locs hS => ?_))
    refine z_aload_n he hb dX11_image_34 rfl (lv_at hl 0 rfl) (zref_r _ _) ?_
    obtain ⟨x9, hx, h⟩ := zob h
    refine z_getR (ci := 5) (T := TX5) (N := 4) (j := 2) B hS hx rfl zin_X5 (by decide) zk_428 dX11_image_35 ?_
    refine z_aload_n he hb dX11_image_38 rfl (lv_at hl 1 rfl) (zref_r _ _) ?_
    obtain ⟨x10, hx, h⟩ := zob h
    refine z_getR (ci := 11) (T := TX11) (N := 14) (j := 4) B hS hx rfl zin_X11 (by decide) zk_512 dX11_image_39 ?_
    obtain ⟨_, hc, h⟩ := zob h
    obtain ⟨f11, hx, h⟩ := zob h
    refine z_callV (ci := 6) (T := TX6) (N := 4) (rest := []) B hS (mX6_copyFrom l G hx) zy_X6_copyFrom zk_1171 (by decide) hc rfl rfl hl rfl (Nat.le_of_ble_eq_true rfl) dX11_image_42 (kk := (fun H locs hS => ?_))
    refine z_aload_n he hb dX11_image_45 rfl (lv_at hl 0 rfl) (zref_r _ _) ?_
    refine lv_iconst (v := (1 : Int32)) he hb dX11_image_46 (by decide) ?_
    obtain ⟨f12, hx, h⟩ := zob h
    refine z_putZ (ci := 5) (T := TX5) (N := 4) (j := 3) B hS hx rfl zin_X5 tyX5 tyX5_ok nmX5 (by decide) zk_429 rfl rfl dX11_image_47 (fun H locs hS => ?_)
    refine lv_iconst (v := (1 : Int32)) he hb dX11_image_50 (by decide) ?_
    obtain ⟨y, hx, h⟩ := zob h
    obtain ⟨hz, rfl⟩ := zbl_i hx
    obtain ⟨rfl, rfl⟩ := Prod.mk.inj (Option.some.inj h)
    exact z_zret B hS hz dX11_image_51
  · subst ho
    dsimp only at h
    refine lv_iconst (v := (0 : Int32)) he hb dX11_image_10 (by decide) ?_
    obtain ⟨y, hx, h⟩ := zob h
    obtain ⟨hz, rfl⟩ := zbl_i hx
    obtain ⟨rfl, rfl⟩ := Prod.mk.inj (Option.some.inj h)
    exact z_zret B hS hz dX11_image_11
theorem dX11_restore_0 : decode cX11_restore 0 = .ok (.aload_n 0, 1) := by decide +kernel
theorem dX11_restore_1 : decode cX11_restore 1 = .ok (.iload_n 1, 1) := by decide +kernel
theorem dX11_restore_2 : decode cX11_restore 2 = .ok (.invokevirtual 394, 3) := by decide +kernel
theorem dX11_restore_5 : decode cX11_restore 5 = .ok (.astore_n 2, 1) := by decide +kernel
theorem dX11_restore_6 : decode cX11_restore 6 = .ok (.aload_n 2, 1) := by decide +kernel
theorem dX11_restore_7 : decode cX11_restore 7 = .ok (.ifnull 10, 3) := by decide +kernel
theorem dX11_restore_10 : decode cX11_restore 10 = .ok (.aload_n 2, 1) := by decide +kernel
theorem dX11_restore_11 : decode cX11_restore 11 = .ok (.getfield 401, 3) := by decide +kernel
theorem dX11_restore_14 : decode cX11_restore 14 = .ok (.ifCond .ne 5, 3) := by decide +kernel
theorem dX11_restore_17 : decode cX11_restore 17 = .ok (.iconst 0, 1) := by decide +kernel
theorem dX11_restore_18 : decode cX11_restore 18 = .ok (.ireturn, 1) := by decide +kernel
theorem dX11_restore_19 : decode cX11_restore 19 = .ok (.aload_n 0, 1) := by decide +kernel
theorem dX11_restore_20 : decode cX11_restore 20 = .ok (.getfield 19, 3) := by decide +kernel
theorem dX11_restore_23 : decode cX11_restore 23 = .ok (.aload_n 2, 1) := by decide +kernel
theorem dX11_restore_24 : decode cX11_restore 24 = .ok (.getfield 398, 3) := by decide +kernel
theorem dX11_restore_27 : decode cX11_restore 27 = .ok (.invokevirtual 122, 3) := by decide +kernel
theorem dX11_restore_30 : decode cX11_restore 30 = .ok (.aload_n 0, 1) := by decide +kernel
theorem dX11_restore_31 : decode cX11_restore 31 = .ok (.getfield 28, 3) := by decide +kernel
theorem dX11_restore_34 : decode cX11_restore 34 = .ok (.aload_n 2, 1) := by decide +kernel
theorem dX11_restore_35 : decode cX11_restore 35 = .ok (.getfield 399, 3) := by decide +kernel
theorem dX11_restore_38 : decode cX11_restore 38 = .ok (.invokevirtual 126, 3) := by decide +kernel
theorem dX11_restore_41 : decode cX11_restore 41 = .ok (.aload_n 0, 1) := by decide +kernel
theorem dX11_restore_42 : decode cX11_restore 42 = .ok (.getfield 38, 3) := by decide +kernel
theorem dX11_restore_45 : decode cX11_restore 45 = .ok (.aload_n 2, 1) := by decide +kernel
theorem dX11_restore_46 : decode cX11_restore 46 = .ok (.getfield 400, 3) := by decide +kernel
theorem dX11_restore_49 : decode cX11_restore 49 = .ok (.invokevirtual 386, 3) := by decide +kernel
theorem dX11_restore_52 : decode cX11_restore 52 = .ok (.aload_n 0, 1) := by decide +kernel
theorem dX11_restore_53 : decode cX11_restore 53 = .ok (.getfield 70, 3) := by decide +kernel
theorem dX11_restore_56 : decode cX11_restore 56 = .ok (.invokevirtual 132, 3) := by decide +kernel
theorem dX11_restore_59 : decode cX11_restore 59 = .ok (.iconst 1, 1) := by decide +kernel
theorem dX11_restore_60 : decode cX11_restore 60 = .ok (.ireturn, 1) := by decide +kernel
def fX11_restore (N n : Nat) (f : zF) (a0 : Nat) (a1 : Int32) : Option (zF × Int32) :=
    ((zck n f 11 a0).bind fun _ => ((fX11_imageIn N n f a0 a1).bind fun x1 => (match x1 with | none => ((zbl (0 : Int32)).bind fun y => some (f, y)) | some x2 => ((zgI n f 5 x2 3).bind fun x3 => (if x3 = 0 then ((zbl (0 : Int32)).bind fun y => some (f, y)) else ((zgR n f 11 a0 1).bind fun x4 => ((zgR n f 5 x2 0).bind fun x5 => ((zck n f 2 x4).bind fun _ => ((fX2_copyFrom N n f x4 x5).bind fun f6 => ((zgR n f6 11 a0 2).bind fun x7 => ((zgR n f6 5 x2 1).bind fun x8 => ((zck n f6 8 x7).bind fun _ => ((fX8_copyFrom N n f6 x7 x8).bind fun f9 => ((zgR n f9 11 a0 4).bind fun x10 => ((zgR n f9 5 x2 2).bind fun x11 => ((zck n f9 6 x10).bind fun _ => ((fX6_copyFrom N n f9 x10 x11).bind fun f12 => ((zgR n f12 11 a0 8).bind fun x13 => ((zck n f12 10 x13).bind fun _ => ((fX10_clear N n f12 x13).bind fun f14 => ((zbl (1 : Int32)).bind fun y => some (f14, y))))))))))))))))))))))
set_option maxRecDepth 100000 in
set_option maxHeartbeats 4000000 in
theorem mX11_restore (l : Launch) (G : zG) {N n : Nat} {f : zF} {f9 : zF} {r : Int32} {a0 : Nat} {a1 : Int32} (h : fX11_restore N n f a0 a1 = some (f9, r)) : zM l G yX11_restore cX11_restore 3 (some .boolean) 3 n f [zr G a0, .int a1] (some (.int r)) f9 := by
  refine zM.of (by decide) (Nat.le_of_ble_eq_true rfl) ?_
  intro p e s m args below meth c locs ls B hS hl
  have he := B.1
  have hb := B.2.1
  have hl : lv_has ls 3 [(0, zr G a0), (1, .int a1)] := hl
  unfold fX11_restore at h
  generalize s.heap = H at hS ⊢
  refine z_aload_n he hb dX11_restore_0 rfl (lv_at hl 0 rfl) (zref_r _ _) ?_
  refine lv_iload_n he hb dX11_restore_1 rfl (lv_at hl 1 rfl) ?_
  obtain ⟨_, hc, h⟩ := zob h
  obtain ⟨x1, hx, h⟩ := zob h
  refine z_callV (ci := 11) (T := TX11) (N := 14) (rest := []) B hS (mX11_imageIn l G hx) zy_X11_imageIn zk_1198 (by decide) hc rfl rfl hl rfl (Nat.le_of_ble_eq_true rfl) dX11_restore_2 (kk := (fun H locs hS => ?_))
  refine z_astore_n (lv' := [(2, _), (0, _), (1, _)]) he hb dX11_restore_5 rfl hl (by decide) (zref_n _ _) rfl (fun ls hl => ?_)
  refine z_aload_n he hb dX11_restore_6 rfl (lv_at hl 0 rfl) (zref_n _ _) ?_
  refine z_ifnull (tgt := 17) he hb dX11_restore_7 (by decide) (fun ho => ?_) (fun x2 ho => ?_)
  · subst ho
    dsimp only at h
    refine lv_iconst (v := (0 : Int32)) he hb dX11_restore_17 (by decide) ?_
    obtain ⟨y, hx, h⟩ := zob h
    obtain ⟨hz, rfl⟩ := zbl_i hx
    obtain ⟨rfl, rfl⟩ := Prod.mk.inj (Option.some.inj h)
    exact z_zret B hS hz dX11_restore_18
  · subst ho
    dsimp only at h
    refine z_aload_n he hb dX11_restore_10 rfl (lv_at hl 0 rfl) (zref_r _ _) ?_
    obtain ⟨x3, hx, h⟩ := zob h
    refine z_getI (ci := 5) (T := TX5) (N := 4) (j := 3) B hS hx rfl zin_X5 (by decide) zk_429 dX11_restore_11 ?_
    refine lv_if_ne (tgt := 19) he hb dX11_restore_14 (by decide) (fun hc => ?_) (fun hc => ?_)
    · rw [if_neg hc] at h
      refine z_aload_n he hb dX11_restore_19 rfl (lv_at hl 1 rfl) (zref_r _ _) ?_
      obtain ⟨x4, hx, h⟩ := zob h
      refine z_getR (ci := 11) (T := TX11) (N := 14) (j := 1) B hS hx rfl zin_X11 (by decide) zk_509 dX11_restore_20 ?_
      refine z_aload_n he hb dX11_restore_23 rfl (lv_at hl 0 rfl) (zref_r _ _) ?_
      obtain ⟨x5, hx, h⟩ := zob h
      refine z_getR (ci := 5) (T := TX5) (N := 4) (j := 0) B hS hx rfl zin_X5 (by decide) zk_424 dX11_restore_24 ?_
      obtain ⟨_, hc, h⟩ := zob h
      obtain ⟨f6, hx, h⟩ := zob h
      refine z_callV (ci := 2) (T := TX2) (N := 15) (rest := []) B hS (mX2_copyFrom l G hx) zy_X2_copyFrom zk_716 (by decide) hc rfl rfl hl rfl (Nat.le_of_ble_eq_true rfl) dX11_restore_27 (kk := (fun H locs hS => ?_))
      refine z_aload_n he hb dX11_restore_30 rfl (lv_at hl 1 rfl) (zref_r _ _) ?_
      obtain ⟨x7, hx, h⟩ := zob h
      refine z_getR (ci := 11) (T := TX11) (N := 14) (j := 2) B hS hx rfl zin_X11 (by decide) zk_510 dX11_restore_31 ?_
      refine z_aload_n he hb dX11_restore_34 rfl (lv_at hl 0 rfl) (zref_r _ _) ?_
      obtain ⟨x8, hx, h⟩ := zob h
      refine z_getR (ci := 5) (T := TX5) (N := 4) (j := 1) B hS hx rfl zin_X5 (by decide) zk_426 dX11_restore_35 ?_
      obtain ⟨_, hc, h⟩ := zob h
      obtain ⟨f9, hx, h⟩ := zob h
      refine z_callV (ci := 8) (T := TX8) (N := 9) (rest := []) B hS (mX8_copyFrom l G hx) zy_X8_copyFrom zk_730 (by decide) hc rfl rfl hl rfl (Nat.le_of_ble_eq_true rfl) dX11_restore_38 (kk := (fun H locs hS => ?_))
      refine z_aload_n he hb dX11_restore_41 rfl (lv_at hl 1 rfl) (zref_r _ _) ?_
      obtain ⟨x10, hx, h⟩ := zob h
      refine z_getR (ci := 11) (T := TX11) (N := 14) (j := 4) B hS hx rfl zin_X11 (by decide) zk_512 dX11_restore_42 ?_
      refine z_aload_n he hb dX11_restore_45 rfl (lv_at hl 0 rfl) (zref_r _ _) ?_
      obtain ⟨x11, hx, h⟩ := zob h
      refine z_getR (ci := 5) (T := TX5) (N := 4) (j := 2) B hS hx rfl zin_X5 (by decide) zk_428 dX11_restore_46 ?_
      obtain ⟨_, hc, h⟩ := zob h
      obtain ⟨f12, hx, h⟩ := zob h
      refine z_callV (ci := 6) (T := TX6) (N := 4) (rest := []) B hS (mX6_copyFrom l G hx) zy_X6_copyFrom zk_1171 (by decide) hc rfl rfl hl rfl (Nat.le_of_ble_eq_true rfl) dX11_restore_49 (kk := (fun H locs hS => ?_))
      refine z_aload_n he hb dX11_restore_52 rfl (lv_at hl 1 rfl) (zref_r _ _) ?_
      obtain ⟨x13, hx, h⟩ := zob h
      refine z_getR (ci := 11) (T := TX11) (N := 14) (j := 8) B hS hx rfl zin_X11 (by decide) zk_516 dX11_restore_53 ?_
      obtain ⟨_, hc, h⟩ := zob h
      obtain ⟨f14, hx, h⟩ := zob h
      refine z_callV (ci := 10) (T := TX10) (N := 3) (rest := []) B hS (mX10_clear l G hx) zy_X10_clear zk_739 (by decide) hc rfl rfl hl rfl (Nat.le_of_ble_eq_true rfl) dX11_restore_56 (kk := (fun H locs hS => ?_))
      refine lv_iconst (v := (1 : Int32)) he hb dX11_restore_59 (by decide) ?_
      obtain ⟨y, hx, h⟩ := zob h
      obtain ⟨hz, rfl⟩ := zbl_i hx
      obtain ⟨rfl, rfl⟩ := Prod.mk.inj (Option.some.inj h)
      exact z_zret B hS hz dX11_restore_60
    · rw [if_pos hc] at h
      refine lv_iconst (v := (0 : Int32)) he hb dX11_restore_17 (by decide) ?_
      obtain ⟨y, hx, h⟩ := zob h
      obtain ⟨hz, rfl⟩ := zbl_i hx
      obtain ⟨rfl, rfl⟩ := Prod.mk.inj (Option.some.inj h)
      exact z_zret B hS hz dX11_restore_18
theorem dX11_count_0 : decode cX11_count 0 = .ok (.iload_n 1, 1) := by decide +kernel
theorem dX11_count_1 : decode cX11_count 1 = .ok (.tableswitch 87 0 5 #[39, 47, 55, 63, 71, 79], 39) := by decide +kernel
theorem dX11_count_40 : decode cX11_count 40 = .ok (.aload_n 0, 1) := by decide +kernel
theorem dX11_count_41 : decode cX11_count 41 = .ok (.getfield 19, 3) := by decide +kernel
theorem dX11_count_44 : decode cX11_count 44 = .ok (.getfield 404, 3) := by decide +kernel
theorem dX11_count_47 : decode cX11_count 47 = .ok (.ireturn, 1) := by decide +kernel
theorem dX11_count_48 : decode cX11_count 48 = .ok (.aload_n 0, 1) := by decide +kernel
theorem dX11_count_49 : decode cX11_count 49 = .ok (.getfield 19, 3) := by decide +kernel
theorem dX11_count_52 : decode cX11_count 52 = .ok (.getfield 407, 3) := by decide +kernel
theorem dX11_count_55 : decode cX11_count 55 = .ok (.ireturn, 1) := by decide +kernel
theorem dX11_count_56 : decode cX11_count 56 = .ok (.aload_n 0, 1) := by decide +kernel
theorem dX11_count_57 : decode cX11_count 57 = .ok (.getfield 19, 3) := by decide +kernel
theorem dX11_count_60 : decode cX11_count 60 = .ok (.getfield 226, 3) := by decide +kernel
theorem dX11_count_63 : decode cX11_count 63 = .ok (.ireturn, 1) := by decide +kernel
theorem dX11_count_64 : decode cX11_count 64 = .ok (.aload_n 0, 1) := by decide +kernel
theorem dX11_count_65 : decode cX11_count 65 = .ok (.getfield 19, 3) := by decide +kernel
theorem dX11_count_68 : decode cX11_count 68 = .ok (.getfield 220, 3) := by decide +kernel
theorem dX11_count_71 : decode cX11_count 71 = .ok (.ireturn, 1) := by decide +kernel
theorem dX11_count_72 : decode cX11_count 72 = .ok (.aload_n 0, 1) := by decide +kernel
theorem dX11_count_73 : decode cX11_count 73 = .ok (.getfield 19, 3) := by decide +kernel
theorem dX11_count_76 : decode cX11_count 76 = .ok (.getfield 223, 3) := by decide +kernel
theorem dX11_count_79 : decode cX11_count 79 = .ok (.ireturn, 1) := by decide +kernel
theorem dX11_count_80 : decode cX11_count 80 = .ok (.aload_n 0, 1) := by decide +kernel
theorem dX11_count_81 : decode cX11_count 81 = .ok (.getfield 10, 3) := by decide +kernel
theorem dX11_count_84 : decode cX11_count 84 = .ok (.getfield 102, 3) := by decide +kernel
theorem dX11_count_87 : decode cX11_count 87 = .ok (.ireturn, 1) := by decide +kernel
theorem dX11_count_88 : decode cX11_count 88 = .ok (.iconst (-1), 1) := by decide +kernel
theorem dX11_count_89 : decode cX11_count 89 = .ok (.ireturn, 1) := by decide +kernel
def fX11_count (N n : Nat) (f : zF) (a0 : Nat) (a1 : Int32) : Option Int32 :=
    (if a1 = (0 : Int32) then ((zgR n f 11 a0 1).bind fun x1 => ((zgI n f 2 x1 0).bind fun x2 => some x2)) else (if a1 = (1 : Int32) then ((zgR n f 11 a0 1).bind fun x3 => ((zgI n f 2 x3 1).bind fun x4 => some x4)) else (if a1 = (2 : Int32) then ((zgR n f 11 a0 1).bind fun x5 => ((zgI n f 2 x5 2).bind fun x6 => some x6)) else (if a1 = (3 : Int32) then ((zgR n f 11 a0 1).bind fun x7 => ((zgI n f 2 x7 3).bind fun x8 => some x8)) else (if a1 = (4 : Int32) then ((zgR n f 11 a0 1).bind fun x9 => ((zgI n f 2 x9 4).bind fun x10 => some x10)) else (if a1 = (5 : Int32) then ((zgR n f 11 a0 0).bind fun x11 => ((zgI n f 9 x11 2).bind fun x12 => some x12)) else some (-1 : Int32)))))))
set_option maxRecDepth 100000 in
set_option maxHeartbeats 4000000 in
theorem mX11_count (l : Launch) (G : zG) {N n : Nat} {f : zF} {r : Int32} {a0 : Nat} {a1 : Int32} (h : fX11_count N n f a0 a1 = some r) : zM l G yX11_count cX11_count 2 (some .int) 0 n f [zr G a0, .int a1] (some (.int r)) f := by
  refine zM.of (by decide) (Nat.le_of_ble_eq_true rfl) ?_
  intro p e s m args below meth c locs ls B hS hl
  have he := B.1
  have hb := B.2.1
  have hl : lv_has ls 2 [(0, zr G a0), (1, .int a1)] := hl
  unfold fX11_count at h
  generalize s.heap = H at hS ⊢
  refine lv_iload_n he hb dX11_count_0 rfl (lv_at hl 1 rfl) ?_
  by_cases hc0 : a1 = (0 : Int32)
  · rw [if_pos hc0] at h
    refine lv_tableIn (tgt := 40) he hb dX11_count_1 (by rw [hc0]; decide) (by rw [hc0]; decide) (by rw [hc0]; rfl) (by decide) ?_
    refine z_aload_n he hb dX11_count_40 rfl (lv_at hl 0 rfl) (zref_r _ _) ?_
    obtain ⟨x1, hx, h⟩ := zob h
    refine z_getR (ci := 11) (T := TX11) (N := 14) (j := 1) B hS hx rfl zin_X11 (by decide) zk_509 dX11_count_41 ?_
    obtain ⟨x2, hx, h⟩ := zob h
    refine z_getI (ci := 2) (T := TX2) (N := 15) (j := 0) B hS hx rfl zin_X2 (by decide) zk_153 dX11_count_44 ?_
    obtain rfl := Option.some.inj h
    exact z_iret B hS dX11_count_47
  rw [if_neg hc0] at h
  by_cases hc1 : a1 = (1 : Int32)
  · rw [if_pos hc1] at h
    refine lv_tableIn (tgt := 48) he hb dX11_count_1 (by rw [hc1]; decide) (by rw [hc1]; decide) (by rw [hc1]; rfl) (by decide) ?_
    refine z_aload_n he hb dX11_count_48 rfl (lv_at hl 0 rfl) (zref_r _ _) ?_
    obtain ⟨x3, hx, h⟩ := zob h
    refine z_getR (ci := 11) (T := TX11) (N := 14) (j := 1) B hS hx rfl zin_X11 (by decide) zk_509 dX11_count_49 ?_
    obtain ⟨x4, hx, h⟩ := zob h
    refine z_getI (ci := 2) (T := TX2) (N := 15) (j := 1) B hS hx rfl zin_X2 (by decide) zk_157 dX11_count_52 ?_
    obtain rfl := Option.some.inj h
    exact z_iret B hS dX11_count_55
  rw [if_neg hc1] at h
  by_cases hc2 : a1 = (2 : Int32)
  · rw [if_pos hc2] at h
    refine lv_tableIn (tgt := 56) he hb dX11_count_1 (by rw [hc2]; decide) (by rw [hc2]; decide) (by rw [hc2]; rfl) (by decide) ?_
    refine z_aload_n he hb dX11_count_56 rfl (lv_at hl 0 rfl) (zref_r _ _) ?_
    obtain ⟨x5, hx, h⟩ := zob h
    refine z_getR (ci := 11) (T := TX11) (N := 14) (j := 1) B hS hx rfl zin_X11 (by decide) zk_509 dX11_count_57 ?_
    obtain ⟨x6, hx, h⟩ := zob h
    refine z_getI (ci := 2) (T := TX2) (N := 15) (j := 2) B hS hx rfl zin_X2 (by decide) zk_162 dX11_count_60 ?_
    obtain rfl := Option.some.inj h
    exact z_iret B hS dX11_count_63
  rw [if_neg hc2] at h
  by_cases hc3 : a1 = (3 : Int32)
  · rw [if_pos hc3] at h
    refine lv_tableIn (tgt := 64) he hb dX11_count_1 (by rw [hc3]; decide) (by rw [hc3]; decide) (by rw [hc3]; rfl) (by decide) ?_
    refine z_aload_n he hb dX11_count_64 rfl (lv_at hl 0 rfl) (zref_r _ _) ?_
    obtain ⟨x7, hx, h⟩ := zob h
    refine z_getR (ci := 11) (T := TX11) (N := 14) (j := 1) B hS hx rfl zin_X11 (by decide) zk_509 dX11_count_65 ?_
    obtain ⟨x8, hx, h⟩ := zob h
    refine z_getI (ci := 2) (T := TX2) (N := 15) (j := 3) B hS hx rfl zin_X2 (by decide) zk_167 dX11_count_68 ?_
    obtain rfl := Option.some.inj h
    exact z_iret B hS dX11_count_71
  rw [if_neg hc3] at h
  by_cases hc4 : a1 = (4 : Int32)
  · rw [if_pos hc4] at h
    refine lv_tableIn (tgt := 72) he hb dX11_count_1 (by rw [hc4]; decide) (by rw [hc4]; decide) (by rw [hc4]; rfl) (by decide) ?_
    refine z_aload_n he hb dX11_count_72 rfl (lv_at hl 0 rfl) (zref_r _ _) ?_
    obtain ⟨x9, hx, h⟩ := zob h
    refine z_getR (ci := 11) (T := TX11) (N := 14) (j := 1) B hS hx rfl zin_X11 (by decide) zk_509 dX11_count_73 ?_
    obtain ⟨x10, hx, h⟩ := zob h
    refine z_getI (ci := 2) (T := TX2) (N := 15) (j := 4) B hS hx rfl zin_X2 (by decide) zk_173 dX11_count_76 ?_
    obtain rfl := Option.some.inj h
    exact z_iret B hS dX11_count_79
  rw [if_neg hc4] at h
  by_cases hc5 : a1 = (5 : Int32)
  · rw [if_pos hc5] at h
    refine lv_tableIn (tgt := 80) he hb dX11_count_1 (by rw [hc5]; decide) (by rw [hc5]; decide) (by rw [hc5]; rfl) (by decide) ?_
    refine z_aload_n he hb dX11_count_80 rfl (lv_at hl 0 rfl) (zref_r _ _) ?_
    obtain ⟨x11, hx, h⟩ := zob h
    refine z_getR (ci := 11) (T := TX11) (N := 14) (j := 0) B hS hx rfl zin_X11 (by decide) zk_508 dX11_count_81 ?_
    obtain ⟨x12, hx, h⟩ := zob h
    refine z_getI (ci := 9) (T := TX9) (N := 12) (j := 2) B hS hx rfl zin_X9 (by decide) zk_95 dX11_count_84 ?_
    obtain rfl := Option.some.inj h
    exact z_iret B hS dX11_count_87
  rw [if_neg hc5] at h
  refine lv_tableOut (tgt := 88) he hb dX11_count_1 ?_ (by decide) ?_
  · have h0 := lv_neT hc0 (a := 0) rfl; have h1 := lv_neT hc1 (a := 1) rfl; have h2 := lv_neT hc2 (a := 2) rfl; have h3 := lv_neT hc3 (a := 3) rfl; have h4 := lv_neT hc4 (a := 4) rfl; have h5 := lv_neT hc5 (a := 5) rfl; omega
  · skip
    refine lv_iconst (v := (-1 : Int32)) he hb dX11_count_88 (by decide) ?_
    obtain rfl := Option.some.inj h
    exact z_iret B hS dX11_count_89
