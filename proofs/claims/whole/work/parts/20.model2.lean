/-! methods: what they do to the small heap, and that their bytecode does it -/
theorem dX12_land_0 : decode cX12_land 0 = .ok (.aload_n 0, 1) := by decide +kernel
theorem dX12_land_1 : decode cX12_land 1 = .ok (.iconst 0, 1) := by decide +kernel
theorem dX12_land_2 : decode cX12_land 2 = .ok (.putfield 1, 3) := by decide +kernel
theorem dX12_land_5 : decode cX12_land 5 = .ok (.iload_n 1, 1) := by decide +kernel
theorem dX12_land_6 : decode cX12_land 6 = .ok (.iconst 0, 1) := by decide +kernel
theorem dX12_land_7 : decode cX12_land 7 = .ok (.aload_n 0, 1) := by decide +kernel
theorem dX12_land_8 : decode cX12_land 8 = .ok (.getfield 33, 3) := by decide +kernel
theorem dX12_land_11 : decode cX12_land 11 = .ok (.iconst 2, 1) := by decide +kernel
theorem dX12_land_12 : decode cX12_land 12 = .ok (.iaload, 1) := by decide +kernel
theorem dX12_land_13 : decode cX12_land 13 = .ok (.iconst 1, 1) := by decide +kernel
theorem dX12_land_14 : decode cX12_land 14 = .ok (.isub, 1) := by decide +kernel
theorem dX12_land_15 : decode cX12_land 15 = .ok (.invokestatic 192, 3) := by decide +kernel
theorem dX12_land_18 : decode cX12_land 18 = .ok (.ifCond .eq 11, 3) := by decide +kernel
theorem dX12_land_21 : decode cX12_land 21 = .ok (.aload_n 0, 1) := by decide +kernel
theorem dX12_land_22 : decode cX12_land 22 = .ok (.iload_n 1, 1) := by decide +kernel
theorem dX12_land_23 : decode cX12_land 23 = .ok (.invokevirtual 323, 3) := by decide +kernel
theorem dX12_land_26 : decode cX12_land 26 = .ok (.goto 4, 3) := by decide +kernel
theorem dX12_land_29 : decode cX12_land 29 = .ok (.iconst (-1), 1) := by decide +kernel
theorem dX12_land_30 : decode cX12_land 30 = .ok (.ireturn, 1) := by decide +kernel
def fX12_land (N n : Nat) (f : zF) (a0 : Nat) (a1 : Int32) : Option (zF × Int32) :=
    ((zpI n f 12 a0 0 (0 : Int32)).bind fun f1 => ((zgR n f1 12 a0 6).bind fun x2 => ((zlI n f1 0 x2 (2 : Int32)).bind fun x3 => ((fX12_isIn N n f1 a1 (0 : Int32) (x3 - (1 : Int32))).bind fun x4 => (if x4 = 0 then some (f1, (-1 : Int32)) else ((zck n f1 12 a0).bind fun _ => ((fX12_landOf N n f1 a0 a1).bind fun x5 => some (f1, x5))))))))
set_option maxRecDepth 100000 in
set_option maxHeartbeats 4000000 in
theorem mX12_land (l : Launch) (G : zG) {N n : Nat} {f : zF} {f9 : zF} {r : Int32} {a0 : Nat} {a1 : Int32} (h : fX12_land N n f a0 a1 = some (f9, r)) : zM l G yX12_land cX12_land 2 (some .int) 1 n f [zr G a0, .int a1] (some (.int r)) f9 := by
  refine zM.of (by decide) (Nat.le_of_ble_eq_true rfl) ?_
  intro p e s m args below meth c locs ls B hS hl
  have he := B.1
  have hb := B.2.1
  have hl : lv_has ls 2 [(0, zr G a0), (1, .int a1)] := hl
  unfold fX12_land at h
  generalize s.heap = H at hS ⊢
  refine z_aload_n he hb dX12_land_0 rfl (lv_at hl 0 rfl) (zref_r _ _) ?_
  refine lv_iconst (v := (0 : Int32)) he hb dX12_land_1 (by decide) ?_
  obtain ⟨f1, hx, h⟩ := zob h
  refine z_putI (ci := 12) (T := TX12) (N := 50) (j := 0) B hS hx rfl zin_X12 tyX12 tyX12_ok nmX12 (by decide) zk_1347 rfl rfl dX12_land_2 (fun H locs hS => ?_)
  refine lv_iload_n he hb dX12_land_5 rfl (lv_at hl 1 rfl) ?_
  refine lv_iconst (v := (0 : Int32)) he hb dX12_land_6 (by decide) ?_
  refine z_aload_n he hb dX12_land_7 rfl (lv_at hl 0 rfl) (zref_r _ _) ?_
  obtain ⟨x2, hx, h⟩ := zob h
  refine z_getR (ci := 12) (T := TX12) (N := 50) (j := 6) B hS hx rfl zin_X12 (by decide) zk_1353 dX12_land_8 ?_
  refine lv_iconst (v := (2 : Int32)) he hb dX12_land_11 (by decide) ?_
  obtain ⟨x3, hx, h⟩ := zob h
  refine z_ildI B hS hx dX12_land_12 ?_
  refine lv_iconst (v := (1 : Int32)) he hb dX12_land_13 (by decide) ?_
  refine lv_isub he hb dX12_land_14 ?_
  obtain ⟨x4, hx, h⟩ := zob h
  refine z_callS (rest := []) B hS (mX12_isIn l G hx) zy_X12_isIn zk_1545 (by decide) rfl hl rfl (Nat.le_of_ble_eq_true rfl) dX12_land_15 (kk := (fun H locs hS => ?_))
  refine lv_if_eq (tgt := 29) he hb dX12_land_18 (by decide) (fun hc => ?_) (fun hc => ?_)
  · rw [if_pos hc] at h
    refine lv_iconst (v := (-1 : Int32)) he hb dX12_land_29 (by decide) ?_
    obtain ⟨rfl, rfl⟩ := Prod.mk.inj (Option.some.inj h)
    exact z_iret B hS dX12_land_30
  · rw [if_neg hc] at h
    refine z_aload_n he hb dX12_land_21 rfl (lv_at hl 0 rfl) (zref_r _ _) ?_
    refine lv_iload_n he hb dX12_land_22 rfl (lv_at hl 1 rfl) ?_
    obtain ⟨_, hc, h⟩ := zob h
    obtain ⟨x5, hx, h⟩ := zob h
    refine z_callV (ci := 12) (T := TX12) (N := 50) (rest := []) B hS (mX12_landOf l G hx) zy_X12_landOf zk_1695 (by decide) hc rfl rfl hl rfl (Nat.le_of_ble_eq_true rfl) dX12_land_23 (kk := (fun H locs hS => ?_))
    refine lv_goto (tgt := 30) he hb dX12_land_26 (by decide) ?_
    obtain ⟨rfl, rfl⟩ := Prod.mk.inj (Option.some.inj h)
    exact z_iret B hS dX12_land_30
theorem dX12_whyWalk_0 : decode cX12_whyWalk 0 = .ok (.aload_n 0, 1) := by decide +kernel
theorem dX12_whyWalk_1 : decode cX12_whyWalk 1 = .ok (.aload_n 0, 1) := by decide +kernel
theorem dX12_whyWalk_2 : decode cX12_whyWalk 2 = .ok (.getfield 33, 3) := by decide +kernel
theorem dX12_whyWalk_5 : decode cX12_whyWalk 5 = .ok (.sipush 159, 3) := by decide +kernel
theorem dX12_whyWalk_8 : decode cX12_whyWalk 8 = .ok (.iload_n 1, 1) := by decide +kernel
theorem dX12_whyWalk_9 : decode cX12_whyWalk 9 = .ok (.iadd, 1) := by decide +kernel
theorem dX12_whyWalk_10 : decode cX12_whyWalk 10 = .ok (.iaload, 1) := by decide +kernel
theorem dX12_whyWalk_11 : decode cX12_whyWalk 11 = .ok (.iload_n 2, 1) := by decide +kernel
theorem dX12_whyWalk_12 : decode cX12_whyWalk 12 = .ok (.invokevirtual 280, 3) := by decide +kernel
theorem dX12_whyWalk_15 : decode cX12_whyWalk 15 = .ok (.istore_n 3, 1) := by decide +kernel
theorem dX12_whyWalk_16 : decode cX12_whyWalk 16 = .ok (.iload_n 3, 1) := by decide +kernel
theorem dX12_whyWalk_17 : decode cX12_whyWalk 17 = .ok (.ifCond .ge 7, 3) := by decide +kernel
theorem dX12_whyWalk_20 : decode cX12_whyWalk 20 = .ok (.iconst 1, 1) := by decide +kernel
theorem dX12_whyWalk_21 : decode cX12_whyWalk 21 = .ok (.goto 39, 3) := by decide +kernel
theorem dX12_whyWalk_24 : decode cX12_whyWalk 24 = .ok (.aload_n 0, 1) := by decide +kernel
theorem dX12_whyWalk_25 : decode cX12_whyWalk 25 = .ok (.getfield 33, 3) := by decide +kernel
theorem dX12_whyWalk_28 : decode cX12_whyWalk 28 = .ok (.iconst 5, 1) := by decide +kernel
theorem dX12_whyWalk_29 : decode cX12_whyWalk 29 = .ok (.iload_n 3, 1) := by decide +kernel
theorem dX12_whyWalk_30 : decode cX12_whyWalk 30 = .ok (.iadd, 1) := by decide +kernel
theorem dX12_whyWalk_31 : decode cX12_whyWalk 31 = .ok (.iaload, 1) := by decide +kernel
theorem dX12_whyWalk_32 : decode cX12_whyWalk 32 = .ok (.ifCond .le 7, 3) := by decide +kernel
theorem dX12_whyWalk_35 : decode cX12_whyWalk 35 = .ok (.iconst 2, 1) := by decide +kernel
theorem dX12_whyWalk_36 : decode cX12_whyWalk 36 = .ok (.goto 24, 3) := by decide +kernel
theorem dX12_whyWalk_39 : decode cX12_whyWalk 39 = .ok (.aload_n 0, 1) := by decide +kernel
theorem dX12_whyWalk_40 : decode cX12_whyWalk 40 = .ok (.iload_n 3, 1) := by decide +kernel
theorem dX12_whyWalk_41 : decode cX12_whyWalk 41 = .ok (.invokevirtual 283, 3) := by decide +kernel
theorem dX12_whyWalk_44 : decode cX12_whyWalk 44 = .ok (.ifCond .ge 11, 3) := by decide +kernel
theorem dX12_whyWalk_47 : decode cX12_whyWalk 47 = .ok (.aload_n 0, 1) := by decide +kernel
theorem dX12_whyWalk_48 : decode cX12_whyWalk 48 = .ok (.iload_n 3, 1) := by decide +kernel
theorem dX12_whyWalk_49 : decode cX12_whyWalk 49 = .ok (.invokevirtual 286, 3) := by decide +kernel
theorem dX12_whyWalk_52 : decode cX12_whyWalk 52 = .ok (.ifCond .lt 7, 3) := by decide +kernel
theorem dX12_whyWalk_55 : decode cX12_whyWalk 55 = .ok (.iconst 3, 1) := by decide +kernel
theorem dX12_whyWalk_56 : decode cX12_whyWalk 56 = .ok (.goto 4, 3) := by decide +kernel
theorem dX12_whyWalk_59 : decode cX12_whyWalk 59 = .ok (.iconst 0, 1) := by decide +kernel
theorem dX12_whyWalk_60 : decode cX12_whyWalk 60 = .ok (.ireturn, 1) := by decide +kernel
def fX12_whyWalk (N n : Nat) (f : zF) (a0 : Nat) (a1 : Int32) (a2 : Int32) : Option Int32 :=
    ((zgR n f 12 a0 6).bind fun x1 => ((zlI n f 0 x1 ((159 : Int32) + a1)).bind fun x2 => ((zck n f 12 a0).bind fun _ => ((fX12_beside N n f a0 x2 a2).bind fun x3 => (if 0 ≤ x3 then ((zgR n f 12 a0 6).bind fun x4 => ((zlI n f 0 x4 ((5 : Int32) + x3)).bind fun x5 => (if x5 ≤ 0 then ((zck n f 12 a0).bind fun _ => ((fX12_figureAt N n f a0 x3).bind fun x6 => (if 0 ≤ x6 then some (3 : Int32) else ((zck n f 12 a0).bind fun _ => ((fX12_lookerAt N n f a0 x3).bind fun x7 => (if x7 < 0 then some (0 : Int32) else some (3 : Int32))))))) else some (2 : Int32)))) else some (1 : Int32))))))
set_option maxRecDepth 100000 in
set_option maxHeartbeats 4000000 in
theorem mX12_whyWalk (l : Launch) (G : zG) {N n : Nat} {f : zF} {r : Int32} {a0 : Nat} {a1 : Int32} {a2 : Int32} (h : fX12_whyWalk N n f a0 a1 a2 = some r) : zM l G yX12_whyWalk cX12_whyWalk 4 (some .int) 3 n f [zr G a0, .int a1, .int a2] (some (.int r)) f := by
  refine zM.of (by decide) (Nat.le_of_ble_eq_true rfl) ?_
  intro p e s m args below meth c locs ls B hS hl
  have he := B.1
  have hb := B.2.1
  have hl : lv_has ls 4 [(0, zr G a0), (1, .int a1), (2, .int a2)] := hl
  unfold fX12_whyWalk at h
  generalize s.heap = H at hS ⊢
  refine z_aload_n he hb dX12_whyWalk_0 rfl (lv_at hl 0 rfl) (zref_r _ _) ?_
  refine z_aload_n he hb dX12_whyWalk_1 rfl (lv_at hl 0 rfl) (zref_r _ _) ?_
  obtain ⟨x1, hx, h⟩ := zob h
  refine z_getR (ci := 12) (T := TX12) (N := 50) (j := 6) B hS hx rfl zin_X12 (by decide) zk_1353 dX12_whyWalk_2 ?_
  refine lv_sipush (v := (159 : Int32)) he hb dX12_whyWalk_5 (by decide) ?_
  refine lv_iload_n he hb dX12_whyWalk_8 rfl (lv_at hl 1 rfl) ?_
  refine lv_iadd he hb dX12_whyWalk_9 ?_
  obtain ⟨x2, hx, h⟩ := zob h
  refine z_ildI B hS hx dX12_whyWalk_10 ?_
  refine lv_iload_n he hb dX12_whyWalk_11 rfl (lv_at hl 2 rfl) ?_
  obtain ⟨_, hc, h⟩ := zob h
  obtain ⟨x3, hx, h⟩ := zob h
  refine z_callV (ci := 12) (T := TX12) (N := 50) (rest := []) B hS (mX12_beside l G hx) zy_X12_beside zk_1659 (by decide) hc rfl rfl hl rfl (Nat.le_of_ble_eq_true rfl) dX12_whyWalk_12 (kk := (fun H locs hS => ?_))
  refine lv_istore_n (lv' := [(3, _), (0, _), (1, _), (2, _)]) he hb dX12_whyWalk_15 rfl hl (by decide) rfl (fun ls hl => ?_)
  refine lv_iload_n he hb dX12_whyWalk_16 rfl (lv_at hl 0 rfl) ?_
  refine lv_if_ge (tgt := 24) he hb dX12_whyWalk_17 (by decide) (fun hc => ?_) (fun hc => ?_)
  · rw [if_pos hc] at h
    refine z_aload_n he hb dX12_whyWalk_24 rfl (lv_at hl 1 rfl) (zref_r _ _) ?_
    obtain ⟨x4, hx, h⟩ := zob h
    refine z_getR (ci := 12) (T := TX12) (N := 50) (j := 6) B hS hx rfl zin_X12 (by decide) zk_1353 dX12_whyWalk_25 ?_
    refine lv_iconst (v := (5 : Int32)) he hb dX12_whyWalk_28 (by decide) ?_
    refine lv_iload_n he hb dX12_whyWalk_29 rfl (lv_at hl 0 rfl) ?_
    refine lv_iadd he hb dX12_whyWalk_30 ?_
    obtain ⟨x5, hx, h⟩ := zob h
    refine z_ildI B hS hx dX12_whyWalk_31 ?_
    refine lv_if_le (tgt := 39) he hb dX12_whyWalk_32 (by decide) (fun hc => ?_) (fun hc => ?_)
    · rw [if_pos hc] at h
      refine z_aload_n he hb dX12_whyWalk_39 rfl (lv_at hl 1 rfl) (zref_r _ _) ?_
      refine lv_iload_n he hb dX12_whyWalk_40 rfl (lv_at hl 0 rfl) ?_
      obtain ⟨_, hc, h⟩ := zob h
      obtain ⟨x6, hx, h⟩ := zob h
      refine z_callV (ci := 12) (T := TX12) (N := 50) (rest := []) B hS (mX12_figureAt l G hx) zy_X12_figureAt zk_1655 (by decide) hc rfl rfl hl rfl (Nat.le_of_ble_eq_true rfl) dX12_whyWalk_41 (kk := (fun H locs hS => ?_))
      refine lv_if_ge (tgt := 55) he hb dX12_whyWalk_44 (by decide) (fun hc => ?_) (fun hc => ?_)
      · rw [if_pos hc] at h
        refine lv_iconst (v := (3 : Int32)) he hb dX12_whyWalk_55 (by decide) ?_
        refine lv_goto (tgt := 60) he hb dX12_whyWalk_56 (by decide) ?_
        obtain rfl := Option.some.inj h
        exact z_iret B hS dX12_whyWalk_60
      · rw [if_neg hc] at h
        refine z_aload_n he hb dX12_whyWalk_47 rfl (lv_at hl 1 rfl) (zref_r _ _) ?_
        refine lv_iload_n he hb dX12_whyWalk_48 rfl (lv_at hl 0 rfl) ?_
        obtain ⟨_, hc, h⟩ := zob h
        obtain ⟨x7, hx, h⟩ := zob h
        refine z_callV (ci := 12) (T := TX12) (N := 50) (rest := []) B hS (mX12_lookerAt l G hx) zy_X12_lookerAt zk_1667 (by decide) hc rfl rfl hl rfl (Nat.le_of_ble_eq_true rfl) dX12_whyWalk_49 (kk := (fun H locs hS => ?_))
        refine lv_if_lt (tgt := 59) he hb dX12_whyWalk_52 (by decide) (fun hc => ?_) (fun hc => ?_)
        · rw [if_pos hc] at h
          refine lv_iconst (v := (0 : Int32)) he hb dX12_whyWalk_59 (by decide) ?_
          obtain rfl := Option.some.inj h
          exact z_iret B hS dX12_whyWalk_60
        · rw [if_neg hc] at h
          refine lv_iconst (v := (3 : Int32)) he hb dX12_whyWalk_55 (by decide) ?_
          refine lv_goto (tgt := 60) he hb dX12_whyWalk_56 (by decide) ?_
          obtain rfl := Option.some.inj h
          exact z_iret B hS dX12_whyWalk_60
    · rw [if_neg hc] at h
      refine lv_iconst (v := (2 : Int32)) he hb dX12_whyWalk_35 (by decide) ?_
      refine lv_goto (tgt := 60) he hb dX12_whyWalk_36 (by decide) ?_
      obtain rfl := Option.some.inj h
      exact z_iret B hS dX12_whyWalk_60
  · rw [if_neg hc] at h
    refine lv_iconst (v := (1 : Int32)) he hb dX12_whyWalk_20 (by decide) ?_
    refine lv_goto (tgt := 60) he hb dX12_whyWalk_21 (by decide) ?_
    obtain rfl := Option.some.inj h
    exact z_iret B hS dX12_whyWalk_60
theorem dX12_whyFace_0 : decode cX12_whyFace 0 = .ok (.aload_n 0, 1) := by decide +kernel
theorem dX12_whyFace_1 : decode cX12_whyFace 1 = .ok (.iload_n 1, 1) := by decide +kernel
theorem dX12_whyFace_2 : decode cX12_whyFace 2 = .ok (.invokevirtual 311, 3) := by decide +kernel
theorem dX12_whyFace_5 : decode cX12_whyFace 5 = .ok (.ifCond .eq 7, 3) := by decide +kernel
theorem dX12_whyFace_8 : decode cX12_whyFace 8 = .ok (.iconst 1, 1) := by decide +kernel
theorem dX12_whyFace_9 : decode cX12_whyFace 9 = .ok (.goto 22, 3) := by decide +kernel
theorem dX12_whyFace_12 : decode cX12_whyFace 12 = .ok (.aload_n 0, 1) := by decide +kernel
theorem dX12_whyFace_13 : decode cX12_whyFace 13 = .ok (.getfield 33, 3) := by decide +kernel
theorem dX12_whyFace_16 : decode cX12_whyFace 16 = .ok (.sipush 147, 3) := by decide +kernel
theorem dX12_whyFace_19 : decode cX12_whyFace 19 = .ok (.iload_n 1, 1) := by decide +kernel
theorem dX12_whyFace_20 : decode cX12_whyFace 20 = .ok (.iadd, 1) := by decide +kernel
theorem dX12_whyFace_21 : decode cX12_whyFace 21 = .ok (.iaload, 1) := by decide +kernel
theorem dX12_whyFace_22 : decode cX12_whyFace 22 = .ok (.iload_n 2, 1) := by decide +kernel
theorem dX12_whyFace_23 : decode cX12_whyFace 23 = .ok (.if_icmp .ne 7, 3) := by decide +kernel
theorem dX12_whyFace_26 : decode cX12_whyFace 26 = .ok (.iconst 2, 1) := by decide +kernel
theorem dX12_whyFace_27 : decode cX12_whyFace 27 = .ok (.goto 4, 3) := by decide +kernel
theorem dX12_whyFace_30 : decode cX12_whyFace 30 = .ok (.iconst 0, 1) := by decide +kernel
theorem dX12_whyFace_31 : decode cX12_whyFace 31 = .ok (.ireturn, 1) := by decide +kernel
def fX12_whyFace (N n : Nat) (f : zF) (a0 : Nat) (a1 : Int32) (a2 : Int32) : Option Int32 :=
    ((zck n f 12 a0).bind fun _ => ((fX12_seenBy N n f a0 a1).bind fun x1 => (if x1 = 0 then ((zgR n f 12 a0 6).bind fun x2 => ((zlI n f 0 x2 ((147 : Int32) + a1)).bind fun x3 => (if x3 = a2 then some (2 : Int32) else some (0 : Int32)))) else some (1 : Int32))))
set_option maxRecDepth 100000 in
set_option maxHeartbeats 4000000 in
theorem mX12_whyFace (l : Launch) (G : zG) {N n : Nat} {f : zF} {r : Int32} {a0 : Nat} {a1 : Int32} {a2 : Int32} (h : fX12_whyFace N n f a0 a1 a2 = some r) : zM l G yX12_whyFace cX12_whyFace 3 (some .int) 6 n f [zr G a0, .int a1, .int a2] (some (.int r)) f := by
  refine zM.of (by decide) (Nat.le_of_ble_eq_true rfl) ?_
  intro p e s m args below meth c locs ls B hS hl
  have he := B.1
  have hb := B.2.1
  have hl : lv_has ls 3 [(0, zr G a0), (1, .int a1), (2, .int a2)] := hl
  unfold fX12_whyFace at h
  generalize s.heap = H at hS ⊢
  refine z_aload_n he hb dX12_whyFace_0 rfl (lv_at hl 0 rfl) (zref_r _ _) ?_
  refine lv_iload_n he hb dX12_whyFace_1 rfl (lv_at hl 1 rfl) ?_
  obtain ⟨_, hc, h⟩ := zob h
  obtain ⟨x1, hx, h⟩ := zob h
  refine z_callV (ci := 12) (T := TX12) (N := 50) (rest := []) B hS (mX12_seenBy l G hx) zy_X12_seenBy zk_1632 (by decide) hc rfl rfl hl rfl (Nat.le_of_ble_eq_true rfl) dX12_whyFace_2 (kk := (fun H locs hS => ?_))
  refine lv_if_eq (tgt := 12) he hb dX12_whyFace_5 (by decide) (fun hc => ?_) (fun hc => ?_)
  · rw [if_pos hc] at h
    refine z_aload_n he hb dX12_whyFace_12 rfl (lv_at hl 0 rfl) (zref_r _ _) ?_
    obtain ⟨x2, hx, h⟩ := zob h
    refine z_getR (ci := 12) (T := TX12) (N := 50) (j := 6) B hS hx rfl zin_X12 (by decide) zk_1353 dX12_whyFace_13 ?_
    refine lv_sipush (v := (147 : Int32)) he hb dX12_whyFace_16 (by decide) ?_
    refine lv_iload_n he hb dX12_whyFace_19 rfl (lv_at hl 1 rfl) ?_
    refine lv_iadd he hb dX12_whyFace_20 ?_
    obtain ⟨x3, hx, h⟩ := zob h
    refine z_ildI B hS hx dX12_whyFace_21 ?_
    refine lv_iload_n he hb dX12_whyFace_22 rfl (lv_at hl 2 rfl) ?_
    refine lv_icmp_ne (tgt := 30) he hb dX12_whyFace_23 (by decide) (fun hc => ?_) (fun hc => ?_)
    · rw [if_neg hc] at h
      refine lv_iconst (v := (0 : Int32)) he hb dX12_whyFace_30 (by decide) ?_
      obtain rfl := Option.some.inj h
      exact z_iret B hS dX12_whyFace_31
    · rw [if_pos hc] at h
      refine lv_iconst (v := (2 : Int32)) he hb dX12_whyFace_26 (by decide) ?_
      refine lv_goto (tgt := 31) he hb dX12_whyFace_27 (by decide) ?_
      obtain rfl := Option.some.inj h
      exact z_iret B hS dX12_whyFace_31
  · rw [if_neg hc] at h
    refine lv_iconst (v := (1 : Int32)) he hb dX12_whyFace_8 (by decide) ?_
    refine lv_goto (tgt := 31) he hb dX12_whyFace_9 (by decide) ?_
    obtain rfl := Option.some.inj h
    exact z_iret B hS dX12_whyFace_31
theorem dX12_goes_0 : decode cX12_goes 0 = .ok (.aload_n 0, 1) := by decide +kernel
theorem dX12_goes_1 : decode cX12_goes 1 = .ok (.iload_n 1, 1) := by decide +kernel
theorem dX12_goes_2 : decode cX12_goes 2 = .ok (.invokevirtual 314, 3) := by decide +kernel
theorem dX12_goes_5 : decode cX12_goes 5 = .ok (.ifCond .ne 28, 3) := by decide +kernel
theorem dX12_goes_8 : decode cX12_goes 8 = .ok (.aload_n 0, 1) := by decide +kernel
theorem dX12_goes_9 : decode cX12_goes 9 = .ok (.getfield 33, 3) := by decide +kernel
theorem dX12_goes_12 : decode cX12_goes 12 = .ok (.sipush 147, 3) := by decide +kernel
theorem dX12_goes_15 : decode cX12_goes 15 = .ok (.iload_n 1, 1) := by decide +kernel
theorem dX12_goes_16 : decode cX12_goes 16 = .ok (.iadd, 1) := by decide +kernel
theorem dX12_goes_17 : decode cX12_goes 17 = .ok (.aload_n 0, 1) := by decide +kernel
theorem dX12_goes_18 : decode cX12_goes 18 = .ok (.getfield 33, 3) := by decide +kernel
theorem dX12_goes_21 : decode cX12_goes 21 = .ok (.sipush 147, 3) := by decide +kernel
theorem dX12_goes_24 : decode cX12_goes 24 = .ok (.iload_n 1, 1) := by decide +kernel
theorem dX12_goes_25 : decode cX12_goes 25 = .ok (.iadd, 1) := by decide +kernel
theorem dX12_goes_26 : decode cX12_goes 26 = .ok (.iaload, 1) := by decide +kernel
theorem dX12_goes_27 : decode cX12_goes 27 = .ok (.iconst 1, 1) := by decide +kernel
theorem dX12_goes_28 : decode cX12_goes 28 = .ok (.iadd, 1) := by decide +kernel
theorem dX12_goes_29 : decode cX12_goes 29 = .ok (.iconst 4, 1) := by decide +kernel
theorem dX12_goes_30 : decode cX12_goes 30 = .ok (.irem, 1) := by decide +kernel
theorem dX12_goes_31 : decode cX12_goes 31 = .ok (.iastore, 1) := by decide +kernel
theorem dX12_goes_32 : decode cX12_goes 32 = .ok (.return_, 1) := by decide +kernel
theorem dX12_goes_33 : decode cX12_goes 33 = .ok (.aload_n 0, 1) := by decide +kernel
theorem dX12_goes_34 : decode cX12_goes 34 = .ok (.getfield 33, 3) := by decide +kernel
theorem dX12_goes_37 : decode cX12_goes 37 = .ok (.sipush 141, 3) := by decide +kernel
theorem dX12_goes_40 : decode cX12_goes 40 = .ok (.iload_n 1, 1) := by decide +kernel
theorem dX12_goes_41 : decode cX12_goes 41 = .ok (.iadd, 1) := by decide +kernel
theorem dX12_goes_42 : decode cX12_goes 42 = .ok (.aload_n 0, 1) := by decide +kernel
theorem dX12_goes_43 : decode cX12_goes 43 = .ok (.aload_n 0, 1) := by decide +kernel
theorem dX12_goes_44 : decode cX12_goes 44 = .ok (.getfield 33, 3) := by decide +kernel
theorem dX12_goes_47 : decode cX12_goes 47 = .ok (.sipush 141, 3) := by decide +kernel
theorem dX12_goes_50 : decode cX12_goes 50 = .ok (.iload_n 1, 1) := by decide +kernel
theorem dX12_goes_51 : decode cX12_goes 51 = .ok (.iadd, 1) := by decide +kernel
theorem dX12_goes_52 : decode cX12_goes 52 = .ok (.iaload, 1) := by decide +kernel
theorem dX12_goes_53 : decode cX12_goes 53 = .ok (.aload_n 0, 1) := by decide +kernel
theorem dX12_goes_54 : decode cX12_goes 54 = .ok (.getfield 33, 3) := by decide +kernel
theorem dX12_goes_57 : decode cX12_goes 57 = .ok (.sipush 147, 3) := by decide +kernel
theorem dX12_goes_60 : decode cX12_goes 60 = .ok (.iload_n 1, 1) := by decide +kernel
theorem dX12_goes_61 : decode cX12_goes 61 = .ok (.iadd, 1) := by decide +kernel
theorem dX12_goes_62 : decode cX12_goes 62 = .ok (.iaload, 1) := by decide +kernel
theorem dX12_goes_63 : decode cX12_goes 63 = .ok (.invokevirtual 280, 3) := by decide +kernel
theorem dX12_goes_66 : decode cX12_goes 66 = .ok (.iastore, 1) := by decide +kernel
theorem dX12_goes_67 : decode cX12_goes 67 = .ok (.aload_n 0, 1) := by decide +kernel
theorem dX12_goes_68 : decode cX12_goes 68 = .ok (.getfield 33, 3) := by decide +kernel
theorem dX12_goes_71 : decode cX12_goes 71 = .ok (.sipush 169, 3) := by decide +kernel
theorem dX12_goes_74 : decode cX12_goes 74 = .ok (.aload_n 0, 1) := by decide +kernel
theorem dX12_goes_75 : decode cX12_goes 75 = .ok (.getfield 33, 3) := by decide +kernel
theorem dX12_goes_78 : decode cX12_goes 78 = .ok (.sipush 141, 3) := by decide +kernel
theorem dX12_goes_81 : decode cX12_goes 81 = .ok (.iload_n 1, 1) := by decide +kernel
theorem dX12_goes_82 : decode cX12_goes 82 = .ok (.iadd, 1) := by decide +kernel
theorem dX12_goes_83 : decode cX12_goes 83 = .ok (.iaload, 1) := by decide +kernel
theorem dX12_goes_84 : decode cX12_goes 84 = .ok (.iadd, 1) := by decide +kernel
theorem dX12_goes_85 : decode cX12_goes 85 = .ok (.aload_n 0, 1) := by decide +kernel
theorem dX12_goes_86 : decode cX12_goes 86 = .ok (.getfield 33, 3) := by decide +kernel
theorem dX12_goes_89 : decode cX12_goes 89 = .ok (.bipush 95, 2) := by decide +kernel
theorem dX12_goes_91 : decode cX12_goes 91 = .ok (.iload_n 1, 1) := by decide +kernel
theorem dX12_goes_92 : decode cX12_goes 92 = .ok (.iadd, 1) := by decide +kernel
theorem dX12_goes_93 : decode cX12_goes 93 = .ok (.iaload, 1) := by decide +kernel
theorem dX12_goes_94 : decode cX12_goes 94 = .ok (.iconst 1, 1) := by decide +kernel
theorem dX12_goes_95 : decode cX12_goes 95 = .ok (.iadd, 1) := by decide +kernel
theorem dX12_goes_96 : decode cX12_goes 96 = .ok (.iastore, 1) := by decide +kernel
theorem dX12_goes_97 : decode cX12_goes 97 = .ok (.aload_n 0, 1) := by decide +kernel
theorem dX12_goes_98 : decode cX12_goes 98 = .ok (.getfield 33, 3) := by decide +kernel
theorem dX12_goes_101 : decode cX12_goes 101 = .ok (.sipush 153, 3) := by decide +kernel
theorem dX12_goes_104 : decode cX12_goes 104 = .ok (.iload_n 1, 1) := by decide +kernel
theorem dX12_goes_105 : decode cX12_goes 105 = .ok (.iadd, 1) := by decide +kernel
theorem dX12_goes_106 : decode cX12_goes 106 = .ok (.dup2, 1) := by decide +kernel
theorem dX12_goes_107 : decode cX12_goes 107 = .ok (.iaload, 1) := by decide +kernel
theorem dX12_goes_108 : decode cX12_goes 108 = .ok (.iconst 1, 1) := by decide +kernel
theorem dX12_goes_109 : decode cX12_goes 109 = .ok (.iadd, 1) := by decide +kernel
theorem dX12_goes_110 : decode cX12_goes 110 = .ok (.iastore, 1) := by decide +kernel
theorem dX12_goes_111 : decode cX12_goes 111 = .ok (.return_, 1) := by decide +kernel
def fX12_goes (N n : Nat) (f : zF) (a0 : Nat) (a1 : Int32) : Option zF :=
    ((zck n f 12 a0).bind fun _ => ((fX12_canGo N n f a0 a1).bind fun x1 => (if x1 = 0 then ((zgR n f 12 a0 6).bind fun x18 => ((zgR n f 12 a0 6).bind fun x19 => ((zlI n f 0 x19 ((147 : Int32) + a1)).bind fun x20 => ((zsI n f 0 x18 ((147 : Int32) + a1) (zrem (x20 + (1 : Int32)) (4 : Int32))).bind fun f21 => some f21)))) else ((zgR n f 12 a0 6).bind fun x2 => ((zgR n f 12 a0 6).bind fun x3 => ((zlI n f 0 x3 ((141 : Int32) + a1)).bind fun x4 => ((zgR n f 12 a0 6).bind fun x5 => ((zlI n f 0 x5 ((147 : Int32) + a1)).bind fun x6 => ((zck n f 12 a0).bind fun _ => ((fX12_beside N n f a0 x4 x6).bind fun x7 => ((zsI n f 0 x2 ((141 : Int32) + a1) x7).bind fun f8 => ((zgR n f8 12 a0 6).bind fun x9 => ((zgR n f8 12 a0 6).bind fun x10 => ((zlI n f8 0 x10 ((141 : Int32) + a1)).bind fun x11 => ((zgR n f8 12 a0 6).bind fun x12 => ((zlI n f8 0 x12 ((95 : Int32) + a1)).bind fun x13 => ((zsI n f8 0 x9 ((169 : Int32) + x11) (x13 + (1 : Int32))).bind fun f14 => ((zgR n f14 12 a0 6).bind fun x15 => ((zlI n f14 0 x15 ((153 : Int32) + a1)).bind fun x16 => ((zsI n f14 0 x15 ((153 : Int32) + a1) (x16 + (1 : Int32))).bind fun f17 => some f17))))))))))))))))))))
set_option maxRecDepth 100000 in
set_option maxHeartbeats 4000000 in
theorem mX12_goes (l : Launch) (G : zG) {N n : Nat} {f : zF} {f9 : zF} {a0 : Nat} {a1 : Int32} (h : fX12_goes N n f a0 a1 = some f9) : zM l G yX12_goes cX12_goes 2 (none) 4 n f [zr G a0, .int a1] (none) f9 := by
  refine zM.of (by decide) (Nat.le_of_ble_eq_true rfl) ?_
  intro p e s m args below meth c locs ls B hS hl
  have he := B.1
  have hb := B.2.1
  have hl : lv_has ls 2 [(0, zr G a0), (1, .int a1)] := hl
  unfold fX12_goes at h
  generalize s.heap = H at hS ⊢
  refine z_aload_n he hb dX12_goes_0 rfl (lv_at hl 0 rfl) (zref_r _ _) ?_
  refine lv_iload_n he hb dX12_goes_1 rfl (lv_at hl 1 rfl) ?_
  obtain ⟨_, hc, h⟩ := zob h
  obtain ⟨x1, hx, h⟩ := zob h
  refine z_callV (ci := 12) (T := TX12) (N := 50) (rest := []) B hS (mX12_canGo l G hx) zy_X12_canGo zk_1663 (by decide) hc rfl rfl hl rfl (Nat.le_of_ble_eq_true rfl) dX12_goes_2 (kk := (fun H locs hS => ?_))
  refine lv_if_ne (tgt := 33) he hb dX12_goes_5 (by decide) (fun hc => ?_) (fun hc => ?_)
  · rw [if_neg hc] at h
    refine z_aload_n he hb dX12_goes_33 rfl (lv_at hl 0 rfl) (zref_r _ _) ?_
    obtain ⟨x2, hx, h⟩ := zob h
    refine z_getR (ci := 12) (T := TX12) (N := 50) (j := 6) B hS hx rfl zin_X12 (by decide) zk_1353 dX12_goes_34 ?_
    refine lv_sipush (v := (141 : Int32)) he hb dX12_goes_37 (by decide) ?_
    refine lv_iload_n he hb dX12_goes_40 rfl (lv_at hl 1 rfl) ?_
    refine lv_iadd he hb dX12_goes_41 ?_
    refine z_aload_n he hb dX12_goes_42 rfl (lv_at hl 0 rfl) (zref_r _ _) ?_
    refine z_aload_n he hb dX12_goes_43 rfl (lv_at hl 0 rfl) (zref_r _ _) ?_
    obtain ⟨x3, hx, h⟩ := zob h
    refine z_getR (ci := 12) (T := TX12) (N := 50) (j := 6) B hS hx rfl zin_X12 (by decide) zk_1353 dX12_goes_44 ?_
    refine lv_sipush (v := (141 : Int32)) he hb dX12_goes_47 (by decide) ?_
    refine lv_iload_n he hb dX12_goes_50 rfl (lv_at hl 1 rfl) ?_
    refine lv_iadd he hb dX12_goes_51 ?_
    obtain ⟨x4, hx, h⟩ := zob h
    refine z_ildI B hS hx dX12_goes_52 ?_
    refine z_aload_n he hb dX12_goes_53 rfl (lv_at hl 0 rfl) (zref_r _ _) ?_
    obtain ⟨x5, hx, h⟩ := zob h
    refine z_getR (ci := 12) (T := TX12) (N := 50) (j := 6) B hS hx rfl zin_X12 (by decide) zk_1353 dX12_goes_54 ?_
    refine lv_sipush (v := (147 : Int32)) he hb dX12_goes_57 (by decide) ?_
    refine lv_iload_n he hb dX12_goes_60 rfl (lv_at hl 1 rfl) ?_
    refine lv_iadd he hb dX12_goes_61 ?_
    obtain ⟨x6, hx, h⟩ := zob h
    refine z_ildI B hS hx dX12_goes_62 ?_
    obtain ⟨_, hc, h⟩ := zob h
    obtain ⟨x7, hx, h⟩ := zob h
    refine z_callV (ci := 12) (T := TX12) (N := 50) (rest := [_, _]) B hS (mX12_beside l G hx) zy_X12_beside zk_1659 (by decide) hc rfl rfl hl rfl (Nat.le_of_ble_eq_true rfl) dX12_goes_63 (kk := (fun H locs hS => ?_))
    obtain ⟨f8, hx, h⟩ := zob h
    refine z_istI B hS hx dX12_goes_66 (fun H locs hS => ?_)
    refine z_aload_n he hb dX12_goes_67 rfl (lv_at hl 0 rfl) (zref_r _ _) ?_
    obtain ⟨x9, hx, h⟩ := zob h
    refine z_getR (ci := 12) (T := TX12) (N := 50) (j := 6) B hS hx rfl zin_X12 (by decide) zk_1353 dX12_goes_68 ?_
    refine lv_sipush (v := (169 : Int32)) he hb dX12_goes_71 (by decide) ?_
    refine z_aload_n he hb dX12_goes_74 rfl (lv_at hl 0 rfl) (zref_r _ _) ?_
    obtain ⟨x10, hx, h⟩ := zob h
    refine z_getR (ci := 12) (T := TX12) (N := 50) (j := 6) B hS hx rfl zin_X12 (by decide) zk_1353 dX12_goes_75 ?_
    refine lv_sipush (v := (141 : Int32)) he hb dX12_goes_78 (by decide) ?_
    refine lv_iload_n he hb dX12_goes_81 rfl (lv_at hl 1 rfl) ?_
    refine lv_iadd he hb dX12_goes_82 ?_
    obtain ⟨x11, hx, h⟩ := zob h
    refine z_ildI B hS hx dX12_goes_83 ?_
    refine lv_iadd he hb dX12_goes_84 ?_
    refine z_aload_n he hb dX12_goes_85 rfl (lv_at hl 0 rfl) (zref_r _ _) ?_
    obtain ⟨x12, hx, h⟩ := zob h
    refine z_getR (ci := 12) (T := TX12) (N := 50) (j := 6) B hS hx rfl zin_X12 (by decide) zk_1353 dX12_goes_86 ?_
    refine lv_bipush (v := (95 : Int32)) he hb dX12_goes_89 (by decide) ?_
    refine lv_iload_n he hb dX12_goes_91 rfl (lv_at hl 1 rfl) ?_
    refine lv_iadd he hb dX12_goes_92 ?_
    obtain ⟨x13, hx, h⟩ := zob h
    refine z_ildI B hS hx dX12_goes_93 ?_
    refine lv_iconst (v := (1 : Int32)) he hb dX12_goes_94 (by decide) ?_
    refine lv_iadd he hb dX12_goes_95 ?_
    obtain ⟨f14, hx, h⟩ := zob h
    refine z_istI B hS hx dX12_goes_96 (fun H locs hS => ?_)
    refine z_aload_n he hb dX12_goes_97 rfl (lv_at hl 0 rfl) (zref_r _ _) ?_
    obtain ⟨x15, hx, h⟩ := zob h
    refine z_getR (ci := 12) (T := TX12) (N := 50) (j := 6) B hS hx rfl zin_X12 (by decide) zk_1353 dX12_goes_98 ?_
    refine lv_sipush (v := (153 : Int32)) he hb dX12_goes_101 (by decide) ?_
    refine lv_iload_n he hb dX12_goes_104 rfl (lv_at hl 1 rfl) ?_
    refine lv_iadd he hb dX12_goes_105 ?_
    refine lv_dup2_11 he hb dX12_goes_106 rfl rfl ?_
    obtain ⟨x16, hx, h⟩ := zob h
    refine z_ildI B hS hx dX12_goes_107 ?_
    refine lv_iconst (v := (1 : Int32)) he hb dX12_goes_108 (by decide) ?_
    refine lv_iadd he hb dX12_goes_109 ?_
    obtain ⟨f17, hx, h⟩ := zob h
    refine z_istI B hS hx dX12_goes_110 (fun H locs hS => ?_)
    obtain rfl := Option.some.inj h
    exact z_vret B hS dX12_goes_111
  · rw [if_pos hc] at h
    refine z_aload_n he hb dX12_goes_8 rfl (lv_at hl 0 rfl) (zref_r _ _) ?_
    obtain ⟨x18, hx, h⟩ := zob h
    refine z_getR (ci := 12) (T := TX12) (N := 50) (j := 6) B hS hx rfl zin_X12 (by decide) zk_1353 dX12_goes_9 ?_
    refine lv_sipush (v := (147 : Int32)) he hb dX12_goes_12 (by decide) ?_
    refine lv_iload_n he hb dX12_goes_15 rfl (lv_at hl 1 rfl) ?_
    refine lv_iadd he hb dX12_goes_16 ?_
    refine z_aload_n he hb dX12_goes_17 rfl (lv_at hl 0 rfl) (zref_r _ _) ?_
    obtain ⟨x19, hx, h⟩ := zob h
    refine z_getR (ci := 12) (T := TX12) (N := 50) (j := 6) B hS hx rfl zin_X12 (by decide) zk_1353 dX12_goes_18 ?_
    refine lv_sipush (v := (147 : Int32)) he hb dX12_goes_21 (by decide) ?_
    refine lv_iload_n he hb dX12_goes_24 rfl (lv_at hl 1 rfl) ?_
    refine lv_iadd he hb dX12_goes_25 ?_
    obtain ⟨x20, hx, h⟩ := zob h
    refine z_ildI B hS hx dX12_goes_26 ?_
    refine lv_iconst (v := (1 : Int32)) he hb dX12_goes_27 (by decide) ?_
    refine lv_iadd he hb dX12_goes_28 ?_
    refine lv_iconst (v := (4 : Int32)) he hb dX12_goes_29 (by decide) ?_
    refine z_irem he hb dX12_goes_30 (by decide) ?_
    obtain ⟨f21, hx, h⟩ := zob h
    refine z_istI B hS hx dX12_goes_31 (fun H locs hS => ?_)
    obtain rfl := Option.some.inj h
    exact z_vret B hS dX12_goes_32
theorem dX12_hour_0 : decode cX12_hour 0 = .ok (.iconst 0, 1) := by decide +kernel
theorem dX12_hour_1 : decode cX12_hour 1 = .ok (.istore_n 1, 1) := by decide +kernel
theorem dX12_hour_2 : decode cX12_hour 2 = .ok (.iload_n 1, 1) := by decide +kernel
theorem dX12_hour_3 : decode cX12_hour 3 = .ok (.aload_n 0, 1) := by decide +kernel
theorem dX12_hour_4 : decode cX12_hour 4 = .ok (.getfield 33, 3) := by decide +kernel
theorem dX12_hour_7 : decode cX12_hour 7 = .ok (.iconst 3, 1) := by decide +kernel
theorem dX12_hour_8 : decode cX12_hour 8 = .ok (.iaload, 1) := by decide +kernel
theorem dX12_hour_9 : decode cX12_hour 9 = .ok (.if_icmp .ge 45, 3) := by decide +kernel
theorem dX12_hour_12 : decode cX12_hour 12 = .ok (.aload_n 0, 1) := by decide +kernel
theorem dX12_hour_13 : decode cX12_hour 13 = .ok (.getfield 33, 3) := by decide +kernel
theorem dX12_hour_16 : decode cX12_hour 16 = .ok (.sipush 139, 3) := by decide +kernel
theorem dX12_hour_19 : decode cX12_hour 19 = .ok (.iaload, 1) := by decide +kernel
theorem dX12_hour_20 : decode cX12_hour 20 = .ok (.iconst 1, 1) := by decide +kernel
theorem dX12_hour_21 : decode cX12_hour 21 = .ok (.iadd, 1) := by decide +kernel
theorem dX12_hour_22 : decode cX12_hour 22 = .ok (.aload_n 0, 1) := by decide +kernel
theorem dX12_hour_23 : decode cX12_hour 23 = .ok (.getfield 33, 3) := by decide +kernel
theorem dX12_hour_26 : decode cX12_hour 26 = .ok (.bipush 113, 2) := by decide +kernel
theorem dX12_hour_28 : decode cX12_hour 28 = .ok (.iload_n 1, 1) := by decide +kernel
theorem dX12_hour_29 : decode cX12_hour 29 = .ok (.iadd, 1) := by decide +kernel
theorem dX12_hour_30 : decode cX12_hour 30 = .ok (.iaload, 1) := by decide +kernel
theorem dX12_hour_31 : decode cX12_hour 31 = .ok (.irem, 1) := by decide +kernel
theorem dX12_hour_32 : decode cX12_hour 32 = .ok (.ifCond .ne 16, 3) := by decide +kernel
theorem dX12_hour_35 : decode cX12_hour 35 = .ok (.aload_n 0, 1) := by decide +kernel
theorem dX12_hour_36 : decode cX12_hour 36 = .ok (.iload_n 1, 1) := by decide +kernel
theorem dX12_hour_37 : decode cX12_hour 37 = .ok (.invokevirtual 311, 3) := by decide +kernel
theorem dX12_hour_40 : decode cX12_hour 40 = .ok (.ifCond .ne 8, 3) := by decide +kernel
theorem dX12_hour_43 : decode cX12_hour 43 = .ok (.aload_n 0, 1) := by decide +kernel
theorem dX12_hour_44 : decode cX12_hour 44 = .ok (.iload_n 1, 1) := by decide +kernel
theorem dX12_hour_45 : decode cX12_hour 45 = .ok (.invokevirtual 326, 3) := by decide +kernel
theorem dX12_hour_48 : decode cX12_hour 48 = .ok (.iinc 1 1, 3) := by decide +kernel
theorem dX12_hour_51 : decode cX12_hour 51 = .ok (.goto (-49), 3) := by decide +kernel
theorem dX12_hour_54 : decode cX12_hour 54 = .ok (.aload_n 0, 1) := by decide +kernel
theorem dX12_hour_55 : decode cX12_hour 55 = .ok (.getfield 33, 3) := by decide +kernel
theorem dX12_hour_58 : decode cX12_hour 58 = .ok (.sipush 139, 3) := by decide +kernel
theorem dX12_hour_61 : decode cX12_hour 61 = .ok (.dup2, 1) := by decide +kernel
theorem dX12_hour_62 : decode cX12_hour 62 = .ok (.iaload, 1) := by decide +kernel
theorem dX12_hour_63 : decode cX12_hour 63 = .ok (.iconst 1, 1) := by decide +kernel
theorem dX12_hour_64 : decode cX12_hour 64 = .ok (.iadd, 1) := by decide +kernel
theorem dX12_hour_65 : decode cX12_hour 65 = .ok (.iastore, 1) := by decide +kernel
theorem dX12_hour_66 : decode cX12_hour 66 = .ok (.return_, 1) := by decide +kernel
def fX12_hour_48 (r2 : zF → Nat → Int32 → Option zF) (N n : Nat) (f : zF) (a0 : Nat) (a1 : Int32) : Option zF :=
    (r2 f a0 (a1 + 1))
set_option maxRecDepth 100000 in
set_option maxHeartbeats 4000000 in
theorem gX12_hour_48 (l : Launch) {G : zG} {p : Program} {e : Env} {s : State} {m : MethodId} {args : Array Value} {below : List Frame} {meth : Method} {c : Code} {N n : Nat} {f9 : zF} {r2 : zF → Nat → Int32 → Option zF} (B : zB G p s m args meth c RX12 cX12_hour 2 (none)) (hr2 : ∀ (f : zF) (a0 : Nat) (a1 : Int32) (H : Heap) (locs : List Loc) (ls : Array Slot), r2 f a0 a1 = some f9 → zS G n f H locs → lv_has ls 2 [(0, zr G a0), (1, .int a1)] → W p l e (zrm 6) s m args below meth c H locs 0 0 (MQ below (zQc G n f9 (none)) args s 0 0 (zA G)) (F0 m 2 ls [])) : ∀ (f : zF) (a0 : Nat) (a1 : Int32) (H : Heap) (locs : List Loc) (ls : Array Slot), fX12_hour_48 r2 N n f a0 a1 = some f9 → zS G n f H locs → lv_has ls 2 [(0, zr G a0), (1, .int a1)] → W p l e (zrm 6) s m args below meth c H locs 0 0 (MQ below (zQc G n f9 (none)) args s 0 0 (zA G)) (F0 m 48 ls []) := by
  have he := B.1
  have hb := B.2.1
  intro f a0 a1 H locs ls h hS hl
  unfold fX12_hour_48 at h
  refine lv_iinc (v := (a1 + 1)) (lv' := [(1, _), (0, _)]) he hb dX12_hour_48 hl (k := 1) rfl rfl (by decide) rfl (fun ls hl => ?_)
  refine lv_goto (tgt := 2) he hb dX12_hour_51 (by decide) ?_
  exact hr2 _ _ _ _ _ _ h hS (lv_sub hl [1, 0] rfl)
def fX12_hour_2 (N n : Nat) : Nat → zF → Nat → Int32 → Option zF
  | 0, _, _, _ => none
  | k + 1, f, a0, a1 =>
    ((zgR n f 12 a0 6).bind fun x1 => ((zlI n f 0 x1 (3 : Int32)).bind fun x2 => (if x2 ≤ a1 then ((zgR n f 12 a0 6).bind fun x3 => ((zlI n f 0 x3 (139 : Int32)).bind fun x4 => ((zsI n f 0 x3 (139 : Int32) (x4 + (1 : Int32))).bind fun f5 => some f5))) else ((zgR n f 12 a0 6).bind fun x6 => ((zlI n f 0 x6 (139 : Int32)).bind fun x7 => ((zgR n f 12 a0 6).bind fun x8 => ((zlI n f 0 x8 ((113 : Int32) + a1)).bind fun x9 => ((znz x9).bind fun _ => (if (zrem (x7 + (1 : Int32)) x9) = 0 then ((zck n f 12 a0).bind fun _ => ((fX12_seenBy N n f a0 a1).bind fun x10 => (if x10 = 0 then ((zck n f 12 a0).bind fun _ => ((fX12_goes N n f a0 a1).bind fun f11 => (fX12_hour_48 (fX12_hour_2 N n k) N n f11 a0 a1))) else (fX12_hour_48 (fX12_hour_2 N n k) N n f a0 a1)))) else (fX12_hour_48 (fX12_hour_2 N n k) N n f a0 a1))))))))))
set_option maxRecDepth 100000 in
set_option maxHeartbeats 4000000 in
theorem gX12_hour_2 (l : Launch) {G : zG} {p : Program} {e : Env} {s : State} {m : MethodId} {args : Array Value} {below : List Frame} {meth : Method} {c : Code} {N n : Nat} {f9 : zF} (B : zB G p s m args meth c RX12 cX12_hour 2 (none)) : ∀ (k : Nat), ∀ (f : zF) (a0 : Nat) (a1 : Int32) (H : Heap) (locs : List Loc) (ls : Array Slot), fX12_hour_2 N n k f a0 a1 = some f9 → zS G n f H locs → lv_has ls 2 [(0, zr G a0), (1, .int a1)] → W p l e (zrm 6) s m args below meth c H locs 0 0 (MQ below (zQc G n f9 (none)) args s 0 0 (zA G)) (F0 m 2 ls []) := by
  have he := B.1
  have hb := B.2.1
  intro k
  induction k with
  | zero =>
    intro f a0 a1 H locs ls h
    unfold fX12_hour_2 at h
    cases h
  | succ k ih =>
    intro f a0 a1 H locs ls h hS hl
    unfold fX12_hour_2 at h
    refine lv_iload_n he hb dX12_hour_2 rfl (lv_at hl 1 rfl) ?_
    refine z_aload_n he hb dX12_hour_3 rfl (lv_at hl 0 rfl) (zref_r _ _) ?_
    obtain ⟨x1, hx, h⟩ := zob h
    refine z_getR (ci := 12) (T := TX12) (N := 50) (j := 6) B hS hx rfl zin_X12 (by decide) zk_1353 dX12_hour_4 ?_
    refine lv_iconst (v := (3 : Int32)) he hb dX12_hour_7 (by decide) ?_
    obtain ⟨x2, hx, h⟩ := zob h
    refine z_ildI B hS hx dX12_hour_8 ?_
    refine lv_icmp_ge (tgt := 54) he hb dX12_hour_9 (by decide) (fun hc => ?_) (fun hc => ?_)
    · rw [if_pos hc] at h
      refine z_aload_n he hb dX12_hour_54 rfl (lv_at hl 0 rfl) (zref_r _ _) ?_
      obtain ⟨x3, hx, h⟩ := zob h
      refine z_getR (ci := 12) (T := TX12) (N := 50) (j := 6) B hS hx rfl zin_X12 (by decide) zk_1353 dX12_hour_55 ?_
      refine lv_sipush (v := (139 : Int32)) he hb dX12_hour_58 (by decide) ?_
      refine lv_dup2_11 he hb dX12_hour_61 rfl rfl ?_
      obtain ⟨x4, hx, h⟩ := zob h
      refine z_ildI B hS hx dX12_hour_62 ?_
      refine lv_iconst (v := (1 : Int32)) he hb dX12_hour_63 (by decide) ?_
      refine lv_iadd he hb dX12_hour_64 ?_
      obtain ⟨f5, hx, h⟩ := zob h
      refine z_istI B hS hx dX12_hour_65 (fun H locs hS => ?_)
      obtain rfl := Option.some.inj h
      exact z_vret B hS dX12_hour_66
    · rw [if_neg hc] at h
      refine z_aload_n he hb dX12_hour_12 rfl (lv_at hl 0 rfl) (zref_r _ _) ?_
      obtain ⟨x6, hx, h⟩ := zob h
      refine z_getR (ci := 12) (T := TX12) (N := 50) (j := 6) B hS hx rfl zin_X12 (by decide) zk_1353 dX12_hour_13 ?_
      refine lv_sipush (v := (139 : Int32)) he hb dX12_hour_16 (by decide) ?_
      obtain ⟨x7, hx, h⟩ := zob h
      refine z_ildI B hS hx dX12_hour_19 ?_
      refine lv_iconst (v := (1 : Int32)) he hb dX12_hour_20 (by decide) ?_
      refine lv_iadd he hb dX12_hour_21 ?_
      refine z_aload_n he hb dX12_hour_22 rfl (lv_at hl 0 rfl) (zref_r _ _) ?_
      obtain ⟨x8, hx, h⟩ := zob h
      refine z_getR (ci := 12) (T := TX12) (N := 50) (j := 6) B hS hx rfl zin_X12 (by decide) zk_1353 dX12_hour_23 ?_
      refine lv_bipush (v := (113 : Int32)) he hb dX12_hour_26 (by decide) ?_
      refine lv_iload_n he hb dX12_hour_28 rfl (lv_at hl 1 rfl) ?_
      refine lv_iadd he hb dX12_hour_29 ?_
      obtain ⟨x9, hx, h⟩ := zob h
      refine z_ildI B hS hx dX12_hour_30 ?_
      obtain ⟨_, hx, h⟩ := zob h
      refine z_irem he hb dX12_hour_31 (znz_i hx) ?_
      refine lv_if_ne (tgt := 48) he hb dX12_hour_32 (by decide) (fun hc => ?_) (fun hc => ?_)
      · rw [if_neg hc] at h
        exact gX12_hour_48 l B ih _ _ _ _ _ _ h hS (lv_sub hl [0, 1] rfl)
      · rw [if_pos hc] at h
        refine z_aload_n he hb dX12_hour_35 rfl (lv_at hl 0 rfl) (zref_r _ _) ?_
        refine lv_iload_n he hb dX12_hour_36 rfl (lv_at hl 1 rfl) ?_
        obtain ⟨_, hc, h⟩ := zob h
        obtain ⟨x10, hx, h⟩ := zob h
        refine z_callV (ci := 12) (T := TX12) (N := 50) (rest := []) B hS (mX12_seenBy l G hx) zy_X12_seenBy zk_1632 (by decide) hc rfl rfl hl rfl (Nat.le_of_ble_eq_true rfl) dX12_hour_37 (kk := (fun H locs hS => ?_))
        refine lv_if_ne (tgt := 48) he hb dX12_hour_40 (by decide) (fun hc => ?_) (fun hc => ?_)
        · rw [if_neg hc] at h
          exact gX12_hour_48 l B ih _ _ _ _ _ _ h hS (lv_sub hl [0, 1] rfl)
        · rw [if_pos hc] at h
          refine z_aload_n he hb dX12_hour_43 rfl (lv_at hl 0 rfl) (zref_r _ _) ?_
          refine lv_iload_n he hb dX12_hour_44 rfl (lv_at hl 1 rfl) ?_
          obtain ⟨_, hc, h⟩ := zob h
          obtain ⟨f11, hx, h⟩ := zob h
          refine z_callV (ci := 12) (T := TX12) (N := 50) (rest := []) B hS (mX12_goes l G hx) zy_X12_goes zk_1747 (by decide) hc rfl rfl hl rfl (Nat.le_of_ble_eq_true rfl) dX12_hour_45 (kk := (fun H locs hS => ?_))
          exact gX12_hour_48 l B ih _ _ _ _ _ _ h hS (lv_sub hl [0, 1] rfl)
def fX12_hour (N n : Nat) (f : zF) (a0 : Nat) : Option zF :=
    (fX12_hour_2 N n N f a0 (0 : Int32))
set_option maxRecDepth 100000 in
set_option maxHeartbeats 4000000 in
theorem mX12_hour (l : Launch) (G : zG) {N n : Nat} {f : zF} {f9 : zF} {a0 : Nat} (h : fX12_hour N n f a0 = some f9) : zM l G yX12_hour cX12_hour 2 (none) 6 n f [zr G a0] (none) f9 := by
  refine zM.of (by decide) (Nat.le_of_ble_eq_true rfl) ?_
  intro p e s m args below meth c locs ls B hS hl
  have he := B.1
  have hb := B.2.1
  have hl : lv_has ls 2 [(0, zr G a0)] := hl
  unfold fX12_hour at h
  generalize s.heap = H at hS ⊢
  refine lv_iconst (v := (0 : Int32)) he hb dX12_hour_0 (by decide) ?_
  refine lv_istore_n (lv' := [(1, _), (0, _)]) he hb dX12_hour_1 rfl hl (by decide) rfl (fun ls hl => ?_)
  exact gX12_hour_2 l B N _ _ _ _ _ _ h hS (lv_sub hl [1, 0] rfl)
theorem dX12_goesOn_0 : decode cX12_goesOn 0 = .ok (.iconst 0, 1) := by decide +kernel
theorem dX12_goesOn_1 : decode cX12_goesOn 1 = .ok (.istore_n 2, 1) := by decide +kernel
theorem dX12_goesOn_2 : decode cX12_goesOn 2 = .ok (.iload_n 2, 1) := by decide +kernel
theorem dX12_goesOn_3 : decode cX12_goesOn 3 = .ok (.iload_n 1, 1) := by decide +kernel
theorem dX12_goesOn_4 : decode cX12_goesOn 4 = .ok (.if_icmp .ge 27, 3) := by decide +kernel
theorem dX12_goesOn_7 : decode cX12_goesOn 7 = .ok (.aload_n 0, 1) := by decide +kernel
theorem dX12_goesOn_8 : decode cX12_goesOn 8 = .ok (.getfield 33, 3) := by decide +kernel
theorem dX12_goesOn_11 : decode cX12_goesOn 11 = .ok (.sipush 139, 3) := by decide +kernel
theorem dX12_goesOn_14 : decode cX12_goesOn 14 = .ok (.iaload, 1) := by decide +kernel
theorem dX12_goesOn_15 : decode cX12_goesOn 15 = .ok (.sipush 1000, 3) := by decide +kernel
theorem dX12_goesOn_18 : decode cX12_goesOn 18 = .ok (.if_icmp .ge 13, 3) := by decide +kernel
theorem dX12_goesOn_21 : decode cX12_goesOn 21 = .ok (.aload_n 0, 1) := by decide +kernel
theorem dX12_goesOn_22 : decode cX12_goesOn 22 = .ok (.invokevirtual 329, 3) := by decide +kernel
theorem dX12_goesOn_25 : decode cX12_goesOn 25 = .ok (.iinc 2 1, 3) := by decide +kernel
theorem dX12_goesOn_28 : decode cX12_goesOn 28 = .ok (.goto (-26), 3) := by decide +kernel
theorem dX12_goesOn_31 : decode cX12_goesOn 31 = .ok (.iload_n 2, 1) := by decide +kernel
theorem dX12_goesOn_32 : decode cX12_goesOn 32 = .ok (.ireturn, 1) := by decide +kernel
def fX12_goesOn_2 (N n : Nat) : Nat → zF → Nat → Int32 → Int32 → Option (zF × Int32)
  | 0, _, _, _, _ => none
  | k + 1, f, a0, a1, a2 =>
    (if a1 ≤ a2 then some (f, a2) else ((zgR n f 12 a0 6).bind fun x1 => ((zlI n f 0 x1 (139 : Int32)).bind fun x2 => (if (1000 : Int32) ≤ x2 then some (f, a2) else ((zck n f 12 a0).bind fun _ => ((fX12_hour N n f a0).bind fun f3 => (fX12_goesOn_2 N n k f3 a0 a1 (a2 + 1))))))))
set_option maxRecDepth 100000 in
set_option maxHeartbeats 4000000 in
theorem gX12_goesOn_2 (l : Launch) {G : zG} {p : Program} {e : Env} {s : State} {m : MethodId} {args : Array Value} {below : List Frame} {meth : Method} {c : Code} {N n : Nat} {f9 : zF} {r : Int32} (B : zB G p s m args meth c RX12 cX12_goesOn 3 (some .int)) : ∀ (k : Nat), ∀ (f : zF) (a0 : Nat) (a1 : Int32) (a2 : Int32) (H : Heap) (locs : List Loc) (ls : Array Slot), fX12_goesOn_2 N n k f a0 a1 a2 = some (f9, r) → zS G n f H locs → lv_has ls 3 [(0, zr G a0), (1, .int a1), (2, .int a2)] → W p l e (zrm 7) s m args below meth c H locs 0 0 (MQ below (zQc G n f9 (some (.int r))) args s 0 0 (zA G)) (F0 m 2 ls []) := by
  have he := B.1
  have hb := B.2.1
  intro k
  induction k with
  | zero =>
    intro f a0 a1 a2 H locs ls h
    unfold fX12_goesOn_2 at h
    cases h
  | succ k ih =>
    intro f a0 a1 a2 H locs ls h hS hl
    unfold fX12_goesOn_2 at h
    refine lv_iload_n he hb dX12_goesOn_2 rfl (lv_at hl 2 rfl) ?_
    refine lv_iload_n he hb dX12_goesOn_3 rfl (lv_at hl 1 rfl) ?_
    refine lv_icmp_ge (tgt := 31) he hb dX12_goesOn_4 (by decide) (fun hc => ?_) (fun hc => ?_)
    · rw [if_pos hc] at h
      refine lv_iload_n he hb dX12_goesOn_31 rfl (lv_at hl 2 rfl) ?_
      obtain ⟨rfl, rfl⟩ := Prod.mk.inj (Option.some.inj h)
      exact z_iret B hS dX12_goesOn_32
    · rw [if_neg hc] at h
      refine z_aload_n he hb dX12_goesOn_7 rfl (lv_at hl 0 rfl) (zref_r _ _) ?_
      obtain ⟨x1, hx, h⟩ := zob h
      refine z_getR (ci := 12) (T := TX12) (N := 50) (j := 6) B hS hx rfl zin_X12 (by decide) zk_1353 dX12_goesOn_8 ?_
      refine lv_sipush (v := (139 : Int32)) he hb dX12_goesOn_11 (by decide) ?_
      obtain ⟨x2, hx, h⟩ := zob h
      refine z_ildI B hS hx dX12_goesOn_14 ?_
      refine lv_sipush (v := (1000 : Int32)) he hb dX12_goesOn_15 (by decide) ?_
      refine lv_icmp_ge (tgt := 31) he hb dX12_goesOn_18 (by decide) (fun hc => ?_) (fun hc => ?_)
      · rw [if_pos hc] at h
        refine lv_iload_n he hb dX12_goesOn_31 rfl (lv_at hl 2 rfl) ?_
        obtain ⟨rfl, rfl⟩ := Prod.mk.inj (Option.some.inj h)
        exact z_iret B hS dX12_goesOn_32
      · rw [if_neg hc] at h
        refine z_aload_n he hb dX12_goesOn_21 rfl (lv_at hl 0 rfl) (zref_r _ _) ?_
        obtain ⟨_, hc, h⟩ := zob h
        obtain ⟨f3, hx, h⟩ := zob h
        refine z_callV (ci := 12) (T := TX12) (N := 50) (rest := []) B hS (mX12_hour l G hx) zy_X12_hour zk_1743 (by decide) hc rfl rfl hl rfl (Nat.le_of_ble_eq_true rfl) dX12_goesOn_22 (kk := (fun H locs hS => ?_))
        refine lv_iinc (v := (a2 + 1)) (lv' := [(2, _), (0, _), (1, _)]) he hb dX12_goesOn_25 hl (k := 2) rfl rfl (by decide) rfl (fun ls hl => ?_)
        refine lv_goto (tgt := 2) he hb dX12_goesOn_28 (by decide) ?_
        exact ih _ _ _ _ _ _ _ h hS (lv_sub hl [1, 2, 0] rfl)
def fX12_goesOn (N n : Nat) (f : zF) (a0 : Nat) (a1 : Int32) : Option (zF × Int32) :=
    (fX12_goesOn_2 N n N f a0 a1 (0 : Int32))
set_option maxRecDepth 100000 in
set_option maxHeartbeats 4000000 in
theorem mX12_goesOn (l : Launch) (G : zG) {N n : Nat} {f : zF} {f9 : zF} {r : Int32} {a0 : Nat} {a1 : Int32} (h : fX12_goesOn N n f a0 a1 = some (f9, r)) : zM l G yX12_goesOn cX12_goesOn 3 (some .int) 7 n f [zr G a0, .int a1] (some (.int r)) f9 := by
  refine zM.of (by decide) (Nat.le_of_ble_eq_true rfl) ?_
  intro p e s m args below meth c locs ls B hS hl
  have he := B.1
  have hb := B.2.1
  have hl : lv_has ls 3 [(0, zr G a0), (1, .int a1)] := hl
  unfold fX12_goesOn at h
  generalize s.heap = H at hS ⊢
  refine lv_iconst (v := (0 : Int32)) he hb dX12_goesOn_0 (by decide) ?_
  refine lv_istore_n (lv' := [(2, _), (0, _), (1, _)]) he hb dX12_goesOn_1 rfl hl (by decide) rfl (fun ls hl => ?_)
  exact gX12_goesOn_2 l B N _ _ _ _ _ _ _ h hS (lv_sub hl [1, 2, 0] rfl)
theorem dX12_keep_0 : decode cX12_keep 0 = .ok (.aload_n 0, 1) := by decide +kernel
theorem dX12_keep_1 : decode cX12_keep 1 = .ok (.getfield 274, 3) := by decide +kernel
theorem dX12_keep_4 : decode cX12_keep 4 = .ok (.bipush 8, 2) := by decide +kernel
theorem dX12_keep_6 : decode cX12_keep 6 = .ok (.if_icmp .ne 39, 3) := by decide +kernel
theorem dX12_keep_9 : decode cX12_keep 9 = .ok (.iconst 0, 1) := by decide +kernel
theorem dX12_keep_10 : decode cX12_keep 10 = .ok (.istore_n 1, 1) := by decide +kernel
theorem dX12_keep_11 : decode cX12_keep 11 = .ok (.iload_n 1, 1) := by decide +kernel
theorem dX12_keep_12 : decode cX12_keep 12 = .ok (.sipush 777, 3) := by decide +kernel
theorem dX12_keep_15 : decode cX12_keep 15 = .ok (.if_icmp .ge 24, 3) := by decide +kernel
theorem dX12_keep_18 : decode cX12_keep 18 = .ok (.aload_n 0, 1) := by decide +kernel
theorem dX12_keep_19 : decode cX12_keep 19 = .ok (.getfield 50, 3) := by decide +kernel
theorem dX12_keep_22 : decode cX12_keep 22 = .ok (.iload_n 1, 1) := by decide +kernel
theorem dX12_keep_23 : decode cX12_keep 23 = .ok (.aload_n 0, 1) := by decide +kernel
theorem dX12_keep_24 : decode cX12_keep 24 = .ok (.getfield 50, 3) := by decide +kernel
theorem dX12_keep_27 : decode cX12_keep 27 = .ok (.iload_n 1, 1) := by decide +kernel
theorem dX12_keep_28 : decode cX12_keep 28 = .ok (.bipush 111, 2) := by decide +kernel
theorem dX12_keep_30 : decode cX12_keep 30 = .ok (.iadd, 1) := by decide +kernel
theorem dX12_keep_31 : decode cX12_keep 31 = .ok (.iaload, 1) := by decide +kernel
theorem dX12_keep_32 : decode cX12_keep 32 = .ok (.iastore, 1) := by decide +kernel
theorem dX12_keep_33 : decode cX12_keep 33 = .ok (.iinc 1 1, 3) := by decide +kernel
theorem dX12_keep_36 : decode cX12_keep 36 = .ok (.goto (-25), 3) := by decide +kernel
theorem dX12_keep_39 : decode cX12_keep 39 = .ok (.aload_n 0, 1) := by decide +kernel
theorem dX12_keep_40 : decode cX12_keep 40 = .ok (.bipush 7, 2) := by decide +kernel
theorem dX12_keep_42 : decode cX12_keep 42 = .ok (.putfield 274, 3) := by decide +kernel
theorem dX12_keep_45 : decode cX12_keep 45 = .ok (.iconst 0, 1) := by decide +kernel
theorem dX12_keep_46 : decode cX12_keep 46 = .ok (.istore_n 1, 1) := by decide +kernel
theorem dX12_keep_47 : decode cX12_keep 47 = .ok (.iload_n 1, 1) := by decide +kernel
theorem dX12_keep_48 : decode cX12_keep 48 = .ok (.bipush 111, 2) := by decide +kernel
theorem dX12_keep_50 : decode cX12_keep 50 = .ok (.if_icmp .ge 33, 3) := by decide +kernel
theorem dX12_keep_53 : decode cX12_keep 53 = .ok (.aload_n 0, 1) := by decide +kernel
theorem dX12_keep_54 : decode cX12_keep 54 = .ok (.getfield 50, 3) := by decide +kernel
theorem dX12_keep_57 : decode cX12_keep 57 = .ok (.bipush 111, 2) := by decide +kernel
theorem dX12_keep_59 : decode cX12_keep 59 = .ok (.aload_n 0, 1) := by decide +kernel
theorem dX12_keep_60 : decode cX12_keep 60 = .ok (.getfield 274, 3) := by decide +kernel
theorem dX12_keep_63 : decode cX12_keep 63 = .ok (.imul, 1) := by decide +kernel
theorem dX12_keep_64 : decode cX12_keep 64 = .ok (.iload_n 1, 1) := by decide +kernel
theorem dX12_keep_65 : decode cX12_keep 65 = .ok (.iadd, 1) := by decide +kernel
theorem dX12_keep_66 : decode cX12_keep 66 = .ok (.aload_n 0, 1) := by decide +kernel
theorem dX12_keep_67 : decode cX12_keep 67 = .ok (.getfield 33, 3) := by decide +kernel
theorem dX12_keep_70 : decode cX12_keep 70 = .ok (.sipush 139, 3) := by decide +kernel
theorem dX12_keep_73 : decode cX12_keep 73 = .ok (.iload_n 1, 1) := by decide +kernel
theorem dX12_keep_74 : decode cX12_keep 74 = .ok (.iadd, 1) := by decide +kernel
theorem dX12_keep_75 : decode cX12_keep 75 = .ok (.iaload, 1) := by decide +kernel
theorem dX12_keep_76 : decode cX12_keep 76 = .ok (.iastore, 1) := by decide +kernel
theorem dX12_keep_77 : decode cX12_keep 77 = .ok (.iinc 1 1, 3) := by decide +kernel
theorem dX12_keep_80 : decode cX12_keep 80 = .ok (.goto (-33), 3) := by decide +kernel
theorem dX12_keep_83 : decode cX12_keep 83 = .ok (.aload_n 0, 1) := by decide +kernel
theorem dX12_keep_84 : decode cX12_keep 84 = .ok (.dup, 1) := by decide +kernel
theorem dX12_keep_85 : decode cX12_keep 85 = .ok (.getfield 274, 3) := by decide +kernel
theorem dX12_keep_88 : decode cX12_keep 88 = .ok (.iconst 1, 1) := by decide +kernel
theorem dX12_keep_89 : decode cX12_keep 89 = .ok (.iadd, 1) := by decide +kernel
theorem dX12_keep_90 : decode cX12_keep 90 = .ok (.putfield 274, 3) := by decide +kernel
theorem dX12_keep_93 : decode cX12_keep 93 = .ok (.return_, 1) := by decide +kernel
def fX12_keep_47 (N n : Nat) : Nat → zF → Nat → Int32 → Option zF
  | 0, _, _, _ => none
  | k + 1, f, a0, a1 =>
    (if (111 : Int32) ≤ a1 then ((zgI n f 12 a0 23).bind fun x2 => ((zpI n f 12 a0 23 (x2 + (1 : Int32))).bind fun f3 => some f3)) else ((zgR n f 12 a0 21).bind fun x4 => ((zgI n f 12 a0 23).bind fun x5 => ((zgR n f 12 a0 6).bind fun x6 => ((zlI n f 0 x6 ((139 : Int32) + a1)).bind fun x7 => ((zsI n f 0 x4 (((111 : Int32) * x5) + a1) x7).bind fun f8 => (fX12_keep_47 N n k f8 a0 (a1 + 1))))))))
set_option maxRecDepth 100000 in
set_option maxHeartbeats 4000000 in
theorem gX12_keep_47 (l : Launch) {G : zG} {p : Program} {e : Env} {s : State} {m : MethodId} {args : Array Value} {below : List Frame} {meth : Method} {c : Code} {N n : Nat} {f9 : zF} (B : zB G p s m args meth c RX12 cX12_keep 2 (none)) : ∀ (k : Nat), ∀ (f : zF) (a0 : Nat) (a1 : Int32) (H : Heap) (locs : List Loc) (ls : Array Slot), fX12_keep_47 N n k f a0 a1 = some f9 → zS G n f H locs → lv_has ls 2 [(0, zr G a0), (1, .int a1)] → W p l e (zrm 0) s m args below meth c H locs 0 0 (MQ below (zQc G n f9 (none)) args s 0 0 (zA G)) (F0 m 47 ls []) := by
  have he := B.1
  have hb := B.2.1
  intro k
  induction k with
  | zero =>
    intro f a0 a1 H locs ls h
    unfold fX12_keep_47 at h
    cases h
  | succ k ih =>
    intro f a0 a1 H locs ls h hS hl
    unfold fX12_keep_47 at h
    refine lv_iload_n he hb dX12_keep_47 rfl (lv_at hl 1 rfl) ?_
    refine lv_bipush (v := (111 : Int32)) he hb dX12_keep_48 (by decide) ?_
    refine lv_icmp_ge (tgt := 83) he hb dX12_keep_50 (by decide) (fun hc => ?_) (fun hc => ?_)
    · rw [if_pos hc] at h
      refine z_aload_n he hb dX12_keep_83 rfl (lv_at hl 0 rfl) (zref_r _ _) ?_
      refine lv_dup he hb dX12_keep_84 rfl ?_
      obtain ⟨x2, hx, h⟩ := zob h
      refine z_getI (ci := 12) (T := TX12) (N := 50) (j := 23) B hS hx rfl zin_X12 (by decide) zk_1370 dX12_keep_85 ?_
      refine lv_iconst (v := (1 : Int32)) he hb dX12_keep_88 (by decide) ?_
      refine lv_iadd he hb dX12_keep_89 ?_
      obtain ⟨f3, hx, h⟩ := zob h
      refine z_putI (ci := 12) (T := TX12) (N := 50) (j := 23) B hS hx rfl zin_X12 tyX12 tyX12_ok nmX12 (by decide) zk_1370 rfl rfl dX12_keep_90 (fun H locs hS => ?_)
      obtain rfl := Option.some.inj h
      exact z_vret B hS dX12_keep_93
    · rw [if_neg hc] at h
      refine z_aload_n he hb dX12_keep_53 rfl (lv_at hl 0 rfl) (zref_r _ _) ?_
      obtain ⟨x4, hx, h⟩ := zob h
      refine z_getR (ci := 12) (T := TX12) (N := 50) (j := 21) B hS hx rfl zin_X12 (by decide) zk_1368 dX12_keep_54 ?_
      refine lv_bipush (v := (111 : Int32)) he hb dX12_keep_57 (by decide) ?_
      refine z_aload_n he hb dX12_keep_59 rfl (lv_at hl 0 rfl) (zref_r _ _) ?_
      obtain ⟨x5, hx, h⟩ := zob h
      refine z_getI (ci := 12) (T := TX12) (N := 50) (j := 23) B hS hx rfl zin_X12 (by decide) zk_1370 dX12_keep_60 ?_
      refine lv_imul he hb dX12_keep_63 ?_
      refine lv_iload_n he hb dX12_keep_64 rfl (lv_at hl 1 rfl) ?_
      refine lv_iadd he hb dX12_keep_65 ?_
      refine z_aload_n he hb dX12_keep_66 rfl (lv_at hl 0 rfl) (zref_r _ _) ?_
      obtain ⟨x6, hx, h⟩ := zob h
      refine z_getR (ci := 12) (T := TX12) (N := 50) (j := 6) B hS hx rfl zin_X12 (by decide) zk_1353 dX12_keep_67 ?_
      refine lv_sipush (v := (139 : Int32)) he hb dX12_keep_70 (by decide) ?_
      refine lv_iload_n he hb dX12_keep_73 rfl (lv_at hl 1 rfl) ?_
      refine lv_iadd he hb dX12_keep_74 ?_
      obtain ⟨x7, hx, h⟩ := zob h
      refine z_ildI B hS hx dX12_keep_75 ?_
      obtain ⟨f8, hx, h⟩ := zob h
      refine z_istI B hS hx dX12_keep_76 (fun H locs hS => ?_)
      refine lv_iinc (v := (a1 + 1)) (lv' := [(1, _), (0, _)]) he hb dX12_keep_77 hl (k := 1) rfl rfl (by decide) rfl (fun ls hl => ?_)
      refine lv_goto (tgt := 47) he hb dX12_keep_80 (by decide) ?_
      exact ih _ _ _ _ _ _ h hS (lv_sub hl [1, 0] rfl)
def fX12_keep_45 (N n : Nat) (f : zF) (a0 : Nat) : Option zF :=
    (fX12_keep_47 N n N f a0 (0 : Int32))
set_option maxRecDepth 100000 in
set_option maxHeartbeats 4000000 in
theorem gX12_keep_45 (l : Launch) {G : zG} {p : Program} {e : Env} {s : State} {m : MethodId} {args : Array Value} {below : List Frame} {meth : Method} {c : Code} {N n : Nat} {f9 : zF} (B : zB G p s m args meth c RX12 cX12_keep 2 (none)) : ∀ (f : zF) (a0 : Nat) (H : Heap) (locs : List Loc) (ls : Array Slot), fX12_keep_45 N n f a0 = some f9 → zS G n f H locs → lv_has ls 2 [(0, zr G a0)] → W p l e (zrm 0) s m args below meth c H locs 0 0 (MQ below (zQc G n f9 (none)) args s 0 0 (zA G)) (F0 m 45 ls []) := by
  have he := B.1
  have hb := B.2.1
  intro f a0 H locs ls h hS hl
  unfold fX12_keep_45 at h
  refine lv_iconst (v := (0 : Int32)) he hb dX12_keep_45 (by decide) ?_
  refine lv_istore_n (lv' := [(1, _), (0, _)]) he hb dX12_keep_46 rfl hl (by decide) rfl (fun ls hl => ?_)
  exact gX12_keep_47 l B N _ _ _ _ _ _ h hS (lv_sub hl [1, 0] rfl)
def fX12_keep_11 (N n : Nat) : Nat → zF → Nat → Int32 → Option zF
  | 0, _, _, _ => none
  | k + 1, f, a0, a1 =>
    (if (777 : Int32) ≤ a1 then ((zpI n f 12 a0 23 (7 : Int32)).bind fun f9 => (fX12_keep_45 N n f9 a0)) else ((zgR n f 12 a0 21).bind fun x10 => ((zgR n f 12 a0 21).bind fun x11 => ((zlI n f 0 x11 (a1 + (111 : Int32))).bind fun x12 => ((zsI n f 0 x10 a1 x12).bind fun f13 => (fX12_keep_11 N n k f13 a0 (a1 + 1)))))))
set_option maxRecDepth 100000 in
set_option maxHeartbeats 4000000 in
theorem gX12_keep_11 (l : Launch) {G : zG} {p : Program} {e : Env} {s : State} {m : MethodId} {args : Array Value} {below : List Frame} {meth : Method} {c : Code} {N n : Nat} {f9 : zF} (B : zB G p s m args meth c RX12 cX12_keep 2 (none)) : ∀ (k : Nat), ∀ (f : zF) (a0 : Nat) (a1 : Int32) (H : Heap) (locs : List Loc) (ls : Array Slot), fX12_keep_11 N n k f a0 a1 = some f9 → zS G n f H locs → lv_has ls 2 [(0, zr G a0), (1, .int a1)] → W p l e (zrm 0) s m args below meth c H locs 0 0 (MQ below (zQc G n f9 (none)) args s 0 0 (zA G)) (F0 m 11 ls []) := by
  have he := B.1
  have hb := B.2.1
  intro k
  induction k with
  | zero =>
    intro f a0 a1 H locs ls h
    unfold fX12_keep_11 at h
    cases h
  | succ k ih =>
    intro f a0 a1 H locs ls h hS hl
    unfold fX12_keep_11 at h
    refine lv_iload_n he hb dX12_keep_11 rfl (lv_at hl 1 rfl) ?_
    refine lv_sipush (v := (777 : Int32)) he hb dX12_keep_12 (by decide) ?_
    refine lv_icmp_ge (tgt := 39) he hb dX12_keep_15 (by decide) (fun hc => ?_) (fun hc => ?_)
    · rw [if_pos hc] at h
      refine z_aload_n he hb dX12_keep_39 rfl (lv_at hl 0 rfl) (zref_r _ _) ?_
      refine lv_bipush (v := (7 : Int32)) he hb dX12_keep_40 (by decide) ?_
      obtain ⟨f9, hx, h⟩ := zob h
      refine z_putI (ci := 12) (T := TX12) (N := 50) (j := 23) B hS hx rfl zin_X12 tyX12 tyX12_ok nmX12 (by decide) zk_1370 rfl rfl dX12_keep_42 (fun H locs hS => ?_)
      exact gX12_keep_45 l B _ _ _ _ _ h hS (lv_sub hl [0] rfl)
    · rw [if_neg hc] at h
      refine z_aload_n he hb dX12_keep_18 rfl (lv_at hl 0 rfl) (zref_r _ _) ?_
      obtain ⟨x10, hx, h⟩ := zob h
      refine z_getR (ci := 12) (T := TX12) (N := 50) (j := 21) B hS hx rfl zin_X12 (by decide) zk_1368 dX12_keep_19 ?_
      refine lv_iload_n he hb dX12_keep_22 rfl (lv_at hl 1 rfl) ?_
      refine z_aload_n he hb dX12_keep_23 rfl (lv_at hl 0 rfl) (zref_r _ _) ?_
      obtain ⟨x11, hx, h⟩ := zob h
      refine z_getR (ci := 12) (T := TX12) (N := 50) (j := 21) B hS hx rfl zin_X12 (by decide) zk_1368 dX12_keep_24 ?_
      refine lv_iload_n he hb dX12_keep_27 rfl (lv_at hl 1 rfl) ?_
      refine lv_bipush (v := (111 : Int32)) he hb dX12_keep_28 (by decide) ?_
      refine lv_iadd he hb dX12_keep_30 ?_
      obtain ⟨x12, hx, h⟩ := zob h
      refine z_ildI B hS hx dX12_keep_31 ?_
      obtain ⟨f13, hx, h⟩ := zob h
      refine z_istI B hS hx dX12_keep_32 (fun H locs hS => ?_)
      refine lv_iinc (v := (a1 + 1)) (lv' := [(1, _), (0, _)]) he hb dX12_keep_33 hl (k := 1) rfl rfl (by decide) rfl (fun ls hl => ?_)
      refine lv_goto (tgt := 11) he hb dX12_keep_36 (by decide) ?_
      exact ih _ _ _ _ _ _ h hS (lv_sub hl [1, 0] rfl)
def fX12_keep (N n : Nat) (f : zF) (a0 : Nat) : Option zF :=
    ((zgI n f 12 a0 23).bind fun x1 => (if x1 = (8 : Int32) then (fX12_keep_11 N n N f a0 (0 : Int32)) else (fX12_keep_45 N n f a0)))
set_option maxRecDepth 100000 in
set_option maxHeartbeats 4000000 in
theorem mX12_keep (l : Launch) (G : zG) {N n : Nat} {f : zF} {f9 : zF} {a0 : Nat} (h : fX12_keep N n f a0 = some f9) : zM l G yX12_keep cX12_keep 2 (none) 0 n f [zr G a0] (none) f9 := by
  refine zM.of (by decide) (Nat.le_of_ble_eq_true rfl) ?_
  intro p e s m args below meth c locs ls B hS hl
  have he := B.1
  have hb := B.2.1
  have hl : lv_has ls 2 [(0, zr G a0)] := hl
  unfold fX12_keep at h
  generalize s.heap = H at hS ⊢
  refine z_aload_n he hb dX12_keep_0 rfl (lv_at hl 0 rfl) (zref_r _ _) ?_
  obtain ⟨x1, hx, h⟩ := zob h
  refine z_getI (ci := 12) (T := TX12) (N := 50) (j := 23) B hS hx rfl zin_X12 (by decide) zk_1370 dX12_keep_1 ?_
  refine lv_bipush (v := (8 : Int32)) he hb dX12_keep_4 (by decide) ?_
  refine lv_icmp_ne (tgt := 45) he hb dX12_keep_6 (by decide) (fun hc => ?_) (fun hc => ?_)
  · rw [if_neg hc] at h
    exact gX12_keep_45 l B _ _ _ _ _ h hS (lv_sub hl [0] rfl)
  · rw [if_pos hc] at h
    refine lv_iconst (v := (0 : Int32)) he hb dX12_keep_9 (by decide) ?_
    refine lv_istore_n (lv' := [(1, _), (0, _)]) he hb dX12_keep_10 rfl hl (by decide) rfl (fun ls hl => ?_)
    exact gX12_keep_11 l B N _ _ _ _ _ _ h hS (lv_sub hl [1, 0] rfl)
theorem dX12_turn_0 : decode cX12_turn 0 = .ok (.aload_n 0, 1) := by decide +kernel
theorem dX12_turn_1 : decode cX12_turn 1 = .ok (.iconst 0, 1) := by decide +kernel
theorem dX12_turn_2 : decode cX12_turn 2 = .ok (.putfield 1, 3) := by decide +kernel
theorem dX12_turn_5 : decode cX12_turn 5 = .ok (.aload_n 0, 1) := by decide +kernel
theorem dX12_turn_6 : decode cX12_turn 6 = .ok (.iload_n 1, 1) := by decide +kernel
theorem dX12_turn_7 : decode cX12_turn 7 = .ok (.invokevirtual 317, 3) := by decide +kernel
theorem dX12_turn_10 : decode cX12_turn 10 = .ok (.ifCond .eq 12, 3) := by decide +kernel
theorem dX12_turn_13 : decode cX12_turn 13 = .ok (.iload_n 2, 1) := by decide +kernel
theorem dX12_turn_14 : decode cX12_turn 14 = .ok (.iconst 0, 1) := by decide +kernel
theorem dX12_turn_15 : decode cX12_turn 15 = .ok (.iconst 3, 1) := by decide +kernel
theorem dX12_turn_16 : decode cX12_turn 16 = .ok (.invokestatic 192, 3) := by decide +kernel
theorem dX12_turn_19 : decode cX12_turn 19 = .ok (.ifCond .ne 5, 3) := by decide +kernel
theorem dX12_turn_22 : decode cX12_turn 22 = .ok (.iconst (-1), 1) := by decide +kernel
theorem dX12_turn_23 : decode cX12_turn 23 = .ok (.ireturn, 1) := by decide +kernel
theorem dX12_turn_24 : decode cX12_turn 24 = .ok (.aload_n 0, 1) := by decide +kernel
theorem dX12_turn_25 : decode cX12_turn 25 = .ok (.getfield 33, 3) := by decide +kernel
theorem dX12_turn_28 : decode cX12_turn 28 = .ok (.sipush 164, 3) := by decide +kernel
theorem dX12_turn_31 : decode cX12_turn 31 = .ok (.iload_n 1, 1) := by decide +kernel
theorem dX12_turn_32 : decode cX12_turn 32 = .ok (.iadd, 1) := by decide +kernel
theorem dX12_turn_33 : decode cX12_turn 33 = .ok (.iaload, 1) := by decide +kernel
theorem dX12_turn_34 : decode cX12_turn 34 = .ok (.iload_n 2, 1) := by decide +kernel
theorem dX12_turn_35 : decode cX12_turn 35 = .ok (.if_icmp .ne 5, 3) := by decide +kernel
theorem dX12_turn_38 : decode cX12_turn 38 = .ok (.iconst 1, 1) := by decide +kernel
theorem dX12_turn_39 : decode cX12_turn 39 = .ok (.ireturn, 1) := by decide +kernel
theorem dX12_turn_40 : decode cX12_turn 40 = .ok (.aload_n 0, 1) := by decide +kernel
theorem dX12_turn_41 : decode cX12_turn 41 = .ok (.invokevirtual 332, 3) := by decide +kernel
theorem dX12_turn_44 : decode cX12_turn 44 = .ok (.aload_n 0, 1) := by decide +kernel
theorem dX12_turn_45 : decode cX12_turn 45 = .ok (.getfield 33, 3) := by decide +kernel
theorem dX12_turn_48 : decode cX12_turn 48 = .ok (.sipush 164, 3) := by decide +kernel
theorem dX12_turn_51 : decode cX12_turn 51 = .ok (.iload_n 1, 1) := by decide +kernel
theorem dX12_turn_52 : decode cX12_turn 52 = .ok (.iadd, 1) := by decide +kernel
theorem dX12_turn_53 : decode cX12_turn 53 = .ok (.iload_n 2, 1) := by decide +kernel
theorem dX12_turn_54 : decode cX12_turn 54 = .ok (.iastore, 1) := by decide +kernel
theorem dX12_turn_55 : decode cX12_turn 55 = .ok (.iconst 0, 1) := by decide +kernel
theorem dX12_turn_56 : decode cX12_turn 56 = .ok (.ireturn, 1) := by decide +kernel
def fX12_turn (N n : Nat) (f : zF) (a0 : Nat) (a1 : Int32) (a2 : Int32) : Option (zF × Int32) :=
    ((zpI n f 12 a0 0 (0 : Int32)).bind fun f1 => ((zck n f1 12 a0).bind fun _ => ((fX12_isLooker N n f1 a0 a1).bind fun x2 => (if x2 = 0 then some (f1, (-1 : Int32)) else ((fX12_isIn N n f1 a2 (0 : Int32) (3 : Int32)).bind fun x3 => (if x3 = 0 then some (f1, (-1 : Int32)) else ((zgR n f1 12 a0 6).bind fun x4 => ((zlI n f1 0 x4 ((164 : Int32) + a1)).bind fun x5 => (if x5 = a2 then some (f1, (1 : Int32)) else ((zck n f1 12 a0).bind fun _ => ((fX12_keep N n f1 a0).bind fun f6 => ((zgR n f6 12 a0 6).bind fun x7 => ((zsI n f6 0 x7 ((164 : Int32) + a1) a2).bind fun f8 => some (f8, (0 : Int32)))))))))))))))
set_option maxRecDepth 100000 in
set_option maxHeartbeats 4000000 in
theorem mX12_turn (l : Launch) (G : zG) {N n : Nat} {f : zF} {f9 : zF} {r : Int32} {a0 : Nat} {a1 : Int32} {a2 : Int32} (h : fX12_turn N n f a0 a1 a2 = some (f9, r)) : zM l G yX12_turn cX12_turn 3 (some .int) 2 n f [zr G a0, .int a1, .int a2] (some (.int r)) f9 := by
  refine zM.of (by decide) (Nat.le_of_ble_eq_true rfl) ?_
  intro p e s m args below meth c locs ls B hS hl
  have he := B.1
  have hb := B.2.1
  have hl : lv_has ls 3 [(0, zr G a0), (1, .int a1), (2, .int a2)] := hl
  unfold fX12_turn at h
  generalize s.heap = H at hS ⊢
  refine z_aload_n he hb dX12_turn_0 rfl (lv_at hl 0 rfl) (zref_r _ _) ?_
  refine lv_iconst (v := (0 : Int32)) he hb dX12_turn_1 (by decide) ?_
  obtain ⟨f1, hx, h⟩ := zob h
  refine z_putI (ci := 12) (T := TX12) (N := 50) (j := 0) B hS hx rfl zin_X12 tyX12 tyX12_ok nmX12 (by decide) zk_1347 rfl rfl dX12_turn_2 (fun H locs hS => ?_)
  refine z_aload_n he hb dX12_turn_5 rfl (lv_at hl 0 rfl) (zref_r _ _) ?_
  refine lv_iload_n he hb dX12_turn_6 rfl (lv_at hl 1 rfl) ?_
  obtain ⟨_, hc, h⟩ := zob h
  obtain ⟨x2, hx, h⟩ := zob h
  refine z_callV (ci := 12) (T := TX12) (N := 50) (rest := []) B hS (mX12_isLooker l G hx) zy_X12_isLooker zk_1675 (by decide) hc rfl rfl hl rfl (Nat.le_of_ble_eq_true rfl) dX12_turn_7 (kk := (fun H locs hS => ?_))
  refine lv_if_eq (tgt := 22) he hb dX12_turn_10 (by decide) (fun hc => ?_) (fun hc => ?_)
  · rw [if_pos hc] at h
    refine lv_iconst (v := (-1 : Int32)) he hb dX12_turn_22 (by decide) ?_
    obtain ⟨rfl, rfl⟩ := Prod.mk.inj (Option.some.inj h)
    exact z_iret B hS dX12_turn_23
  · rw [if_neg hc] at h
    refine lv_iload_n he hb dX12_turn_13 rfl (lv_at hl 2 rfl) ?_
    refine lv_iconst (v := (0 : Int32)) he hb dX12_turn_14 (by decide) ?_
    refine lv_iconst (v := (3 : Int32)) he hb dX12_turn_15 (by decide) ?_
    obtain ⟨x3, hx, h⟩ := zob h
    refine z_callS (rest := []) B hS (mX12_isIn l G hx) zy_X12_isIn zk_1545 (by decide) rfl hl rfl (Nat.le_of_ble_eq_true rfl) dX12_turn_16 (kk := (fun H locs hS => ?_))
    refine lv_if_ne (tgt := 24) he hb dX12_turn_19 (by decide) (fun hc => ?_) (fun hc => ?_)
    · rw [if_neg hc] at h
      refine z_aload_n he hb dX12_turn_24 rfl (lv_at hl 0 rfl) (zref_r _ _) ?_
      obtain ⟨x4, hx, h⟩ := zob h
      refine z_getR (ci := 12) (T := TX12) (N := 50) (j := 6) B hS hx rfl zin_X12 (by decide) zk_1353 dX12_turn_25 ?_
      refine lv_sipush (v := (164 : Int32)) he hb dX12_turn_28 (by decide) ?_
      refine lv_iload_n he hb dX12_turn_31 rfl (lv_at hl 1 rfl) ?_
      refine lv_iadd he hb dX12_turn_32 ?_
      obtain ⟨x5, hx, h⟩ := zob h
      refine z_ildI B hS hx dX12_turn_33 ?_
      refine lv_iload_n he hb dX12_turn_34 rfl (lv_at hl 2 rfl) ?_
      refine lv_icmp_ne (tgt := 40) he hb dX12_turn_35 (by decide) (fun hc => ?_) (fun hc => ?_)
      · rw [if_neg hc] at h
        refine z_aload_n he hb dX12_turn_40 rfl (lv_at hl 0 rfl) (zref_r _ _) ?_
        obtain ⟨_, hc, h⟩ := zob h
        obtain ⟨f6, hx, h⟩ := zob h
        refine z_callV (ci := 12) (T := TX12) (N := 50) (rest := []) B hS (mX12_keep l G hx) zy_X12_keep zk_1703 (by decide) hc rfl rfl hl rfl (Nat.le_of_ble_eq_true rfl) dX12_turn_41 (kk := (fun H locs hS => ?_))
        refine z_aload_n he hb dX12_turn_44 rfl (lv_at hl 0 rfl) (zref_r _ _) ?_
        obtain ⟨x7, hx, h⟩ := zob h
        refine z_getR (ci := 12) (T := TX12) (N := 50) (j := 6) B hS hx rfl zin_X12 (by decide) zk_1353 dX12_turn_45 ?_
        refine lv_sipush (v := (164 : Int32)) he hb dX12_turn_48 (by decide) ?_
        refine lv_iload_n he hb dX12_turn_51 rfl (lv_at hl 1 rfl) ?_
        refine lv_iadd he hb dX12_turn_52 ?_
        refine lv_iload_n he hb dX12_turn_53 rfl (lv_at hl 2 rfl) ?_
        obtain ⟨f8, hx, h⟩ := zob h
        refine z_istI B hS hx dX12_turn_54 (fun H locs hS => ?_)
        refine lv_iconst (v := (0 : Int32)) he hb dX12_turn_55 (by decide) ?_
        obtain ⟨rfl, rfl⟩ := Prod.mk.inj (Option.some.inj h)
        exact z_iret B hS dX12_turn_56
      · rw [if_pos hc] at h
        refine lv_iconst (v := (1 : Int32)) he hb dX12_turn_38 (by decide) ?_
        obtain ⟨rfl, rfl⟩ := Prod.mk.inj (Option.some.inj h)
        exact z_iret B hS dX12_turn_39
    · rw [if_pos hc] at h
      refine lv_iconst (v := (-1 : Int32)) he hb dX12_turn_22 (by decide) ?_
      obtain ⟨rfl, rfl⟩ := Prod.mk.inj (Option.some.inj h)
      exact z_iret B hS dX12_turn_23
theorem dX12_walk_0 : decode cX12_walk 0 = .ok (.aload_n 0, 1) := by decide +kernel
theorem dX12_walk_1 : decode cX12_walk 1 = .ok (.iconst 0, 1) := by decide +kernel
theorem dX12_walk_2 : decode cX12_walk 2 = .ok (.putfield 1, 3) := by decide +kernel
theorem dX12_walk_5 : decode cX12_walk 5 = .ok (.aload_n 0, 1) := by decide +kernel
theorem dX12_walk_6 : decode cX12_walk 6 = .ok (.iload_n 1, 1) := by decide +kernel
theorem dX12_walk_7 : decode cX12_walk 7 = .ok (.invokevirtual 317, 3) := by decide +kernel
theorem dX12_walk_10 : decode cX12_walk 10 = .ok (.ifCond .eq 12, 3) := by decide +kernel
theorem dX12_walk_13 : decode cX12_walk 13 = .ok (.iload_n 2, 1) := by decide +kernel
theorem dX12_walk_14 : decode cX12_walk 14 = .ok (.iconst 0, 1) := by decide +kernel
theorem dX12_walk_15 : decode cX12_walk 15 = .ok (.iconst 3, 1) := by decide +kernel
theorem dX12_walk_16 : decode cX12_walk 16 = .ok (.invokestatic 192, 3) := by decide +kernel
theorem dX12_walk_19 : decode cX12_walk 19 = .ok (.ifCond .ne 5, 3) := by decide +kernel
theorem dX12_walk_22 : decode cX12_walk 22 = .ok (.iconst (-1), 1) := by decide +kernel
theorem dX12_walk_23 : decode cX12_walk 23 = .ok (.ireturn, 1) := by decide +kernel
theorem dX12_walk_24 : decode cX12_walk 24 = .ok (.aload_n 0, 1) := by decide +kernel
theorem dX12_walk_25 : decode cX12_walk 25 = .ok (.iload_n 1, 1) := by decide +kernel
theorem dX12_walk_26 : decode cX12_walk 26 = .ok (.iload_n 2, 1) := by decide +kernel
theorem dX12_walk_27 : decode cX12_walk 27 = .ok (.invokevirtual 335, 3) := by decide +kernel
theorem dX12_walk_30 : decode cX12_walk 30 = .ok (.istore_n 3, 1) := by decide +kernel
theorem dX12_walk_31 : decode cX12_walk 31 = .ok (.iload_n 3, 1) := by decide +kernel
theorem dX12_walk_32 : decode cX12_walk 32 = .ok (.ifCond .le 5, 3) := by decide +kernel
theorem dX12_walk_35 : decode cX12_walk 35 = .ok (.iload_n 3, 1) := by decide +kernel
theorem dX12_walk_36 : decode cX12_walk 36 = .ok (.ireturn, 1) := by decide +kernel
theorem dX12_walk_37 : decode cX12_walk 37 = .ok (.aload_n 0, 1) := by decide +kernel
theorem dX12_walk_38 : decode cX12_walk 38 = .ok (.invokevirtual 332, 3) := by decide +kernel
theorem dX12_walk_41 : decode cX12_walk 41 = .ok (.aload_n 0, 1) := by decide +kernel
theorem dX12_walk_42 : decode cX12_walk 42 = .ok (.getfield 33, 3) := by decide +kernel
theorem dX12_walk_45 : decode cX12_walk 45 = .ok (.sipush 159, 3) := by decide +kernel
theorem dX12_walk_48 : decode cX12_walk 48 = .ok (.iload_n 1, 1) := by decide +kernel
theorem dX12_walk_49 : decode cX12_walk 49 = .ok (.iadd, 1) := by decide +kernel
theorem dX12_walk_50 : decode cX12_walk 50 = .ok (.aload_n 0, 1) := by decide +kernel
theorem dX12_walk_51 : decode cX12_walk 51 = .ok (.aload_n 0, 1) := by decide +kernel
theorem dX12_walk_52 : decode cX12_walk 52 = .ok (.getfield 33, 3) := by decide +kernel
theorem dX12_walk_55 : decode cX12_walk 55 = .ok (.sipush 159, 3) := by decide +kernel
theorem dX12_walk_58 : decode cX12_walk 58 = .ok (.iload_n 1, 1) := by decide +kernel
theorem dX12_walk_59 : decode cX12_walk 59 = .ok (.iadd, 1) := by decide +kernel
theorem dX12_walk_60 : decode cX12_walk 60 = .ok (.iaload, 1) := by decide +kernel
theorem dX12_walk_61 : decode cX12_walk 61 = .ok (.iload_n 2, 1) := by decide +kernel
theorem dX12_walk_62 : decode cX12_walk 62 = .ok (.invokevirtual 280, 3) := by decide +kernel
theorem dX12_walk_65 : decode cX12_walk 65 = .ok (.iastore, 1) := by decide +kernel
theorem dX12_walk_66 : decode cX12_walk 66 = .ok (.iconst 0, 1) := by decide +kernel
theorem dX12_walk_67 : decode cX12_walk 67 = .ok (.ireturn, 1) := by decide +kernel
def fX12_walk (N n : Nat) (f : zF) (a0 : Nat) (a1 : Int32) (a2 : Int32) : Option (zF × Int32) :=
    ((zpI n f 12 a0 0 (0 : Int32)).bind fun f1 => ((zck n f1 12 a0).bind fun _ => ((fX12_isLooker N n f1 a0 a1).bind fun x2 => (if x2 = 0 then some (f1, (-1 : Int32)) else ((fX12_isIn N n f1 a2 (0 : Int32) (3 : Int32)).bind fun x3 => (if x3 = 0 then some (f1, (-1 : Int32)) else ((zck n f1 12 a0).bind fun _ => ((fX12_whyWalk N n f1 a0 a1 a2).bind fun x4 => (if x4 ≤ 0 then ((zck n f1 12 a0).bind fun _ => ((fX12_keep N n f1 a0).bind fun f5 => ((zgR n f5 12 a0 6).bind fun x6 => ((zgR n f5 12 a0 6).bind fun x7 => ((zlI n f5 0 x7 ((159 : Int32) + a1)).bind fun x8 => ((zck n f5 12 a0).bind fun _ => ((fX12_beside N n f5 a0 x8 a2).bind fun x9 => ((zsI n f5 0 x6 ((159 : Int32) + a1) x9).bind fun f10 => some (f10, (0 : Int32)))))))))) else some (f1, x4))))))))))
set_option maxRecDepth 100000 in
set_option maxHeartbeats 4000000 in
theorem mX12_walk (l : Launch) (G : zG) {N n : Nat} {f : zF} {f9 : zF} {r : Int32} {a0 : Nat} {a1 : Int32} {a2 : Int32} (h : fX12_walk N n f a0 a1 a2 = some (f9, r)) : zM l G yX12_walk cX12_walk 4 (some .int) 4 n f [zr G a0, .int a1, .int a2] (some (.int r)) f9 := by
  refine zM.of (by decide) (Nat.le_of_ble_eq_true rfl) ?_
  intro p e s m args below meth c locs ls B hS hl
  have he := B.1
  have hb := B.2.1
  have hl : lv_has ls 4 [(0, zr G a0), (1, .int a1), (2, .int a2)] := hl
  unfold fX12_walk at h
  generalize s.heap = H at hS ⊢
  refine z_aload_n he hb dX12_walk_0 rfl (lv_at hl 0 rfl) (zref_r _ _) ?_
  refine lv_iconst (v := (0 : Int32)) he hb dX12_walk_1 (by decide) ?_
  obtain ⟨f1, hx, h⟩ := zob h
  refine z_putI (ci := 12) (T := TX12) (N := 50) (j := 0) B hS hx rfl zin_X12 tyX12 tyX12_ok nmX12 (by decide) zk_1347 rfl rfl dX12_walk_2 (fun H locs hS => ?_)
  refine z_aload_n he hb dX12_walk_5 rfl (lv_at hl 0 rfl) (zref_r _ _) ?_
  refine lv_iload_n he hb dX12_walk_6 rfl (lv_at hl 1 rfl) ?_
  obtain ⟨_, hc, h⟩ := zob h
  obtain ⟨x2, hx, h⟩ := zob h
  refine z_callV (ci := 12) (T := TX12) (N := 50) (rest := []) B hS (mX12_isLooker l G hx) zy_X12_isLooker zk_1675 (by decide) hc rfl rfl hl rfl (Nat.le_of_ble_eq_true rfl) dX12_walk_7 (kk := (fun H locs hS => ?_))
  refine lv_if_eq (tgt := 22) he hb dX12_walk_10 (by decide) (fun hc => ?_) (fun hc => ?_)
  · rw [if_pos hc] at h
    refine lv_iconst (v := (-1 : Int32)) he hb dX12_walk_22 (by decide) ?_
    obtain ⟨rfl, rfl⟩ := Prod.mk.inj (Option.some.inj h)
    exact z_iret B hS dX12_walk_23
  · rw [if_neg hc] at h
    refine lv_iload_n he hb dX12_walk_13 rfl (lv_at hl 2 rfl) ?_
    refine lv_iconst (v := (0 : Int32)) he hb dX12_walk_14 (by decide) ?_
    refine lv_iconst (v := (3 : Int32)) he hb dX12_walk_15 (by decide) ?_
    obtain ⟨x3, hx, h⟩ := zob h
    refine z_callS (rest := []) B hS (mX12_isIn l G hx) zy_X12_isIn zk_1545 (by decide) rfl hl rfl (Nat.le_of_ble_eq_true rfl) dX12_walk_16 (kk := (fun H locs hS => ?_))
    refine lv_if_ne (tgt := 24) he hb dX12_walk_19 (by decide) (fun hc => ?_) (fun hc => ?_)
    · rw [if_neg hc] at h
      refine z_aload_n he hb dX12_walk_24 rfl (lv_at hl 0 rfl) (zref_r _ _) ?_
      refine lv_iload_n he hb dX12_walk_25 rfl (lv_at hl 1 rfl) ?_
      refine lv_iload_n he hb dX12_walk_26 rfl (lv_at hl 2 rfl) ?_
      obtain ⟨_, hc, h⟩ := zob h
      obtain ⟨x4, hx, h⟩ := zob h
      refine z_callV (ci := 12) (T := TX12) (N := 50) (rest := []) B hS (mX12_whyWalk l G hx) zy_X12_whyWalk zk_1711 (by decide) hc rfl rfl hl rfl (Nat.le_of_ble_eq_true rfl) dX12_walk_27 (kk := (fun H locs hS => ?_))
      refine lv_istore_n (lv' := [(3, _), (0, _), (1, _), (2, _)]) he hb dX12_walk_30 rfl hl (by decide) rfl (fun ls hl => ?_)
      refine lv_iload_n he hb dX12_walk_31 rfl (lv_at hl 0 rfl) ?_
      refine lv_if_le (tgt := 37) he hb dX12_walk_32 (by decide) (fun hc => ?_) (fun hc => ?_)
      · rw [if_pos hc] at h
        refine z_aload_n he hb dX12_walk_37 rfl (lv_at hl 1 rfl) (zref_r _ _) ?_
        obtain ⟨_, hc, h⟩ := zob h
        obtain ⟨f5, hx, h⟩ := zob h
        refine z_callV (ci := 12) (T := TX12) (N := 50) (rest := []) B hS (mX12_keep l G hx) zy_X12_keep zk_1703 (by decide) hc rfl rfl hl rfl (Nat.le_of_ble_eq_true rfl) dX12_walk_38 (kk := (fun H locs hS => ?_))
        refine z_aload_n he hb dX12_walk_41 rfl (lv_at hl 1 rfl) (zref_r _ _) ?_
        obtain ⟨x6, hx, h⟩ := zob h
        refine z_getR (ci := 12) (T := TX12) (N := 50) (j := 6) B hS hx rfl zin_X12 (by decide) zk_1353 dX12_walk_42 ?_
        refine lv_sipush (v := (159 : Int32)) he hb dX12_walk_45 (by decide) ?_
        refine lv_iload_n he hb dX12_walk_48 rfl (lv_at hl 2 rfl) ?_
        refine lv_iadd he hb dX12_walk_49 ?_
        refine z_aload_n he hb dX12_walk_50 rfl (lv_at hl 1 rfl) (zref_r _ _) ?_
        refine z_aload_n he hb dX12_walk_51 rfl (lv_at hl 1 rfl) (zref_r _ _) ?_
        obtain ⟨x7, hx, h⟩ := zob h
        refine z_getR (ci := 12) (T := TX12) (N := 50) (j := 6) B hS hx rfl zin_X12 (by decide) zk_1353 dX12_walk_52 ?_
        refine lv_sipush (v := (159 : Int32)) he hb dX12_walk_55 (by decide) ?_
        refine lv_iload_n he hb dX12_walk_58 rfl (lv_at hl 2 rfl) ?_
        refine lv_iadd he hb dX12_walk_59 ?_
        obtain ⟨x8, hx, h⟩ := zob h
        refine z_ildI B hS hx dX12_walk_60 ?_
        refine lv_iload_n he hb dX12_walk_61 rfl (lv_at hl 3 rfl) ?_
        obtain ⟨_, hc, h⟩ := zob h
        obtain ⟨x9, hx, h⟩ := zob h
        refine z_callV (ci := 12) (T := TX12) (N := 50) (rest := [_, _]) B hS (mX12_beside l G hx) zy_X12_beside zk_1659 (by decide) hc rfl rfl hl rfl (Nat.le_of_ble_eq_true rfl) dX12_walk_62 (kk := (fun H locs hS => ?_))
        obtain ⟨f10, hx, h⟩ := zob h
        refine z_istI B hS hx dX12_walk_65 (fun H locs hS => ?_)
        refine lv_iconst (v := (0 : Int32)) he hb dX12_walk_66 (by decide) ?_
        obtain ⟨rfl, rfl⟩ := Prod.mk.inj (Option.some.inj h)
        exact z_iret B hS dX12_walk_67
      · rw [if_neg hc] at h
        refine lv_iload_n he hb dX12_walk_35 rfl (lv_at hl 0 rfl) ?_
        obtain ⟨rfl, rfl⟩ := Prod.mk.inj (Option.some.inj h)
        exact z_iret B hS dX12_walk_36
    · rw [if_pos hc] at h
      refine lv_iconst (v := (-1 : Int32)) he hb dX12_walk_22 (by decide) ?_
      obtain ⟨rfl, rfl⟩ := Prod.mk.inj (Option.some.inj h)
      exact z_iret B hS dX12_walk_23
theorem dX12_blinks_0 : decode cX12_blinks 0 = .ok (.aload_n 0, 1) := by decide +kernel
theorem dX12_blinks_1 : decode cX12_blinks 1 = .ok (.iconst 0, 1) := by decide +kernel
theorem dX12_blinks_2 : decode cX12_blinks 2 = .ok (.putfield 1, 3) := by decide +kernel
theorem dX12_blinks_5 : decode cX12_blinks 5 = .ok (.aload_n 0, 1) := by decide +kernel
theorem dX12_blinks_6 : decode cX12_blinks 6 = .ok (.iload_n 1, 1) := by decide +kernel
theorem dX12_blinks_7 : decode cX12_blinks 7 = .ok (.invokevirtual 317, 3) := by decide +kernel
theorem dX12_blinks_10 : decode cX12_blinks 10 = .ok (.ifCond .ne 5, 3) := by decide +kernel
theorem dX12_blinks_13 : decode cX12_blinks 13 = .ok (.iconst (-1), 1) := by decide +kernel
theorem dX12_blinks_14 : decode cX12_blinks 14 = .ok (.ireturn, 1) := by decide +kernel
theorem dX12_blinks_15 : decode cX12_blinks 15 = .ok (.aload_n 0, 1) := by decide +kernel
theorem dX12_blinks_16 : decode cX12_blinks 16 = .ok (.iload_n 1, 1) := by decide +kernel
theorem dX12_blinks_17 : decode cX12_blinks 17 = .ok (.invokevirtual 292, 3) := by decide +kernel
theorem dX12_blinks_20 : decode cX12_blinks 20 = .ok (.iload_n 2, 1) := by decide +kernel
theorem dX12_blinks_21 : decode cX12_blinks 21 = .ok (.if_icmp .ne 5, 3) := by decide +kernel
theorem dX12_blinks_24 : decode cX12_blinks 24 = .ok (.iconst 1, 1) := by decide +kernel
theorem dX12_blinks_25 : decode cX12_blinks 25 = .ok (.ireturn, 1) := by decide +kernel
theorem dX12_blinks_26 : decode cX12_blinks 26 = .ok (.aload_n 0, 1) := by decide +kernel
theorem dX12_blinks_27 : decode cX12_blinks 27 = .ok (.invokevirtual 332, 3) := by decide +kernel
theorem dX12_blinks_30 : decode cX12_blinks 30 = .ok (.aload_n 0, 1) := by decide +kernel
theorem dX12_blinks_31 : decode cX12_blinks 31 = .ok (.getfield 33, 3) := by decide +kernel
theorem dX12_blinks_34 : decode cX12_blinks 34 = .ok (.sipush 140, 3) := by decide +kernel
theorem dX12_blinks_37 : decode cX12_blinks 37 = .ok (.dup2, 1) := by decide +kernel
theorem dX12_blinks_38 : decode cX12_blinks 38 = .ok (.iaload, 1) := by decide +kernel
theorem dX12_blinks_39 : decode cX12_blinks 39 = .ok (.iconst 1, 1) := by decide +kernel
theorem dX12_blinks_40 : decode cX12_blinks 40 = .ok (.iload_n 1, 1) := by decide +kernel
theorem dX12_blinks_41 : decode cX12_blinks 41 = .ok (.ishl, 1) := by decide +kernel
theorem dX12_blinks_42 : decode cX12_blinks 42 = .ok (.ixor, 1) := by decide +kernel
theorem dX12_blinks_43 : decode cX12_blinks 43 = .ok (.iastore, 1) := by decide +kernel
theorem dX12_blinks_44 : decode cX12_blinks 44 = .ok (.iconst 0, 1) := by decide +kernel
theorem dX12_blinks_45 : decode cX12_blinks 45 = .ok (.ireturn, 1) := by decide +kernel
def fX12_blinks (N n : Nat) (f : zF) (a0 : Nat) (a1 : Int32) (a2 : Int32) : Option (zF × Int32) :=
    ((zpI n f 12 a0 0 (0 : Int32)).bind fun f1 => ((zck n f1 12 a0).bind fun _ => ((fX12_isLooker N n f1 a0 a1).bind fun x2 => (if x2 = 0 then some (f1, (-1 : Int32)) else ((zck n f1 12 a0).bind fun _ => ((fX12_isShut N n f1 a0 a1).bind fun x3 => (if x3 = a2 then some (f1, (1 : Int32)) else ((zck n f1 12 a0).bind fun _ => ((fX12_keep N n f1 a0).bind fun f4 => ((zgR n f4 12 a0 6).bind fun x5 => ((zlI n f4 0 x5 (140 : Int32)).bind fun x6 => ((zsI n f4 0 x5 (140 : Int32) (x6 ^^^ (zishl (1 : Int32) a1))).bind fun f7 => some (f7, (0 : Int32))))))))))))))
set_option maxRecDepth 100000 in
set_option maxHeartbeats 4000000 in
theorem mX12_blinks (l : Launch) (G : zG) {N n : Nat} {f : zF} {f9 : zF} {r : Int32} {a0 : Nat} {a1 : Int32} {a2 : Int32} (h : fX12_blinks N n f a0 a1 a2 = some (f9, r)) : zM l G yX12_blinks cX12_blinks 3 (some .int) 2 n f [zr G a0, .int a1, .int a2] (some (.int r)) f9 := by
  refine zM.of (by decide) (Nat.le_of_ble_eq_true rfl) ?_
  intro p e s m args below meth c locs ls B hS hl
  have he := B.1
  have hb := B.2.1
  have hl : lv_has ls 3 [(0, zr G a0), (1, .int a1), (2, .int a2)] := hl
  unfold fX12_blinks at h
  generalize s.heap = H at hS ⊢
  refine z_aload_n he hb dX12_blinks_0 rfl (lv_at hl 0 rfl) (zref_r _ _) ?_
  refine lv_iconst (v := (0 : Int32)) he hb dX12_blinks_1 (by decide) ?_
  obtain ⟨f1, hx, h⟩ := zob h
  refine z_putI (ci := 12) (T := TX12) (N := 50) (j := 0) B hS hx rfl zin_X12 tyX12 tyX12_ok nmX12 (by decide) zk_1347 rfl rfl dX12_blinks_2 (fun H locs hS => ?_)
  refine z_aload_n he hb dX12_blinks_5 rfl (lv_at hl 0 rfl) (zref_r _ _) ?_
  refine lv_iload_n he hb dX12_blinks_6 rfl (lv_at hl 1 rfl) ?_
  obtain ⟨_, hc, h⟩ := zob h
  obtain ⟨x2, hx, h⟩ := zob h
  refine z_callV (ci := 12) (T := TX12) (N := 50) (rest := []) B hS (mX12_isLooker l G hx) zy_X12_isLooker zk_1675 (by decide) hc rfl rfl hl rfl (Nat.le_of_ble_eq_true rfl) dX12_blinks_7 (kk := (fun H locs hS => ?_))
  refine lv_if_ne (tgt := 15) he hb dX12_blinks_10 (by decide) (fun hc => ?_) (fun hc => ?_)
  · rw [if_neg hc] at h
    refine z_aload_n he hb dX12_blinks_15 rfl (lv_at hl 0 rfl) (zref_r _ _) ?_
    refine lv_iload_n he hb dX12_blinks_16 rfl (lv_at hl 1 rfl) ?_
    obtain ⟨_, hc, h⟩ := zob h
    obtain ⟨x3, hx, h⟩ := zob h
    refine z_callV (ci := 12) (T := TX12) (N := 50) (rest := []) B hS (mX12_isShut l G hx) zy_X12_isShut zk_1644 (by decide) hc rfl rfl hl rfl (Nat.le_of_ble_eq_true rfl) dX12_blinks_17 (kk := (fun H locs hS => ?_))
    refine lv_iload_n he hb dX12_blinks_20 rfl (lv_at hl 2 rfl) ?_
    refine lv_icmp_ne (tgt := 26) he hb dX12_blinks_21 (by decide) (fun hc => ?_) (fun hc => ?_)
    · rw [if_neg hc] at h
      refine z_aload_n he hb dX12_blinks_26 rfl (lv_at hl 0 rfl) (zref_r _ _) ?_
      obtain ⟨_, hc, h⟩ := zob h
      obtain ⟨f4, hx, h⟩ := zob h
      refine z_callV (ci := 12) (T := TX12) (N := 50) (rest := []) B hS (mX12_keep l G hx) zy_X12_keep zk_1703 (by decide) hc rfl rfl hl rfl (Nat.le_of_ble_eq_true rfl) dX12_blinks_27 (kk := (fun H locs hS => ?_))
      refine z_aload_n he hb dX12_blinks_30 rfl (lv_at hl 0 rfl) (zref_r _ _) ?_
      obtain ⟨x5, hx, h⟩ := zob h
      refine z_getR (ci := 12) (T := TX12) (N := 50) (j := 6) B hS hx rfl zin_X12 (by decide) zk_1353 dX12_blinks_31 ?_
      refine lv_sipush (v := (140 : Int32)) he hb dX12_blinks_34 (by decide) ?_
      refine lv_dup2_11 he hb dX12_blinks_37 rfl rfl ?_
      obtain ⟨x6, hx, h⟩ := zob h
      refine z_ildI B hS hx dX12_blinks_38 ?_
      refine lv_iconst (v := (1 : Int32)) he hb dX12_blinks_39 (by decide) ?_
      refine lv_iload_n he hb dX12_blinks_40 rfl (lv_at hl 1 rfl) ?_
      refine z_ishl he hb dX12_blinks_41 ?_
      refine lv_ixor he hb dX12_blinks_42 ?_
      obtain ⟨f7, hx, h⟩ := zob h
      refine z_istI B hS hx dX12_blinks_43 (fun H locs hS => ?_)
      refine lv_iconst (v := (0 : Int32)) he hb dX12_blinks_44 (by decide) ?_
      obtain ⟨rfl, rfl⟩ := Prod.mk.inj (Option.some.inj h)
      exact z_iret B hS dX12_blinks_45
    · rw [if_pos hc] at h
      refine lv_iconst (v := (1 : Int32)) he hb dX12_blinks_24 (by decide) ?_
      obtain ⟨rfl, rfl⟩ := Prod.mk.inj (Option.some.inj h)
      exact z_iret B hS dX12_blinks_25
  · rw [if_pos hc] at h
    refine lv_iconst (v := (-1 : Int32)) he hb dX12_blinks_13 (by decide) ?_
    obtain ⟨rfl, rfl⟩ := Prod.mk.inj (Option.some.inj h)
    exact z_iret B hS dX12_blinks_14
theorem dX12_shut_0 : decode cX12_shut 0 = .ok (.aload_n 0, 1) := by decide +kernel
theorem dX12_shut_1 : decode cX12_shut 1 = .ok (.iload_n 1, 1) := by decide +kernel
theorem dX12_shut_2 : decode cX12_shut 2 = .ok (.iconst 1, 1) := by decide +kernel
theorem dX12_shut_3 : decode cX12_shut 3 = .ok (.invokevirtual 338, 3) := by decide +kernel
theorem dX12_shut_6 : decode cX12_shut 6 = .ok (.ireturn, 1) := by decide +kernel
def fX12_shut (N n : Nat) (f : zF) (a0 : Nat) (a1 : Int32) : Option (zF × Int32) :=
    ((zck n f 12 a0).bind fun _ => (zbd (fX12_blinks N n f a0 a1 (1 : Int32)) fun f2 x1 => some (f2, x1)))
set_option maxRecDepth 100000 in
set_option maxHeartbeats 4000000 in
theorem mX12_shut (l : Launch) (G : zG) {N n : Nat} {f : zF} {f9 : zF} {r : Int32} {a0 : Nat} {a1 : Int32} (h : fX12_shut N n f a0 a1 = some (f9, r)) : zM l G yX12_shut cX12_shut 2 (some .int) 3 n f [zr G a0, .int a1] (some (.int r)) f9 := by
  refine zM.of (by decide) (Nat.le_of_ble_eq_true rfl) ?_
  intro p e s m args below meth c locs ls B hS hl
  have he := B.1
  have hb := B.2.1
  have hl : lv_has ls 2 [(0, zr G a0), (1, .int a1)] := hl
  unfold fX12_shut at h
  generalize s.heap = H at hS ⊢
  refine z_aload_n he hb dX12_shut_0 rfl (lv_at hl 0 rfl) (zref_r _ _) ?_
  refine lv_iload_n he hb dX12_shut_1 rfl (lv_at hl 1 rfl) ?_
  refine lv_iconst (v := (1 : Int32)) he hb dX12_shut_2 (by decide) ?_
  obtain ⟨_, hc, h⟩ := zob h
  obtain ⟨f2, x1, hx, h⟩ := zbd_i h
  refine z_callV (ci := 12) (T := TX12) (N := 50) (rest := []) B hS (mX12_blinks l G hx) zy_X12_blinks zk_1719 (by decide) hc rfl rfl hl rfl (Nat.le_of_ble_eq_true rfl) dX12_shut_3 (kk := (fun H locs hS => ?_))
  obtain ⟨rfl, rfl⟩ := Prod.mk.inj (Option.some.inj h)
  exact z_iret B hS dX12_shut_6
theorem dX12_open_0 : decode cX12_open 0 = .ok (.aload_n 0, 1) := by decide +kernel
theorem dX12_open_1 : decode cX12_open 1 = .ok (.iload_n 1, 1) := by decide +kernel
theorem dX12_open_2 : decode cX12_open 2 = .ok (.iconst 0, 1) := by decide +kernel
theorem dX12_open_3 : decode cX12_open 3 = .ok (.invokevirtual 338, 3) := by decide +kernel
theorem dX12_open_6 : decode cX12_open 6 = .ok (.ireturn, 1) := by decide +kernel
def fX12_open (N n : Nat) (f : zF) (a0 : Nat) (a1 : Int32) : Option (zF × Int32) :=
    ((zck n f 12 a0).bind fun _ => (zbd (fX12_blinks N n f a0 a1 (0 : Int32)) fun f2 x1 => some (f2, x1)))
set_option maxRecDepth 100000 in
set_option maxHeartbeats 4000000 in
theorem mX12_open (l : Launch) (G : zG) {N n : Nat} {f : zF} {f9 : zF} {r : Int32} {a0 : Nat} {a1 : Int32} (h : fX12_open N n f a0 a1 = some (f9, r)) : zM l G yX12_open cX12_open 2 (some .int) 3 n f [zr G a0, .int a1] (some (.int r)) f9 := by
  refine zM.of (by decide) (Nat.le_of_ble_eq_true rfl) ?_
  intro p e s m args below meth c locs ls B hS hl
  have he := B.1
  have hb := B.2.1
  have hl : lv_has ls 2 [(0, zr G a0), (1, .int a1)] := hl
  unfold fX12_open at h
  generalize s.heap = H at hS ⊢
  refine z_aload_n he hb dX12_open_0 rfl (lv_at hl 0 rfl) (zref_r _ _) ?_
  refine lv_iload_n he hb dX12_open_1 rfl (lv_at hl 1 rfl) ?_
  refine lv_iconst (v := (0 : Int32)) he hb dX12_open_2 (by decide) ?_
  obtain ⟨_, hc, h⟩ := zob h
  obtain ⟨f2, x1, hx, h⟩ := zbd_i h
  refine z_callV (ci := 12) (T := TX12) (N := 50) (rest := []) B hS (mX12_blinks l G hx) zy_X12_blinks zk_1719 (by decide) hc rfl rfl hl rfl (Nat.le_of_ble_eq_true rfl) dX12_open_3 (kk := (fun H locs hS => ?_))
  obtain ⟨rfl, rfl⟩ := Prod.mk.inj (Option.some.inj h)
  exact z_iret B hS dX12_open_6
theorem dX12_face_0 : decode cX12_face 0 = .ok (.aload_n 0, 1) := by decide +kernel
theorem dX12_face_1 : decode cX12_face 1 = .ok (.iconst 0, 1) := by decide +kernel
theorem dX12_face_2 : decode cX12_face 2 = .ok (.putfield 1, 3) := by decide +kernel
theorem dX12_face_5 : decode cX12_face 5 = .ok (.aload_n 0, 1) := by decide +kernel
theorem dX12_face_6 : decode cX12_face 6 = .ok (.iload_n 1, 1) := by decide +kernel
theorem dX12_face_7 : decode cX12_face 7 = .ok (.invokevirtual 304, 3) := by decide +kernel
theorem dX12_face_10 : decode cX12_face 10 = .ok (.ifCond .eq 12, 3) := by decide +kernel
theorem dX12_face_13 : decode cX12_face 13 = .ok (.iload_n 2, 1) := by decide +kernel
theorem dX12_face_14 : decode cX12_face 14 = .ok (.iconst 0, 1) := by decide +kernel
theorem dX12_face_15 : decode cX12_face 15 = .ok (.iconst 3, 1) := by decide +kernel
theorem dX12_face_16 : decode cX12_face 16 = .ok (.invokestatic 192, 3) := by decide +kernel
theorem dX12_face_19 : decode cX12_face 19 = .ok (.ifCond .ne 5, 3) := by decide +kernel
theorem dX12_face_22 : decode cX12_face 22 = .ok (.iconst (-1), 1) := by decide +kernel
theorem dX12_face_23 : decode cX12_face 23 = .ok (.ireturn, 1) := by decide +kernel
theorem dX12_face_24 : decode cX12_face 24 = .ok (.aload_n 0, 1) := by decide +kernel
theorem dX12_face_25 : decode cX12_face 25 = .ok (.iload_n 1, 1) := by decide +kernel
theorem dX12_face_26 : decode cX12_face 26 = .ok (.iload_n 2, 1) := by decide +kernel
theorem dX12_face_27 : decode cX12_face 27 = .ok (.invokevirtual 342, 3) := by decide +kernel
theorem dX12_face_30 : decode cX12_face 30 = .ok (.istore_n 3, 1) := by decide +kernel
theorem dX12_face_31 : decode cX12_face 31 = .ok (.iload_n 3, 1) := by decide +kernel
theorem dX12_face_32 : decode cX12_face 32 = .ok (.ifCond .le 5, 3) := by decide +kernel
theorem dX12_face_35 : decode cX12_face 35 = .ok (.iload_n 3, 1) := by decide +kernel
theorem dX12_face_36 : decode cX12_face 36 = .ok (.ireturn, 1) := by decide +kernel
theorem dX12_face_37 : decode cX12_face 37 = .ok (.aload_n 0, 1) := by decide +kernel
theorem dX12_face_38 : decode cX12_face 38 = .ok (.invokevirtual 332, 3) := by decide +kernel
theorem dX12_face_41 : decode cX12_face 41 = .ok (.aload_n 0, 1) := by decide +kernel
theorem dX12_face_42 : decode cX12_face 42 = .ok (.getfield 33, 3) := by decide +kernel
theorem dX12_face_45 : decode cX12_face 45 = .ok (.sipush 147, 3) := by decide +kernel
theorem dX12_face_48 : decode cX12_face 48 = .ok (.iload_n 1, 1) := by decide +kernel
theorem dX12_face_49 : decode cX12_face 49 = .ok (.iadd, 1) := by decide +kernel
theorem dX12_face_50 : decode cX12_face 50 = .ok (.iload_n 2, 1) := by decide +kernel
theorem dX12_face_51 : decode cX12_face 51 = .ok (.iastore, 1) := by decide +kernel
theorem dX12_face_52 : decode cX12_face 52 = .ok (.iconst 0, 1) := by decide +kernel
theorem dX12_face_53 : decode cX12_face 53 = .ok (.ireturn, 1) := by decide +kernel
def fX12_face (N n : Nat) (f : zF) (a0 : Nat) (a1 : Int32) (a2 : Int32) : Option (zF × Int32) :=
    ((zpI n f 12 a0 0 (0 : Int32)).bind fun f1 => ((zck n f1 12 a0).bind fun _ => ((fX12_isFigure N n f1 a0 a1).bind fun x2 => (if x2 = 0 then some (f1, (-1 : Int32)) else ((fX12_isIn N n f1 a2 (0 : Int32) (3 : Int32)).bind fun x3 => (if x3 = 0 then some (f1, (-1 : Int32)) else ((zck n f1 12 a0).bind fun _ => ((fX12_whyFace N n f1 a0 a1 a2).bind fun x4 => (if x4 ≤ 0 then ((zck n f1 12 a0).bind fun _ => ((fX12_keep N n f1 a0).bind fun f5 => ((zgR n f5 12 a0 6).bind fun x6 => ((zsI n f5 0 x6 ((147 : Int32) + a1) a2).bind fun f7 => some (f7, (0 : Int32)))))) else some (f1, x4))))))))))
set_option maxRecDepth 100000 in
set_option maxHeartbeats 4000000 in
theorem mX12_face (l : Launch) (G : zG) {N n : Nat} {f : zF} {f9 : zF} {r : Int32} {a0 : Nat} {a1 : Int32} {a2 : Int32} (h : fX12_face N n f a0 a1 a2 = some (f9, r)) : zM l G yX12_face cX12_face 4 (some .int) 7 n f [zr G a0, .int a1, .int a2] (some (.int r)) f9 := by
  refine zM.of (by decide) (Nat.le_of_ble_eq_true rfl) ?_
  intro p e s m args below meth c locs ls B hS hl
  have he := B.1
  have hb := B.2.1
  have hl : lv_has ls 4 [(0, zr G a0), (1, .int a1), (2, .int a2)] := hl
  unfold fX12_face at h
  generalize s.heap = H at hS ⊢
  refine z_aload_n he hb dX12_face_0 rfl (lv_at hl 0 rfl) (zref_r _ _) ?_
  refine lv_iconst (v := (0 : Int32)) he hb dX12_face_1 (by decide) ?_
  obtain ⟨f1, hx, h⟩ := zob h
  refine z_putI (ci := 12) (T := TX12) (N := 50) (j := 0) B hS hx rfl zin_X12 tyX12 tyX12_ok nmX12 (by decide) zk_1347 rfl rfl dX12_face_2 (fun H locs hS => ?_)
  refine z_aload_n he hb dX12_face_5 rfl (lv_at hl 0 rfl) (zref_r _ _) ?_
  refine lv_iload_n he hb dX12_face_6 rfl (lv_at hl 1 rfl) ?_
  obtain ⟨_, hc, h⟩ := zob h
  obtain ⟨x2, hx, h⟩ := zob h
  refine z_callV (ci := 12) (T := TX12) (N := 50) (rest := []) B hS (mX12_isFigure l G hx) zy_X12_isFigure zk_1624 (by decide) hc rfl rfl hl rfl (Nat.le_of_ble_eq_true rfl) dX12_face_7 (kk := (fun H locs hS => ?_))
  refine lv_if_eq (tgt := 22) he hb dX12_face_10 (by decide) (fun hc => ?_) (fun hc => ?_)
  · rw [if_pos hc] at h
    refine lv_iconst (v := (-1 : Int32)) he hb dX12_face_22 (by decide) ?_
    obtain ⟨rfl, rfl⟩ := Prod.mk.inj (Option.some.inj h)
    exact z_iret B hS dX12_face_23
  · rw [if_neg hc] at h
    refine lv_iload_n he hb dX12_face_13 rfl (lv_at hl 2 rfl) ?_
    refine lv_iconst (v := (0 : Int32)) he hb dX12_face_14 (by decide) ?_
    refine lv_iconst (v := (3 : Int32)) he hb dX12_face_15 (by decide) ?_
    obtain ⟨x3, hx, h⟩ := zob h
    refine z_callS (rest := []) B hS (mX12_isIn l G hx) zy_X12_isIn zk_1545 (by decide) rfl hl rfl (Nat.le_of_ble_eq_true rfl) dX12_face_16 (kk := (fun H locs hS => ?_))
    refine lv_if_ne (tgt := 24) he hb dX12_face_19 (by decide) (fun hc => ?_) (fun hc => ?_)
    · rw [if_neg hc] at h
      refine z_aload_n he hb dX12_face_24 rfl (lv_at hl 0 rfl) (zref_r _ _) ?_
      refine lv_iload_n he hb dX12_face_25 rfl (lv_at hl 1 rfl) ?_
      refine lv_iload_n he hb dX12_face_26 rfl (lv_at hl 2 rfl) ?_
      obtain ⟨_, hc, h⟩ := zob h
      obtain ⟨x4, hx, h⟩ := zob h
      refine z_callV (ci := 12) (T := TX12) (N := 50) (rest := []) B hS (mX12_whyFace l G hx) zy_X12_whyFace zk_1731 (by decide) hc rfl rfl hl rfl (Nat.le_of_ble_eq_true rfl) dX12_face_27 (kk := (fun H locs hS => ?_))
      refine lv_istore_n (lv' := [(3, _), (0, _), (1, _), (2, _)]) he hb dX12_face_30 rfl hl (by decide) rfl (fun ls hl => ?_)
      refine lv_iload_n he hb dX12_face_31 rfl (lv_at hl 0 rfl) ?_
      refine lv_if_le (tgt := 37) he hb dX12_face_32 (by decide) (fun hc => ?_) (fun hc => ?_)
      · rw [if_pos hc] at h
        refine z_aload_n he hb dX12_face_37 rfl (lv_at hl 1 rfl) (zref_r _ _) ?_
        obtain ⟨_, hc, h⟩ := zob h
        obtain ⟨f5, hx, h⟩ := zob h
        refine z_callV (ci := 12) (T := TX12) (N := 50) (rest := []) B hS (mX12_keep l G hx) zy_X12_keep zk_1703 (by decide) hc rfl rfl hl rfl (Nat.le_of_ble_eq_true rfl) dX12_face_38 (kk := (fun H locs hS => ?_))
        refine z_aload_n he hb dX12_face_41 rfl (lv_at hl 1 rfl) (zref_r _ _) ?_
        obtain ⟨x6, hx, h⟩ := zob h
        refine z_getR (ci := 12) (T := TX12) (N := 50) (j := 6) B hS hx rfl zin_X12 (by decide) zk_1353 dX12_face_42 ?_
        refine lv_sipush (v := (147 : Int32)) he hb dX12_face_45 (by decide) ?_
        refine lv_iload_n he hb dX12_face_48 rfl (lv_at hl 2 rfl) ?_
        refine lv_iadd he hb dX12_face_49 ?_
        refine lv_iload_n he hb dX12_face_50 rfl (lv_at hl 3 rfl) ?_
        obtain ⟨f7, hx, h⟩ := zob h
        refine z_istI B hS hx dX12_face_51 (fun H locs hS => ?_)
        refine lv_iconst (v := (0 : Int32)) he hb dX12_face_52 (by decide) ?_
        obtain ⟨rfl, rfl⟩ := Prod.mk.inj (Option.some.inj h)
        exact z_iret B hS dX12_face_53
      · rw [if_neg hc] at h
        refine lv_iload_n he hb dX12_face_35 rfl (lv_at hl 0 rfl) ?_
        obtain ⟨rfl, rfl⟩ := Prod.mk.inj (Option.some.inj h)
        exact z_iret B hS dX12_face_36
    · rw [if_pos hc] at h
      refine lv_iconst (v := (-1 : Int32)) he hb dX12_face_22 (by decide) ?_
      obtain ⟨rfl, rfl⟩ := Prod.mk.inj (Option.some.inj h)
      exact z_iret B hS dX12_face_23
theorem dX12_hours_0 : decode cX12_hours 0 = .ok (.aload_n 0, 1) := by decide +kernel
theorem dX12_hours_1 : decode cX12_hours 1 = .ok (.iconst 0, 1) := by decide +kernel
theorem dX12_hours_2 : decode cX12_hours 2 = .ok (.putfield 1, 3) := by decide +kernel
theorem dX12_hours_5 : decode cX12_hours 5 = .ok (.iload_n 1, 1) := by decide +kernel
theorem dX12_hours_6 : decode cX12_hours 6 = .ok (.iconst 1, 1) := by decide +kernel
theorem dX12_hours_7 : decode cX12_hours 7 = .ok (.bipush 60, 2) := by decide +kernel
theorem dX12_hours_9 : decode cX12_hours 9 = .ok (.invokestatic 192, 3) := by decide +kernel
theorem dX12_hours_12 : decode cX12_hours 12 = .ok (.ifCond .ne 5, 3) := by decide +kernel
theorem dX12_hours_15 : decode cX12_hours 15 = .ok (.iconst (-1), 1) := by decide +kernel
theorem dX12_hours_16 : decode cX12_hours 16 = .ok (.ireturn, 1) := by decide +kernel
theorem dX12_hours_17 : decode cX12_hours 17 = .ok (.aload_n 0, 1) := by decide +kernel
theorem dX12_hours_18 : decode cX12_hours 18 = .ok (.getfield 33, 3) := by decide +kernel
theorem dX12_hours_21 : decode cX12_hours 21 = .ok (.sipush 139, 3) := by decide +kernel
theorem dX12_hours_24 : decode cX12_hours 24 = .ok (.iaload, 1) := by decide +kernel
theorem dX12_hours_25 : decode cX12_hours 25 = .ok (.sipush 1000, 3) := by decide +kernel
theorem dX12_hours_28 : decode cX12_hours 28 = .ok (.if_icmp .ne 5, 3) := by decide +kernel
theorem dX12_hours_31 : decode cX12_hours 31 = .ok (.iconst 0, 1) := by decide +kernel
theorem dX12_hours_32 : decode cX12_hours 32 = .ok (.ireturn, 1) := by decide +kernel
theorem dX12_hours_33 : decode cX12_hours 33 = .ok (.aload_n 0, 1) := by decide +kernel
theorem dX12_hours_34 : decode cX12_hours 34 = .ok (.invokevirtual 332, 3) := by decide +kernel
theorem dX12_hours_37 : decode cX12_hours 37 = .ok (.aload_n 0, 1) := by decide +kernel
theorem dX12_hours_38 : decode cX12_hours 38 = .ok (.iload_n 1, 1) := by decide +kernel
theorem dX12_hours_39 : decode cX12_hours 39 = .ok (.invokevirtual 345, 3) := by decide +kernel
theorem dX12_hours_42 : decode cX12_hours 42 = .ok (.ireturn, 1) := by decide +kernel
def fX12_hours (N n : Nat) (f : zF) (a0 : Nat) (a1 : Int32) : Option (zF × Int32) :=
    ((zpI n f 12 a0 0 (0 : Int32)).bind fun f1 => ((fX12_isIn N n f1 a1 (1 : Int32) (60 : Int32)).bind fun x2 => (if x2 = 0 then some (f1, (-1 : Int32)) else ((zgR n f1 12 a0 6).bind fun x3 => ((zlI n f1 0 x3 (139 : Int32)).bind fun x4 => (if x4 = (1000 : Int32) then some (f1, (0 : Int32)) else ((zck n f1 12 a0).bind fun _ => ((fX12_keep N n f1 a0).bind fun f5 => ((zck n f5 12 a0).bind fun _ => (zbd (fX12_goesOn N n f5 a0 a1) fun f7 x6 => some (f7, x6)))))))))))
set_option maxRecDepth 100000 in
set_option maxHeartbeats 4000000 in
theorem mX12_hours (l : Launch) (G : zG) {N n : Nat} {f : zF} {f9 : zF} {r : Int32} {a0 : Nat} {a1 : Int32} (h : fX12_hours N n f a0 a1 = some (f9, r)) : zM l G yX12_hours cX12_hours 2 (some .int) 8 n f [zr G a0, .int a1] (some (.int r)) f9 := by
  refine zM.of (by decide) (Nat.le_of_ble_eq_true rfl) ?_
  intro p e s m args below meth c locs ls B hS hl
  have he := B.1
  have hb := B.2.1
  have hl : lv_has ls 2 [(0, zr G a0), (1, .int a1)] := hl
  unfold fX12_hours at h
  generalize s.heap = H at hS ⊢
  refine z_aload_n he hb dX12_hours_0 rfl (lv_at hl 0 rfl) (zref_r _ _) ?_
  refine lv_iconst (v := (0 : Int32)) he hb dX12_hours_1 (by decide) ?_
  obtain ⟨f1, hx, h⟩ := zob h
  refine z_putI (ci := 12) (T := TX12) (N := 50) (j := 0) B hS hx rfl zin_X12 tyX12 tyX12_ok nmX12 (by decide) zk_1347 rfl rfl dX12_hours_2 (fun H locs hS => ?_)
  refine lv_iload_n he hb dX12_hours_5 rfl (lv_at hl 1 rfl) ?_
  refine lv_iconst (v := (1 : Int32)) he hb dX12_hours_6 (by decide) ?_
  refine lv_bipush (v := (60 : Int32)) he hb dX12_hours_7 (by decide) ?_
  obtain ⟨x2, hx, h⟩ := zob h
  refine z_callS (rest := []) B hS (mX12_isIn l G hx) zy_X12_isIn zk_1545 (by decide) rfl hl rfl (Nat.le_of_ble_eq_true rfl) dX12_hours_9 (kk := (fun H locs hS => ?_))
  refine lv_if_ne (tgt := 17) he hb dX12_hours_12 (by decide) (fun hc => ?_) (fun hc => ?_)
  · rw [if_neg hc] at h
    refine z_aload_n he hb dX12_hours_17 rfl (lv_at hl 0 rfl) (zref_r _ _) ?_
    obtain ⟨x3, hx, h⟩ := zob h
    refine z_getR (ci := 12) (T := TX12) (N := 50) (j := 6) B hS hx rfl zin_X12 (by decide) zk_1353 dX12_hours_18 ?_
    refine lv_sipush (v := (139 : Int32)) he hb dX12_hours_21 (by decide) ?_
    obtain ⟨x4, hx, h⟩ := zob h
    refine z_ildI B hS hx dX12_hours_24 ?_
    refine lv_sipush (v := (1000 : Int32)) he hb dX12_hours_25 (by decide) ?_
    refine lv_icmp_ne (tgt := 33) he hb dX12_hours_28 (by decide) (fun hc => ?_) (fun hc => ?_)
    · rw [if_neg hc] at h
      refine z_aload_n he hb dX12_hours_33 rfl (lv_at hl 0 rfl) (zref_r _ _) ?_
      obtain ⟨_, hc, h⟩ := zob h
      obtain ⟨f5, hx, h⟩ := zob h
      refine z_callV (ci := 12) (T := TX12) (N := 50) (rest := []) B hS (mX12_keep l G hx) zy_X12_keep zk_1703 (by decide) hc rfl rfl hl rfl (Nat.le_of_ble_eq_true rfl) dX12_hours_34 (kk := (fun H locs hS => ?_))
      refine z_aload_n he hb dX12_hours_37 rfl (lv_at hl 0 rfl) (zref_r _ _) ?_
      refine lv_iload_n he hb dX12_hours_38 rfl (lv_at hl 1 rfl) ?_
      obtain ⟨_, hc, h⟩ := zob h
      obtain ⟨f7, x6, hx, h⟩ := zbd_i h
      refine z_callV (ci := 12) (T := TX12) (N := 50) (rest := []) B hS (mX12_goesOn l G hx) zy_X12_goesOn zk_1739 (by decide) hc rfl rfl hl rfl (Nat.le_of_ble_eq_true rfl) dX12_hours_39 (kk := (fun H locs hS => ?_))
      obtain ⟨rfl, rfl⟩ := Prod.mk.inj (Option.some.inj h)
      exact z_iret B hS dX12_hours_42
    · rw [if_pos hc] at h
      refine lv_iconst (v := (0 : Int32)) he hb dX12_hours_31 (by decide) ?_
      obtain ⟨rfl, rfl⟩ := Prod.mk.inj (Option.some.inj h)
      exact z_iret B hS dX12_hours_32
  · rw [if_pos hc] at h
    refine lv_iconst (v := (-1 : Int32)) he hb dX12_hours_15 (by decide) ?_
    obtain ⟨rfl, rfl⟩ := Prod.mk.inj (Option.some.inj h)
    exact z_iret B hS dX12_hours_16
theorem dX12_undo_0 : decode cX12_undo 0 = .ok (.aload_n 0, 1) := by decide +kernel
theorem dX12_undo_1 : decode cX12_undo 1 = .ok (.iconst 0, 1) := by decide +kernel
theorem dX12_undo_2 : decode cX12_undo 2 = .ok (.putfield 1, 3) := by decide +kernel
theorem dX12_undo_5 : decode cX12_undo 5 = .ok (.aload_n 0, 1) := by decide +kernel
theorem dX12_undo_6 : decode cX12_undo 6 = .ok (.getfield 274, 3) := by decide +kernel
theorem dX12_undo_9 : decode cX12_undo 9 = .ok (.ifCond .ne 5, 3) := by decide +kernel
theorem dX12_undo_12 : decode cX12_undo 12 = .ok (.iconst (-1), 1) := by decide +kernel
theorem dX12_undo_13 : decode cX12_undo 13 = .ok (.ireturn, 1) := by decide +kernel
theorem dX12_undo_14 : decode cX12_undo 14 = .ok (.aload_n 0, 1) := by decide +kernel
theorem dX12_undo_15 : decode cX12_undo 15 = .ok (.dup, 1) := by decide +kernel
theorem dX12_undo_16 : decode cX12_undo 16 = .ok (.getfield 274, 3) := by decide +kernel
theorem dX12_undo_19 : decode cX12_undo 19 = .ok (.iconst 1, 1) := by decide +kernel
theorem dX12_undo_20 : decode cX12_undo 20 = .ok (.isub, 1) := by decide +kernel
theorem dX12_undo_21 : decode cX12_undo 21 = .ok (.putfield 274, 3) := by decide +kernel
theorem dX12_undo_24 : decode cX12_undo 24 = .ok (.iconst 0, 1) := by decide +kernel
theorem dX12_undo_25 : decode cX12_undo 25 = .ok (.istore_n 1, 1) := by decide +kernel
theorem dX12_undo_26 : decode cX12_undo 26 = .ok (.iload_n 1, 1) := by decide +kernel
theorem dX12_undo_27 : decode cX12_undo 27 = .ok (.bipush 111, 2) := by decide +kernel
theorem dX12_undo_29 : decode cX12_undo 29 = .ok (.if_icmp .ge 33, 3) := by decide +kernel
theorem dX12_undo_32 : decode cX12_undo 32 = .ok (.aload_n 0, 1) := by decide +kernel
theorem dX12_undo_33 : decode cX12_undo 33 = .ok (.getfield 33, 3) := by decide +kernel
theorem dX12_undo_36 : decode cX12_undo 36 = .ok (.sipush 139, 3) := by decide +kernel
theorem dX12_undo_39 : decode cX12_undo 39 = .ok (.iload_n 1, 1) := by decide +kernel
theorem dX12_undo_40 : decode cX12_undo 40 = .ok (.iadd, 1) := by decide +kernel
theorem dX12_undo_41 : decode cX12_undo 41 = .ok (.aload_n 0, 1) := by decide +kernel
theorem dX12_undo_42 : decode cX12_undo 42 = .ok (.getfield 50, 3) := by decide +kernel
theorem dX12_undo_45 : decode cX12_undo 45 = .ok (.bipush 111, 2) := by decide +kernel
theorem dX12_undo_47 : decode cX12_undo 47 = .ok (.aload_n 0, 1) := by decide +kernel
theorem dX12_undo_48 : decode cX12_undo 48 = .ok (.getfield 274, 3) := by decide +kernel
theorem dX12_undo_51 : decode cX12_undo 51 = .ok (.imul, 1) := by decide +kernel
theorem dX12_undo_52 : decode cX12_undo 52 = .ok (.iload_n 1, 1) := by decide +kernel
theorem dX12_undo_53 : decode cX12_undo 53 = .ok (.iadd, 1) := by decide +kernel
theorem dX12_undo_54 : decode cX12_undo 54 = .ok (.iaload, 1) := by decide +kernel
theorem dX12_undo_55 : decode cX12_undo 55 = .ok (.iastore, 1) := by decide +kernel
theorem dX12_undo_56 : decode cX12_undo 56 = .ok (.iinc 1 1, 3) := by decide +kernel
theorem dX12_undo_59 : decode cX12_undo 59 = .ok (.goto (-33), 3) := by decide +kernel
theorem dX12_undo_62 : decode cX12_undo 62 = .ok (.aload_n 0, 1) := by decide +kernel
theorem dX12_undo_63 : decode cX12_undo 63 = .ok (.getfield 274, 3) := by decide +kernel
theorem dX12_undo_66 : decode cX12_undo 66 = .ok (.ireturn, 1) := by decide +kernel
def fX12_undo_26 (N n : Nat) : Nat → zF → Nat → Int32 → Option (zF × Int32)
  | 0, _, _, _ => none
  | k + 1, f, a0, a1 =>
    (if (111 : Int32) ≤ a1 then ((zgI n f 12 a0 23).bind fun x5 => some (f, x5)) else ((zgR n f 12 a0 6).bind fun x6 => ((zgR n f 12 a0 21).bind fun x7 => ((zgI n f 12 a0 23).bind fun x8 => ((zlI n f 0 x7 (((111 : Int32) * x8) + a1)).bind fun x9 => ((zsI n f 0 x6 ((139 : Int32) + a1) x9).bind fun f10 => (fX12_undo_26 N n k f10 a0 (a1 + 1))))))))
set_option maxRecDepth 100000 in
set_option maxHeartbeats 4000000 in
theorem gX12_undo_26 (l : Launch) {G : zG} {p : Program} {e : Env} {s : State} {m : MethodId} {args : Array Value} {below : List Frame} {meth : Method} {c : Code} {N n : Nat} {f9 : zF} {r : Int32} (B : zB G p s m args meth c RX12 cX12_undo 2 (some .int)) : ∀ (k : Nat), ∀ (f : zF) (a0 : Nat) (a1 : Int32) (H : Heap) (locs : List Loc) (ls : Array Slot), fX12_undo_26 N n k f a0 a1 = some (f9, r) → zS G n f H locs → lv_has ls 2 [(0, zr G a0), (1, .int a1)] → W p l e (zrm 0) s m args below meth c H locs 0 0 (MQ below (zQc G n f9 (some (.int r))) args s 0 0 (zA G)) (F0 m 26 ls []) := by
  have he := B.1
  have hb := B.2.1
  intro k
  induction k with
  | zero =>
    intro f a0 a1 H locs ls h
    unfold fX12_undo_26 at h
    cases h
  | succ k ih =>
    intro f a0 a1 H locs ls h hS hl
    unfold fX12_undo_26 at h
    refine lv_iload_n he hb dX12_undo_26 rfl (lv_at hl 1 rfl) ?_
    refine lv_bipush (v := (111 : Int32)) he hb dX12_undo_27 (by decide) ?_
    refine lv_icmp_ge (tgt := 62) he hb dX12_undo_29 (by decide) (fun hc => ?_) (fun hc => ?_)
    · rw [if_pos hc] at h
      refine z_aload_n he hb dX12_undo_62 rfl (lv_at hl 0 rfl) (zref_r _ _) ?_
      obtain ⟨x5, hx, h⟩ := zob h
      refine z_getI (ci := 12) (T := TX12) (N := 50) (j := 23) B hS hx rfl zin_X12 (by decide) zk_1370 dX12_undo_63 ?_
      obtain ⟨rfl, rfl⟩ := Prod.mk.inj (Option.some.inj h)
      exact z_iret B hS dX12_undo_66
    · rw [if_neg hc] at h
      refine z_aload_n he hb dX12_undo_32 rfl (lv_at hl 0 rfl) (zref_r _ _) ?_
      obtain ⟨x6, hx, h⟩ := zob h
      refine z_getR (ci := 12) (T := TX12) (N := 50) (j := 6) B hS hx rfl zin_X12 (by decide) zk_1353 dX12_undo_33 ?_
      refine lv_sipush (v := (139 : Int32)) he hb dX12_undo_36 (by decide) ?_
      refine lv_iload_n he hb dX12_undo_39 rfl (lv_at hl 1 rfl) ?_
      refine lv_iadd he hb dX12_undo_40 ?_
      refine z_aload_n he hb dX12_undo_41 rfl (lv_at hl 0 rfl) (zref_r _ _) ?_
      obtain ⟨x7, hx, h⟩ := zob h
      refine z_getR (ci := 12) (T := TX12) (N := 50) (j := 21) B hS hx rfl zin_X12 (by decide) zk_1368 dX12_undo_42 ?_
      refine lv_bipush (v := (111 : Int32)) he hb dX12_undo_45 (by decide) ?_
      refine z_aload_n he hb dX12_undo_47 rfl (lv_at hl 0 rfl) (zref_r _ _) ?_
      obtain ⟨x8, hx, h⟩ := zob h
      refine z_getI (ci := 12) (T := TX12) (N := 50) (j := 23) B hS hx rfl zin_X12 (by decide) zk_1370 dX12_undo_48 ?_
      refine lv_imul he hb dX12_undo_51 ?_
      refine lv_iload_n he hb dX12_undo_52 rfl (lv_at hl 1 rfl) ?_
      refine lv_iadd he hb dX12_undo_53 ?_
      obtain ⟨x9, hx, h⟩ := zob h
      refine z_ildI B hS hx dX12_undo_54 ?_
      obtain ⟨f10, hx, h⟩ := zob h
      refine z_istI B hS hx dX12_undo_55 (fun H locs hS => ?_)
      refine lv_iinc (v := (a1 + 1)) (lv' := [(1, _), (0, _)]) he hb dX12_undo_56 hl (k := 1) rfl rfl (by decide) rfl (fun ls hl => ?_)
      refine lv_goto (tgt := 26) he hb dX12_undo_59 (by decide) ?_
      exact ih _ _ _ _ _ _ h hS (lv_sub hl [1, 0] rfl)
def fX12_undo (N n : Nat) (f : zF) (a0 : Nat) : Option (zF × Int32) :=
    ((zpI n f 12 a0 0 (0 : Int32)).bind fun f1 => ((zgI n f1 12 a0 23).bind fun x2 => (if x2 = 0 then some (f1, (-1 : Int32)) else ((zgI n f1 12 a0 23).bind fun x3 => ((zpI n f1 12 a0 23 (x3 - (1 : Int32))).bind fun f4 => (fX12_undo_26 N n N f4 a0 (0 : Int32)))))))
set_option maxRecDepth 100000 in
set_option maxHeartbeats 4000000 in
theorem mX12_undo (l : Launch) (G : zG) {N n : Nat} {f : zF} {f9 : zF} {r : Int32} {a0 : Nat} (h : fX12_undo N n f a0 = some (f9, r)) : zM l G yX12_undo cX12_undo 2 (some .int) 0 n f [zr G a0] (some (.int r)) f9 := by
  refine zM.of (by decide) (Nat.le_of_ble_eq_true rfl) ?_
  intro p e s m args below meth c locs ls B hS hl
  have he := B.1
  have hb := B.2.1
  have hl : lv_has ls 2 [(0, zr G a0)] := hl
  unfold fX12_undo at h
  generalize s.heap = H at hS ⊢
  refine z_aload_n he hb dX12_undo_0 rfl (lv_at hl 0 rfl) (zref_r _ _) ?_
  refine lv_iconst (v := (0 : Int32)) he hb dX12_undo_1 (by decide) ?_
  obtain ⟨f1, hx, h⟩ := zob h
  refine z_putI (ci := 12) (T := TX12) (N := 50) (j := 0) B hS hx rfl zin_X12 tyX12 tyX12_ok nmX12 (by decide) zk_1347 rfl rfl dX12_undo_2 (fun H locs hS => ?_)
  refine z_aload_n he hb dX12_undo_5 rfl (lv_at hl 0 rfl) (zref_r _ _) ?_
  obtain ⟨x2, hx, h⟩ := zob h
  refine z_getI (ci := 12) (T := TX12) (N := 50) (j := 23) B hS hx rfl zin_X12 (by decide) zk_1370 dX12_undo_6 ?_
  refine lv_if_ne (tgt := 14) he hb dX12_undo_9 (by decide) (fun hc => ?_) (fun hc => ?_)
  · rw [if_neg hc] at h
    refine z_aload_n he hb dX12_undo_14 rfl (lv_at hl 0 rfl) (zref_r _ _) ?_
    refine lv_dup he hb dX12_undo_15 rfl ?_
    obtain ⟨x3, hx, h⟩ := zob h
    refine z_getI (ci := 12) (T := TX12) (N := 50) (j := 23) B hS hx rfl zin_X12 (by decide) zk_1370 dX12_undo_16 ?_
    refine lv_iconst (v := (1 : Int32)) he hb dX12_undo_19 (by decide) ?_
    refine lv_isub he hb dX12_undo_20 ?_
    obtain ⟨f4, hx, h⟩ := zob h
    refine z_putI (ci := 12) (T := TX12) (N := 50) (j := 23) B hS hx rfl zin_X12 tyX12 tyX12_ok nmX12 (by decide) zk_1370 rfl rfl dX12_undo_21 (fun H locs hS => ?_)
    refine lv_iconst (v := (0 : Int32)) he hb dX12_undo_24 (by decide) ?_
    refine lv_istore_n (lv' := [(1, _), (0, _)]) he hb dX12_undo_25 rfl hl (by decide) rfl (fun ls hl => ?_)
    exact gX12_undo_26 l B N _ _ _ _ _ _ h hS (lv_sub hl [1, 0] rfl)
  · rw [if_pos hc] at h
    refine lv_iconst (v := (-1 : Int32)) he hb dX12_undo_12 (by decide) ?_
    obtain ⟨rfl, rfl⟩ := Prod.mk.inj (Option.some.inj h)
    exact z_iret B hS dX12_undo_13
theorem dX12_tries_0 : decode cX12_tries 0 = .ok (.iconst 0, 1) := by decide +kernel
theorem dX12_tries_1 : decode cX12_tries 1 = .ok (.istore_n 1, 1) := by decide +kernel
theorem dX12_tries_2 : decode cX12_tries 2 = .ok (.iload_n 1, 1) := by decide +kernel
theorem dX12_tries_3 : decode cX12_tries 3 = .ok (.bipush 111, 2) := by decide +kernel
theorem dX12_tries_5 : decode cX12_tries 5 = .ok (.if_icmp .ge 25, 3) := by decide +kernel
theorem dX12_tries_8 : decode cX12_tries 8 = .ok (.aload_n 0, 1) := by decide +kernel
theorem dX12_tries_9 : decode cX12_tries 9 = .ok (.getfield 53, 3) := by decide +kernel
theorem dX12_tries_12 : decode cX12_tries 12 = .ok (.iload_n 1, 1) := by decide +kernel
theorem dX12_tries_13 : decode cX12_tries 13 = .ok (.aload_n 0, 1) := by decide +kernel
theorem dX12_tries_14 : decode cX12_tries 14 = .ok (.getfield 33, 3) := by decide +kernel
theorem dX12_tries_17 : decode cX12_tries 17 = .ok (.sipush 139, 3) := by decide +kernel
theorem dX12_tries_20 : decode cX12_tries 20 = .ok (.iload_n 1, 1) := by decide +kernel
theorem dX12_tries_21 : decode cX12_tries 21 = .ok (.iadd, 1) := by decide +kernel
theorem dX12_tries_22 : decode cX12_tries 22 = .ok (.iaload, 1) := by decide +kernel
theorem dX12_tries_23 : decode cX12_tries 23 = .ok (.iastore, 1) := by decide +kernel
theorem dX12_tries_24 : decode cX12_tries 24 = .ok (.iinc 1 1, 3) := by decide +kernel
theorem dX12_tries_27 : decode cX12_tries 27 = .ok (.goto (-25), 3) := by decide +kernel
theorem dX12_tries_30 : decode cX12_tries 30 = .ok (.return_, 1) := by decide +kernel
def fX12_tries_2 (N n : Nat) : Nat → zF → Nat → Int32 → Option zF
  | 0, _, _, _ => none
  | k + 1, f, a0, a1 =>
    (if (111 : Int32) ≤ a1 then some f else ((zgR n f 12 a0 22).bind fun x1 => ((zgR n f 12 a0 6).bind fun x2 => ((zlI n f 0 x2 ((139 : Int32) + a1)).bind fun x3 => ((zsI n f 0 x1 a1 x3).bind fun f4 => (fX12_tries_2 N n k f4 a0 (a1 + 1)))))))
set_option maxRecDepth 100000 in
set_option maxHeartbeats 4000000 in
theorem gX12_tries_2 (l : Launch) {G : zG} {p : Program} {e : Env} {s : State} {m : MethodId} {args : Array Value} {below : List Frame} {meth : Method} {c : Code} {N n : Nat} {f9 : zF} (B : zB G p s m args meth c RX12 cX12_tries 2 (none)) : ∀ (k : Nat), ∀ (f : zF) (a0 : Nat) (a1 : Int32) (H : Heap) (locs : List Loc) (ls : Array Slot), fX12_tries_2 N n k f a0 a1 = some f9 → zS G n f H locs → lv_has ls 2 [(0, zr G a0), (1, .int a1)] → W p l e (zrm 0) s m args below meth c H locs 0 0 (MQ below (zQc G n f9 (none)) args s 0 0 (zA G)) (F0 m 2 ls []) := by
  have he := B.1
  have hb := B.2.1
  intro k
  induction k with
  | zero =>
    intro f a0 a1 H locs ls h
    unfold fX12_tries_2 at h
    cases h
  | succ k ih =>
    intro f a0 a1 H locs ls h hS hl
    unfold fX12_tries_2 at h
    refine lv_iload_n he hb dX12_tries_2 rfl (lv_at hl 1 rfl) ?_
    refine lv_bipush (v := (111 : Int32)) he hb dX12_tries_3 (by decide) ?_
    refine lv_icmp_ge (tgt := 30) he hb dX12_tries_5 (by decide) (fun hc => ?_) (fun hc => ?_)
    · rw [if_pos hc] at h
      obtain rfl := Option.some.inj h
      exact z_vret B hS dX12_tries_30
    · rw [if_neg hc] at h
      refine z_aload_n he hb dX12_tries_8 rfl (lv_at hl 0 rfl) (zref_r _ _) ?_
      obtain ⟨x1, hx, h⟩ := zob h
      refine z_getR (ci := 12) (T := TX12) (N := 50) (j := 22) B hS hx rfl zin_X12 (by decide) zk_1369 dX12_tries_9 ?_
      refine lv_iload_n he hb dX12_tries_12 rfl (lv_at hl 1 rfl) ?_
      refine z_aload_n he hb dX12_tries_13 rfl (lv_at hl 0 rfl) (zref_r _ _) ?_
      obtain ⟨x2, hx, h⟩ := zob h
      refine z_getR (ci := 12) (T := TX12) (N := 50) (j := 6) B hS hx rfl zin_X12 (by decide) zk_1353 dX12_tries_14 ?_
      refine lv_sipush (v := (139 : Int32)) he hb dX12_tries_17 (by decide) ?_
      refine lv_iload_n he hb dX12_tries_20 rfl (lv_at hl 1 rfl) ?_
      refine lv_iadd he hb dX12_tries_21 ?_
      obtain ⟨x3, hx, h⟩ := zob h
      refine z_ildI B hS hx dX12_tries_22 ?_
      obtain ⟨f4, hx, h⟩ := zob h
      refine z_istI B hS hx dX12_tries_23 (fun H locs hS => ?_)
      refine lv_iinc (v := (a1 + 1)) (lv' := [(1, _), (0, _)]) he hb dX12_tries_24 hl (k := 1) rfl rfl (by decide) rfl (fun ls hl => ?_)
      refine lv_goto (tgt := 2) he hb dX12_tries_27 (by decide) ?_
      exact ih _ _ _ _ _ _ h hS (lv_sub hl [1, 0] rfl)
def fX12_tries (N n : Nat) (f : zF) (a0 : Nat) : Option zF :=
    (fX12_tries_2 N n N f a0 (0 : Int32))
set_option maxRecDepth 100000 in
set_option maxHeartbeats 4000000 in
theorem mX12_tries (l : Launch) (G : zG) {N n : Nat} {f : zF} {f9 : zF} {a0 : Nat} (h : fX12_tries N n f a0 = some f9) : zM l G yX12_tries cX12_tries 2 (none) 0 n f [zr G a0] (none) f9 := by
  refine zM.of (by decide) (Nat.le_of_ble_eq_true rfl) ?_
  intro p e s m args below meth c locs ls B hS hl
  have he := B.1
  have hb := B.2.1
  have hl : lv_has ls 2 [(0, zr G a0)] := hl
  unfold fX12_tries at h
  generalize s.heap = H at hS ⊢
  refine lv_iconst (v := (0 : Int32)) he hb dX12_tries_0 (by decide) ?_
  refine lv_istore_n (lv' := [(1, _), (0, _)]) he hb dX12_tries_1 rfl hl (by decide) rfl (fun ls hl => ?_)
  exact gX12_tries_2 l B N _ _ _ _ _ _ h hS (lv_sub hl [1, 0] rfl)
theorem dX12_back_0 : decode cX12_back 0 = .ok (.iconst 0, 1) := by decide +kernel
theorem dX12_back_1 : decode cX12_back 1 = .ok (.istore_n 1, 1) := by decide +kernel
theorem dX12_back_2 : decode cX12_back 2 = .ok (.iload_n 1, 1) := by decide +kernel
theorem dX12_back_3 : decode cX12_back 3 = .ok (.bipush 111, 2) := by decide +kernel
theorem dX12_back_5 : decode cX12_back 5 = .ok (.if_icmp .ge 25, 3) := by decide +kernel
theorem dX12_back_8 : decode cX12_back 8 = .ok (.aload_n 0, 1) := by decide +kernel
theorem dX12_back_9 : decode cX12_back 9 = .ok (.getfield 33, 3) := by decide +kernel
theorem dX12_back_12 : decode cX12_back 12 = .ok (.sipush 139, 3) := by decide +kernel
theorem dX12_back_15 : decode cX12_back 15 = .ok (.iload_n 1, 1) := by decide +kernel
theorem dX12_back_16 : decode cX12_back 16 = .ok (.iadd, 1) := by decide +kernel
theorem dX12_back_17 : decode cX12_back 17 = .ok (.aload_n 0, 1) := by decide +kernel
theorem dX12_back_18 : decode cX12_back 18 = .ok (.getfield 53, 3) := by decide +kernel
theorem dX12_back_21 : decode cX12_back 21 = .ok (.iload_n 1, 1) := by decide +kernel
theorem dX12_back_22 : decode cX12_back 22 = .ok (.iaload, 1) := by decide +kernel
theorem dX12_back_23 : decode cX12_back 23 = .ok (.iastore, 1) := by decide +kernel
theorem dX12_back_24 : decode cX12_back 24 = .ok (.iinc 1 1, 3) := by decide +kernel
theorem dX12_back_27 : decode cX12_back 27 = .ok (.goto (-25), 3) := by decide +kernel
theorem dX12_back_30 : decode cX12_back 30 = .ok (.return_, 1) := by decide +kernel
def fX12_back_2 (N n : Nat) : Nat → zF → Nat → Int32 → Option zF
  | 0, _, _, _ => none
  | k + 1, f, a0, a1 =>
    (if (111 : Int32) ≤ a1 then some f else ((zgR n f 12 a0 6).bind fun x1 => ((zgR n f 12 a0 22).bind fun x2 => ((zlI n f 0 x2 a1).bind fun x3 => ((zsI n f 0 x1 ((139 : Int32) + a1) x3).bind fun f4 => (fX12_back_2 N n k f4 a0 (a1 + 1)))))))
set_option maxRecDepth 100000 in
set_option maxHeartbeats 4000000 in
theorem gX12_back_2 (l : Launch) {G : zG} {p : Program} {e : Env} {s : State} {m : MethodId} {args : Array Value} {below : List Frame} {meth : Method} {c : Code} {N n : Nat} {f9 : zF} (B : zB G p s m args meth c RX12 cX12_back 2 (none)) : ∀ (k : Nat), ∀ (f : zF) (a0 : Nat) (a1 : Int32) (H : Heap) (locs : List Loc) (ls : Array Slot), fX12_back_2 N n k f a0 a1 = some f9 → zS G n f H locs → lv_has ls 2 [(0, zr G a0), (1, .int a1)] → W p l e (zrm 0) s m args below meth c H locs 0 0 (MQ below (zQc G n f9 (none)) args s 0 0 (zA G)) (F0 m 2 ls []) := by
  have he := B.1
  have hb := B.2.1
  intro k
  induction k with
  | zero =>
    intro f a0 a1 H locs ls h
    unfold fX12_back_2 at h
    cases h
  | succ k ih =>
    intro f a0 a1 H locs ls h hS hl
    unfold fX12_back_2 at h
    refine lv_iload_n he hb dX12_back_2 rfl (lv_at hl 1 rfl) ?_
    refine lv_bipush (v := (111 : Int32)) he hb dX12_back_3 (by decide) ?_
    refine lv_icmp_ge (tgt := 30) he hb dX12_back_5 (by decide) (fun hc => ?_) (fun hc => ?_)
    · rw [if_pos hc] at h
      obtain rfl := Option.some.inj h
      exact z_vret B hS dX12_back_30
    · rw [if_neg hc] at h
      refine z_aload_n he hb dX12_back_8 rfl (lv_at hl 0 rfl) (zref_r _ _) ?_
      obtain ⟨x1, hx, h⟩ := zob h
      refine z_getR (ci := 12) (T := TX12) (N := 50) (j := 6) B hS hx rfl zin_X12 (by decide) zk_1353 dX12_back_9 ?_
      refine lv_sipush (v := (139 : Int32)) he hb dX12_back_12 (by decide) ?_
      refine lv_iload_n he hb dX12_back_15 rfl (lv_at hl 1 rfl) ?_
      refine lv_iadd he hb dX12_back_16 ?_
      refine z_aload_n he hb dX12_back_17 rfl (lv_at hl 0 rfl) (zref_r _ _) ?_
      obtain ⟨x2, hx, h⟩ := zob h
      refine z_getR (ci := 12) (T := TX12) (N := 50) (j := 22) B hS hx rfl zin_X12 (by decide) zk_1369 dX12_back_18 ?_
      refine lv_iload_n he hb dX12_back_21 rfl (lv_at hl 1 rfl) ?_
      obtain ⟨x3, hx, h⟩ := zob h
      refine z_ildI B hS hx dX12_back_22 ?_
      obtain ⟨f4, hx, h⟩ := zob h
      refine z_istI B hS hx dX12_back_23 (fun H locs hS => ?_)
      refine lv_iinc (v := (a1 + 1)) (lv' := [(1, _), (0, _)]) he hb dX12_back_24 hl (k := 1) rfl rfl (by decide) rfl (fun ls hl => ?_)
      refine lv_goto (tgt := 2) he hb dX12_back_27 (by decide) ?_
      exact ih _ _ _ _ _ _ h hS (lv_sub hl [1, 0] rfl)
def fX12_back (N n : Nat) (f : zF) (a0 : Nat) : Option zF :=
    (fX12_back_2 N n N f a0 (0 : Int32))
set_option maxRecDepth 100000 in
set_option maxHeartbeats 4000000 in
theorem mX12_back (l : Launch) (G : zG) {N n : Nat} {f : zF} {f9 : zF} {a0 : Nat} (h : fX12_back N n f a0 = some f9) : zM l G yX12_back cX12_back 2 (none) 0 n f [zr G a0] (none) f9 := by
  refine zM.of (by decide) (Nat.le_of_ble_eq_true rfl) ?_
  intro p e s m args below meth c locs ls B hS hl
  have he := B.1
  have hb := B.2.1
  have hl : lv_has ls 2 [(0, zr G a0)] := hl
  unfold fX12_back at h
  generalize s.heap = H at hS ⊢
  refine lv_iconst (v := (0 : Int32)) he hb dX12_back_0 (by decide) ?_
  refine lv_istore_n (lv' := [(1, _), (0, _)]) he hb dX12_back_1 rfl hl (by decide) rfl (fun ls hl => ?_)
  exact gX12_back_2 l B N _ _ _ _ _ _ h hS (lv_sub hl [1, 0] rfl)
theorem dX12_where_0 : decode cX12_where 0 = .ok (.aload_n 0, 1) := by decide +kernel
theorem dX12_where_1 : decode cX12_where 1 = .ok (.iconst 0, 1) := by decide +kernel
theorem dX12_where_2 : decode cX12_where 2 = .ok (.putfield 1, 3) := by decide +kernel
theorem dX12_where_5 : decode cX12_where 5 = .ok (.aload_n 0, 1) := by decide +kernel
theorem dX12_where_6 : decode cX12_where 6 = .ok (.iload_n 1, 1) := by decide +kernel
theorem dX12_where_7 : decode cX12_where 7 = .ok (.invokevirtual 304, 3) := by decide +kernel
theorem dX12_where_10 : decode cX12_where 10 = .ok (.ifCond .eq 14, 3) := by decide +kernel
theorem dX12_where_13 : decode cX12_where 13 = .ok (.iload_n 2, 1) := by decide +kernel
theorem dX12_where_14 : decode cX12_where 14 = .ok (.iconst 0, 1) := by decide +kernel
theorem dX12_where_15 : decode cX12_where 15 = .ok (.sipush 200, 3) := by decide +kernel
theorem dX12_where_18 : decode cX12_where 18 = .ok (.invokestatic 192, 3) := by decide +kernel
theorem dX12_where_21 : decode cX12_where 21 = .ok (.ifCond .ne 5, 3) := by decide +kernel
theorem dX12_where_24 : decode cX12_where 24 = .ok (.iconst (-1), 1) := by decide +kernel
theorem dX12_where_25 : decode cX12_where 25 = .ok (.ireturn, 1) := by decide +kernel
theorem dX12_where_26 : decode cX12_where 26 = .ok (.aload_n 0, 1) := by decide +kernel
theorem dX12_where_27 : decode cX12_where 27 = .ok (.invokevirtual 348, 3) := by decide +kernel
theorem dX12_where_30 : decode cX12_where 30 = .ok (.iconst 0, 1) := by decide +kernel
theorem dX12_where_31 : decode cX12_where 31 = .ok (.istore_n 3, 1) := by decide +kernel
theorem dX12_where_32 : decode cX12_where 32 = .ok (.iload_n 3, 1) := by decide +kernel
theorem dX12_where_33 : decode cX12_where 33 = .ok (.iload_n 2, 1) := by decide +kernel
theorem dX12_where_34 : decode cX12_where 34 = .ok (.if_icmp .ge 13, 3) := by decide +kernel
theorem dX12_where_37 : decode cX12_where 37 = .ok (.aload_n 0, 1) := by decide +kernel
theorem dX12_where_38 : decode cX12_where 38 = .ok (.invokevirtual 329, 3) := by decide +kernel
theorem dX12_where_41 : decode cX12_where 41 = .ok (.iinc 3 1, 3) := by decide +kernel
theorem dX12_where_44 : decode cX12_where 44 = .ok (.goto (-12), 3) := by decide +kernel
theorem dX12_where_47 : decode cX12_where 47 = .ok (.aload_n 0, 1) := by decide +kernel
theorem dX12_where_48 : decode cX12_where 48 = .ok (.getfield 33, 3) := by decide +kernel
theorem dX12_where_51 : decode cX12_where 51 = .ok (.sipush 141, 3) := by decide +kernel
theorem dX12_where_54 : decode cX12_where 54 = .ok (.iload_n 1, 1) := by decide +kernel
theorem dX12_where_55 : decode cX12_where 55 = .ok (.iadd, 1) := by decide +kernel
theorem dX12_where_56 : decode cX12_where 56 = .ok (.iaload, 1) := by decide +kernel
theorem dX12_where_57 : decode cX12_where 57 = .ok (.istore_n 3, 1) := by decide +kernel
theorem dX12_where_58 : decode cX12_where 58 = .ok (.aload_n 0, 1) := by decide +kernel
theorem dX12_where_59 : decode cX12_where 59 = .ok (.invokevirtual 351, 3) := by decide +kernel
theorem dX12_where_62 : decode cX12_where 62 = .ok (.iload_n 3, 1) := by decide +kernel
theorem dX12_where_63 : decode cX12_where 63 = .ok (.ireturn, 1) := by decide +kernel
def fX12_where_32 (N n : Nat) : Nat → zF → Nat → Int32 → Int32 → Int32 → Option (zF × Int32)
  | 0, _, _, _, _, _ => none
  | k + 1, f, a0, a1, a2, a3 =>
    (if a2 ≤ a3 then ((zgR n f 12 a0 6).bind fun x5 => ((zlI n f 0 x5 ((141 : Int32) + a1)).bind fun x6 => ((zck n f 12 a0).bind fun _ => ((fX12_back N n f a0).bind fun f7 => some (f7, x6))))) else ((zck n f 12 a0).bind fun _ => ((fX12_hour N n f a0).bind fun f8 => (fX12_where_32 N n k f8 a0 a1 a2 (a3 + 1)))))
set_option maxRecDepth 100000 in
set_option maxHeartbeats 4000000 in
theorem gX12_where_32 (l : Launch) {G : zG} {p : Program} {e : Env} {s : State} {m : MethodId} {args : Array Value} {below : List Frame} {meth : Method} {c : Code} {N n : Nat} {f9 : zF} {r : Int32} (B : zB G p s m args meth c RX12 cX12_where 4 (some .int)) : ∀ (k : Nat), ∀ (f : zF) (a0 : Nat) (a1 : Int32) (a2 : Int32) (a3 : Int32) (H : Heap) (locs : List Loc) (ls : Array Slot), fX12_where_32 N n k f a0 a1 a2 a3 = some (f9, r) → zS G n f H locs → lv_has ls 4 [(0, zr G a0), (1, .int a1), (2, .int a2), (3, .int a3)] → W p l e (zrm 7) s m args below meth c H locs 0 0 (MQ below (zQc G n f9 (some (.int r))) args s 0 0 (zA G)) (F0 m 32 ls []) := by
  have he := B.1
  have hb := B.2.1
  intro k
  induction k with
  | zero =>
    intro f a0 a1 a2 a3 H locs ls h
    unfold fX12_where_32 at h
    cases h
  | succ k ih =>
    intro f a0 a1 a2 a3 H locs ls h hS hl
    unfold fX12_where_32 at h
    refine lv_iload_n he hb dX12_where_32 rfl (lv_at hl 3 rfl) ?_
    refine lv_iload_n he hb dX12_where_33 rfl (lv_at hl 2 rfl) ?_
    refine lv_icmp_ge (tgt := 47) he hb dX12_where_34 (by decide) (fun hc => ?_) (fun hc => ?_)
    · rw [if_pos hc] at h
      refine z_aload_n he hb dX12_where_47 rfl (lv_at hl 0 rfl) (zref_r _ _) ?_
      obtain ⟨x5, hx, h⟩ := zob h
      refine z_getR (ci := 12) (T := TX12) (N := 50) (j := 6) B hS hx rfl zin_X12 (by decide) zk_1353 dX12_where_48 ?_
      refine lv_sipush (v := (141 : Int32)) he hb dX12_where_51 (by decide) ?_
      refine lv_iload_n he hb dX12_where_54 rfl (lv_at hl 1 rfl) ?_
      refine lv_iadd he hb dX12_where_55 ?_
      obtain ⟨x6, hx, h⟩ := zob h
      refine z_ildI B hS hx dX12_where_56 ?_
      refine lv_istore_n (lv' := [(3, _), (0, _), (1, _), (2, _)]) he hb dX12_where_57 rfl hl (by decide) rfl (fun ls hl => ?_)
      refine z_aload_n he hb dX12_where_58 rfl (lv_at hl 1 rfl) (zref_r _ _) ?_
      obtain ⟨_, hc, h⟩ := zob h
      obtain ⟨f7, hx, h⟩ := zob h
      refine z_callV (ci := 12) (T := TX12) (N := 50) (rest := []) B hS (mX12_back l G hx) zy_X12_back zk_1763 (by decide) hc rfl rfl hl rfl (Nat.le_of_ble_eq_true rfl) dX12_where_59 (kk := (fun H locs hS => ?_))
      refine lv_iload_n he hb dX12_where_62 rfl (lv_at hl 0 rfl) ?_
      obtain ⟨rfl, rfl⟩ := Prod.mk.inj (Option.some.inj h)
      exact z_iret B hS dX12_where_63
    · rw [if_neg hc] at h
      refine z_aload_n he hb dX12_where_37 rfl (lv_at hl 0 rfl) (zref_r _ _) ?_
      obtain ⟨_, hc, h⟩ := zob h
      obtain ⟨f8, hx, h⟩ := zob h
      refine z_callV (ci := 12) (T := TX12) (N := 50) (rest := []) B hS (mX12_hour l G hx) zy_X12_hour zk_1743 (by decide) hc rfl rfl hl rfl (Nat.le_of_ble_eq_true rfl) dX12_where_38 (kk := (fun H locs hS => ?_))
      refine lv_iinc (v := (a3 + 1)) (lv' := [(3, _), (0, _), (1, _), (2, _)]) he hb dX12_where_41 hl (k := 3) rfl rfl (by decide) rfl (fun ls hl => ?_)
      refine lv_goto (tgt := 32) he hb dX12_where_44 (by decide) ?_
      exact ih _ _ _ _ _ _ _ _ h hS (lv_sub hl [1, 2, 3, 0] rfl)
def fX12_where (N n : Nat) (f : zF) (a0 : Nat) (a1 : Int32) (a2 : Int32) : Option (zF × Int32) :=
    ((zpI n f 12 a0 0 (0 : Int32)).bind fun f1 => ((zck n f1 12 a0).bind fun _ => ((fX12_isFigure N n f1 a0 a1).bind fun x2 => (if x2 = 0 then some (f1, (-1 : Int32)) else ((fX12_isIn N n f1 a2 (0 : Int32) (200 : Int32)).bind fun x3 => (if x3 = 0 then some (f1, (-1 : Int32)) else ((zck n f1 12 a0).bind fun _ => ((fX12_tries N n f1 a0).bind fun f4 => (fX12_where_32 N n N f4 a0 a1 a2 (0 : Int32))))))))))
set_option maxRecDepth 100000 in
set_option maxHeartbeats 4000000 in
theorem mX12_where (l : Launch) (G : zG) {N n : Nat} {f : zF} {f9 : zF} {r : Int32} {a0 : Nat} {a1 : Int32} {a2 : Int32} (h : fX12_where N n f a0 a1 a2 = some (f9, r)) : zM l G yX12_where cX12_where 4 (some .int) 7 n f [zr G a0, .int a1, .int a2] (some (.int r)) f9 := by
  refine zM.of (by decide) (Nat.le_of_ble_eq_true rfl) ?_
  intro p e s m args below meth c locs ls B hS hl
  have he := B.1
  have hb := B.2.1
  have hl : lv_has ls 4 [(0, zr G a0), (1, .int a1), (2, .int a2)] := hl
  unfold fX12_where at h
  generalize s.heap = H at hS ⊢
  refine z_aload_n he hb dX12_where_0 rfl (lv_at hl 0 rfl) (zref_r _ _) ?_
  refine lv_iconst (v := (0 : Int32)) he hb dX12_where_1 (by decide) ?_
  obtain ⟨f1, hx, h⟩ := zob h
  refine z_putI (ci := 12) (T := TX12) (N := 50) (j := 0) B hS hx rfl zin_X12 tyX12 tyX12_ok nmX12 (by decide) zk_1347 rfl rfl dX12_where_2 (fun H locs hS => ?_)
  refine z_aload_n he hb dX12_where_5 rfl (lv_at hl 0 rfl) (zref_r _ _) ?_
  refine lv_iload_n he hb dX12_where_6 rfl (lv_at hl 1 rfl) ?_
  obtain ⟨_, hc, h⟩ := zob h
  obtain ⟨x2, hx, h⟩ := zob h
  refine z_callV (ci := 12) (T := TX12) (N := 50) (rest := []) B hS (mX12_isFigure l G hx) zy_X12_isFigure zk_1624 (by decide) hc rfl rfl hl rfl (Nat.le_of_ble_eq_true rfl) dX12_where_7 (kk := (fun H locs hS => ?_))
  refine lv_if_eq (tgt := 24) he hb dX12_where_10 (by decide) (fun hc => ?_) (fun hc => ?_)
  · rw [if_pos hc] at h
    refine lv_iconst (v := (-1 : Int32)) he hb dX12_where_24 (by decide) ?_
    obtain ⟨rfl, rfl⟩ := Prod.mk.inj (Option.some.inj h)
    exact z_iret B hS dX12_where_25
  · rw [if_neg hc] at h
    refine lv_iload_n he hb dX12_where_13 rfl (lv_at hl 2 rfl) ?_
    refine lv_iconst (v := (0 : Int32)) he hb dX12_where_14 (by decide) ?_
    refine lv_sipush (v := (200 : Int32)) he hb dX12_where_15 (by decide) ?_
    obtain ⟨x3, hx, h⟩ := zob h
    refine z_callS (rest := []) B hS (mX12_isIn l G hx) zy_X12_isIn zk_1545 (by decide) rfl hl rfl (Nat.le_of_ble_eq_true rfl) dX12_where_18 (kk := (fun H locs hS => ?_))
    refine lv_if_ne (tgt := 26) he hb dX12_where_21 (by decide) (fun hc => ?_) (fun hc => ?_)
    · rw [if_neg hc] at h
      refine z_aload_n he hb dX12_where_26 rfl (lv_at hl 0 rfl) (zref_r _ _) ?_
      obtain ⟨_, hc, h⟩ := zob h
      obtain ⟨f4, hx, h⟩ := zob h
      refine z_callV (ci := 12) (T := TX12) (N := 50) (rest := []) B hS (mX12_tries l G hx) zy_X12_tries zk_1759 (by decide) hc rfl rfl hl rfl (Nat.le_of_ble_eq_true rfl) dX12_where_27 (kk := (fun H locs hS => ?_))
      refine lv_iconst (v := (0 : Int32)) he hb dX12_where_30 (by decide) ?_
      refine lv_istore_n (lv' := [(3, _), (0, _), (1, _), (2, _)]) he hb dX12_where_31 rfl hl (by decide) rfl (fun ls hl => ?_)
      exact gX12_where_32 l B N _ _ _ _ _ _ _ _ h hS (lv_sub hl [1, 2, 3, 0] rfl)
    · rw [if_pos hc] at h
      refine lv_iconst (v := (-1 : Int32)) he hb dX12_where_24 (by decide) ?_
      obtain ⟨rfl, rfl⟩ := Prod.mk.inj (Option.some.inj h)
      exact z_iret B hS dX12_where_25
theorem dX12_comesIn_0 : decode cX12_comesIn 0 = .ok (.iload_n 3, 1) := by decide +kernel
theorem dX12_comesIn_1 : decode cX12_comesIn 1 = .ok (.ifCond .ne 21, 3) := by decide +kernel
theorem dX12_comesIn_4 : decode cX12_comesIn 4 = .ok (.aload_n 0, 1) := by decide +kernel
theorem dX12_comesIn_5 : decode cX12_comesIn 5 = .ok (.getfield 33, 3) := by decide +kernel
theorem dX12_comesIn_8 : decode cX12_comesIn 8 = .ok (.sipush 141, 3) := by decide +kernel
theorem dX12_comesIn_11 : decode cX12_comesIn 11 = .ok (.iload_n 1, 1) := by decide +kernel
theorem dX12_comesIn_12 : decode cX12_comesIn 12 = .ok (.iadd, 1) := by decide +kernel
theorem dX12_comesIn_13 : decode cX12_comesIn 13 = .ok (.iaload, 1) := by decide +kernel
theorem dX12_comesIn_14 : decode cX12_comesIn 14 = .ok (.iload_n 2, 1) := by decide +kernel
theorem dX12_comesIn_15 : decode cX12_comesIn 15 = .ok (.if_icmp .ne 7, 3) := by decide +kernel
theorem dX12_comesIn_18 : decode cX12_comesIn 18 = .ok (.iconst 0, 1) := by decide +kernel
theorem dX12_comesIn_19 : decode cX12_comesIn 19 = .ok (.goto 4, 3) := by decide +kernel
theorem dX12_comesIn_22 : decode cX12_comesIn 22 = .ok (.iconst (-1), 1) := by decide +kernel
theorem dX12_comesIn_23 : decode cX12_comesIn 23 = .ok (.istore 5, 2) := by decide +kernel
theorem dX12_comesIn_25 : decode cX12_comesIn 25 = .ok (.iconst 1, 1) := by decide +kernel
theorem dX12_comesIn_26 : decode cX12_comesIn 26 = .ok (.istore 6, 2) := by decide +kernel
theorem dX12_comesIn_28 : decode cX12_comesIn 28 = .ok (.iload 6, 2) := by decide +kernel
theorem dX12_comesIn_30 : decode cX12_comesIn 30 = .ok (.iload 4, 2) := by decide +kernel
theorem dX12_comesIn_32 : decode cX12_comesIn 32 = .ok (.if_icmp .gt 36, 3) := by decide +kernel
theorem dX12_comesIn_35 : decode cX12_comesIn 35 = .ok (.iload 5, 2) := by decide +kernel
theorem dX12_comesIn_37 : decode cX12_comesIn 37 = .ok (.ifCond .ge 31, 3) := by decide +kernel
theorem dX12_comesIn_40 : decode cX12_comesIn 40 = .ok (.aload_n 0, 1) := by decide +kernel
theorem dX12_comesIn_41 : decode cX12_comesIn 41 = .ok (.invokevirtual 329, 3) := by decide +kernel
theorem dX12_comesIn_44 : decode cX12_comesIn 44 = .ok (.aload_n 0, 1) := by decide +kernel
theorem dX12_comesIn_45 : decode cX12_comesIn 45 = .ok (.getfield 33, 3) := by decide +kernel
theorem dX12_comesIn_48 : decode cX12_comesIn 48 = .ok (.sipush 141, 3) := by decide +kernel
theorem dX12_comesIn_51 : decode cX12_comesIn 51 = .ok (.iload_n 1, 1) := by decide +kernel
theorem dX12_comesIn_52 : decode cX12_comesIn 52 = .ok (.iadd, 1) := by decide +kernel
theorem dX12_comesIn_53 : decode cX12_comesIn 53 = .ok (.iaload, 1) := by decide +kernel
theorem dX12_comesIn_54 : decode cX12_comesIn 54 = .ok (.iload_n 2, 1) := by decide +kernel
theorem dX12_comesIn_55 : decode cX12_comesIn 55 = .ok (.if_icmp .ne 7, 3) := by decide +kernel
theorem dX12_comesIn_58 : decode cX12_comesIn 58 = .ok (.iload 6, 2) := by decide +kernel
theorem dX12_comesIn_60 : decode cX12_comesIn 60 = .ok (.istore 5, 2) := by decide +kernel
theorem dX12_comesIn_62 : decode cX12_comesIn 62 = .ok (.iinc 6 1, 3) := by decide +kernel
theorem dX12_comesIn_65 : decode cX12_comesIn 65 = .ok (.goto (-37), 3) := by decide +kernel
theorem dX12_comesIn_68 : decode cX12_comesIn 68 = .ok (.aload_n 0, 1) := by decide +kernel
theorem dX12_comesIn_69 : decode cX12_comesIn 69 = .ok (.invokevirtual 351, 3) := by decide +kernel
theorem dX12_comesIn_72 : decode cX12_comesIn 72 = .ok (.iload 5, 2) := by decide +kernel
theorem dX12_comesIn_74 : decode cX12_comesIn 74 = .ok (.ireturn, 1) := by decide +kernel
def fX12_comesIn_68 (N n : Nat) (f : zF) (a0 : Nat) (a5 : Int32) : Option (zF × Int32) :=
    ((zck n f 12 a0).bind fun _ => ((fX12_back N n f a0).bind fun f1 => some (f1, a5)))
set_option maxRecDepth 100000 in
set_option maxHeartbeats 4000000 in
theorem gX12_comesIn_68 (l : Launch) {G : zG} {p : Program} {e : Env} {s : State} {m : MethodId} {args : Array Value} {below : List Frame} {meth : Method} {c : Code} {N n : Nat} {f9 : zF} {r : Int32} (B : zB G p s m args meth c RX12 cX12_comesIn 7 (some .int)) : ∀ (f : zF) (a0 : Nat) (a5 : Int32) (H : Heap) (locs : List Loc) (ls : Array Slot), fX12_comesIn_68 N n f a0 a5 = some (f9, r) → zS G n f H locs → lv_has ls 7 [(0, zr G a0), (5, .int a5)] → W p l e (zrm 7) s m args below meth c H locs 0 0 (MQ below (zQc G n f9 (some (.int r))) args s 0 0 (zA G)) (F0 m 68 ls []) := by
  have he := B.1
  have hb := B.2.1
  intro f a0 a5 H locs ls h hS hl
  unfold fX12_comesIn_68 at h
  refine z_aload_n he hb dX12_comesIn_68 rfl (lv_at hl 0 rfl) (zref_r _ _) ?_
  obtain ⟨_, hc, h⟩ := zob h
  obtain ⟨f1, hx, h⟩ := zob h
  refine z_callV (ci := 12) (T := TX12) (N := 50) (rest := []) B hS (mX12_back l G hx) zy_X12_back zk_1763 (by decide) hc rfl rfl hl rfl (Nat.le_of_ble_eq_true rfl) dX12_comesIn_69 (kk := (fun H locs hS => ?_))
  refine lv_iload he hb dX12_comesIn_72 (lv_at hl 1 rfl) ?_
  obtain ⟨rfl, rfl⟩ := Prod.mk.inj (Option.some.inj h)
  exact z_iret B hS dX12_comesIn_74
def fX12_comesIn_62 (r28 : zF → Nat → Int32 → Int32 → Int32 → Int32 → Int32 → Option (zF × Int32)) (N n : Nat) (f : zF) (a0 : Nat) (a1 : Int32) (a2 : Int32) (a4 : Int32) (a5 : Int32) (a6 : Int32) : Option (zF × Int32) :=
    (r28 f a0 a1 a2 a4 a5 (a6 + 1))
set_option maxRecDepth 100000 in
set_option maxHeartbeats 4000000 in
theorem gX12_comesIn_62 (l : Launch) {G : zG} {p : Program} {e : Env} {s : State} {m : MethodId} {args : Array Value} {below : List Frame} {meth : Method} {c : Code} {N n : Nat} {f9 : zF} {r : Int32} {r28 : zF → Nat → Int32 → Int32 → Int32 → Int32 → Int32 → Option (zF × Int32)} (B : zB G p s m args meth c RX12 cX12_comesIn 7 (some .int)) (hr28 : ∀ (f : zF) (a0 : Nat) (a1 : Int32) (a2 : Int32) (a4 : Int32) (a5 : Int32) (a6 : Int32) (H : Heap) (locs : List Loc) (ls : Array Slot), r28 f a0 a1 a2 a4 a5 a6 = some (f9, r) → zS G n f H locs → lv_has ls 7 [(0, zr G a0), (1, .int a1), (2, .int a2), (4, .int a4), (5, .int a5), (6, .int a6)] → W p l e (zrm 7) s m args below meth c H locs 0 0 (MQ below (zQc G n f9 (some (.int r))) args s 0 0 (zA G)) (F0 m 28 ls [])) : ∀ (f : zF) (a0 : Nat) (a1 : Int32) (a2 : Int32) (a4 : Int32) (a5 : Int32) (a6 : Int32) (H : Heap) (locs : List Loc) (ls : Array Slot), fX12_comesIn_62 r28 N n f a0 a1 a2 a4 a5 a6 = some (f9, r) → zS G n f H locs → lv_has ls 7 [(0, zr G a0), (1, .int a1), (2, .int a2), (4, .int a4), (5, .int a5), (6, .int a6)] → W p l e (zrm 7) s m args below meth c H locs 0 0 (MQ below (zQc G n f9 (some (.int r))) args s 0 0 (zA G)) (F0 m 62 ls []) := by
  have he := B.1
  have hb := B.2.1
  intro f a0 a1 a2 a4 a5 a6 H locs ls h hS hl
  unfold fX12_comesIn_62 at h
  refine lv_iinc (v := (a6 + 1)) (lv' := [(6, _), (0, _), (1, _), (2, _), (4, _), (5, _)]) he hb dX12_comesIn_62 hl (k := 5) rfl rfl (by decide) rfl (fun ls hl => ?_)
  refine lv_goto (tgt := 28) he hb dX12_comesIn_65 (by decide) ?_
  exact hr28 _ _ _ _ _ _ _ _ _ _ h hS (lv_sub hl [1, 2, 3, 4, 5, 0] rfl)
def fX12_comesIn_28 (N n : Nat) : Nat → zF → Nat → Int32 → Int32 → Int32 → Int32 → Int32 → Option (zF × Int32)
  | 0, _, _, _, _, _, _, _ => none
  | k + 1, f, a0, a1, a2, a4, a5, a6 =>
    (if a4 < a6 then (fX12_comesIn_68 N n f a0 a5) else (if 0 ≤ a5 then (fX12_comesIn_68 N n f a0 a5) else ((zck n f 12 a0).bind fun _ => ((fX12_hour N n f a0).bind fun f2 => ((zgR n f2 12 a0 6).bind fun x3 => ((zlI n f2 0 x3 ((141 : Int32) + a1)).bind fun x4 => (if x4 = a2 then (fX12_comesIn_62 (fX12_comesIn_28 N n k) N n f2 a0 a1 a2 a4 a6 a6) else (fX12_comesIn_62 (fX12_comesIn_28 N n k) N n f2 a0 a1 a2 a4 a5 a6))))))))
set_option maxRecDepth 100000 in
set_option maxHeartbeats 4000000 in
theorem gX12_comesIn_28 (l : Launch) {G : zG} {p : Program} {e : Env} {s : State} {m : MethodId} {args : Array Value} {below : List Frame} {meth : Method} {c : Code} {N n : Nat} {f9 : zF} {r : Int32} (B : zB G p s m args meth c RX12 cX12_comesIn 7 (some .int)) : ∀ (k : Nat), ∀ (f : zF) (a0 : Nat) (a1 : Int32) (a2 : Int32) (a4 : Int32) (a5 : Int32) (a6 : Int32) (H : Heap) (locs : List Loc) (ls : Array Slot), fX12_comesIn_28 N n k f a0 a1 a2 a4 a5 a6 = some (f9, r) → zS G n f H locs → lv_has ls 7 [(0, zr G a0), (1, .int a1), (2, .int a2), (4, .int a4), (5, .int a5), (6, .int a6)] → W p l e (zrm 7) s m args below meth c H locs 0 0 (MQ below (zQc G n f9 (some (.int r))) args s 0 0 (zA G)) (F0 m 28 ls []) := by
  have he := B.1
  have hb := B.2.1
  intro k
  induction k with
  | zero =>
    intro f a0 a1 a2 a4 a5 a6 H locs ls h
    unfold fX12_comesIn_28 at h
    cases h
  | succ k ih =>
    intro f a0 a1 a2 a4 a5 a6 H locs ls h hS hl
    unfold fX12_comesIn_28 at h
    refine lv_iload he hb dX12_comesIn_28 (lv_at hl 5 rfl) ?_
    refine lv_iload he hb dX12_comesIn_30 (lv_at hl 3 rfl) ?_
    refine lv_icmp_gt (tgt := 68) he hb dX12_comesIn_32 (by decide) (fun hc => ?_) (fun hc => ?_)
    · rw [if_pos hc] at h
      exact gX12_comesIn_68 l B _ _ _ _ _ _ h hS (lv_sub hl [0, 4] rfl)
    · rw [if_neg hc] at h
      refine lv_iload he hb dX12_comesIn_35 (lv_at hl 4 rfl) ?_
      refine lv_if_ge (tgt := 68) he hb dX12_comesIn_37 (by decide) (fun hc => ?_) (fun hc => ?_)
      · rw [if_pos hc] at h
        exact gX12_comesIn_68 l B _ _ _ _ _ _ h hS (lv_sub hl [0, 4] rfl)
      · rw [if_neg hc] at h
        refine z_aload_n he hb dX12_comesIn_40 rfl (lv_at hl 0 rfl) (zref_r _ _) ?_
        obtain ⟨_, hc, h⟩ := zob h
        obtain ⟨f2, hx, h⟩ := zob h
        refine z_callV (ci := 12) (T := TX12) (N := 50) (rest := []) B hS (mX12_hour l G hx) zy_X12_hour zk_1743 (by decide) hc rfl rfl hl rfl (Nat.le_of_ble_eq_true rfl) dX12_comesIn_41 (kk := (fun H locs hS => ?_))
        refine z_aload_n he hb dX12_comesIn_44 rfl (lv_at hl 0 rfl) (zref_r _ _) ?_
        obtain ⟨x3, hx, h⟩ := zob h
        refine z_getR (ci := 12) (T := TX12) (N := 50) (j := 6) B hS hx rfl zin_X12 (by decide) zk_1353 dX12_comesIn_45 ?_
        refine lv_sipush (v := (141 : Int32)) he hb dX12_comesIn_48 (by decide) ?_
        refine lv_iload_n he hb dX12_comesIn_51 rfl (lv_at hl 1 rfl) ?_
        refine lv_iadd he hb dX12_comesIn_52 ?_
        obtain ⟨x4, hx, h⟩ := zob h
        refine z_ildI B hS hx dX12_comesIn_53 ?_
        refine lv_iload_n he hb dX12_comesIn_54 rfl (lv_at hl 2 rfl) ?_
        refine lv_icmp_ne (tgt := 62) he hb dX12_comesIn_55 (by decide) (fun hc => ?_) (fun hc => ?_)
        · rw [if_neg hc] at h
          exact gX12_comesIn_62 l B ih _ _ _ _ _ _ _ _ _ _ h hS (lv_sub hl [0, 1, 2, 3, 4, 5] rfl)
        · rw [if_pos hc] at h
          refine lv_iload he hb dX12_comesIn_58 (lv_at hl 5 rfl) ?_
          refine lv_istore (lv' := [(5, _), (0, _), (1, _), (2, _), (4, _), (6, _)]) he hb dX12_comesIn_60 hl (by decide) rfl (fun ls hl => ?_)
          exact gX12_comesIn_62 l B ih _ _ _ _ _ _ _ _ _ _ h hS (lv_sub hl [1, 2, 3, 4, 0, 5] rfl)
def fX12_comesIn_23 (N n : Nat) (f : zF) (a0 : Nat) (a1 : Int32) (a2 : Int32) (a4 : Int32) (t0 : Int32) : Option (zF × Int32) :=
    (fX12_comesIn_28 N n N f a0 a1 a2 a4 t0 (1 : Int32))
set_option maxRecDepth 100000 in
set_option maxHeartbeats 4000000 in
theorem gX12_comesIn_23 (l : Launch) {G : zG} {p : Program} {e : Env} {s : State} {m : MethodId} {args : Array Value} {below : List Frame} {meth : Method} {c : Code} {N n : Nat} {f9 : zF} {r : Int32} (B : zB G p s m args meth c RX12 cX12_comesIn 7 (some .int)) : ∀ (f : zF) (a0 : Nat) (a1 : Int32) (a2 : Int32) (a4 : Int32) (t0 : Int32) (H : Heap) (locs : List Loc) (ls : Array Slot), fX12_comesIn_23 N n f a0 a1 a2 a4 t0 = some (f9, r) → zS G n f H locs → lv_has ls 7 [(0, zr G a0), (1, .int a1), (2, .int a2), (4, .int a4)] → W p l e (zrm 7) s m args below meth c H locs 0 0 (MQ below (zQc G n f9 (some (.int r))) args s 0 0 (zA G)) (F0 m 23 ls [.int t0]) := by
  have he := B.1
  have hb := B.2.1
  intro f a0 a1 a2 a4 t0 H locs ls h hS hl
  unfold fX12_comesIn_23 at h
  refine lv_istore (lv' := [(5, _), (0, _), (1, _), (2, _), (4, _)]) he hb dX12_comesIn_23 hl (by decide) rfl (fun ls hl => ?_)
  refine lv_iconst (v := (1 : Int32)) he hb dX12_comesIn_25 (by decide) ?_
  refine lv_istore (lv' := [(6, _), (5, _), (0, _), (1, _), (2, _), (4, _)]) he hb dX12_comesIn_26 hl (by decide) rfl (fun ls hl => ?_)
  exact gX12_comesIn_28 l B N _ _ _ _ _ _ _ _ _ _ h hS (lv_sub hl [2, 3, 4, 5, 1, 0] rfl)
def fX12_comesIn_22 (N n : Nat) (f : zF) (a0 : Nat) (a1 : Int32) (a2 : Int32) (a4 : Int32) : Option (zF × Int32) :=
    (fX12_comesIn_23 N n f a0 a1 a2 a4 (-1 : Int32))
set_option maxRecDepth 100000 in
set_option maxHeartbeats 4000000 in
theorem gX12_comesIn_22 (l : Launch) {G : zG} {p : Program} {e : Env} {s : State} {m : MethodId} {args : Array Value} {below : List Frame} {meth : Method} {c : Code} {N n : Nat} {f9 : zF} {r : Int32} (B : zB G p s m args meth c RX12 cX12_comesIn 7 (some .int)) : ∀ (f : zF) (a0 : Nat) (a1 : Int32) (a2 : Int32) (a4 : Int32) (H : Heap) (locs : List Loc) (ls : Array Slot), fX12_comesIn_22 N n f a0 a1 a2 a4 = some (f9, r) → zS G n f H locs → lv_has ls 7 [(0, zr G a0), (1, .int a1), (2, .int a2), (4, .int a4)] → W p l e (zrm 7) s m args below meth c H locs 0 0 (MQ below (zQc G n f9 (some (.int r))) args s 0 0 (zA G)) (F0 m 22 ls []) := by
  have he := B.1
  have hb := B.2.1
  intro f a0 a1 a2 a4 H locs ls h hS hl
  unfold fX12_comesIn_22 at h
  refine lv_iconst (v := (-1 : Int32)) he hb dX12_comesIn_22 (by decide) ?_
  exact gX12_comesIn_23 l B _ _ _ _ _ _ _ _ _ h hS (lv_sub hl [0, 1, 2, 3] rfl)
def fX12_comesIn (N n : Nat) (f : zF) (a0 : Nat) (a1 : Int32) (a2 : Int32) (a3 : Int32) (a4 : Int32) : Option (zF × Int32) :=
    (if a3 = 0 then ((zgR n f 12 a0 6).bind fun x5 => ((zlI n f 0 x5 ((141 : Int32) + a1)).bind fun x6 => (if x6 = a2 then (fX12_comesIn_23 N n f a0 a1 a2 a4 (0 : Int32)) else (fX12_comesIn_22 N n f a0 a1 a2 a4)))) else (fX12_comesIn_22 N n f a0 a1 a2 a4))
set_option maxRecDepth 100000 in
set_option maxHeartbeats 4000000 in
theorem mX12_comesIn (l : Launch) (G : zG) {N n : Nat} {f : zF} {f9 : zF} {r : Int32} {a0 : Nat} {a1 : Int32} {a2 : Int32} {a3 : Int32} {a4 : Int32} (h : fX12_comesIn N n f a0 a1 a2 a3 a4 = some (f9, r)) : zM l G yX12_comesIn cX12_comesIn 7 (some .int) 7 n f [zr G a0, .int a1, .int a2, .int a3, .int a4] (some (.int r)) f9 := by
  refine zM.of (by decide) (Nat.le_of_ble_eq_true rfl) ?_
  intro p e s m args below meth c locs ls B hS hl
  have he := B.1
  have hb := B.2.1
  have hl : lv_has ls 7 [(0, zr G a0), (1, .int a1), (2, .int a2), (3, .int a3), (4, .int a4)] := hl
  unfold fX12_comesIn at h
  generalize s.heap = H at hS ⊢
  refine lv_iload_n he hb dX12_comesIn_0 rfl (lv_at hl 3 rfl) ?_
  refine lv_if_ne (tgt := 22) he hb dX12_comesIn_1 (by decide) (fun hc => ?_) (fun hc => ?_)
  · rw [if_neg hc] at h
    exact gX12_comesIn_22 l B _ _ _ _ _ _ _ _ h hS (lv_sub hl [0, 1, 2, 4] rfl)
  · rw [if_pos hc] at h
    refine z_aload_n he hb dX12_comesIn_4 rfl (lv_at hl 0 rfl) (zref_r _ _) ?_
    obtain ⟨x5, hx, h⟩ := zob h
    refine z_getR (ci := 12) (T := TX12) (N := 50) (j := 6) B hS hx rfl zin_X12 (by decide) zk_1353 dX12_comesIn_5 ?_
    refine lv_sipush (v := (141 : Int32)) he hb dX12_comesIn_8 (by decide) ?_
    refine lv_iload_n he hb dX12_comesIn_11 rfl (lv_at hl 1 rfl) ?_
    refine lv_iadd he hb dX12_comesIn_12 ?_
    obtain ⟨x6, hx, h⟩ := zob h
    refine z_ildI B hS hx dX12_comesIn_13 ?_
    refine lv_iload_n he hb dX12_comesIn_14 rfl (lv_at hl 2 rfl) ?_
    refine lv_icmp_ne (tgt := 22) he hb dX12_comesIn_15 (by decide) (fun hc => ?_) (fun hc => ?_)
    · rw [if_neg hc] at h
      exact gX12_comesIn_22 l B _ _ _ _ _ _ _ _ h hS (lv_sub hl [0, 1, 2, 4] rfl)
    · rw [if_pos hc] at h
      refine lv_iconst (v := (0 : Int32)) he hb dX12_comesIn_18 (by decide) ?_
      refine lv_goto (tgt := 23) he hb dX12_comesIn_19 (by decide) ?_
      exact gX12_comesIn_23 l B _ _ _ _ _ _ _ _ _ h hS (lv_sub hl [0, 1, 2, 4] rfl)
theorem dX12_comes_0 : decode cX12_comes 0 = .ok (.aload_n 0, 1) := by decide +kernel
theorem dX12_comes_1 : decode cX12_comes 1 = .ok (.iconst 0, 1) := by decide +kernel
theorem dX12_comes_2 : decode cX12_comes 2 = .ok (.putfield 1, 3) := by decide +kernel
theorem dX12_comes_5 : decode cX12_comes 5 = .ok (.aload_n 0, 1) := by decide +kernel
theorem dX12_comes_6 : decode cX12_comes 6 = .ok (.iload_n 1, 1) := by decide +kernel
theorem dX12_comes_7 : decode cX12_comes 7 = .ok (.invokevirtual 304, 3) := by decide +kernel
theorem dX12_comes_10 : decode cX12_comes 10 = .ok (.ifCond .eq 12, 3) := by decide +kernel
theorem dX12_comes_13 : decode cX12_comes 13 = .ok (.aload_n 0, 1) := by decide +kernel
theorem dX12_comes_14 : decode cX12_comes 14 = .ok (.iload_n 2, 1) := by decide +kernel
theorem dX12_comes_15 : decode cX12_comes 15 = .ok (.iload_n 3, 1) := by decide +kernel
theorem dX12_comes_16 : decode cX12_comes 16 = .ok (.invokevirtual 277, 3) := by decide +kernel
theorem dX12_comes_19 : decode cX12_comes 19 = .ok (.ifCond .ne 5, 3) := by decide +kernel
theorem dX12_comes_22 : decode cX12_comes 22 = .ok (.iconst (-1), 1) := by decide +kernel
theorem dX12_comes_23 : decode cX12_comes 23 = .ok (.ireturn, 1) := by decide +kernel
theorem dX12_comes_24 : decode cX12_comes 24 = .ok (.aload_n 0, 1) := by decide +kernel
theorem dX12_comes_25 : decode cX12_comes 25 = .ok (.invokevirtual 348, 3) := by decide +kernel
theorem dX12_comes_28 : decode cX12_comes 28 = .ok (.aload_n 0, 1) := by decide +kernel
theorem dX12_comes_29 : decode cX12_comes 29 = .ok (.iload_n 1, 1) := by decide +kernel
theorem dX12_comes_30 : decode cX12_comes 30 = .ok (.bipush 9, 2) := by decide +kernel
theorem dX12_comes_32 : decode cX12_comes 32 = .ok (.iload_n 3, 1) := by decide +kernel
theorem dX12_comes_33 : decode cX12_comes 33 = .ok (.imul, 1) := by decide +kernel
theorem dX12_comes_34 : decode cX12_comes 34 = .ok (.iload_n 2, 1) := by decide +kernel
theorem dX12_comes_35 : decode cX12_comes 35 = .ok (.iadd, 1) := by decide +kernel
theorem dX12_comes_36 : decode cX12_comes 36 = .ok (.iconst 0, 1) := by decide +kernel
theorem dX12_comes_37 : decode cX12_comes 37 = .ok (.sipush 200, 3) := by decide +kernel
theorem dX12_comes_40 : decode cX12_comes 40 = .ok (.invokevirtual 354, 3) := by decide +kernel
theorem dX12_comes_43 : decode cX12_comes 43 = .ok (.ireturn, 1) := by decide +kernel
def fX12_comes (N n : Nat) (f : zF) (a0 : Nat) (a1 : Int32) (a2 : Int32) (a3 : Int32) : Option (zF × Int32) :=
    ((zpI n f 12 a0 0 (0 : Int32)).bind fun f1 => ((zck n f1 12 a0).bind fun _ => ((fX12_isFigure N n f1 a0 a1).bind fun x2 => (if x2 = 0 then some (f1, (-1 : Int32)) else ((zck n f1 12 a0).bind fun _ => ((fX12_isCell N n f1 a0 a2 a3).bind fun x3 => (if x3 = 0 then some (f1, (-1 : Int32)) else ((zck n f1 12 a0).bind fun _ => ((fX12_tries N n f1 a0).bind fun f4 => ((zck n f4 12 a0).bind fun _ => (zbd (fX12_comesIn N n f4 a0 a1 (((9 : Int32) * a3) + a2) (0 : Int32) (200 : Int32)) fun f6 x5 => some (f6, x5))))))))))))
set_option maxRecDepth 100000 in
set_option maxHeartbeats 4000000 in
theorem mX12_comes (l : Launch) (G : zG) {N n : Nat} {f : zF} {f9 : zF} {r : Int32} {a0 : Nat} {a1 : Int32} {a2 : Int32} {a3 : Int32} (h : fX12_comes N n f a0 a1 a2 a3 = some (f9, r)) : zM l G yX12_comes cX12_comes 4 (some .int) 8 n f [zr G a0, .int a1, .int a2, .int a3] (some (.int r)) f9 := by
  refine zM.of (by decide) (Nat.le_of_ble_eq_true rfl) ?_
  intro p e s m args below meth c locs ls B hS hl
  have he := B.1
  have hb := B.2.1
  have hl : lv_has ls 4 [(0, zr G a0), (1, .int a1), (2, .int a2), (3, .int a3)] := hl
  unfold fX12_comes at h
  generalize s.heap = H at hS ⊢
  refine z_aload_n he hb dX12_comes_0 rfl (lv_at hl 0 rfl) (zref_r _ _) ?_
  refine lv_iconst (v := (0 : Int32)) he hb dX12_comes_1 (by decide) ?_
  obtain ⟨f1, hx, h⟩ := zob h
  refine z_putI (ci := 12) (T := TX12) (N := 50) (j := 0) B hS hx rfl zin_X12 tyX12 tyX12_ok nmX12 (by decide) zk_1347 rfl rfl dX12_comes_2 (fun H locs hS => ?_)
  refine z_aload_n he hb dX12_comes_5 rfl (lv_at hl 0 rfl) (zref_r _ _) ?_
  refine lv_iload_n he hb dX12_comes_6 rfl (lv_at hl 1 rfl) ?_
  obtain ⟨_, hc, h⟩ := zob h
  obtain ⟨x2, hx, h⟩ := zob h
  refine z_callV (ci := 12) (T := TX12) (N := 50) (rest := []) B hS (mX12_isFigure l G hx) zy_X12_isFigure zk_1624 (by decide) hc rfl rfl hl rfl (Nat.le_of_ble_eq_true rfl) dX12_comes_7 (kk := (fun H locs hS => ?_))
  refine lv_if_eq (tgt := 22) he hb dX12_comes_10 (by decide) (fun hc => ?_) (fun hc => ?_)
  · rw [if_pos hc] at h
    refine lv_iconst (v := (-1 : Int32)) he hb dX12_comes_22 (by decide) ?_
    obtain ⟨rfl, rfl⟩ := Prod.mk.inj (Option.some.inj h)
    exact z_iret B hS dX12_comes_23
  · rw [if_neg hc] at h
    refine z_aload_n he hb dX12_comes_13 rfl (lv_at hl 0 rfl) (zref_r _ _) ?_
    refine lv_iload_n he hb dX12_comes_14 rfl (lv_at hl 2 rfl) ?_
    refine lv_iload_n he hb dX12_comes_15 rfl (lv_at hl 3 rfl) ?_
    obtain ⟨_, hc, h⟩ := zob h
    obtain ⟨x3, hx, h⟩ := zob h
    refine z_callV (ci := 12) (T := TX12) (N := 50) (rest := []) B hS (mX12_isCell l G hx) zy_X12_isCell zk_1612 (by decide) hc rfl rfl hl rfl (Nat.le_of_ble_eq_true rfl) dX12_comes_16 (kk := (fun H locs hS => ?_))
    refine lv_if_ne (tgt := 24) he hb dX12_comes_19 (by decide) (fun hc => ?_) (fun hc => ?_)
    · rw [if_neg hc] at h
      refine z_aload_n he hb dX12_comes_24 rfl (lv_at hl 0 rfl) (zref_r _ _) ?_
      obtain ⟨_, hc, h⟩ := zob h
      obtain ⟨f4, hx, h⟩ := zob h
      refine z_callV (ci := 12) (T := TX12) (N := 50) (rest := []) B hS (mX12_tries l G hx) zy_X12_tries zk_1759 (by decide) hc rfl rfl hl rfl (Nat.le_of_ble_eq_true rfl) dX12_comes_25 (kk := (fun H locs hS => ?_))
      refine z_aload_n he hb dX12_comes_28 rfl (lv_at hl 0 rfl) (zref_r _ _) ?_
      refine lv_iload_n he hb dX12_comes_29 rfl (lv_at hl 1 rfl) ?_
      refine lv_bipush (v := (9 : Int32)) he hb dX12_comes_30 (by decide) ?_
      refine lv_iload_n he hb dX12_comes_32 rfl (lv_at hl 3 rfl) ?_
      refine lv_imul he hb dX12_comes_33 ?_
      refine lv_iload_n he hb dX12_comes_34 rfl (lv_at hl 2 rfl) ?_
      refine lv_iadd he hb dX12_comes_35 ?_
      refine lv_iconst (v := (0 : Int32)) he hb dX12_comes_36 (by decide) ?_
      refine lv_sipush (v := (200 : Int32)) he hb dX12_comes_37 (by decide) ?_
      obtain ⟨_, hc, h⟩ := zob h
      obtain ⟨f6, x5, hx, h⟩ := zbd_i h
      refine z_callV (ci := 12) (T := TX12) (N := 50) (rest := []) B hS (mX12_comesIn l G hx) zy_X12_comesIn zk_1771 (by decide) hc rfl rfl hl rfl (Nat.le_of_ble_eq_true rfl) dX12_comes_40 (kk := (fun H locs hS => ?_))
      obtain ⟨rfl, rfl⟩ := Prod.mk.inj (Option.some.inj h)
      exact z_iret B hS dX12_comes_43
    · rw [if_pos hc] at h
      refine lv_iconst (v := (-1 : Int32)) he hb dX12_comes_22 (by decide) ?_
      obtain ⟨rfl, rfl⟩ := Prod.mk.inj (Option.some.inj h)
      exact z_iret B hS dX12_comes_23
theorem dX12_blind_0 : decode cX12_blind 0 = .ok (.aload_n 0, 1) := by decide +kernel
theorem dX12_blind_1 : decode cX12_blind 1 = .ok (.iconst 0, 1) := by decide +kernel
theorem dX12_blind_2 : decode cX12_blind 2 = .ok (.putfield 1, 3) := by decide +kernel
theorem dX12_blind_5 : decode cX12_blind 5 = .ok (.aload_n 0, 1) := by decide +kernel
theorem dX12_blind_6 : decode cX12_blind 6 = .ok (.iload_n 1, 1) := by decide +kernel
theorem dX12_blind_7 : decode cX12_blind 7 = .ok (.invokevirtual 304, 3) := by decide +kernel
theorem dX12_blind_10 : decode cX12_blind 10 = .ok (.ifCond .eq 23, 3) := by decide +kernel
theorem dX12_blind_13 : decode cX12_blind 13 = .ok (.aload_n 0, 1) := by decide +kernel
theorem dX12_blind_14 : decode cX12_blind 14 = .ok (.iload_n 2, 1) := by decide +kernel
theorem dX12_blind_15 : decode cX12_blind 15 = .ok (.iload_n 3, 1) := by decide +kernel
theorem dX12_blind_16 : decode cX12_blind 16 = .ok (.invokevirtual 277, 3) := by decide +kernel
theorem dX12_blind_19 : decode cX12_blind 19 = .ok (.ifCond .eq 14, 3) := by decide +kernel
theorem dX12_blind_22 : decode cX12_blind 22 = .ok (.iload 4, 2) := by decide +kernel
theorem dX12_blind_24 : decode cX12_blind 24 = .ok (.iconst 1, 1) := by decide +kernel
theorem dX12_blind_25 : decode cX12_blind 25 = .ok (.bipush 60, 2) := by decide +kernel
theorem dX12_blind_27 : decode cX12_blind 27 = .ok (.invokestatic 192, 3) := by decide +kernel
theorem dX12_blind_30 : decode cX12_blind 30 = .ok (.ifCond .ne 5, 3) := by decide +kernel
theorem dX12_blind_33 : decode cX12_blind 33 = .ok (.iconst (-1), 1) := by decide +kernel
theorem dX12_blind_34 : decode cX12_blind 34 = .ok (.ireturn, 1) := by decide +kernel
theorem dX12_blind_35 : decode cX12_blind 35 = .ok (.aload_n 0, 1) := by decide +kernel
theorem dX12_blind_36 : decode cX12_blind 36 = .ok (.invokevirtual 348, 3) := by decide +kernel
theorem dX12_blind_39 : decode cX12_blind 39 = .ok (.iconst (-1), 1) := by decide +kernel
theorem dX12_blind_40 : decode cX12_blind 40 = .ok (.istore 5, 2) := by decide +kernel
theorem dX12_blind_42 : decode cX12_blind 42 = .ok (.iconst 0, 1) := by decide +kernel
theorem dX12_blind_43 : decode cX12_blind 43 = .ok (.istore 6, 2) := by decide +kernel
theorem dX12_blind_45 : decode cX12_blind 45 = .ok (.iload 6, 2) := by decide +kernel
theorem dX12_blind_47 : decode cX12_blind 47 = .ok (.iconst 1, 1) := by decide +kernel
theorem dX12_blind_48 : decode cX12_blind 48 = .ok (.aload_n 0, 1) := by decide +kernel
theorem dX12_blind_49 : decode cX12_blind 49 = .ok (.getfield 33, 3) := by decide +kernel
theorem dX12_blind_52 : decode cX12_blind 52 = .ok (.iconst 4, 1) := by decide +kernel
theorem dX12_blind_53 : decode cX12_blind 53 = .ok (.iaload, 1) := by decide +kernel
theorem dX12_blind_54 : decode cX12_blind 54 = .ok (.ishl, 1) := by decide +kernel
theorem dX12_blind_55 : decode cX12_blind 55 = .ok (.if_icmp .ge 78, 3) := by decide +kernel
theorem dX12_blind_58 : decode cX12_blind 58 = .ok (.iload 6, 2) := by decide +kernel
theorem dX12_blind_60 : decode cX12_blind 60 = .ok (.aload_n 0, 1) := by decide +kernel
theorem dX12_blind_61 : decode cX12_blind 61 = .ok (.getfield 33, 3) := by decide +kernel
theorem dX12_blind_64 : decode cX12_blind 64 = .ok (.sipush 140, 3) := by decide +kernel
theorem dX12_blind_67 : decode cX12_blind 67 = .ok (.iaload, 1) := by decide +kernel
theorem dX12_blind_68 : decode cX12_blind 68 = .ok (.iand, 1) := by decide +kernel
theorem dX12_blind_69 : decode cX12_blind 69 = .ok (.ifCond .ne 58, 3) := by decide +kernel
theorem dX12_blind_72 : decode cX12_blind 72 = .ok (.iload 5, 2) := by decide +kernel
theorem dX12_blind_74 : decode cX12_blind 74 = .ok (.ifCond .lt 19, 3) := by decide +kernel
theorem dX12_blind_77 : decode cX12_blind 77 = .ok (.iload 6, 2) := by decide +kernel
theorem dX12_blind_79 : decode cX12_blind 79 = .ok (.invokestatic 358, 3) := by decide +kernel
theorem dX12_blind_82 : decode cX12_blind 82 = .ok (.iload 5, 2) := by decide +kernel
theorem dX12_blind_84 : decode cX12_blind 84 = .ok (.invokestatic 358, 3) := by decide +kernel
theorem dX12_blind_87 : decode cX12_blind 87 = .ok (.if_icmp .lt 6, 3) := by decide +kernel
theorem dX12_blind_90 : decode cX12_blind 90 = .ok (.goto 37, 3) := by decide +kernel
theorem dX12_blind_93 : decode cX12_blind 93 = .ok (.aload_n 0, 1) := by decide +kernel
theorem dX12_blind_94 : decode cX12_blind 94 = .ok (.getfield 33, 3) := by decide +kernel
theorem dX12_blind_97 : decode cX12_blind 97 = .ok (.sipush 140, 3) := by decide +kernel
theorem dX12_blind_100 : decode cX12_blind 100 = .ok (.dup2, 1) := by decide +kernel
theorem dX12_blind_101 : decode cX12_blind 101 = .ok (.iaload, 1) := by decide +kernel
theorem dX12_blind_102 : decode cX12_blind 102 = .ok (.iload 6, 2) := by decide +kernel
theorem dX12_blind_104 : decode cX12_blind 104 = .ok (.ior, 1) := by decide +kernel
theorem dX12_blind_105 : decode cX12_blind 105 = .ok (.iastore, 1) := by decide +kernel
theorem dX12_blind_106 : decode cX12_blind 106 = .ok (.aload_n 0, 1) := by decide +kernel
theorem dX12_blind_107 : decode cX12_blind 107 = .ok (.iload_n 1, 1) := by decide +kernel
theorem dX12_blind_108 : decode cX12_blind 108 = .ok (.bipush 9, 2) := by decide +kernel
theorem dX12_blind_110 : decode cX12_blind 110 = .ok (.iload_n 3, 1) := by decide +kernel
theorem dX12_blind_111 : decode cX12_blind 111 = .ok (.imul, 1) := by decide +kernel
theorem dX12_blind_112 : decode cX12_blind 112 = .ok (.iload_n 2, 1) := by decide +kernel
theorem dX12_blind_113 : decode cX12_blind 113 = .ok (.iadd, 1) := by decide +kernel
theorem dX12_blind_114 : decode cX12_blind 114 = .ok (.iconst 1, 1) := by decide +kernel
theorem dX12_blind_115 : decode cX12_blind 115 = .ok (.iload 4, 2) := by decide +kernel
theorem dX12_blind_117 : decode cX12_blind 117 = .ok (.invokevirtual 354, 3) := by decide +kernel
theorem dX12_blind_120 : decode cX12_blind 120 = .ok (.ifCond .le 7, 3) := by decide +kernel
theorem dX12_blind_123 : decode cX12_blind 123 = .ok (.iload 6, 2) := by decide +kernel
theorem dX12_blind_125 : decode cX12_blind 125 = .ok (.istore 5, 2) := by decide +kernel
theorem dX12_blind_127 : decode cX12_blind 127 = .ok (.iinc 6 1, 3) := by decide +kernel
theorem dX12_blind_130 : decode cX12_blind 130 = .ok (.goto (-85), 3) := by decide +kernel
theorem dX12_blind_133 : decode cX12_blind 133 = .ok (.iload 5, 2) := by decide +kernel
theorem dX12_blind_135 : decode cX12_blind 135 = .ok (.ifCond .ge 5, 3) := by decide +kernel
theorem dX12_blind_138 : decode cX12_blind 138 = .ok (.iconst (-1), 1) := by decide +kernel
theorem dX12_blind_139 : decode cX12_blind 139 = .ok (.ireturn, 1) := by decide +kernel
theorem dX12_blind_140 : decode cX12_blind 140 = .ok (.aload_n 0, 1) := by decide +kernel
theorem dX12_blind_141 : decode cX12_blind 141 = .ok (.iconst 1, 1) := by decide +kernel
theorem dX12_blind_142 : decode cX12_blind 142 = .ok (.putfield 361, 3) := by decide +kernel
theorem dX12_blind_145 : decode cX12_blind 145 = .ok (.aload_n 0, 1) := by decide +kernel
theorem dX12_blind_146 : decode cX12_blind 146 = .ok (.iload 5, 2) := by decide +kernel
theorem dX12_blind_148 : decode cX12_blind 148 = .ok (.putfield 364, 3) := by decide +kernel
theorem dX12_blind_151 : decode cX12_blind 151 = .ok (.iload 5, 2) := by decide +kernel
theorem dX12_blind_153 : decode cX12_blind 153 = .ok (.invokestatic 358, 3) := by decide +kernel
theorem dX12_blind_156 : decode cX12_blind 156 = .ok (.ireturn, 1) := by decide +kernel
def fX12_blind_127 (r45 : zF → Nat → Int32 → Int32 → Int32 → Int32 → Int32 → Int32 → Option (zF × Int32)) (N n : Nat) (f : zF) (a0 : Nat) (a1 : Int32) (a2 : Int32) (a3 : Int32) (a4 : Int32) (a5 : Int32) (a6 : Int32) : Option (zF × Int32) :=
    (r45 f a0 a1 a2 a3 a4 a5 (a6 + 1))
set_option maxRecDepth 100000 in
set_option maxHeartbeats 4000000 in
theorem gX12_blind_127 (l : Launch) {G : zG} {p : Program} {e : Env} {s : State} {m : MethodId} {args : Array Value} {below : List Frame} {meth : Method} {c : Code} {N n : Nat} {f9 : zF} {r : Int32} {r45 : zF → Nat → Int32 → Int32 → Int32 → Int32 → Int32 → Int32 → Option (zF × Int32)} (B : zB G p s m args meth c RX12 cX12_blind 7 (some .int)) (hr45 : ∀ (f : zF) (a0 : Nat) (a1 : Int32) (a2 : Int32) (a3 : Int32) (a4 : Int32) (a5 : Int32) (a6 : Int32) (H : Heap) (locs : List Loc) (ls : Array Slot), r45 f a0 a1 a2 a3 a4 a5 a6 = some (f9, r) → zS G n f H locs → lv_has ls 7 [(0, zr G a0), (1, .int a1), (2, .int a2), (3, .int a3), (4, .int a4), (5, .int a5), (6, .int a6)] → W p l e (zrm 8) s m args below meth c H locs 0 0 (MQ below (zQc G n f9 (some (.int r))) args s 0 0 (zA G)) (F0 m 45 ls [])) : ∀ (f : zF) (a0 : Nat) (a1 : Int32) (a2 : Int32) (a3 : Int32) (a4 : Int32) (a5 : Int32) (a6 : Int32) (H : Heap) (locs : List Loc) (ls : Array Slot), fX12_blind_127 r45 N n f a0 a1 a2 a3 a4 a5 a6 = some (f9, r) → zS G n f H locs → lv_has ls 7 [(0, zr G a0), (1, .int a1), (2, .int a2), (3, .int a3), (4, .int a4), (5, .int a5), (6, .int a6)] → W p l e (zrm 8) s m args below meth c H locs 0 0 (MQ below (zQc G n f9 (some (.int r))) args s 0 0 (zA G)) (F0 m 127 ls []) := by
  have he := B.1
  have hb := B.2.1
  intro f a0 a1 a2 a3 a4 a5 a6 H locs ls h hS hl
  unfold fX12_blind_127 at h
  refine lv_iinc (v := (a6 + 1)) (lv' := [(6, _), (0, _), (1, _), (2, _), (3, _), (4, _), (5, _)]) he hb dX12_blind_127 hl (k := 6) rfl rfl (by decide) rfl (fun ls hl => ?_)
  refine lv_goto (tgt := 45) he hb dX12_blind_130 (by decide) ?_
  exact hr45 _ _ _ _ _ _ _ _ _ _ _ h hS (lv_sub hl [1, 2, 3, 4, 5, 6, 0] rfl)
def fX12_blind_93 (r45 : zF → Nat → Int32 → Int32 → Int32 → Int32 → Int32 → Int32 → Option (zF × Int32)) (N n : Nat) (f : zF) (a0 : Nat) (a1 : Int32) (a2 : Int32) (a3 : Int32) (a4 : Int32) (a5 : Int32) (a6 : Int32) : Option (zF × Int32) :=
    ((zgR n f 12 a0 6).bind fun x13 => ((zlI n f 0 x13 (140 : Int32)).bind fun x14 => ((zsI n f 0 x13 (140 : Int32) (x14 ||| a6)).bind fun f15 => ((zck n f15 12 a0).bind fun _ => (zbd (fX12_comesIn N n f15 a0 a1 (((9 : Int32) * a3) + a2) (1 : Int32) a4) fun f17 x16 => (if x16 ≤ 0 then (fX12_blind_127 r45 N n f17 a0 a1 a2 a3 a4 a5 a6) else (fX12_blind_127 r45 N n f17 a0 a1 a2 a3 a4 a6 a6)))))))
set_option maxRecDepth 100000 in
set_option maxHeartbeats 4000000 in
theorem gX12_blind_93 (l : Launch) {G : zG} {p : Program} {e : Env} {s : State} {m : MethodId} {args : Array Value} {below : List Frame} {meth : Method} {c : Code} {N n : Nat} {f9 : zF} {r : Int32} {r45 : zF → Nat → Int32 → Int32 → Int32 → Int32 → Int32 → Int32 → Option (zF × Int32)} (B : zB G p s m args meth c RX12 cX12_blind 7 (some .int)) (hr45 : ∀ (f : zF) (a0 : Nat) (a1 : Int32) (a2 : Int32) (a3 : Int32) (a4 : Int32) (a5 : Int32) (a6 : Int32) (H : Heap) (locs : List Loc) (ls : Array Slot), r45 f a0 a1 a2 a3 a4 a5 a6 = some (f9, r) → zS G n f H locs → lv_has ls 7 [(0, zr G a0), (1, .int a1), (2, .int a2), (3, .int a3), (4, .int a4), (5, .int a5), (6, .int a6)] → W p l e (zrm 8) s m args below meth c H locs 0 0 (MQ below (zQc G n f9 (some (.int r))) args s 0 0 (zA G)) (F0 m 45 ls [])) : ∀ (f : zF) (a0 : Nat) (a1 : Int32) (a2 : Int32) (a3 : Int32) (a4 : Int32) (a5 : Int32) (a6 : Int32) (H : Heap) (locs : List Loc) (ls : Array Slot), fX12_blind_93 r45 N n f a0 a1 a2 a3 a4 a5 a6 = some (f9, r) → zS G n f H locs → lv_has ls 7 [(0, zr G a0), (1, .int a1), (2, .int a2), (3, .int a3), (4, .int a4), (5, .int a5), (6, .int a6)] → W p l e (zrm 8) s m args below meth c H locs 0 0 (MQ below (zQc G n f9 (some (.int r))) args s 0 0 (zA G)) (F0 m 93 ls []) := by
  have he := B.1
  have hb := B.2.1
  intro f a0 a1 a2 a3 a4 a5 a6 H locs ls h hS hl
  unfold fX12_blind_93 at h
  refine z_aload_n he hb dX12_blind_93 rfl (lv_at hl 0 rfl) (zref_r _ _) ?_
  obtain ⟨x13, hx, h⟩ := zob h
  refine z_getR (ci := 12) (T := TX12) (N := 50) (j := 6) B hS hx rfl zin_X12 (by decide) zk_1353 dX12_blind_94 ?_
  refine lv_sipush (v := (140 : Int32)) he hb dX12_blind_97 (by decide) ?_
  refine lv_dup2_11 he hb dX12_blind_100 rfl rfl ?_
  obtain ⟨x14, hx, h⟩ := zob h
  refine z_ildI B hS hx dX12_blind_101 ?_
  refine lv_iload he hb dX12_blind_102 (lv_at hl 6 rfl) ?_
  refine lv_ior he hb dX12_blind_104 ?_
  obtain ⟨f15, hx, h⟩ := zob h
  refine z_istI B hS hx dX12_blind_105 (fun H locs hS => ?_)
  refine z_aload_n he hb dX12_blind_106 rfl (lv_at hl 0 rfl) (zref_r _ _) ?_
  refine lv_iload_n he hb dX12_blind_107 rfl (lv_at hl 1 rfl) ?_
  refine lv_bipush (v := (9 : Int32)) he hb dX12_blind_108 (by decide) ?_
  refine lv_iload_n he hb dX12_blind_110 rfl (lv_at hl 3 rfl) ?_
  refine lv_imul he hb dX12_blind_111 ?_
  refine lv_iload_n he hb dX12_blind_112 rfl (lv_at hl 2 rfl) ?_
  refine lv_iadd he hb dX12_blind_113 ?_
  refine lv_iconst (v := (1 : Int32)) he hb dX12_blind_114 (by decide) ?_
  refine lv_iload he hb dX12_blind_115 (lv_at hl 4 rfl) ?_
  obtain ⟨_, hc, h⟩ := zob h
  obtain ⟨f17, x16, hx, h⟩ := zbd_i h
  refine z_callV (ci := 12) (T := TX12) (N := 50) (rest := []) B hS (mX12_comesIn l G hx) zy_X12_comesIn zk_1771 (by decide) hc rfl rfl hl rfl (Nat.le_of_ble_eq_true rfl) dX12_blind_117 (kk := (fun H locs hS => ?_))
  refine lv_if_le (tgt := 127) he hb dX12_blind_120 (by decide) (fun hc => ?_) (fun hc => ?_)
  · rw [if_pos hc] at h
    exact gX12_blind_127 l B hr45 _ _ _ _ _ _ _ _ _ _ _ h hS (lv_sub hl [0, 1, 2, 3, 4, 5, 6] rfl)
  · rw [if_neg hc] at h
    refine lv_iload he hb dX12_blind_123 (lv_at hl 6 rfl) ?_
    refine lv_istore (lv' := [(5, _), (0, _), (1, _), (2, _), (3, _), (4, _), (6, _)]) he hb dX12_blind_125 hl (by decide) rfl (fun ls hl => ?_)
    exact gX12_blind_127 l B hr45 _ _ _ _ _ _ _ _ _ _ _ h hS (lv_sub hl [1, 2, 3, 4, 5, 0, 6] rfl)
def fX12_blind_45 (N n : Nat) : Nat → zF → Nat → Int32 → Int32 → Int32 → Int32 → Int32 → Int32 → Option (zF × Int32)
  | 0, _, _, _, _, _, _, _, _ => none
  | k + 1, f, a0, a1, a2, a3, a4, a5, a6 =>
    ((zgR n f 12 a0 6).bind fun x6 => ((zlI n f 0 x6 (4 : Int32)).bind fun x7 => (if (zishl (1 : Int32) x7) ≤ a6 then (if 0 ≤ a5 then ((zpZ n f 12 a0 25 (1 : Int32)).bind fun f8 => ((zpI n f8 12 a0 24 a5).bind fun f9 => ((fX12_bits N n f9 a5).bind fun x10 => some (f9, x10)))) else some (f, (-1 : Int32))) else ((zgR n f 12 a0 6).bind fun x11 => ((zlI n f 0 x11 (140 : Int32)).bind fun x12 => (if (a6 &&& x12) = 0 then (if a5 < 0 then (fX12_blind_93 (fX12_blind_45 N n k) N n f a0 a1 a2 a3 a4 a5 a6) else ((fX12_bits N n f a6).bind fun x18 => ((fX12_bits N n f a5).bind fun x19 => (if x18 < x19 then (fX12_blind_93 (fX12_blind_45 N n k) N n f a0 a1 a2 a3 a4 a5 a6) else (fX12_blind_127 (fX12_blind_45 N n k) N n f a0 a1 a2 a3 a4 a5 a6))))) else (fX12_blind_127 (fX12_blind_45 N n k) N n f a0 a1 a2 a3 a4 a5 a6)))))))
set_option maxRecDepth 100000 in
set_option maxHeartbeats 4000000 in
theorem gX12_blind_45 (l : Launch) {G : zG} {p : Program} {e : Env} {s : State} {m : MethodId} {args : Array Value} {below : List Frame} {meth : Method} {c : Code} {N n : Nat} {f9 : zF} {r : Int32} (B : zB G p s m args meth c RX12 cX12_blind 7 (some .int)) : ∀ (k : Nat), ∀ (f : zF) (a0 : Nat) (a1 : Int32) (a2 : Int32) (a3 : Int32) (a4 : Int32) (a5 : Int32) (a6 : Int32) (H : Heap) (locs : List Loc) (ls : Array Slot), fX12_blind_45 N n k f a0 a1 a2 a3 a4 a5 a6 = some (f9, r) → zS G n f H locs → lv_has ls 7 [(0, zr G a0), (1, .int a1), (2, .int a2), (3, .int a3), (4, .int a4), (5, .int a5), (6, .int a6)] → W p l e (zrm 8) s m args below meth c H locs 0 0 (MQ below (zQc G n f9 (some (.int r))) args s 0 0 (zA G)) (F0 m 45 ls []) := by
  have he := B.1
  have hb := B.2.1
  intro k
  induction k with
  | zero =>
    intro f a0 a1 a2 a3 a4 a5 a6 H locs ls h
    unfold fX12_blind_45 at h
    cases h
  | succ k ih =>
    intro f a0 a1 a2 a3 a4 a5 a6 H locs ls h hS hl
    unfold fX12_blind_45 at h
    refine lv_iload he hb dX12_blind_45 (lv_at hl 6 rfl) ?_
    refine lv_iconst (v := (1 : Int32)) he hb dX12_blind_47 (by decide) ?_
    refine z_aload_n he hb dX12_blind_48 rfl (lv_at hl 0 rfl) (zref_r _ _) ?_
    obtain ⟨x6, hx, h⟩ := zob h
    refine z_getR (ci := 12) (T := TX12) (N := 50) (j := 6) B hS hx rfl zin_X12 (by decide) zk_1353 dX12_blind_49 ?_
    refine lv_iconst (v := (4 : Int32)) he hb dX12_blind_52 (by decide) ?_
    obtain ⟨x7, hx, h⟩ := zob h
    refine z_ildI B hS hx dX12_blind_53 ?_
    refine z_ishl he hb dX12_blind_54 ?_
    refine lv_icmp_ge (tgt := 133) he hb dX12_blind_55 (by decide) (fun hc => ?_) (fun hc => ?_)
    · rw [if_pos hc] at h
      refine lv_iload he hb dX12_blind_133 (lv_at hl 5 rfl) ?_
      refine lv_if_ge (tgt := 140) he hb dX12_blind_135 (by decide) (fun hc => ?_) (fun hc => ?_)
      · rw [if_pos hc] at h
        refine z_aload_n he hb dX12_blind_140 rfl (lv_at hl 0 rfl) (zref_r _ _) ?_
        refine lv_iconst (v := (1 : Int32)) he hb dX12_blind_141 (by decide) ?_
        obtain ⟨f8, hx, h⟩ := zob h
        refine z_putZ (ci := 12) (T := TX12) (N := 50) (j := 25) B hS hx rfl zin_X12 tyX12 tyX12_ok nmX12 (by decide) zk_1372 rfl rfl dX12_blind_142 (fun H locs hS => ?_)
        refine z_aload_n he hb dX12_blind_145 rfl (lv_at hl 0 rfl) (zref_r _ _) ?_
        refine lv_iload he hb dX12_blind_146 (lv_at hl 5 rfl) ?_
        obtain ⟨f9, hx, h⟩ := zob h
        refine z_putI (ci := 12) (T := TX12) (N := 50) (j := 24) B hS hx rfl zin_X12 tyX12 tyX12_ok nmX12 (by decide) zk_1371 rfl rfl dX12_blind_148 (fun H locs hS => ?_)
        refine lv_iload he hb dX12_blind_151 (lv_at hl 5 rfl) ?_
        obtain ⟨x10, hx, h⟩ := zob h
        refine z_callS (rest := []) B hS (mX12_bits l G hx) zy_X12_bits zk_1779 (by decide) rfl hl rfl (Nat.le_of_ble_eq_true rfl) dX12_blind_153 (kk := (fun H locs hS => ?_))
        obtain ⟨rfl, rfl⟩ := Prod.mk.inj (Option.some.inj h)
        exact z_iret B hS dX12_blind_156
      · rw [if_neg hc] at h
        refine lv_iconst (v := (-1 : Int32)) he hb dX12_blind_138 (by decide) ?_
        obtain ⟨rfl, rfl⟩ := Prod.mk.inj (Option.some.inj h)
        exact z_iret B hS dX12_blind_139
    · rw [if_neg hc] at h
      refine lv_iload he hb dX12_blind_58 (lv_at hl 6 rfl) ?_
      refine z_aload_n he hb dX12_blind_60 rfl (lv_at hl 0 rfl) (zref_r _ _) ?_
      obtain ⟨x11, hx, h⟩ := zob h
      refine z_getR (ci := 12) (T := TX12) (N := 50) (j := 6) B hS hx rfl zin_X12 (by decide) zk_1353 dX12_blind_61 ?_
      refine lv_sipush (v := (140 : Int32)) he hb dX12_blind_64 (by decide) ?_
      obtain ⟨x12, hx, h⟩ := zob h
      refine z_ildI B hS hx dX12_blind_67 ?_
      refine lv_iand he hb dX12_blind_68 ?_
      refine lv_if_ne (tgt := 127) he hb dX12_blind_69 (by decide) (fun hc => ?_) (fun hc => ?_)
      · rw [if_neg hc] at h
        exact gX12_blind_127 l B ih _ _ _ _ _ _ _ _ _ _ _ h hS (lv_sub hl [0, 1, 2, 3, 4, 5, 6] rfl)
      · rw [if_pos hc] at h
        refine lv_iload he hb dX12_blind_72 (lv_at hl 5 rfl) ?_
        refine lv_if_lt (tgt := 93) he hb dX12_blind_74 (by decide) (fun hc => ?_) (fun hc => ?_)
        · rw [if_pos hc] at h
          exact gX12_blind_93 l B ih _ _ _ _ _ _ _ _ _ _ _ h hS (lv_sub hl [0, 1, 2, 3, 4, 5, 6] rfl)
        · rw [if_neg hc] at h
          refine lv_iload he hb dX12_blind_77 (lv_at hl 6 rfl) ?_
          obtain ⟨x18, hx, h⟩ := zob h
          refine z_callS (rest := []) B hS (mX12_bits l G hx) zy_X12_bits zk_1779 (by decide) rfl hl rfl (Nat.le_of_ble_eq_true rfl) dX12_blind_79 (kk := (fun H locs hS => ?_))
          refine lv_iload he hb dX12_blind_82 (lv_at hl 5 rfl) ?_
          obtain ⟨x19, hx, h⟩ := zob h
          refine z_callS (rest := [_]) B hS (mX12_bits l G hx) zy_X12_bits zk_1779 (by decide) rfl hl rfl (Nat.le_of_ble_eq_true rfl) dX12_blind_84 (kk := (fun H locs hS => ?_))
          refine lv_icmp_lt (tgt := 93) he hb dX12_blind_87 (by decide) (fun hc => ?_) (fun hc => ?_)
          · rw [if_pos hc] at h
            exact gX12_blind_93 l B ih _ _ _ _ _ _ _ _ _ _ _ h hS (lv_sub hl [0, 1, 2, 3, 4, 5, 6] rfl)
          · rw [if_neg hc] at h
            refine lv_goto (tgt := 127) he hb dX12_blind_90 (by decide) ?_
            exact gX12_blind_127 l B ih _ _ _ _ _ _ _ _ _ _ _ h hS (lv_sub hl [0, 1, 2, 3, 4, 5, 6] rfl)
def fX12_blind (N n : Nat) (f : zF) (a0 : Nat) (a1 : Int32) (a2 : Int32) (a3 : Int32) (a4 : Int32) : Option (zF × Int32) :=
    ((zpI n f 12 a0 0 (0 : Int32)).bind fun f1 => ((zck n f1 12 a0).bind fun _ => ((fX12_isFigure N n f1 a0 a1).bind fun x2 => (if x2 = 0 then some (f1, (-1 : Int32)) else ((zck n f1 12 a0).bind fun _ => ((fX12_isCell N n f1 a0 a2 a3).bind fun x3 => (if x3 = 0 then some (f1, (-1 : Int32)) else ((fX12_isIn N n f1 a4 (1 : Int32) (60 : Int32)).bind fun x4 => (if x4 = 0 then some (f1, (-1 : Int32)) else ((zck n f1 12 a0).bind fun _ => ((fX12_tries N n f1 a0).bind fun f5 => (fX12_blind_45 N n N f5 a0 a1 a2 a3 a4 (-1 : Int32) (0 : Int32)))))))))))))
set_option maxRecDepth 100000 in
set_option maxHeartbeats 4000000 in
theorem mX12_blind (l : Launch) (G : zG) {N n : Nat} {f : zF} {f9 : zF} {r : Int32} {a0 : Nat} {a1 : Int32} {a2 : Int32} {a3 : Int32} {a4 : Int32} (h : fX12_blind N n f a0 a1 a2 a3 a4 = some (f9, r)) : zM l G yX12_blind cX12_blind 7 (some .int) 8 n f [zr G a0, .int a1, .int a2, .int a3, .int a4] (some (.int r)) f9 := by
  refine zM.of (by decide) (Nat.le_of_ble_eq_true rfl) ?_
  intro p e s m args below meth c locs ls B hS hl
  have he := B.1
  have hb := B.2.1
  have hl : lv_has ls 7 [(0, zr G a0), (1, .int a1), (2, .int a2), (3, .int a3), (4, .int a4)] := hl
  unfold fX12_blind at h
  generalize s.heap = H at hS ⊢
  refine z_aload_n he hb dX12_blind_0 rfl (lv_at hl 0 rfl) (zref_r _ _) ?_
  refine lv_iconst (v := (0 : Int32)) he hb dX12_blind_1 (by decide) ?_
  obtain ⟨f1, hx, h⟩ := zob h
  refine z_putI (ci := 12) (T := TX12) (N := 50) (j := 0) B hS hx rfl zin_X12 tyX12 tyX12_ok nmX12 (by decide) zk_1347 rfl rfl dX12_blind_2 (fun H locs hS => ?_)
  refine z_aload_n he hb dX12_blind_5 rfl (lv_at hl 0 rfl) (zref_r _ _) ?_
  refine lv_iload_n he hb dX12_blind_6 rfl (lv_at hl 1 rfl) ?_
  obtain ⟨_, hc, h⟩ := zob h
  obtain ⟨x2, hx, h⟩ := zob h
  refine z_callV (ci := 12) (T := TX12) (N := 50) (rest := []) B hS (mX12_isFigure l G hx) zy_X12_isFigure zk_1624 (by decide) hc rfl rfl hl rfl (Nat.le_of_ble_eq_true rfl) dX12_blind_7 (kk := (fun H locs hS => ?_))
  refine lv_if_eq (tgt := 33) he hb dX12_blind_10 (by decide) (fun hc => ?_) (fun hc => ?_)
  · rw [if_pos hc] at h
    refine lv_iconst (v := (-1 : Int32)) he hb dX12_blind_33 (by decide) ?_
    obtain ⟨rfl, rfl⟩ := Prod.mk.inj (Option.some.inj h)
    exact z_iret B hS dX12_blind_34
  · rw [if_neg hc] at h
    refine z_aload_n he hb dX12_blind_13 rfl (lv_at hl 0 rfl) (zref_r _ _) ?_
    refine lv_iload_n he hb dX12_blind_14 rfl (lv_at hl 2 rfl) ?_
    refine lv_iload_n he hb dX12_blind_15 rfl (lv_at hl 3 rfl) ?_
    obtain ⟨_, hc, h⟩ := zob h
    obtain ⟨x3, hx, h⟩ := zob h
    refine z_callV (ci := 12) (T := TX12) (N := 50) (rest := []) B hS (mX12_isCell l G hx) zy_X12_isCell zk_1612 (by decide) hc rfl rfl hl rfl (Nat.le_of_ble_eq_true rfl) dX12_blind_16 (kk := (fun H locs hS => ?_))
    refine lv_if_eq (tgt := 33) he hb dX12_blind_19 (by decide) (fun hc => ?_) (fun hc => ?_)
    · rw [if_pos hc] at h
      refine lv_iconst (v := (-1 : Int32)) he hb dX12_blind_33 (by decide) ?_
      obtain ⟨rfl, rfl⟩ := Prod.mk.inj (Option.some.inj h)
      exact z_iret B hS dX12_blind_34
    · rw [if_neg hc] at h
      refine lv_iload he hb dX12_blind_22 (lv_at hl 4 rfl) ?_
      refine lv_iconst (v := (1 : Int32)) he hb dX12_blind_24 (by decide) ?_
      refine lv_bipush (v := (60 : Int32)) he hb dX12_blind_25 (by decide) ?_
      obtain ⟨x4, hx, h⟩ := zob h
      refine z_callS (rest := []) B hS (mX12_isIn l G hx) zy_X12_isIn zk_1545 (by decide) rfl hl rfl (Nat.le_of_ble_eq_true rfl) dX12_blind_27 (kk := (fun H locs hS => ?_))
      refine lv_if_ne (tgt := 35) he hb dX12_blind_30 (by decide) (fun hc => ?_) (fun hc => ?_)
      · rw [if_neg hc] at h
        refine z_aload_n he hb dX12_blind_35 rfl (lv_at hl 0 rfl) (zref_r _ _) ?_
        obtain ⟨_, hc, h⟩ := zob h
        obtain ⟨f5, hx, h⟩ := zob h
        refine z_callV (ci := 12) (T := TX12) (N := 50) (rest := []) B hS (mX12_tries l G hx) zy_X12_tries zk_1759 (by decide) hc rfl rfl hl rfl (Nat.le_of_ble_eq_true rfl) dX12_blind_36 (kk := (fun H locs hS => ?_))
        refine lv_iconst (v := (-1 : Int32)) he hb dX12_blind_39 (by decide) ?_
        refine lv_istore (lv' := [(5, _), (0, _), (1, _), (2, _), (3, _), (4, _)]) he hb dX12_blind_40 hl (by decide) rfl (fun ls hl => ?_)
        refine lv_iconst (v := (0 : Int32)) he hb dX12_blind_42 (by decide) ?_
        refine lv_istore (lv' := [(6, _), (5, _), (0, _), (1, _), (2, _), (3, _), (4, _)]) he hb dX12_blind_43 hl (by decide) rfl (fun ls hl => ?_)
        exact gX12_blind_45 l B N _ _ _ _ _ _ _ _ _ _ _ h hS (lv_sub hl [2, 3, 4, 5, 6, 1, 0] rfl)
      · rw [if_pos hc] at h
        refine lv_iconst (v := (-1 : Int32)) he hb dX12_blind_33 (by decide) ?_
        obtain ⟨rfl, rfl⟩ := Prod.mk.inj (Option.some.inj h)
        exact z_iret B hS dX12_blind_34
theorem dX12_blinded_0 : decode cX12_blinded 0 = .ok (.aload_n 0, 1) := by decide +kernel
theorem dX12_blinded_1 : decode cX12_blinded 1 = .ok (.iconst 0, 1) := by decide +kernel
theorem dX12_blinded_2 : decode cX12_blinded 2 = .ok (.putfield 1, 3) := by decide +kernel
theorem dX12_blinded_5 : decode cX12_blinded 5 = .ok (.aload_n 0, 1) := by decide +kernel
theorem dX12_blinded_6 : decode cX12_blinded 6 = .ok (.getfield 361, 3) := by decide +kernel
theorem dX12_blinded_9 : decode cX12_blinded 9 = .ok (.ifCond .eq 10, 3) := by decide +kernel
theorem dX12_blinded_12 : decode cX12_blinded 12 = .ok (.aload_n 0, 1) := by decide +kernel
theorem dX12_blinded_13 : decode cX12_blinded 13 = .ok (.getfield 364, 3) := by decide +kernel
theorem dX12_blinded_16 : decode cX12_blinded 16 = .ok (.goto 4, 3) := by decide +kernel
theorem dX12_blinded_19 : decode cX12_blinded 19 = .ok (.iconst (-1), 1) := by decide +kernel
theorem dX12_blinded_20 : decode cX12_blinded 20 = .ok (.ireturn, 1) := by decide +kernel
def fX12_blinded (N n : Nat) (f : zF) (a0 : Nat) : Option (zF × Int32) :=
    ((zpI n f 12 a0 0 (0 : Int32)).bind fun f1 => ((zgI n f1 12 a0 25).bind fun x2 => (if x2 = 0 then some (f1, (-1 : Int32)) else ((zgI n f1 12 a0 24).bind fun x3 => some (f1, x3)))))
set_option maxRecDepth 100000 in
set_option maxHeartbeats 4000000 in
theorem mX12_blinded (l : Launch) (G : zG) {N n : Nat} {f : zF} {f9 : zF} {r : Int32} {a0 : Nat} (h : fX12_blinded N n f a0 = some (f9, r)) : zM l G yX12_blinded cX12_blinded 1 (some .int) 0 n f [zr G a0] (some (.int r)) f9 := by
  refine zM.of (by decide) (Nat.le_of_ble_eq_true rfl) ?_
  intro p e s m args below meth c locs ls B hS hl
  have he := B.1
  have hb := B.2.1
  have hl : lv_has ls 1 [(0, zr G a0)] := hl
  unfold fX12_blinded at h
  generalize s.heap = H at hS ⊢
  refine z_aload_n he hb dX12_blinded_0 rfl (lv_at hl 0 rfl) (zref_r _ _) ?_
  refine lv_iconst (v := (0 : Int32)) he hb dX12_blinded_1 (by decide) ?_
  obtain ⟨f1, hx, h⟩ := zob h
  refine z_putI (ci := 12) (T := TX12) (N := 50) (j := 0) B hS hx rfl zin_X12 tyX12 tyX12_ok nmX12 (by decide) zk_1347 rfl rfl dX12_blinded_2 (fun H locs hS => ?_)
  refine z_aload_n he hb dX12_blinded_5 rfl (lv_at hl 0 rfl) (zref_r _ _) ?_
  obtain ⟨x2, hx, h⟩ := zob h
  refine z_getI (ci := 12) (T := TX12) (N := 50) (j := 25) B hS hx rfl zin_X12 (by decide) zk_1372 dX12_blinded_6 ?_
  refine lv_if_eq (tgt := 19) he hb dX12_blinded_9 (by decide) (fun hc => ?_) (fun hc => ?_)
  · rw [if_pos hc] at h
    refine lv_iconst (v := (-1 : Int32)) he hb dX12_blinded_19 (by decide) ?_
    obtain ⟨rfl, rfl⟩ := Prod.mk.inj (Option.some.inj h)
    exact z_iret B hS dX12_blinded_20
  · rw [if_neg hc] at h
    refine z_aload_n he hb dX12_blinded_12 rfl (lv_at hl 0 rfl) (zref_r _ _) ?_
    obtain ⟨x3, hx, h⟩ := zob h
    refine z_getI (ci := 12) (T := TX12) (N := 50) (j := 24) B hS hx rfl zin_X12 (by decide) zk_1371 dX12_blinded_13 ?_
    refine lv_goto (tgt := 20) he hb dX12_blinded_16 (by decide) ?_
    obtain ⟨rfl, rfl⟩ := Prod.mk.inj (Option.some.inj h)
    exact z_iret B hS dX12_blinded_20
theorem dX12_sideIn_0 : decode cX12_sideIn 0 = .ok (.iload_n 0, 1) := by decide +kernel
theorem dX12_sideIn_1 : decode cX12_sideIn 1 = .ok (.bipush 8, 2) := by decide +kernel
theorem dX12_sideIn_3 : decode cX12_sideIn 3 = .ok (.iconst 2, 1) := by decide +kernel
theorem dX12_sideIn_4 : decode cX12_sideIn 4 = .ok (.iload_n 1, 1) := by decide +kernel
theorem dX12_sideIn_5 : decode cX12_sideIn 5 = .ok (.imul, 1) := by decide +kernel
theorem dX12_sideIn_6 : decode cX12_sideIn 6 = .ok (.isub, 1) := by decide +kernel
theorem dX12_sideIn_7 : decode cX12_sideIn 7 = .ok (.ishr, 1) := by decide +kernel
theorem dX12_sideIn_8 : decode cX12_sideIn 8 = .ok (.iconst 3, 1) := by decide +kernel
theorem dX12_sideIn_9 : decode cX12_sideIn 9 = .ok (.iand, 1) := by decide +kernel
theorem dX12_sideIn_10 : decode cX12_sideIn 10 = .ok (.ireturn, 1) := by decide +kernel
def fX12_sideIn (N n : Nat) (f : zF) (a0 : Int32) (a1 : Int32) : Option Int32 :=
    some ((zishr a0 ((8 : Int32) - ((2 : Int32) * a1))) &&& (3 : Int32))
set_option maxRecDepth 100000 in
set_option maxHeartbeats 4000000 in
theorem mX12_sideIn (l : Launch) (G : zG) {N n : Nat} {f : zF} {r : Int32} {a0 : Int32} {a1 : Int32} (h : fX12_sideIn N n f a0 a1 = some r) : zM l G yX12_sideIn cX12_sideIn 2 (some .int) 0 n f [.int a0, .int a1] (some (.int r)) f := by
  refine zM.of (by decide) (Nat.le_of_ble_eq_true rfl) ?_
  intro p e s m args below meth c locs ls B hS hl
  have he := B.1
  have hb := B.2.1
  have hl : lv_has ls 2 [(0, .int a0), (1, .int a1)] := hl
  unfold fX12_sideIn at h
  generalize s.heap = H at hS ⊢
  refine lv_iload_n he hb dX12_sideIn_0 rfl (lv_at hl 0 rfl) ?_
  refine lv_bipush (v := (8 : Int32)) he hb dX12_sideIn_1 (by decide) ?_
  refine lv_iconst (v := (2 : Int32)) he hb dX12_sideIn_3 (by decide) ?_
  refine lv_iload_n he hb dX12_sideIn_4 rfl (lv_at hl 1 rfl) ?_
  refine lv_imul he hb dX12_sideIn_5 ?_
  refine lv_isub he hb dX12_sideIn_6 ?_
  refine z_ishr he hb dX12_sideIn_7 ?_
  refine lv_iconst (v := (3 : Int32)) he hb dX12_sideIn_8 (by decide) ?_
  refine lv_iand he hb dX12_sideIn_9 ?_
  obtain rfl := Option.some.inj h
  exact z_iret B hS dX12_sideIn_10
theorem dX12_coveredBy_0 : decode cX12_coveredBy 0 = .ok (.iconst 0, 1) := by decide +kernel
theorem dX12_coveredBy_1 : decode cX12_coveredBy 1 = .ok (.istore_n 3, 1) := by decide +kernel
theorem dX12_coveredBy_2 : decode cX12_coveredBy 2 = .ok (.iconst 0, 1) := by decide +kernel
theorem dX12_coveredBy_3 : decode cX12_coveredBy 3 = .ok (.istore 4, 2) := by decide +kernel
theorem dX12_coveredBy_5 : decode cX12_coveredBy 5 = .ok (.iload 4, 2) := by decide +kernel
theorem dX12_coveredBy_7 : decode cX12_coveredBy 7 = .ok (.aload_n 0, 1) := by decide +kernel
theorem dX12_coveredBy_8 : decode cX12_coveredBy 8 = .ok (.getfield 33, 3) := by decide +kernel
theorem dX12_coveredBy_11 : decode cX12_coveredBy 11 = .ok (.iconst 4, 1) := by decide +kernel
theorem dX12_coveredBy_12 : decode cX12_coveredBy 12 = .ok (.iaload, 1) := by decide +kernel
theorem dX12_coveredBy_13 : decode cX12_coveredBy 13 = .ok (.if_icmp .ge 46, 3) := by decide +kernel
theorem dX12_coveredBy_16 : decode cX12_coveredBy 16 = .ok (.iload_n 3, 1) := by decide +kernel
theorem dX12_coveredBy_17 : decode cX12_coveredBy 17 = .ok (.iload_n 1, 1) := by decide +kernel
theorem dX12_coveredBy_18 : decode cX12_coveredBy 18 = .ok (.iload 4, 2) := by decide +kernel
theorem dX12_coveredBy_20 : decode cX12_coveredBy 20 = .ok (.invokestatic 289, 3) := by decide +kernel
theorem dX12_coveredBy_23 : decode cX12_coveredBy 23 = .ok (.ifCond .eq 27, 3) := by decide +kernel
theorem dX12_coveredBy_26 : decode cX12_coveredBy 26 = .ok (.aload_n 0, 1) := by decide +kernel
theorem dX12_coveredBy_27 : decode cX12_coveredBy 27 = .ok (.aload_n 0, 1) := by decide +kernel
theorem dX12_coveredBy_28 : decode cX12_coveredBy 28 = .ok (.getfield 33, 3) := by decide +kernel
theorem dX12_coveredBy_31 : decode cX12_coveredBy 31 = .ok (.sipush 159, 3) := by decide +kernel
theorem dX12_coveredBy_34 : decode cX12_coveredBy 34 = .ok (.iload 4, 2) := by decide +kernel
theorem dX12_coveredBy_36 : decode cX12_coveredBy 36 = .ok (.iadd, 1) := by decide +kernel
theorem dX12_coveredBy_37 : decode cX12_coveredBy 37 = .ok (.iaload, 1) := by decide +kernel
theorem dX12_coveredBy_38 : decode cX12_coveredBy 38 = .ok (.iload_n 2, 1) := by decide +kernel
theorem dX12_coveredBy_39 : decode cX12_coveredBy 39 = .ok (.iload 4, 2) := by decide +kernel
theorem dX12_coveredBy_41 : decode cX12_coveredBy 41 = .ok (.invokestatic 367, 3) := by decide +kernel
theorem dX12_coveredBy_44 : decode cX12_coveredBy 44 = .ok (.invokevirtual 298, 3) := by decide +kernel
theorem dX12_coveredBy_47 : decode cX12_coveredBy 47 = .ok (.goto 4, 3) := by decide +kernel
theorem dX12_coveredBy_50 : decode cX12_coveredBy 50 = .ok (.iconst 0, 1) := by decide +kernel
theorem dX12_coveredBy_51 : decode cX12_coveredBy 51 = .ok (.ior, 1) := by decide +kernel
theorem dX12_coveredBy_52 : decode cX12_coveredBy 52 = .ok (.istore_n 3, 1) := by decide +kernel
theorem dX12_coveredBy_53 : decode cX12_coveredBy 53 = .ok (.iinc 4 1, 3) := by decide +kernel
theorem dX12_coveredBy_56 : decode cX12_coveredBy 56 = .ok (.goto (-51), 3) := by decide +kernel
theorem dX12_coveredBy_59 : decode cX12_coveredBy 59 = .ok (.iload_n 3, 1) := by decide +kernel
theorem dX12_coveredBy_60 : decode cX12_coveredBy 60 = .ok (.ireturn, 1) := by decide +kernel
def fX12_coveredBy_51 (r5 : Nat → Int32 → Int32 → Int32 → Int32 → Option Int32) (N n : Nat) (f : zF) (a0 : Nat) (a1 : Int32) (a2 : Int32) (a4 : Int32) (t0 : Int32) (t1 : Int32) : Option Int32 :=
    (r5 a0 a1 a2 (t0 ||| t1) (a4 + 1))
set_option maxRecDepth 100000 in
set_option maxHeartbeats 4000000 in
theorem gX12_coveredBy_51 (l : Launch) {G : zG} {p : Program} {e : Env} {s : State} {m : MethodId} {args : Array Value} {below : List Frame} {meth : Method} {c : Code} {f : zF} {N n : Nat} {r : Int32} {r5 : Nat → Int32 → Int32 → Int32 → Int32 → Option Int32} (B : zB G p s m args meth c RX12 cX12_coveredBy 5 (some .int)) (hr5 : ∀ (a0 : Nat) (a1 : Int32) (a2 : Int32) (a3 : Int32) (a4 : Int32) (H : Heap) (locs : List Loc) (ls : Array Slot), r5 a0 a1 a2 a3 a4 = some r → zS G n f H locs → lv_has ls 5 [(0, zr G a0), (1, .int a1), (2, .int a2), (3, .int a3), (4, .int a4)] → W p l e (zrm 4) s m args below meth c H locs 0 0 (MQ below (zQc G n f (some (.int r))) args s 0 0 (zA G)) (F0 m 5 ls [])) : ∀ (a0 : Nat) (a1 : Int32) (a2 : Int32) (a4 : Int32) (t0 : Int32) (t1 : Int32) (H : Heap) (locs : List Loc) (ls : Array Slot), fX12_coveredBy_51 r5 N n f a0 a1 a2 a4 t0 t1 = some r → zS G n f H locs → lv_has ls 5 [(0, zr G a0), (1, .int a1), (2, .int a2), (4, .int a4)] → W p l e (zrm 4) s m args below meth c H locs 0 0 (MQ below (zQc G n f (some (.int r))) args s 0 0 (zA G)) (F0 m 51 ls [.int t1, .int t0]) := by
  have he := B.1
  have hb := B.2.1
  intro a0 a1 a2 a4 t0 t1 H locs ls h hS hl
  unfold fX12_coveredBy_51 at h
  refine lv_ior he hb dX12_coveredBy_51 ?_
  refine lv_istore_n (lv' := [(3, _), (0, _), (1, _), (2, _), (4, _)]) he hb dX12_coveredBy_52 rfl hl (by decide) rfl (fun ls hl => ?_)
  refine lv_iinc (v := (a4 + 1)) (lv' := [(4, _), (3, _), (0, _), (1, _), (2, _)]) he hb dX12_coveredBy_53 hl (k := 4) rfl rfl (by decide) rfl (fun ls hl => ?_)
  refine lv_goto (tgt := 5) he hb dX12_coveredBy_56 (by decide) ?_
  exact hr5 _ _ _ _ _ _ _ _ h hS (lv_sub hl [2, 3, 4, 1, 0] rfl)
def fX12_coveredBy_5 (N n : Nat) (f : zF) : Nat → Nat → Int32 → Int32 → Int32 → Int32 → Option Int32
  | 0, _, _, _, _, _ => none
  | k + 1, a0, a1, a2, a3, a4 =>
    ((zgR n f 12 a0 6).bind fun x1 => ((zlI n f 0 x1 (4 : Int32)).bind fun x2 => (if x2 ≤ a4 then some a3 else ((fX12_bitOf N n f a1 a4).bind fun x3 => (if x3 = 0 then (fX12_coveredBy_51 (fX12_coveredBy_5 N n f k) N n f a0 a1 a2 a4 a3 (0 : Int32)) else ((zgR n f 12 a0 6).bind fun x4 => ((zlI n f 0 x4 ((159 : Int32) + a4)).bind fun x5 => ((fX12_sideIn N n f a2 a4).bind fun x6 => ((zck n f 12 a0).bind fun _ => ((fX12_figuresTo N n f a0 x5 x6).bind fun x7 => (fX12_coveredBy_51 (fX12_coveredBy_5 N n f k) N n f a0 a1 a2 a4 a3 x7)))))))))))
set_option maxRecDepth 100000 in
set_option maxHeartbeats 4000000 in
theorem gX12_coveredBy_5 (l : Launch) {G : zG} {p : Program} {e : Env} {s : State} {m : MethodId} {args : Array Value} {below : List Frame} {meth : Method} {c : Code} {f : zF} {N n : Nat} {r : Int32} (B : zB G p s m args meth c RX12 cX12_coveredBy 5 (some .int)) : ∀ (k : Nat), ∀ (a0 : Nat) (a1 : Int32) (a2 : Int32) (a3 : Int32) (a4 : Int32) (H : Heap) (locs : List Loc) (ls : Array Slot), fX12_coveredBy_5 N n f k a0 a1 a2 a3 a4 = some r → zS G n f H locs → lv_has ls 5 [(0, zr G a0), (1, .int a1), (2, .int a2), (3, .int a3), (4, .int a4)] → W p l e (zrm 4) s m args below meth c H locs 0 0 (MQ below (zQc G n f (some (.int r))) args s 0 0 (zA G)) (F0 m 5 ls []) := by
  have he := B.1
  have hb := B.2.1
  intro k
  induction k with
  | zero =>
    intro a0 a1 a2 a3 a4 H locs ls h
    unfold fX12_coveredBy_5 at h
    cases h
  | succ k ih =>
    intro a0 a1 a2 a3 a4 H locs ls h hS hl
    unfold fX12_coveredBy_5 at h
    refine lv_iload he hb dX12_coveredBy_5 (lv_at hl 4 rfl) ?_
    refine z_aload_n he hb dX12_coveredBy_7 rfl (lv_at hl 0 rfl) (zref_r _ _) ?_
    obtain ⟨x1, hx, h⟩ := zob h
    refine z_getR (ci := 12) (T := TX12) (N := 50) (j := 6) B hS hx rfl zin_X12 (by decide) zk_1353 dX12_coveredBy_8 ?_
    refine lv_iconst (v := (4 : Int32)) he hb dX12_coveredBy_11 (by decide) ?_
    obtain ⟨x2, hx, h⟩ := zob h
    refine z_ildI B hS hx dX12_coveredBy_12 ?_
    refine lv_icmp_ge (tgt := 59) he hb dX12_coveredBy_13 (by decide) (fun hc => ?_) (fun hc => ?_)
    · rw [if_pos hc] at h
      refine lv_iload_n he hb dX12_coveredBy_59 rfl (lv_at hl 3 rfl) ?_
      obtain rfl := Option.some.inj h
      exact z_iret B hS dX12_coveredBy_60
    · rw [if_neg hc] at h
      refine lv_iload_n he hb dX12_coveredBy_16 rfl (lv_at hl 3 rfl) ?_
      refine lv_iload_n he hb dX12_coveredBy_17 rfl (lv_at hl 1 rfl) ?_
      refine lv_iload he hb dX12_coveredBy_18 (lv_at hl 4 rfl) ?_
      obtain ⟨x3, hx, h⟩ := zob h
      refine z_callS (rest := [_]) B hS (mX12_bitOf l G hx) zy_X12_bitOf zk_1648 (by decide) rfl hl rfl (Nat.le_of_ble_eq_true rfl) dX12_coveredBy_20 (kk := (fun H locs hS => ?_))
      refine lv_if_eq (tgt := 50) he hb dX12_coveredBy_23 (by decide) (fun hc => ?_) (fun hc => ?_)
      · rw [if_pos hc] at h
        refine lv_iconst (v := (0 : Int32)) he hb dX12_coveredBy_50 (by decide) ?_
        exact gX12_coveredBy_51 l B ih _ _ _ _ _ _ _ _ _ h hS (lv_sub hl [0, 1, 2, 4] rfl)
      · rw [if_neg hc] at h
        refine z_aload_n he hb dX12_coveredBy_26 rfl (lv_at hl 0 rfl) (zref_r _ _) ?_
        refine z_aload_n he hb dX12_coveredBy_27 rfl (lv_at hl 0 rfl) (zref_r _ _) ?_
        obtain ⟨x4, hx, h⟩ := zob h
        refine z_getR (ci := 12) (T := TX12) (N := 50) (j := 6) B hS hx rfl zin_X12 (by decide) zk_1353 dX12_coveredBy_28 ?_
        refine lv_sipush (v := (159 : Int32)) he hb dX12_coveredBy_31 (by decide) ?_
        refine lv_iload he hb dX12_coveredBy_34 (lv_at hl 4 rfl) ?_
        refine lv_iadd he hb dX12_coveredBy_36 ?_
        obtain ⟨x5, hx, h⟩ := zob h
        refine z_ildI B hS hx dX12_coveredBy_37 ?_
        refine lv_iload_n he hb dX12_coveredBy_38 rfl (lv_at hl 2 rfl) ?_
        refine lv_iload he hb dX12_coveredBy_39 (lv_at hl 4 rfl) ?_
        obtain ⟨x6, hx, h⟩ := zob h
        refine z_callS (rest := [_, _, _]) B hS (mX12_sideIn l G hx) zy_X12_sideIn zk_1794 (by decide) rfl hl rfl (Nat.le_of_ble_eq_true rfl) dX12_coveredBy_41 (kk := (fun H locs hS => ?_))
        obtain ⟨_, hc, h⟩ := zob h
        obtain ⟨x7, hx, h⟩ := zob h
        refine z_callV (ci := 12) (T := TX12) (N := 50) (rest := [_]) B hS (mX12_figuresTo l G hx) zy_X12_figuresTo zk_1651 (by decide) hc rfl rfl hl rfl (Nat.le_of_ble_eq_true rfl) dX12_coveredBy_44 (kk := (fun H locs hS => ?_))
        refine lv_goto (tgt := 51) he hb dX12_coveredBy_47 (by decide) ?_
        exact gX12_coveredBy_51 l B ih _ _ _ _ _ _ _ _ _ h hS (lv_sub hl [0, 1, 2, 4] rfl)
def fX12_coveredBy (N n : Nat) (f : zF) (a0 : Nat) (a1 : Int32) (a2 : Int32) : Option Int32 :=
    (fX12_coveredBy_5 N n f N a0 a1 a2 (0 : Int32) (0 : Int32))
set_option maxRecDepth 100000 in
set_option maxHeartbeats 4000000 in
theorem mX12_coveredBy (l : Launch) (G : zG) {N n : Nat} {f : zF} {r : Int32} {a0 : Nat} {a1 : Int32} {a2 : Int32} (h : fX12_coveredBy N n f a0 a1 a2 = some r) : zM l G yX12_coveredBy cX12_coveredBy 5 (some .int) 4 n f [zr G a0, .int a1, .int a2] (some (.int r)) f := by
  refine zM.of (by decide) (Nat.le_of_ble_eq_true rfl) ?_
  intro p e s m args below meth c locs ls B hS hl
  have he := B.1
  have hb := B.2.1
  have hl : lv_has ls 5 [(0, zr G a0), (1, .int a1), (2, .int a2)] := hl
  unfold fX12_coveredBy at h
  generalize s.heap = H at hS ⊢
  refine lv_iconst (v := (0 : Int32)) he hb dX12_coveredBy_0 (by decide) ?_
  refine lv_istore_n (lv' := [(3, _), (0, _), (1, _), (2, _)]) he hb dX12_coveredBy_1 rfl hl (by decide) rfl (fun ls hl => ?_)
  refine lv_iconst (v := (0 : Int32)) he hb dX12_coveredBy_2 (by decide) ?_
  refine lv_istore (lv' := [(4, _), (3, _), (0, _), (1, _), (2, _)]) he hb dX12_coveredBy_3 hl (by decide) rfl (fun ls hl => ?_)
  exact gX12_coveredBy_5 l B N _ _ _ _ _ _ _ _ h hS (lv_sub hl [2, 3, 4, 1, 0] rfl)
theorem dX12_cover_0 : decode cX12_cover 0 = .ok (.aload_n 0, 1) := by decide +kernel
theorem dX12_cover_1 : decode cX12_cover 1 = .ok (.iconst 0, 1) := by decide +kernel
theorem dX12_cover_2 : decode cX12_cover 2 = .ok (.putfield 1, 3) := by decide +kernel
theorem dX12_cover_5 : decode cX12_cover 5 = .ok (.iconst 0, 1) := by decide +kernel
theorem dX12_cover_6 : decode cX12_cover 6 = .ok (.istore_n 1, 1) := by decide +kernel
theorem dX12_cover_7 : decode cX12_cover 7 = .ok (.iconst 0, 1) := by decide +kernel
theorem dX12_cover_8 : decode cX12_cover 8 = .ok (.istore_n 2, 1) := by decide +kernel
theorem dX12_cover_9 : decode cX12_cover 9 = .ok (.iload_n 2, 1) := by decide +kernel
theorem dX12_cover_10 : decode cX12_cover 10 = .ok (.aload_n 0, 1) := by decide +kernel
theorem dX12_cover_11 : decode cX12_cover 11 = .ok (.getfield 33, 3) := by decide +kernel
theorem dX12_cover_14 : decode cX12_cover 14 = .ok (.iconst 4, 1) := by decide +kernel
theorem dX12_cover_15 : decode cX12_cover 15 = .ok (.iaload, 1) := by decide +kernel
theorem dX12_cover_16 : decode cX12_cover 16 = .ok (.if_icmp .ge 27, 3) := by decide +kernel
theorem dX12_cover_19 : decode cX12_cover 19 = .ok (.iload_n 1, 1) := by decide +kernel
theorem dX12_cover_20 : decode cX12_cover 20 = .ok (.aload_n 0, 1) := by decide +kernel
theorem dX12_cover_21 : decode cX12_cover 21 = .ok (.iload_n 2, 1) := by decide +kernel
theorem dX12_cover_22 : decode cX12_cover 22 = .ok (.invokevirtual 295, 3) := by decide +kernel
theorem dX12_cover_25 : decode cX12_cover 25 = .ok (.ifCond .eq 9, 3) := by decide +kernel
theorem dX12_cover_28 : decode cX12_cover 28 = .ok (.iconst 1, 1) := by decide +kernel
theorem dX12_cover_29 : decode cX12_cover 29 = .ok (.iload_n 2, 1) := by decide +kernel
theorem dX12_cover_30 : decode cX12_cover 30 = .ok (.ishl, 1) := by decide +kernel
theorem dX12_cover_31 : decode cX12_cover 31 = .ok (.goto 4, 3) := by decide +kernel
theorem dX12_cover_34 : decode cX12_cover 34 = .ok (.iconst 0, 1) := by decide +kernel
theorem dX12_cover_35 : decode cX12_cover 35 = .ok (.ior, 1) := by decide +kernel
theorem dX12_cover_36 : decode cX12_cover 36 = .ok (.istore_n 1, 1) := by decide +kernel
theorem dX12_cover_37 : decode cX12_cover 37 = .ok (.iinc 2 1, 3) := by decide +kernel
theorem dX12_cover_40 : decode cX12_cover 40 = .ok (.goto (-31), 3) := by decide +kernel
theorem dX12_cover_43 : decode cX12_cover 43 = .ok (.iconst 0, 1) := by decide +kernel
theorem dX12_cover_44 : decode cX12_cover 44 = .ok (.istore_n 2, 1) := by decide +kernel
theorem dX12_cover_45 : decode cX12_cover 45 = .ok (.iconst (-1), 1) := by decide +kernel
theorem dX12_cover_46 : decode cX12_cover 46 = .ok (.istore_n 3, 1) := by decide +kernel
theorem dX12_cover_47 : decode cX12_cover 47 = .ok (.iconst 0, 1) := by decide +kernel
theorem dX12_cover_48 : decode cX12_cover 48 = .ok (.istore 4, 2) := by decide +kernel
theorem dX12_cover_50 : decode cX12_cover 50 = .ok (.iload 4, 2) := by decide +kernel
theorem dX12_cover_52 : decode cX12_cover 52 = .ok (.sipush 1024, 3) := by decide +kernel
theorem dX12_cover_55 : decode cX12_cover 55 = .ok (.if_icmp .ge 36, 3) := by decide +kernel
theorem dX12_cover_58 : decode cX12_cover 58 = .ok (.aload_n 0, 1) := by decide +kernel
theorem dX12_cover_59 : decode cX12_cover 59 = .ok (.iload_n 1, 1) := by decide +kernel
theorem dX12_cover_60 : decode cX12_cover 60 = .ok (.iload 4, 2) := by decide +kernel
theorem dX12_cover_62 : decode cX12_cover 62 = .ok (.invokevirtual 370, 3) := by decide +kernel
theorem dX12_cover_65 : decode cX12_cover 65 = .ok (.invokestatic 358, 3) := by decide +kernel
theorem dX12_cover_68 : decode cX12_cover 68 = .ok (.istore 5, 2) := by decide +kernel
theorem dX12_cover_70 : decode cX12_cover 70 = .ok (.iload 5, 2) := by decide +kernel
theorem dX12_cover_72 : decode cX12_cover 72 = .ok (.iload_n 3, 1) := by decide +kernel
theorem dX12_cover_73 : decode cX12_cover 73 = .ok (.if_icmp .gt 6, 3) := by decide +kernel
theorem dX12_cover_76 : decode cX12_cover 76 = .ok (.goto 9, 3) := by decide +kernel
theorem dX12_cover_79 : decode cX12_cover 79 = .ok (.iload 5, 2) := by decide +kernel
theorem dX12_cover_81 : decode cX12_cover 81 = .ok (.istore_n 3, 1) := by decide +kernel
theorem dX12_cover_82 : decode cX12_cover 82 = .ok (.iload 4, 2) := by decide +kernel
theorem dX12_cover_84 : decode cX12_cover 84 = .ok (.istore_n 2, 1) := by decide +kernel
theorem dX12_cover_85 : decode cX12_cover 85 = .ok (.iinc 4 1, 3) := by decide +kernel
theorem dX12_cover_88 : decode cX12_cover 88 = .ok (.goto (-38), 3) := by decide +kernel
theorem dX12_cover_91 : decode cX12_cover 91 = .ok (.aload_n 0, 1) := by decide +kernel
theorem dX12_cover_92 : decode cX12_cover 92 = .ok (.aload_n 0, 1) := by decide +kernel
theorem dX12_cover_93 : decode cX12_cover 93 = .ok (.getfield 33, 3) := by decide +kernel
theorem dX12_cover_96 : decode cX12_cover 96 = .ok (.iconst 4, 1) := by decide +kernel
theorem dX12_cover_97 : decode cX12_cover 97 = .ok (.iaload, 1) := by decide +kernel
theorem dX12_cover_98 : decode cX12_cover 98 = .ok (.putfield 59, 3) := by decide +kernel
theorem dX12_cover_101 : decode cX12_cover 101 = .ok (.iconst 0, 1) := by decide +kernel
theorem dX12_cover_102 : decode cX12_cover 102 = .ok (.istore 4, 2) := by decide +kernel
theorem dX12_cover_104 : decode cX12_cover 104 = .ok (.iload 4, 2) := by decide +kernel
theorem dX12_cover_106 : decode cX12_cover 106 = .ok (.iconst 5, 1) := by decide +kernel
theorem dX12_cover_107 : decode cX12_cover 107 = .ok (.if_icmp .ge 22, 3) := by decide +kernel
theorem dX12_cover_110 : decode cX12_cover 110 = .ok (.aload_n 0, 1) := by decide +kernel
theorem dX12_cover_111 : decode cX12_cover 111 = .ok (.getfield 56, 3) := by decide +kernel
theorem dX12_cover_114 : decode cX12_cover 114 = .ok (.iload 4, 2) := by decide +kernel
theorem dX12_cover_116 : decode cX12_cover 116 = .ok (.iload_n 2, 1) := by decide +kernel
theorem dX12_cover_117 : decode cX12_cover 117 = .ok (.iload 4, 2) := by decide +kernel
theorem dX12_cover_119 : decode cX12_cover 119 = .ok (.invokestatic 367, 3) := by decide +kernel
theorem dX12_cover_122 : decode cX12_cover 122 = .ok (.iastore, 1) := by decide +kernel
theorem dX12_cover_123 : decode cX12_cover 123 = .ok (.iinc 4 1, 3) := by decide +kernel
theorem dX12_cover_126 : decode cX12_cover 126 = .ok (.goto (-22), 3) := by decide +kernel
theorem dX12_cover_129 : decode cX12_cover 129 = .ok (.iload_n 3, 1) := by decide +kernel
theorem dX12_cover_130 : decode cX12_cover 130 = .ok (.ireturn, 1) := by decide +kernel
def fX12_cover_104 (N n : Nat) : Nat → zF → Nat → Int32 → Int32 → Int32 → Option (zF × Int32)
  | 0, _, _, _, _, _ => none
  | k + 1, f, a0, a2, a3, a4 =>
    (if (5 : Int32) ≤ a4 then some (f, a3) else ((zgR n f 12 a0 26).bind fun x7 => ((fX12_sideIn N n f a2 a4).bind fun x8 => ((zsI n f 0 x7 a4 x8).bind fun f9 => (fX12_cover_104 N n k f9 a0 a2 a3 (a4 + 1))))))
set_option maxRecDepth 100000 in
set_option maxHeartbeats 4000000 in
theorem gX12_cover_104 (l : Launch) {G : zG} {p : Program} {e : Env} {s : State} {m : MethodId} {args : Array Value} {below : List Frame} {meth : Method} {c : Code} {N n : Nat} {f9 : zF} {r : Int32} (B : zB G p s m args meth c RX12 cX12_cover 6 (some .int)) : ∀ (k : Nat), ∀ (f : zF) (a0 : Nat) (a2 : Int32) (a3 : Int32) (a4 : Int32) (H : Heap) (locs : List Loc) (ls : Array Slot), fX12_cover_104 N n k f a0 a2 a3 a4 = some (f9, r) → zS G n f H locs → lv_has ls 6 [(0, zr G a0), (2, .int a2), (3, .int a3), (4, .int a4)] → W p l e (zrm 5) s m args below meth c H locs 0 0 (MQ below (zQc G n f9 (some (.int r))) args s 0 0 (zA G)) (F0 m 104 ls []) := by
  have he := B.1
  have hb := B.2.1
  intro k
  induction k with
  | zero =>
    intro f a0 a2 a3 a4 H locs ls h
    unfold fX12_cover_104 at h
    cases h
  | succ k ih =>
    intro f a0 a2 a3 a4 H locs ls h hS hl
    unfold fX12_cover_104 at h
    refine lv_iload he hb dX12_cover_104 (lv_at hl 3 rfl) ?_
    refine lv_iconst (v := (5 : Int32)) he hb dX12_cover_106 (by decide) ?_
    refine lv_icmp_ge (tgt := 129) he hb dX12_cover_107 (by decide) (fun hc => ?_) (fun hc => ?_)
    · rw [if_pos hc] at h
      refine lv_iload_n he hb dX12_cover_129 rfl (lv_at hl 2 rfl) ?_
      obtain ⟨rfl, rfl⟩ := Prod.mk.inj (Option.some.inj h)
      exact z_iret B hS dX12_cover_130
    · rw [if_neg hc] at h
      refine z_aload_n he hb dX12_cover_110 rfl (lv_at hl 0 rfl) (zref_r _ _) ?_
      obtain ⟨x7, hx, h⟩ := zob h
      refine z_getR (ci := 12) (T := TX12) (N := 50) (j := 26) B hS hx rfl zin_X12 (by decide) zk_1373 dX12_cover_111 ?_
      refine lv_iload he hb dX12_cover_114 (lv_at hl 3 rfl) ?_
      refine lv_iload_n he hb dX12_cover_116 rfl (lv_at hl 1 rfl) ?_
      refine lv_iload he hb dX12_cover_117 (lv_at hl 3 rfl) ?_
      obtain ⟨x8, hx, h⟩ := zob h
      refine z_callS (rest := [_, _]) B hS (mX12_sideIn l G hx) zy_X12_sideIn zk_1794 (by decide) rfl hl rfl (Nat.le_of_ble_eq_true rfl) dX12_cover_119 (kk := (fun H locs hS => ?_))
      obtain ⟨f9, hx, h⟩ := zob h
      refine z_istI B hS hx dX12_cover_122 (fun H locs hS => ?_)
      refine lv_iinc (v := (a4 + 1)) (lv' := [(4, _), (0, _), (2, _), (3, _)]) he hb dX12_cover_123 hl (k := 3) rfl rfl (by decide) rfl (fun ls hl => ?_)
      refine lv_goto (tgt := 104) he hb dX12_cover_126 (by decide) ?_
      exact ih _ _ _ _ _ _ _ _ h hS (lv_sub hl [1, 2, 3, 0] rfl)
def fX12_cover_85 (r50 : zF → Nat → Int32 → Int32 → Int32 → Int32 → Option (zF × Int32)) (N n : Nat) (f : zF) (a0 : Nat) (a1 : Int32) (a2 : Int32) (a3 : Int32) (a4 : Int32) : Option (zF × Int32) :=
    (r50 f a0 a1 a2 a3 (a4 + 1))
set_option maxRecDepth 100000 in
set_option maxHeartbeats 4000000 in
theorem gX12_cover_85 (l : Launch) {G : zG} {p : Program} {e : Env} {s : State} {m : MethodId} {args : Array Value} {below : List Frame} {meth : Method} {c : Code} {N n : Nat} {f9 : zF} {r : Int32} {r50 : zF → Nat → Int32 → Int32 → Int32 → Int32 → Option (zF × Int32)} (B : zB G p s m args meth c RX12 cX12_cover 6 (some .int)) (hr50 : ∀ (f : zF) (a0 : Nat) (a1 : Int32) (a2 : Int32) (a3 : Int32) (a4 : Int32) (H : Heap) (locs : List Loc) (ls : Array Slot), r50 f a0 a1 a2 a3 a4 = some (f9, r) → zS G n f H locs → lv_has ls 6 [(0, zr G a0), (1, .int a1), (2, .int a2), (3, .int a3), (4, .int a4)] → W p l e (zrm 5) s m args below meth c H locs 0 0 (MQ below (zQc G n f9 (some (.int r))) args s 0 0 (zA G)) (F0 m 50 ls [])) : ∀ (f : zF) (a0 : Nat) (a1 : Int32) (a2 : Int32) (a3 : Int32) (a4 : Int32) (H : Heap) (locs : List Loc) (ls : Array Slot), fX12_cover_85 r50 N n f a0 a1 a2 a3 a4 = some (f9, r) → zS G n f H locs → lv_has ls 6 [(0, zr G a0), (1, .int a1), (2, .int a2), (3, .int a3), (4, .int a4)] → W p l e (zrm 5) s m args below meth c H locs 0 0 (MQ below (zQc G n f9 (some (.int r))) args s 0 0 (zA G)) (F0 m 85 ls []) := by
  have he := B.1
  have hb := B.2.1
  intro f a0 a1 a2 a3 a4 H locs ls h hS hl
  unfold fX12_cover_85 at h
  refine lv_iinc (v := (a4 + 1)) (lv' := [(4, _), (0, _), (1, _), (2, _), (3, _)]) he hb dX12_cover_85 hl (k := 4) rfl rfl (by decide) rfl (fun ls hl => ?_)
  refine lv_goto (tgt := 50) he hb dX12_cover_88 (by decide) ?_
  exact hr50 _ _ _ _ _ _ _ _ _ h hS (lv_sub hl [1, 2, 3, 4, 0] rfl)
def fX12_cover_50 (N n : Nat) : Nat → zF → Nat → Int32 → Int32 → Int32 → Int32 → Option (zF × Int32)
  | 0, _, _, _, _, _, _ => none
  | k + 1, f, a0, a1, a2, a3, a4 =>
    (if (1024 : Int32) ≤ a4 then ((zgR n f 12 a0 6).bind fun x4 => ((zlI n f 0 x4 (4 : Int32)).bind fun x5 => ((zpI n f 12 a0 27 x5).bind fun f6 => (fX12_cover_104 N n N f6 a0 a2 a3 (0 : Int32))))) else ((zck n f 12 a0).bind fun _ => ((fX12_coveredBy N n f a0 a1 a4).bind fun x10 => ((fX12_bits N n f x10).bind fun x11 => (if a3 < x11 then (fX12_cover_85 (fX12_cover_50 N n k) N n f a0 a1 a4 x11 a4) else (fX12_cover_85 (fX12_cover_50 N n k) N n f a0 a1 a2 a3 a4))))))
set_option maxRecDepth 100000 in
set_option maxHeartbeats 4000000 in
theorem gX12_cover_50 (l : Launch) {G : zG} {p : Program} {e : Env} {s : State} {m : MethodId} {args : Array Value} {below : List Frame} {meth : Method} {c : Code} {N n : Nat} {f9 : zF} {r : Int32} (B : zB G p s m args meth c RX12 cX12_cover 6 (some .int)) : ∀ (k : Nat), ∀ (f : zF) (a0 : Nat) (a1 : Int32) (a2 : Int32) (a3 : Int32) (a4 : Int32) (H : Heap) (locs : List Loc) (ls : Array Slot), fX12_cover_50 N n k f a0 a1 a2 a3 a4 = some (f9, r) → zS G n f H locs → lv_has ls 6 [(0, zr G a0), (1, .int a1), (2, .int a2), (3, .int a3), (4, .int a4)] → W p l e (zrm 5) s m args below meth c H locs 0 0 (MQ below (zQc G n f9 (some (.int r))) args s 0 0 (zA G)) (F0 m 50 ls []) := by
  have he := B.1
  have hb := B.2.1
  intro k
  induction k with
  | zero =>
    intro f a0 a1 a2 a3 a4 H locs ls h
    unfold fX12_cover_50 at h
    cases h
  | succ k ih =>
    intro f a0 a1 a2 a3 a4 H locs ls h hS hl
    unfold fX12_cover_50 at h
    refine lv_iload he hb dX12_cover_50 (lv_at hl 4 rfl) ?_
    refine lv_sipush (v := (1024 : Int32)) he hb dX12_cover_52 (by decide) ?_
    refine lv_icmp_ge (tgt := 91) he hb dX12_cover_55 (by decide) (fun hc => ?_) (fun hc => ?_)
    · rw [if_pos hc] at h
      refine z_aload_n he hb dX12_cover_91 rfl (lv_at hl 0 rfl) (zref_r _ _) ?_
      refine z_aload_n he hb dX12_cover_92 rfl (lv_at hl 0 rfl) (zref_r _ _) ?_
      obtain ⟨x4, hx, h⟩ := zob h
      refine z_getR (ci := 12) (T := TX12) (N := 50) (j := 6) B hS hx rfl zin_X12 (by decide) zk_1353 dX12_cover_93 ?_
      refine lv_iconst (v := (4 : Int32)) he hb dX12_cover_96 (by decide) ?_
      obtain ⟨x5, hx, h⟩ := zob h
      refine z_ildI B hS hx dX12_cover_97 ?_
      obtain ⟨f6, hx, h⟩ := zob h
      refine z_putI (ci := 12) (T := TX12) (N := 50) (j := 27) B hS hx rfl zin_X12 tyX12 tyX12_ok nmX12 (by decide) zk_1374 rfl rfl dX12_cover_98 (fun H locs hS => ?_)
      refine lv_iconst (v := (0 : Int32)) he hb dX12_cover_101 (by decide) ?_
      refine lv_istore (lv' := [(4, _), (0, _), (1, _), (2, _), (3, _)]) he hb dX12_cover_102 hl (by decide) rfl (fun ls hl => ?_)
      exact gX12_cover_104 l B N _ _ _ _ _ _ _ _ h hS (lv_sub hl [1, 3, 4, 0] rfl)
    · rw [if_neg hc] at h
      refine z_aload_n he hb dX12_cover_58 rfl (lv_at hl 0 rfl) (zref_r _ _) ?_
      refine lv_iload_n he hb dX12_cover_59 rfl (lv_at hl 1 rfl) ?_
      refine lv_iload he hb dX12_cover_60 (lv_at hl 4 rfl) ?_
      obtain ⟨_, hc, h⟩ := zob h
      obtain ⟨x10, hx, h⟩ := zob h
      refine z_callV (ci := 12) (T := TX12) (N := 50) (rest := []) B hS (mX12_coveredBy l G hx) zy_X12_coveredBy zk_1790 (by decide) hc rfl rfl hl rfl (Nat.le_of_ble_eq_true rfl) dX12_cover_62 (kk := (fun H locs hS => ?_))
      obtain ⟨x11, hx, h⟩ := zob h
      refine z_callS (rest := []) B hS (mX12_bits l G hx) zy_X12_bits zk_1779 (by decide) rfl hl rfl (Nat.le_of_ble_eq_true rfl) dX12_cover_65 (kk := (fun H locs hS => ?_))
      refine lv_istore (lv' := [(5, _), (0, _), (1, _), (2, _), (3, _), (4, _)]) he hb dX12_cover_68 hl (by decide) rfl (fun ls hl => ?_)
      refine lv_iload he hb dX12_cover_70 (lv_at hl 0 rfl) ?_
      refine lv_iload_n he hb dX12_cover_72 rfl (lv_at hl 4 rfl) ?_
      refine lv_icmp_gt (tgt := 79) he hb dX12_cover_73 (by decide) (fun hc => ?_) (fun hc => ?_)
      · rw [if_pos hc] at h
        refine lv_iload he hb dX12_cover_79 (lv_at hl 0 rfl) ?_
        refine lv_istore_n (lv' := [(3, _), (5, _), (0, _), (1, _), (2, _), (4, _)]) he hb dX12_cover_81 rfl hl (by decide) rfl (fun ls hl => ?_)
        refine lv_iload he hb dX12_cover_82 (lv_at hl 5 rfl) ?_
        refine lv_istore_n (lv' := [(2, _), (3, _), (5, _), (0, _), (1, _), (4, _)]) he hb dX12_cover_84 rfl hl (by decide) rfl (fun ls hl => ?_)
        exact gX12_cover_85 l B ih _ _ _ _ _ _ _ _ _ h hS (lv_sub hl [3, 4, 0, 1, 5] rfl)
      · rw [if_neg hc] at h
        refine lv_goto (tgt := 85) he hb dX12_cover_76 (by decide) ?_
        exact gX12_cover_85 l B ih _ _ _ _ _ _ _ _ _ h hS (lv_sub hl [1, 2, 3, 4, 5] rfl)
def fX12_cover_35 (r9 : zF → Nat → Int32 → Int32 → Option (zF × Int32)) (N n : Nat) (f : zF) (a0 : Nat) (a2 : Int32) (t0 : Int32) (t1 : Int32) : Option (zF × Int32) :=
    (r9 f a0 (t0 ||| t1) (a2 + 1))
set_option maxRecDepth 100000 in
set_option maxHeartbeats 4000000 in
theorem gX12_cover_35 (l : Launch) {G : zG} {p : Program} {e : Env} {s : State} {m : MethodId} {args : Array Value} {below : List Frame} {meth : Method} {c : Code} {N n : Nat} {f9 : zF} {r : Int32} {r9 : zF → Nat → Int32 → Int32 → Option (zF × Int32)} (B : zB G p s m args meth c RX12 cX12_cover 6 (some .int)) (hr9 : ∀ (f : zF) (a0 : Nat) (a1 : Int32) (a2 : Int32) (H : Heap) (locs : List Loc) (ls : Array Slot), r9 f a0 a1 a2 = some (f9, r) → zS G n f H locs → lv_has ls 6 [(0, zr G a0), (1, .int a1), (2, .int a2)] → W p l e (zrm 5) s m args below meth c H locs 0 0 (MQ below (zQc G n f9 (some (.int r))) args s 0 0 (zA G)) (F0 m 9 ls [])) : ∀ (f : zF) (a0 : Nat) (a2 : Int32) (t0 : Int32) (t1 : Int32) (H : Heap) (locs : List Loc) (ls : Array Slot), fX12_cover_35 r9 N n f a0 a2 t0 t1 = some (f9, r) → zS G n f H locs → lv_has ls 6 [(0, zr G a0), (2, .int a2)] → W p l e (zrm 5) s m args below meth c H locs 0 0 (MQ below (zQc G n f9 (some (.int r))) args s 0 0 (zA G)) (F0 m 35 ls [.int t1, .int t0]) := by
  have he := B.1
  have hb := B.2.1
  intro f a0 a2 t0 t1 H locs ls h hS hl
  unfold fX12_cover_35 at h
  refine lv_ior he hb dX12_cover_35 ?_
  refine lv_istore_n (lv' := [(1, _), (0, _), (2, _)]) he hb dX12_cover_36 rfl hl (by decide) rfl (fun ls hl => ?_)
  refine lv_iinc (v := (a2 + 1)) (lv' := [(2, _), (1, _), (0, _)]) he hb dX12_cover_37 hl (k := 2) rfl rfl (by decide) rfl (fun ls hl => ?_)
  refine lv_goto (tgt := 9) he hb dX12_cover_40 (by decide) ?_
  exact hr9 _ _ _ _ _ _ _ h hS (lv_sub hl [2, 1, 0] rfl)
def fX12_cover_9 (N n : Nat) : Nat → zF → Nat → Int32 → Int32 → Option (zF × Int32)
  | 0, _, _, _, _ => none
  | k + 1, f, a0, a1, a2 =>
    ((zgR n f 12 a0 6).bind fun x2 => ((zlI n f 0 x2 (4 : Int32)).bind fun x3 => (if x3 ≤ a2 then (fX12_cover_50 N n N f a0 a1 (0 : Int32) (-1 : Int32) (0 : Int32)) else ((zck n f 12 a0).bind fun _ => ((fX12_isLooking N n f a0 a2).bind fun x12 => (if x12 = 0 then (fX12_cover_35 (fX12_cover_9 N n k) N n f a0 a2 a1 (0 : Int32)) else (fX12_cover_35 (fX12_cover_9 N n k) N n f a0 a2 a1 (zishl (1 : Int32) a2))))))))
set_option maxRecDepth 100000 in
set_option maxHeartbeats 4000000 in
theorem gX12_cover_9 (l : Launch) {G : zG} {p : Program} {e : Env} {s : State} {m : MethodId} {args : Array Value} {below : List Frame} {meth : Method} {c : Code} {N n : Nat} {f9 : zF} {r : Int32} (B : zB G p s m args meth c RX12 cX12_cover 6 (some .int)) : ∀ (k : Nat), ∀ (f : zF) (a0 : Nat) (a1 : Int32) (a2 : Int32) (H : Heap) (locs : List Loc) (ls : Array Slot), fX12_cover_9 N n k f a0 a1 a2 = some (f9, r) → zS G n f H locs → lv_has ls 6 [(0, zr G a0), (1, .int a1), (2, .int a2)] → W p l e (zrm 5) s m args below meth c H locs 0 0 (MQ below (zQc G n f9 (some (.int r))) args s 0 0 (zA G)) (F0 m 9 ls []) := by
  have he := B.1
  have hb := B.2.1
  intro k
  induction k with
  | zero =>
    intro f a0 a1 a2 H locs ls h
    unfold fX12_cover_9 at h
    cases h
  | succ k ih =>
    intro f a0 a1 a2 H locs ls h hS hl
    unfold fX12_cover_9 at h
    refine lv_iload_n he hb dX12_cover_9 rfl (lv_at hl 2 rfl) ?_
    refine z_aload_n he hb dX12_cover_10 rfl (lv_at hl 0 rfl) (zref_r _ _) ?_
    obtain ⟨x2, hx, h⟩ := zob h
    refine z_getR (ci := 12) (T := TX12) (N := 50) (j := 6) B hS hx rfl zin_X12 (by decide) zk_1353 dX12_cover_11 ?_
    refine lv_iconst (v := (4 : Int32)) he hb dX12_cover_14 (by decide) ?_
    obtain ⟨x3, hx, h⟩ := zob h
    refine z_ildI B hS hx dX12_cover_15 ?_
    refine lv_icmp_ge (tgt := 43) he hb dX12_cover_16 (by decide) (fun hc => ?_) (fun hc => ?_)
    · rw [if_pos hc] at h
      refine lv_iconst (v := (0 : Int32)) he hb dX12_cover_43 (by decide) ?_
      refine lv_istore_n (lv' := [(2, _), (0, _), (1, _)]) he hb dX12_cover_44 rfl hl (by decide) rfl (fun ls hl => ?_)
      refine lv_iconst (v := (-1 : Int32)) he hb dX12_cover_45 (by decide) ?_
      refine lv_istore_n (lv' := [(3, _), (2, _), (0, _), (1, _)]) he hb dX12_cover_46 rfl hl (by decide) rfl (fun ls hl => ?_)
      refine lv_iconst (v := (0 : Int32)) he hb dX12_cover_47 (by decide) ?_
      refine lv_istore (lv' := [(4, _), (3, _), (2, _), (0, _), (1, _)]) he hb dX12_cover_48 hl (by decide) rfl (fun ls hl => ?_)
      exact gX12_cover_50 l B N _ _ _ _ _ _ _ _ _ h hS (lv_sub hl [3, 4, 2, 1, 0] rfl)
    · rw [if_neg hc] at h
      refine lv_iload_n he hb dX12_cover_19 rfl (lv_at hl 1 rfl) ?_
      refine z_aload_n he hb dX12_cover_20 rfl (lv_at hl 0 rfl) (zref_r _ _) ?_
      refine lv_iload_n he hb dX12_cover_21 rfl (lv_at hl 2 rfl) ?_
      obtain ⟨_, hc, h⟩ := zob h
      obtain ⟨x12, hx, h⟩ := zob h
      refine z_callV (ci := 12) (T := TX12) (N := 50) (rest := [_]) B hS (mX12_isLooking l G hx) zy_X12_isLooking zk_1640 (by decide) hc rfl rfl hl rfl (Nat.le_of_ble_eq_true rfl) dX12_cover_22 (kk := (fun H locs hS => ?_))
      refine lv_if_eq (tgt := 34) he hb dX12_cover_25 (by decide) (fun hc => ?_) (fun hc => ?_)
      · rw [if_pos hc] at h
        refine lv_iconst (v := (0 : Int32)) he hb dX12_cover_34 (by decide) ?_
        exact gX12_cover_35 l B ih _ _ _ _ _ _ _ _ h hS (lv_sub hl [0, 2] rfl)
      · rw [if_neg hc] at h
        refine lv_iconst (v := (1 : Int32)) he hb dX12_cover_28 (by decide) ?_
        refine lv_iload_n he hb dX12_cover_29 rfl (lv_at hl 2 rfl) ?_
        refine z_ishl he hb dX12_cover_30 ?_
        refine lv_goto (tgt := 35) he hb dX12_cover_31 (by decide) ?_
        exact gX12_cover_35 l B ih _ _ _ _ _ _ _ _ h hS (lv_sub hl [0, 2] rfl)
def fX12_cover (N n : Nat) (f : zF) (a0 : Nat) : Option (zF × Int32) :=
    ((zpI n f 12 a0 0 (0 : Int32)).bind fun f1 => (fX12_cover_9 N n N f1 a0 (0 : Int32) (0 : Int32)))
set_option maxRecDepth 100000 in
set_option maxHeartbeats 4000000 in
theorem mX12_cover (l : Launch) (G : zG) {N n : Nat} {f : zF} {f9 : zF} {r : Int32} {a0 : Nat} (h : fX12_cover N n f a0 = some (f9, r)) : zM l G yX12_cover cX12_cover 6 (some .int) 5 n f [zr G a0] (some (.int r)) f9 := by
  refine zM.of (by decide) (Nat.le_of_ble_eq_true rfl) ?_
  intro p e s m args below meth c locs ls B hS hl
  have he := B.1
  have hb := B.2.1
  have hl : lv_has ls 6 [(0, zr G a0)] := hl
  unfold fX12_cover at h
  generalize s.heap = H at hS ⊢
  refine z_aload_n he hb dX12_cover_0 rfl (lv_at hl 0 rfl) (zref_r _ _) ?_
  refine lv_iconst (v := (0 : Int32)) he hb dX12_cover_1 (by decide) ?_
  obtain ⟨f1, hx, h⟩ := zob h
  refine z_putI (ci := 12) (T := TX12) (N := 50) (j := 0) B hS hx rfl zin_X12 tyX12 tyX12_ok nmX12 (by decide) zk_1347 rfl rfl dX12_cover_2 (fun H locs hS => ?_)
  refine lv_iconst (v := (0 : Int32)) he hb dX12_cover_5 (by decide) ?_
  refine lv_istore_n (lv' := [(1, _), (0, _)]) he hb dX12_cover_6 rfl hl (by decide) rfl (fun ls hl => ?_)
  refine lv_iconst (v := (0 : Int32)) he hb dX12_cover_7 (by decide) ?_
  refine lv_istore_n (lv' := [(2, _), (1, _), (0, _)]) he hb dX12_cover_8 rfl hl (by decide) rfl (fun ls hl => ?_)
  exact gX12_cover_9 l B N _ _ _ _ _ _ _ h hS (lv_sub hl [2, 1, 0] rfl)
theorem dX12_coverBy_0 : decode cX12_coverBy 0 = .ok (.aload_n 0, 1) := by decide +kernel
theorem dX12_coverBy_1 : decode cX12_coverBy 1 = .ok (.iconst 0, 1) := by decide +kernel
theorem dX12_coverBy_2 : decode cX12_coverBy 2 = .ok (.putfield 1, 3) := by decide +kernel
theorem dX12_coverBy_5 : decode cX12_coverBy 5 = .ok (.iload_n 1, 1) := by decide +kernel
theorem dX12_coverBy_6 : decode cX12_coverBy 6 = .ok (.iconst 0, 1) := by decide +kernel
theorem dX12_coverBy_7 : decode cX12_coverBy 7 = .ok (.aload_n 0, 1) := by decide +kernel
theorem dX12_coverBy_8 : decode cX12_coverBy 8 = .ok (.getfield 59, 3) := by decide +kernel
theorem dX12_coverBy_11 : decode cX12_coverBy 11 = .ok (.iconst 1, 1) := by decide +kernel
theorem dX12_coverBy_12 : decode cX12_coverBy 12 = .ok (.isub, 1) := by decide +kernel
theorem dX12_coverBy_13 : decode cX12_coverBy 13 = .ok (.invokestatic 192, 3) := by decide +kernel
theorem dX12_coverBy_16 : decode cX12_coverBy 16 = .ok (.ifCond .eq 12, 3) := by decide +kernel
theorem dX12_coverBy_19 : decode cX12_coverBy 19 = .ok (.aload_n 0, 1) := by decide +kernel
theorem dX12_coverBy_20 : decode cX12_coverBy 20 = .ok (.getfield 56, 3) := by decide +kernel
theorem dX12_coverBy_23 : decode cX12_coverBy 23 = .ok (.iload_n 1, 1) := by decide +kernel
theorem dX12_coverBy_24 : decode cX12_coverBy 24 = .ok (.iaload, 1) := by decide +kernel
theorem dX12_coverBy_25 : decode cX12_coverBy 25 = .ok (.goto 4, 3) := by decide +kernel
theorem dX12_coverBy_28 : decode cX12_coverBy 28 = .ok (.iconst (-1), 1) := by decide +kernel
theorem dX12_coverBy_29 : decode cX12_coverBy 29 = .ok (.ireturn, 1) := by decide +kernel
def fX12_coverBy (N n : Nat) (f : zF) (a0 : Nat) (a1 : Int32) : Option (zF × Int32) :=
    ((zpI n f 12 a0 0 (0 : Int32)).bind fun f1 => ((zgI n f1 12 a0 27).bind fun x2 => ((fX12_isIn N n f1 a1 (0 : Int32) (x2 - (1 : Int32))).bind fun x3 => (if x3 = 0 then some (f1, (-1 : Int32)) else ((zgR n f1 12 a0 26).bind fun x4 => ((zlI n f1 0 x4 a1).bind fun x5 => some (f1, x5)))))))
set_option maxRecDepth 100000 in
set_option maxHeartbeats 4000000 in
theorem mX12_coverBy (l : Launch) (G : zG) {N n : Nat} {f : zF} {f9 : zF} {r : Int32} {a0 : Nat} {a1 : Int32} (h : fX12_coverBy N n f a0 a1 = some (f9, r)) : zM l G yX12_coverBy cX12_coverBy 2 (some .int) 1 n f [zr G a0, .int a1] (some (.int r)) f9 := by
  refine zM.of (by decide) (Nat.le_of_ble_eq_true rfl) ?_
  intro p e s m args below meth c locs ls B hS hl
  have he := B.1
  have hb := B.2.1
  have hl : lv_has ls 2 [(0, zr G a0), (1, .int a1)] := hl
  unfold fX12_coverBy at h
  generalize s.heap = H at hS ⊢
  refine z_aload_n he hb dX12_coverBy_0 rfl (lv_at hl 0 rfl) (zref_r _ _) ?_
  refine lv_iconst (v := (0 : Int32)) he hb dX12_coverBy_1 (by decide) ?_
  obtain ⟨f1, hx, h⟩ := zob h
  refine z_putI (ci := 12) (T := TX12) (N := 50) (j := 0) B hS hx rfl zin_X12 tyX12 tyX12_ok nmX12 (by decide) zk_1347 rfl rfl dX12_coverBy_2 (fun H locs hS => ?_)
  refine lv_iload_n he hb dX12_coverBy_5 rfl (lv_at hl 1 rfl) ?_
  refine lv_iconst (v := (0 : Int32)) he hb dX12_coverBy_6 (by decide) ?_
  refine z_aload_n he hb dX12_coverBy_7 rfl (lv_at hl 0 rfl) (zref_r _ _) ?_
  obtain ⟨x2, hx, h⟩ := zob h
  refine z_getI (ci := 12) (T := TX12) (N := 50) (j := 27) B hS hx rfl zin_X12 (by decide) zk_1374 dX12_coverBy_8 ?_
  refine lv_iconst (v := (1 : Int32)) he hb dX12_coverBy_11 (by decide) ?_
  refine lv_isub he hb dX12_coverBy_12 ?_
  obtain ⟨x3, hx, h⟩ := zob h
  refine z_callS (rest := []) B hS (mX12_isIn l G hx) zy_X12_isIn zk_1545 (by decide) rfl hl rfl (Nat.le_of_ble_eq_true rfl) dX12_coverBy_13 (kk := (fun H locs hS => ?_))
  refine lv_if_eq (tgt := 28) he hb dX12_coverBy_16 (by decide) (fun hc => ?_) (fun hc => ?_)
  · rw [if_pos hc] at h
    refine lv_iconst (v := (-1 : Int32)) he hb dX12_coverBy_28 (by decide) ?_
    obtain ⟨rfl, rfl⟩ := Prod.mk.inj (Option.some.inj h)
    exact z_iret B hS dX12_coverBy_29
  · rw [if_neg hc] at h
    refine z_aload_n he hb dX12_coverBy_19 rfl (lv_at hl 0 rfl) (zref_r _ _) ?_
    obtain ⟨x4, hx, h⟩ := zob h
    refine z_getR (ci := 12) (T := TX12) (N := 50) (j := 26) B hS hx rfl zin_X12 (by decide) zk_1373 dX12_coverBy_20 ?_
    refine lv_iload_n he hb dX12_coverBy_23 rfl (lv_at hl 1 rfl) ?_
    obtain ⟨x5, hx, h⟩ := zob h
    refine z_ildI B hS hx dX12_coverBy_24 ?_
    refine lv_goto (tgt := 29) he hb dX12_coverBy_25 (by decide) ?_
    obtain ⟨rfl, rfl⟩ := Prod.mk.inj (Option.some.inj h)
    exact z_iret B hS dX12_coverBy_29
theorem dX12_isEnough_0 : decode cX12_isEnough 0 = .ok (.iconst 0, 1) := by decide +kernel
theorem dX12_isEnough_1 : decode cX12_isEnough 1 = .ok (.istore_n 2, 1) := by decide +kernel
theorem dX12_isEnough_2 : decode cX12_isEnough 2 = .ok (.iload_n 2, 1) := by decide +kernel
theorem dX12_isEnough_3 : decode cX12_isEnough 3 = .ok (.sipush 1024, 3) := by decide +kernel
theorem dX12_isEnough_6 : decode cX12_isEnough 6 = .ok (.if_icmp .ge 30, 3) := by decide +kernel
theorem dX12_isEnough_9 : decode cX12_isEnough 9 = .ok (.aload_n 0, 1) := by decide +kernel
theorem dX12_isEnough_10 : decode cX12_isEnough 10 = .ok (.iload_n 1, 1) := by decide +kernel
theorem dX12_isEnough_11 : decode cX12_isEnough 11 = .ok (.iload_n 2, 1) := by decide +kernel
theorem dX12_isEnough_12 : decode cX12_isEnough 12 = .ok (.invokevirtual 370, 3) := by decide +kernel
theorem dX12_isEnough_15 : decode cX12_isEnough 15 = .ok (.iconst 1, 1) := by decide +kernel
theorem dX12_isEnough_16 : decode cX12_isEnough 16 = .ok (.aload_n 0, 1) := by decide +kernel
theorem dX12_isEnough_17 : decode cX12_isEnough 17 = .ok (.getfield 33, 3) := by decide +kernel
theorem dX12_isEnough_20 : decode cX12_isEnough 20 = .ok (.iconst 3, 1) := by decide +kernel
theorem dX12_isEnough_21 : decode cX12_isEnough 21 = .ok (.iaload, 1) := by decide +kernel
theorem dX12_isEnough_22 : decode cX12_isEnough 22 = .ok (.ishl, 1) := by decide +kernel
theorem dX12_isEnough_23 : decode cX12_isEnough 23 = .ok (.iconst 1, 1) := by decide +kernel
theorem dX12_isEnough_24 : decode cX12_isEnough 24 = .ok (.isub, 1) := by decide +kernel
theorem dX12_isEnough_25 : decode cX12_isEnough 25 = .ok (.if_icmp .ne 5, 3) := by decide +kernel
theorem dX12_isEnough_28 : decode cX12_isEnough 28 = .ok (.iconst 1, 1) := by decide +kernel
theorem dX12_isEnough_29 : decode cX12_isEnough 29 = .ok (.ireturn, 1) := by decide +kernel
theorem dX12_isEnough_30 : decode cX12_isEnough 30 = .ok (.iinc 2 1, 3) := by decide +kernel
theorem dX12_isEnough_33 : decode cX12_isEnough 33 = .ok (.goto (-31), 3) := by decide +kernel
theorem dX12_isEnough_36 : decode cX12_isEnough 36 = .ok (.iconst 0, 1) := by decide +kernel
theorem dX12_isEnough_37 : decode cX12_isEnough 37 = .ok (.ireturn, 1) := by decide +kernel
def fX12_isEnough_2 (N n : Nat) (f : zF) : Nat → Nat → Int32 → Int32 → Option Int32
  | 0, _, _, _ => none
  | k + 1, a0, a1, a2 =>
    (if (1024 : Int32) ≤ a2 then zbl (0 : Int32) else ((zck n f 12 a0).bind fun _ => ((fX12_coveredBy N n f a0 a1 a2).bind fun x1 => ((zgR n f 12 a0 6).bind fun x2 => ((zlI n f 0 x2 (3 : Int32)).bind fun x3 => (if x1 = ((zishl (1 : Int32) x3) - (1 : Int32)) then zbl (1 : Int32) else (fX12_isEnough_2 N n f k a0 a1 (a2 + 1))))))))
set_option maxRecDepth 100000 in
set_option maxHeartbeats 4000000 in
theorem gX12_isEnough_2 (l : Launch) {G : zG} {p : Program} {e : Env} {s : State} {m : MethodId} {args : Array Value} {below : List Frame} {meth : Method} {c : Code} {f : zF} {N n : Nat} {r : Int32} (B : zB G p s m args meth c RX12 cX12_isEnough 3 (some .boolean)) : ∀ (k : Nat), ∀ (a0 : Nat) (a1 : Int32) (a2 : Int32) (H : Heap) (locs : List Loc) (ls : Array Slot), fX12_isEnough_2 N n f k a0 a1 a2 = some r → zS G n f H locs → lv_has ls 3 [(0, zr G a0), (1, .int a1), (2, .int a2)] → W p l e (zrm 5) s m args below meth c H locs 0 0 (MQ below (zQc G n f (some (.int r))) args s 0 0 (zA G)) (F0 m 2 ls []) := by
  have he := B.1
  have hb := B.2.1
  intro k
  induction k with
  | zero =>
    intro a0 a1 a2 H locs ls h
    unfold fX12_isEnough_2 at h
    cases h
  | succ k ih =>
    intro a0 a1 a2 H locs ls h hS hl
    unfold fX12_isEnough_2 at h
    refine lv_iload_n he hb dX12_isEnough_2 rfl (lv_at hl 2 rfl) ?_
    refine lv_sipush (v := (1024 : Int32)) he hb dX12_isEnough_3 (by decide) ?_
    refine lv_icmp_ge (tgt := 36) he hb dX12_isEnough_6 (by decide) (fun hc => ?_) (fun hc => ?_)
    · rw [if_pos hc] at h
      refine lv_iconst (v := (0 : Int32)) he hb dX12_isEnough_36 (by decide) ?_
      obtain ⟨hz, rfl⟩ := zbl_i h
      exact z_zret B hS hz dX12_isEnough_37
    · rw [if_neg hc] at h
      refine z_aload_n he hb dX12_isEnough_9 rfl (lv_at hl 0 rfl) (zref_r _ _) ?_
      refine lv_iload_n he hb dX12_isEnough_10 rfl (lv_at hl 1 rfl) ?_
      refine lv_iload_n he hb dX12_isEnough_11 rfl (lv_at hl 2 rfl) ?_
      obtain ⟨_, hc, h⟩ := zob h
      obtain ⟨x1, hx, h⟩ := zob h
      refine z_callV (ci := 12) (T := TX12) (N := 50) (rest := []) B hS (mX12_coveredBy l G hx) zy_X12_coveredBy zk_1790 (by decide) hc rfl rfl hl rfl (Nat.le_of_ble_eq_true rfl) dX12_isEnough_12 (kk := (fun H locs hS => ?_))
      refine lv_iconst (v := (1 : Int32)) he hb dX12_isEnough_15 (by decide) ?_
      refine z_aload_n he hb dX12_isEnough_16 rfl (lv_at hl 0 rfl) (zref_r _ _) ?_
      obtain ⟨x2, hx, h⟩ := zob h
      refine z_getR (ci := 12) (T := TX12) (N := 50) (j := 6) B hS hx rfl zin_X12 (by decide) zk_1353 dX12_isEnough_17 ?_
      refine lv_iconst (v := (3 : Int32)) he hb dX12_isEnough_20 (by decide) ?_
      obtain ⟨x3, hx, h⟩ := zob h
      refine z_ildI B hS hx dX12_isEnough_21 ?_
      refine z_ishl he hb dX12_isEnough_22 ?_
      refine lv_iconst (v := (1 : Int32)) he hb dX12_isEnough_23 (by decide) ?_
      refine lv_isub he hb dX12_isEnough_24 ?_
      refine lv_icmp_ne (tgt := 30) he hb dX12_isEnough_25 (by decide) (fun hc => ?_) (fun hc => ?_)
      · rw [if_neg hc] at h
        refine lv_iinc (v := (a2 + 1)) (lv' := [(2, _), (0, _), (1, _)]) he hb dX12_isEnough_30 hl (k := 2) rfl rfl (by decide) rfl (fun ls hl => ?_)
        refine lv_goto (tgt := 2) he hb dX12_isEnough_33 (by decide) ?_
        exact ih _ _ _ _ _ _ h hS (lv_sub hl [1, 2, 0] rfl)
      · rw [if_pos hc] at h
        refine lv_iconst (v := (1 : Int32)) he hb dX12_isEnough_28 (by decide) ?_
        obtain ⟨hz, rfl⟩ := zbl_i h
        exact z_zret B hS hz dX12_isEnough_29
def fX12_isEnough (N n : Nat) (f : zF) (a0 : Nat) (a1 : Int32) : Option Int32 :=
    (fX12_isEnough_2 N n f N a0 a1 (0 : Int32))
set_option maxRecDepth 100000 in
set_option maxHeartbeats 4000000 in
theorem mX12_isEnough (l : Launch) (G : zG) {N n : Nat} {f : zF} {r : Int32} {a0 : Nat} {a1 : Int32} (h : fX12_isEnough N n f a0 a1 = some r) : zM l G yX12_isEnough cX12_isEnough 3 (some .boolean) 5 n f [zr G a0, .int a1] (some (.int r)) f := by
  refine zM.of (by decide) (Nat.le_of_ble_eq_true rfl) ?_
  intro p e s m args below meth c locs ls B hS hl
  have he := B.1
  have hb := B.2.1
  have hl : lv_has ls 3 [(0, zr G a0), (1, .int a1)] := hl
  unfold fX12_isEnough at h
  generalize s.heap = H at hS ⊢
  refine lv_iconst (v := (0 : Int32)) he hb dX12_isEnough_0 (by decide) ?_
  refine lv_istore_n (lv' := [(2, _), (0, _), (1, _)]) he hb dX12_isEnough_1 rfl hl (by decide) rfl (fun ls hl => ?_)
  exact gX12_isEnough_2 l B N _ _ _ _ _ _ h hS (lv_sub hl [1, 2, 0] rfl)
theorem dX12_few_0 : decode cX12_few 0 = .ok (.aload_n 0, 1) := by decide +kernel
theorem dX12_few_1 : decode cX12_few 1 = .ok (.iconst 0, 1) := by decide +kernel
theorem dX12_few_2 : decode cX12_few 2 = .ok (.putfield 1, 3) := by decide +kernel
theorem dX12_few_5 : decode cX12_few 5 = .ok (.iconst (-1), 1) := by decide +kernel
theorem dX12_few_6 : decode cX12_few 6 = .ok (.istore_n 1, 1) := by decide +kernel
theorem dX12_few_7 : decode cX12_few 7 = .ok (.iconst 0, 1) := by decide +kernel
theorem dX12_few_8 : decode cX12_few 8 = .ok (.istore_n 2, 1) := by decide +kernel
theorem dX12_few_9 : decode cX12_few 9 = .ok (.iload_n 2, 1) := by decide +kernel
theorem dX12_few_10 : decode cX12_few 10 = .ok (.iconst 1, 1) := by decide +kernel
theorem dX12_few_11 : decode cX12_few 11 = .ok (.aload_n 0, 1) := by decide +kernel
theorem dX12_few_12 : decode cX12_few 12 = .ok (.getfield 33, 3) := by decide +kernel
theorem dX12_few_15 : decode cX12_few 15 = .ok (.iconst 4, 1) := by decide +kernel
theorem dX12_few_16 : decode cX12_few 16 = .ok (.iaload, 1) := by decide +kernel
theorem dX12_few_17 : decode cX12_few 17 = .ok (.ishl, 1) := by decide +kernel
theorem dX12_few_18 : decode cX12_few 18 = .ok (.if_icmp .ge 34, 3) := by decide +kernel
theorem dX12_few_21 : decode cX12_few 21 = .ok (.iload_n 1, 1) := by decide +kernel
theorem dX12_few_22 : decode cX12_few 22 = .ok (.ifCond .lt 14, 3) := by decide +kernel
theorem dX12_few_25 : decode cX12_few 25 = .ok (.iload_n 2, 1) := by decide +kernel
theorem dX12_few_26 : decode cX12_few 26 = .ok (.invokestatic 358, 3) := by decide +kernel
theorem dX12_few_29 : decode cX12_few 29 = .ok (.iload_n 1, 1) := by decide +kernel
theorem dX12_few_30 : decode cX12_few 30 = .ok (.invokestatic 358, 3) := by decide +kernel
theorem dX12_few_33 : decode cX12_few 33 = .ok (.if_icmp .ge 13, 3) := by decide +kernel
theorem dX12_few_36 : decode cX12_few 36 = .ok (.aload_n 0, 1) := by decide +kernel
theorem dX12_few_37 : decode cX12_few 37 = .ok (.iload_n 2, 1) := by decide +kernel
theorem dX12_few_38 : decode cX12_few 38 = .ok (.invokevirtual 373, 3) := by decide +kernel
theorem dX12_few_41 : decode cX12_few 41 = .ok (.ifCond .eq 5, 3) := by decide +kernel
theorem dX12_few_44 : decode cX12_few 44 = .ok (.iload_n 2, 1) := by decide +kernel
theorem dX12_few_45 : decode cX12_few 45 = .ok (.istore_n 1, 1) := by decide +kernel
theorem dX12_few_46 : decode cX12_few 46 = .ok (.iinc 2 1, 3) := by decide +kernel
theorem dX12_few_49 : decode cX12_few 49 = .ok (.goto (-40), 3) := by decide +kernel
theorem dX12_few_52 : decode cX12_few 52 = .ok (.iload_n 1, 1) := by decide +kernel
theorem dX12_few_53 : decode cX12_few 53 = .ok (.ifCond .ge 5, 3) := by decide +kernel
theorem dX12_few_56 : decode cX12_few 56 = .ok (.iconst (-1), 1) := by decide +kernel
theorem dX12_few_57 : decode cX12_few 57 = .ok (.ireturn, 1) := by decide +kernel
theorem dX12_few_58 : decode cX12_few 58 = .ok (.aload_n 0, 1) := by decide +kernel
theorem dX12_few_59 : decode cX12_few 59 = .ok (.iconst 1, 1) := by decide +kernel
theorem dX12_few_60 : decode cX12_few 60 = .ok (.putfield 376, 3) := by decide +kernel
theorem dX12_few_63 : decode cX12_few 63 = .ok (.aload_n 0, 1) := by decide +kernel
theorem dX12_few_64 : decode cX12_few 64 = .ok (.iload_n 1, 1) := by decide +kernel
theorem dX12_few_65 : decode cX12_few 65 = .ok (.putfield 379, 3) := by decide +kernel
theorem dX12_few_68 : decode cX12_few 68 = .ok (.iload_n 1, 1) := by decide +kernel
theorem dX12_few_69 : decode cX12_few 69 = .ok (.invokestatic 358, 3) := by decide +kernel
theorem dX12_few_72 : decode cX12_few 72 = .ok (.ireturn, 1) := by decide +kernel
def fX12_few_46 (r9 : zF → Nat → Int32 → Int32 → Option (zF × Int32)) (N n : Nat) (f : zF) (a0 : Nat) (a1 : Int32) (a2 : Int32) : Option (zF × Int32) :=
    (r9 f a0 a1 (a2 + 1))
set_option maxRecDepth 100000 in
set_option maxHeartbeats 4000000 in
theorem gX12_few_46 (l : Launch) {G : zG} {p : Program} {e : Env} {s : State} {m : MethodId} {args : Array Value} {below : List Frame} {meth : Method} {c : Code} {N n : Nat} {f9 : zF} {r : Int32} {r9 : zF → Nat → Int32 → Int32 → Option (zF × Int32)} (B : zB G p s m args meth c RX12 cX12_few 3 (some .int)) (hr9 : ∀ (f : zF) (a0 : Nat) (a1 : Int32) (a2 : Int32) (H : Heap) (locs : List Loc) (ls : Array Slot), r9 f a0 a1 a2 = some (f9, r) → zS G n f H locs → lv_has ls 3 [(0, zr G a0), (1, .int a1), (2, .int a2)] → W p l e (zrm 6) s m args below meth c H locs 0 0 (MQ below (zQc G n f9 (some (.int r))) args s 0 0 (zA G)) (F0 m 9 ls [])) : ∀ (f : zF) (a0 : Nat) (a1 : Int32) (a2 : Int32) (H : Heap) (locs : List Loc) (ls : Array Slot), fX12_few_46 r9 N n f a0 a1 a2 = some (f9, r) → zS G n f H locs → lv_has ls 3 [(0, zr G a0), (1, .int a1), (2, .int a2)] → W p l e (zrm 6) s m args below meth c H locs 0 0 (MQ below (zQc G n f9 (some (.int r))) args s 0 0 (zA G)) (F0 m 46 ls []) := by
  have he := B.1
  have hb := B.2.1
  intro f a0 a1 a2 H locs ls h hS hl
  unfold fX12_few_46 at h
  refine lv_iinc (v := (a2 + 1)) (lv' := [(2, _), (0, _), (1, _)]) he hb dX12_few_46 hl (k := 2) rfl rfl (by decide) rfl (fun ls hl => ?_)
  refine lv_goto (tgt := 9) he hb dX12_few_49 (by decide) ?_
  exact hr9 _ _ _ _ _ _ _ h hS (lv_sub hl [1, 2, 0] rfl)
def fX12_few_36 (r9 : zF → Nat → Int32 → Int32 → Option (zF × Int32)) (N n : Nat) (f : zF) (a0 : Nat) (a1 : Int32) (a2 : Int32) : Option (zF × Int32) :=
    ((zck n f 12 a0).bind fun _ => ((fX12_isEnough N n f a0 a2).bind fun x7 => (if x7 = 0 then (fX12_few_46 r9 N n f a0 a1 a2) else (fX12_few_46 r9 N n f a0 a2 a2))))
set_option maxRecDepth 100000 in
set_option maxHeartbeats 4000000 in
theorem gX12_few_36 (l : Launch) {G : zG} {p : Program} {e : Env} {s : State} {m : MethodId} {args : Array Value} {below : List Frame} {meth : Method} {c : Code} {N n : Nat} {f9 : zF} {r : Int32} {r9 : zF → Nat → Int32 → Int32 → Option (zF × Int32)} (B : zB G p s m args meth c RX12 cX12_few 3 (some .int)) (hr9 : ∀ (f : zF) (a0 : Nat) (a1 : Int32) (a2 : Int32) (H : Heap) (locs : List Loc) (ls : Array Slot), r9 f a0 a1 a2 = some (f9, r) → zS G n f H locs → lv_has ls 3 [(0, zr G a0), (1, .int a1), (2, .int a2)] → W p l e (zrm 6) s m args below meth c H locs 0 0 (MQ below (zQc G n f9 (some (.int r))) args s 0 0 (zA G)) (F0 m 9 ls [])) : ∀ (f : zF) (a0 : Nat) (a1 : Int32) (a2 : Int32) (H : Heap) (locs : List Loc) (ls : Array Slot), fX12_few_36 r9 N n f a0 a1 a2 = some (f9, r) → zS G n f H locs → lv_has ls 3 [(0, zr G a0), (1, .int a1), (2, .int a2)] → W p l e (zrm 6) s m args below meth c H locs 0 0 (MQ below (zQc G n f9 (some (.int r))) args s 0 0 (zA G)) (F0 m 36 ls []) := by
  have he := B.1
  have hb := B.2.1
  intro f a0 a1 a2 H locs ls h hS hl
  unfold fX12_few_36 at h
  refine z_aload_n he hb dX12_few_36 rfl (lv_at hl 0 rfl) (zref_r _ _) ?_
  refine lv_iload_n he hb dX12_few_37 rfl (lv_at hl 2 rfl) ?_
  obtain ⟨_, hc, h⟩ := zob h
  obtain ⟨x7, hx, h⟩ := zob h
  refine z_callV (ci := 12) (T := TX12) (N := 50) (rest := []) B hS (mX12_isEnough l G hx) zy_X12_isEnough zk_1805 (by decide) hc rfl rfl hl rfl (Nat.le_of_ble_eq_true rfl) dX12_few_38 (kk := (fun H locs hS => ?_))
  refine lv_if_eq (tgt := 46) he hb dX12_few_41 (by decide) (fun hc => ?_) (fun hc => ?_)
  · rw [if_pos hc] at h
    exact gX12_few_46 l B hr9 _ _ _ _ _ _ _ h hS (lv_sub hl [0, 1, 2] rfl)
  · rw [if_neg hc] at h
    refine lv_iload_n he hb dX12_few_44 rfl (lv_at hl 2 rfl) ?_
    refine lv_istore_n (lv' := [(1, _), (0, _), (2, _)]) he hb dX12_few_45 rfl hl (by decide) rfl (fun ls hl => ?_)
    exact gX12_few_46 l B hr9 _ _ _ _ _ _ _ h hS (lv_sub hl [1, 0, 2] rfl)
def fX12_few_9 (N n : Nat) : Nat → zF → Nat → Int32 → Int32 → Option (zF × Int32)
  | 0, _, _, _, _ => none
  | k + 1, f, a0, a1, a2 =>
    ((zgR n f 12 a0 6).bind fun x2 => ((zlI n f 0 x2 (4 : Int32)).bind fun x3 => (if (zishl (1 : Int32) x3) ≤ a2 then (if 0 ≤ a1 then ((zpZ n f 12 a0 29 (1 : Int32)).bind fun f4 => ((zpI n f4 12 a0 28 a1).bind fun f5 => ((fX12_bits N n f5 a1).bind fun x6 => some (f5, x6)))) else some (f, (-1 : Int32))) else (if a1 < 0 then (fX12_few_36 (fX12_few_9 N n k) N n f a0 a1 a2) else ((fX12_bits N n f a2).bind fun x8 => ((fX12_bits N n f a1).bind fun x9 => (if x9 ≤ x8 then (fX12_few_46 (fX12_few_9 N n k) N n f a0 a1 a2) else (fX12_few_36 (fX12_few_9 N n k) N n f a0 a1 a2))))))))
set_option maxRecDepth 100000 in
set_option maxHeartbeats 4000000 in
theorem gX12_few_9 (l : Launch) {G : zG} {p : Program} {e : Env} {s : State} {m : MethodId} {args : Array Value} {below : List Frame} {meth : Method} {c : Code} {N n : Nat} {f9 : zF} {r : Int32} (B : zB G p s m args meth c RX12 cX12_few 3 (some .int)) : ∀ (k : Nat), ∀ (f : zF) (a0 : Nat) (a1 : Int32) (a2 : Int32) (H : Heap) (locs : List Loc) (ls : Array Slot), fX12_few_9 N n k f a0 a1 a2 = some (f9, r) → zS G n f H locs → lv_has ls 3 [(0, zr G a0), (1, .int a1), (2, .int a2)] → W p l e (zrm 6) s m args below meth c H locs 0 0 (MQ below (zQc G n f9 (some (.int r))) args s 0 0 (zA G)) (F0 m 9 ls []) := by
  have he := B.1
  have hb := B.2.1
  intro k
  induction k with
  | zero =>
    intro f a0 a1 a2 H locs ls h
    unfold fX12_few_9 at h
    cases h
  | succ k ih =>
    intro f a0 a1 a2 H locs ls h hS hl
    unfold fX12_few_9 at h
    refine lv_iload_n he hb dX12_few_9 rfl (lv_at hl 2 rfl) ?_
    refine lv_iconst (v := (1 : Int32)) he hb dX12_few_10 (by decide) ?_
    refine z_aload_n he hb dX12_few_11 rfl (lv_at hl 0 rfl) (zref_r _ _) ?_
    obtain ⟨x2, hx, h⟩ := zob h
    refine z_getR (ci := 12) (T := TX12) (N := 50) (j := 6) B hS hx rfl zin_X12 (by decide) zk_1353 dX12_few_12 ?_
    refine lv_iconst (v := (4 : Int32)) he hb dX12_few_15 (by decide) ?_
    obtain ⟨x3, hx, h⟩ := zob h
    refine z_ildI B hS hx dX12_few_16 ?_
    refine z_ishl he hb dX12_few_17 ?_
    refine lv_icmp_ge (tgt := 52) he hb dX12_few_18 (by decide) (fun hc => ?_) (fun hc => ?_)
    · rw [if_pos hc] at h
      refine lv_iload_n he hb dX12_few_52 rfl (lv_at hl 1 rfl) ?_
      refine lv_if_ge (tgt := 58) he hb dX12_few_53 (by decide) (fun hc => ?_) (fun hc => ?_)
      · rw [if_pos hc] at h
        refine z_aload_n he hb dX12_few_58 rfl (lv_at hl 0 rfl) (zref_r _ _) ?_
        refine lv_iconst (v := (1 : Int32)) he hb dX12_few_59 (by decide) ?_
        obtain ⟨f4, hx, h⟩ := zob h
        refine z_putZ (ci := 12) (T := TX12) (N := 50) (j := 29) B hS hx rfl zin_X12 tyX12 tyX12_ok nmX12 (by decide) zk_1376 rfl rfl dX12_few_60 (fun H locs hS => ?_)
        refine z_aload_n he hb dX12_few_63 rfl (lv_at hl 0 rfl) (zref_r _ _) ?_
        refine lv_iload_n he hb dX12_few_64 rfl (lv_at hl 1 rfl) ?_
        obtain ⟨f5, hx, h⟩ := zob h
        refine z_putI (ci := 12) (T := TX12) (N := 50) (j := 28) B hS hx rfl zin_X12 tyX12 tyX12_ok nmX12 (by decide) zk_1375 rfl rfl dX12_few_65 (fun H locs hS => ?_)
        refine lv_iload_n he hb dX12_few_68 rfl (lv_at hl 1 rfl) ?_
        obtain ⟨x6, hx, h⟩ := zob h
        refine z_callS (rest := []) B hS (mX12_bits l G hx) zy_X12_bits zk_1779 (by decide) rfl hl rfl (Nat.le_of_ble_eq_true rfl) dX12_few_69 (kk := (fun H locs hS => ?_))
        obtain ⟨rfl, rfl⟩ := Prod.mk.inj (Option.some.inj h)
        exact z_iret B hS dX12_few_72
      · rw [if_neg hc] at h
        refine lv_iconst (v := (-1 : Int32)) he hb dX12_few_56 (by decide) ?_
        obtain ⟨rfl, rfl⟩ := Prod.mk.inj (Option.some.inj h)
        exact z_iret B hS dX12_few_57
    · rw [if_neg hc] at h
      refine lv_iload_n he hb dX12_few_21 rfl (lv_at hl 1 rfl) ?_
      refine lv_if_lt (tgt := 36) he hb dX12_few_22 (by decide) (fun hc => ?_) (fun hc => ?_)
      · rw [if_pos hc] at h
        exact gX12_few_36 l B ih _ _ _ _ _ _ _ h hS (lv_sub hl [0, 1, 2] rfl)
      · rw [if_neg hc] at h
        refine lv_iload_n he hb dX12_few_25 rfl (lv_at hl 2 rfl) ?_
        obtain ⟨x8, hx, h⟩ := zob h
        refine z_callS (rest := []) B hS (mX12_bits l G hx) zy_X12_bits zk_1779 (by decide) rfl hl rfl (Nat.le_of_ble_eq_true rfl) dX12_few_26 (kk := (fun H locs hS => ?_))
        refine lv_iload_n he hb dX12_few_29 rfl (lv_at hl 1 rfl) ?_
        obtain ⟨x9, hx, h⟩ := zob h
        refine z_callS (rest := [_]) B hS (mX12_bits l G hx) zy_X12_bits zk_1779 (by decide) rfl hl rfl (Nat.le_of_ble_eq_true rfl) dX12_few_30 (kk := (fun H locs hS => ?_))
        refine lv_icmp_ge (tgt := 46) he hb dX12_few_33 (by decide) (fun hc => ?_) (fun hc => ?_)
        · rw [if_pos hc] at h
          exact gX12_few_46 l B ih _ _ _ _ _ _ _ h hS (lv_sub hl [0, 1, 2] rfl)
        · rw [if_neg hc] at h
          exact gX12_few_36 l B ih _ _ _ _ _ _ _ h hS (lv_sub hl [0, 1, 2] rfl)
def fX12_few (N n : Nat) (f : zF) (a0 : Nat) : Option (zF × Int32) :=
    ((zpI n f 12 a0 0 (0 : Int32)).bind fun f1 => (fX12_few_9 N n N f1 a0 (-1 : Int32) (0 : Int32)))
set_option maxRecDepth 100000 in
set_option maxHeartbeats 4000000 in
theorem mX12_few (l : Launch) (G : zG) {N n : Nat} {f : zF} {f9 : zF} {r : Int32} {a0 : Nat} (h : fX12_few N n f a0 = some (f9, r)) : zM l G yX12_few cX12_few 3 (some .int) 6 n f [zr G a0] (some (.int r)) f9 := by
  refine zM.of (by decide) (Nat.le_of_ble_eq_true rfl) ?_
  intro p e s m args below meth c locs ls B hS hl
  have he := B.1
  have hb := B.2.1
  have hl : lv_has ls 3 [(0, zr G a0)] := hl
  unfold fX12_few at h
  generalize s.heap = H at hS ⊢
  refine z_aload_n he hb dX12_few_0 rfl (lv_at hl 0 rfl) (zref_r _ _) ?_
  refine lv_iconst (v := (0 : Int32)) he hb dX12_few_1 (by decide) ?_
  obtain ⟨f1, hx, h⟩ := zob h
  refine z_putI (ci := 12) (T := TX12) (N := 50) (j := 0) B hS hx rfl zin_X12 tyX12 tyX12_ok nmX12 (by decide) zk_1347 rfl rfl dX12_few_2 (fun H locs hS => ?_)
  refine lv_iconst (v := (-1 : Int32)) he hb dX12_few_5 (by decide) ?_
  refine lv_istore_n (lv' := [(1, _), (0, _)]) he hb dX12_few_6 rfl hl (by decide) rfl (fun ls hl => ?_)
  refine lv_iconst (v := (0 : Int32)) he hb dX12_few_7 (by decide) ?_
  refine lv_istore_n (lv' := [(2, _), (1, _), (0, _)]) he hb dX12_few_8 rfl hl (by decide) rfl (fun ls hl => ?_)
  exact gX12_few_9 l B N _ _ _ _ _ _ _ h hS (lv_sub hl [2, 1, 0] rfl)
