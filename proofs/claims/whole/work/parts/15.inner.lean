/-! methods: what they do to the small heap, and that their bytecode does it -/
theorem dX0_tell_0 : decode cX0_tell 0 = .ok (.aload_n 0, 1) := by decide +kernel
theorem dX0_tell_1 : decode cX0_tell 1 = .ok (.iconst 1, 1) := by decide +kernel
theorem dX0_tell_2 : decode cX0_tell 2 = .ok (.putfield 28, 3) := by decide +kernel
theorem dX0_tell_5 : decode cX0_tell 5 = .ok (.aload_n 0, 1) := by decide +kernel
theorem dX0_tell_6 : decode cX0_tell 6 = .ok (.getfield 25, 3) := by decide +kernel
theorem dX0_tell_9 : decode cX0_tell 9 = .ok (.iconst 0, 1) := by decide +kernel
theorem dX0_tell_10 : decode cX0_tell 10 = .ok (.iload_n 1, 1) := by decide +kernel
theorem dX0_tell_11 : decode cX0_tell 11 = .ok (.invokestatic 32, 3) := by decide +kernel
theorem dX0_tell_14 : decode cX0_tell 14 = .ok (.aload_n 0, 1) := by decide +kernel
theorem dX0_tell_15 : decode cX0_tell 15 = .ok (.getfield 25, 3) := by decide +kernel
theorem dX0_tell_18 : decode cX0_tell 18 = .ok (.iconst 1, 1) := by decide +kernel
theorem dX0_tell_19 : decode cX0_tell 19 = .ok (.iload_n 2, 1) := by decide +kernel
theorem dX0_tell_20 : decode cX0_tell 20 = .ok (.invokestatic 32, 3) := by decide +kernel
theorem dX0_tell_23 : decode cX0_tell 23 = .ok (.aload_n 0, 1) := by decide +kernel
theorem dX0_tell_24 : decode cX0_tell 24 = .ok (.getfield 25, 3) := by decide +kernel
theorem dX0_tell_27 : decode cX0_tell 27 = .ok (.iconst 2, 1) := by decide +kernel
theorem dX0_tell_28 : decode cX0_tell 28 = .ok (.aload_n 3, 1) := by decide +kernel
theorem dX0_tell_29 : decode cX0_tell 29 = .ok (.getfield 36, 3) := by decide +kernel
theorem dX0_tell_32 : decode cX0_tell 32 = .ok (.invokestatic 32, 3) := by decide +kernel
theorem dX0_tell_35 : decode cX0_tell 35 = .ok (.aload_n 0, 1) := by decide +kernel
theorem dX0_tell_36 : decode cX0_tell 36 = .ok (.getfield 25, 3) := by decide +kernel
theorem dX0_tell_39 : decode cX0_tell 39 = .ok (.iconst 3, 1) := by decide +kernel
theorem dX0_tell_40 : decode cX0_tell 40 = .ok (.aload_n 3, 1) := by decide +kernel
theorem dX0_tell_41 : decode cX0_tell 41 = .ok (.invokevirtual 41, 3) := by decide +kernel
theorem dX0_tell_44 : decode cX0_tell 44 = .ok (.invokestatic 32, 3) := by decide +kernel
theorem dX0_tell_47 : decode cX0_tell 47 = .ok (.return_, 1) := by decide +kernel
def fX0_tell (N n : Nat) (f : zF) (a0 : Nat) (a1 : Int32) (a2 : Int32) (a3 : Nat) : Option zF :=
    ((zpZ n f 0 a0 8 (1 : Int32)).bind fun f1 => ((zgR n f1 0 a0 7).bind fun x2 => ((fX11_put N n f1 x2 (0 : Int32) a1).bind fun f3 => ((zgR n f3 0 a0 7).bind fun x4 => ((fX11_put N n f3 x4 (1 : Int32) a2).bind fun f5 => ((zgR n f5 0 a0 7).bind fun x6 => ((zgI n f5 8 a3 1).bind fun x7 => ((fX11_put N n f5 x6 (2 : Int32) x7).bind fun f8 => ((zgR n f8 0 a0 7).bind fun x9 => ((zck n f8 8 a3).bind fun _ => ((fX8_goneByAll N n f8 a3).bind fun x10 => ((fX11_put N n f8 x9 (3 : Int32) x10).bind fun f11 => some f11))))))))))))
set_option maxRecDepth 100000 in
set_option maxHeartbeats 4000000 in
theorem mX0_tell (l : Launch) (G : zG) {N n : Nat} {f : zF} {f9 : zF} {a0 : Nat} {a1 : Int32} {a2 : Int32} {a3 : Nat} (h : fX0_tell N n f a0 a1 a2 a3 = some f9) : zM l G yX0_tell cX0_tell 4 (none) 2 n f [zr G a0, .int a1, .int a2, zr G a3] (none) f9 := by
  refine zM.of (by decide) (Nat.le_of_ble_eq_true rfl) ?_
  intro p e s m args below meth c locs ls B hS hl
  have he := B.1
  have hb := B.2.1
  have hl : lv_has ls 4 [(0, zr G a0), (1, .int a1), (2, .int a2), (3, zr G a3)] := hl
  unfold fX0_tell at h
  generalize s.heap = H at hS ⊢
  refine z_aload_n he hb dX0_tell_0 rfl (lv_at hl 0 rfl) (zref_r _ _) ?_
  refine lv_iconst (v := (1 : Int32)) he hb dX0_tell_1 (by decide) ?_
  obtain ⟨f1, hx, h⟩ := zob h
  refine z_putZ (ci := 0) (T := TX0) (N := 9) (j := 8) B hS hx rfl zin_X0 tyX0 tyX0_ok nmX0 (by decide) zk_487 rfl rfl dX0_tell_2 (fun H locs hS => ?_)
  refine z_aload_n he hb dX0_tell_5 rfl (lv_at hl 0 rfl) (zref_r _ _) ?_
  obtain ⟨x2, hx, h⟩ := zob h
  refine z_getR (ci := 0) (T := TX0) (N := 9) (j := 7) B hS hx rfl zin_X0 (by decide) zk_485 dX0_tell_6 ?_
  refine lv_iconst (v := (0 : Int32)) he hb dX0_tell_9 (by decide) ?_
  refine lv_iload_n he hb dX0_tell_10 rfl (lv_at hl 1 rfl) ?_
  obtain ⟨f3, hx, h⟩ := zob h
  refine z_callN (rest := []) B hS (mX11_put l G hx) zy_X11_put zkn_1037 (by decide) rfl hl rfl (Nat.le_of_ble_eq_true rfl) dX0_tell_11 (kk := (fun H locs hS => ?_))
  refine z_aload_n he hb dX0_tell_14 rfl (lv_at hl 0 rfl) (zref_r _ _) ?_
  obtain ⟨x4, hx, h⟩ := zob h
  refine z_getR (ci := 0) (T := TX0) (N := 9) (j := 7) B hS hx rfl zin_X0 (by decide) zk_485 dX0_tell_15 ?_
  refine lv_iconst (v := (1 : Int32)) he hb dX0_tell_18 (by decide) ?_
  refine lv_iload_n he hb dX0_tell_19 rfl (lv_at hl 2 rfl) ?_
  obtain ⟨f5, hx, h⟩ := zob h
  refine z_callN (rest := []) B hS (mX11_put l G hx) zy_X11_put zkn_1037 (by decide) rfl hl rfl (Nat.le_of_ble_eq_true rfl) dX0_tell_20 (kk := (fun H locs hS => ?_))
  refine z_aload_n he hb dX0_tell_23 rfl (lv_at hl 0 rfl) (zref_r _ _) ?_
  obtain ⟨x6, hx, h⟩ := zob h
  refine z_getR (ci := 0) (T := TX0) (N := 9) (j := 7) B hS hx rfl zin_X0 (by decide) zk_485 dX0_tell_24 ?_
  refine lv_iconst (v := (2 : Int32)) he hb dX0_tell_27 (by decide) ?_
  refine z_aload_n he hb dX0_tell_28 rfl (lv_at hl 3 rfl) (zref_r _ _) ?_
  obtain ⟨x7, hx, h⟩ := zob h
  refine z_getI (ci := 8) (T := TX8) (N := 9) (j := 1) B hS hx rfl zin_X8 (by decide) zk_251 dX0_tell_29 ?_
  obtain ⟨f8, hx, h⟩ := zob h
  refine z_callN (rest := []) B hS (mX11_put l G hx) zy_X11_put zkn_1037 (by decide) rfl hl rfl (Nat.le_of_ble_eq_true rfl) dX0_tell_32 (kk := (fun H locs hS => ?_))
  refine z_aload_n he hb dX0_tell_35 rfl (lv_at hl 0 rfl) (zref_r _ _) ?_
  obtain ⟨x9, hx, h⟩ := zob h
  refine z_getR (ci := 0) (T := TX0) (N := 9) (j := 7) B hS hx rfl zin_X0 (by decide) zk_485 dX0_tell_36 ?_
  refine lv_iconst (v := (3 : Int32)) he hb dX0_tell_39 (by decide) ?_
  refine z_aload_n he hb dX0_tell_40 rfl (lv_at hl 3 rfl) (zref_r _ _) ?_
  obtain ⟨_, hc, h⟩ := zob h
  obtain ⟨x10, hx, h⟩ := zob h
  refine z_callV (ci := 8) (T := TX8) (N := 9) (rest := [_, _]) B hS (mX8_goneByAll l G hx) zy_X8_goneByAll zk_1131 (by decide) hc rfl rfl hl rfl (Nat.le_of_ble_eq_true rfl) dX0_tell_41 (kk := (fun H locs hS => ?_))
  obtain ⟨f11, hx, h⟩ := zob h
  refine z_callN (rest := []) B hS (mX11_put l G hx) zy_X11_put zkn_1037 (by decide) rfl hl rfl (Nat.le_of_ble_eq_true rfl) dX0_tell_44 (kk := (fun H locs hS => ?_))
  obtain rfl := Option.some.inj h
  exact z_vret B hS dX0_tell_47
theorem dX0_addSign_0 : decode cX0_addSign 0 = .ok (.aload_n 0, 1) := by decide +kernel
theorem dX0_addSign_1 : decode cX0_addSign 1 = .ok (.getfield 22, 3) := by decide +kernel
theorem dX0_addSign_4 : decode cX0_addSign 4 = .ok (.aload_n 0, 1) := by decide +kernel
theorem dX0_addSign_5 : decode cX0_addSign 5 = .ok (.getfield 45, 3) := by decide +kernel
theorem dX0_addSign_8 : decode cX0_addSign 8 = .ok (.iload_n 1, 1) := by decide +kernel
theorem dX0_addSign_9 : decode cX0_addSign 9 = .ok (.invokestatic 32, 3) := by decide +kernel
theorem dX0_addSign_12 : decode cX0_addSign 12 = .ok (.aload_n 0, 1) := by decide +kernel
theorem dX0_addSign_13 : decode cX0_addSign 13 = .ok (.dup, 1) := by decide +kernel
theorem dX0_addSign_14 : decode cX0_addSign 14 = .ok (.getfield 45, 3) := by decide +kernel
theorem dX0_addSign_17 : decode cX0_addSign 17 = .ok (.iconst 1, 1) := by decide +kernel
theorem dX0_addSign_18 : decode cX0_addSign 18 = .ok (.iadd, 1) := by decide +kernel
theorem dX0_addSign_19 : decode cX0_addSign 19 = .ok (.putfield 45, 3) := by decide +kernel
theorem dX0_addSign_22 : decode cX0_addSign 22 = .ok (.return_, 1) := by decide +kernel
def fX0_addSign (N n : Nat) (f : zF) (a0 : Nat) (a1 : Int32) : Option zF :=
    ((zgR n f 0 a0 5).bind fun x1 => ((zgI n f 0 a0 6).bind fun x2 => ((fX11_put N n f x1 x2 a1).bind fun f3 => ((zgI n f3 0 a0 6).bind fun x4 => ((zpI n f3 0 a0 6 (x4 + (1 : Int32))).bind fun f5 => some f5)))))
set_option maxRecDepth 100000 in
set_option maxHeartbeats 4000000 in
theorem mX0_addSign (l : Launch) (G : zG) {N n : Nat} {f : zF} {f9 : zF} {a0 : Nat} {a1 : Int32} (h : fX0_addSign N n f a0 a1 = some f9) : zM l G yX0_addSign cX0_addSign 2 (none) 1 n f [zr G a0, .int a1] (none) f9 := by
  refine zM.of (by decide) (Nat.le_of_ble_eq_true rfl) ?_
  intro p e s m args below meth c locs ls B hS hl
  have he := B.1
  have hb := B.2.1
  have hl : lv_has ls 2 [(0, zr G a0), (1, .int a1)] := hl
  unfold fX0_addSign at h
  generalize s.heap = H at hS ⊢
  refine z_aload_n he hb dX0_addSign_0 rfl (lv_at hl 0 rfl) (zref_r _ _) ?_
  obtain ⟨x1, hx, h⟩ := zob h
  refine z_getR (ci := 0) (T := TX0) (N := 9) (j := 5) B hS hx rfl zin_X0 (by decide) zk_481 dX0_addSign_1 ?_
  refine z_aload_n he hb dX0_addSign_4 rfl (lv_at hl 0 rfl) (zref_r _ _) ?_
  obtain ⟨x2, hx, h⟩ := zob h
  refine z_getI (ci := 0) (T := TX0) (N := 9) (j := 6) B hS hx rfl zin_X0 (by decide) zk_483 dX0_addSign_5 ?_
  refine lv_iload_n he hb dX0_addSign_8 rfl (lv_at hl 1 rfl) ?_
  obtain ⟨f3, hx, h⟩ := zob h
  refine z_callN (rest := []) B hS (mX11_put l G hx) zy_X11_put zkn_1037 (by decide) rfl hl rfl (Nat.le_of_ble_eq_true rfl) dX0_addSign_9 (kk := (fun H locs hS => ?_))
  refine z_aload_n he hb dX0_addSign_12 rfl (lv_at hl 0 rfl) (zref_r _ _) ?_
  refine lv_dup he hb dX0_addSign_13 rfl ?_
  obtain ⟨x4, hx, h⟩ := zob h
  refine z_getI (ci := 0) (T := TX0) (N := 9) (j := 6) B hS hx rfl zin_X0 (by decide) zk_483 dX0_addSign_14 ?_
  refine lv_iconst (v := (1 : Int32)) he hb dX0_addSign_17 (by decide) ?_
  refine lv_iadd he hb dX0_addSign_18 ?_
  obtain ⟨f5, hx, h⟩ := zob h
  refine z_putI (ci := 0) (T := TX0) (N := 9) (j := 6) B hS hx rfl zin_X0 tyX0 tyX0_ok nmX0 (by decide) zk_483 rfl rfl dX0_addSign_19 (fun H locs hS => ?_)
  obtain rfl := Option.some.inj h
  exact z_vret B hS dX0_addSign_22
theorem dX0_addName_0 : decode cX0_addName 0 = .ok (.bipush 30, 2) := by decide +kernel
theorem dX0_addName_2 : decode cX0_addName 2 = .ok (.istore_n 3, 1) := by decide +kernel
theorem dX0_addName_3 : decode cX0_addName 3 = .ok (.iload_n 3, 1) := by decide +kernel
theorem dX0_addName_4 : decode cX0_addName 4 = .ok (.ifCond .lt 34, 3) := by decide +kernel
theorem dX0_addName_7 : decode cX0_addName 7 = .ok (.lload_n 1, 1) := by decide +kernel
theorem dX0_addName_8 : decode cX0_addName 8 = .ok (.iload_n 3, 1) := by decide +kernel
theorem dX0_addName_9 : decode cX0_addName 9 = .ok (.lshr, 1) := by decide +kernel
theorem dX0_addName_10 : decode cX0_addName 10 = .ok (.l2i, 1) := by decide +kernel
theorem dX0_addName_11 : decode cX0_addName 11 = .ok (.bipush 31, 2) := by decide +kernel
theorem dX0_addName_13 : decode cX0_addName 13 = .ok (.iand, 1) := by decide +kernel
theorem dX0_addName_14 : decode cX0_addName 14 = .ok (.istore 4, 2) := by decide +kernel
theorem dX0_addName_16 : decode cX0_addName 16 = .ok (.iload 4, 2) := by decide +kernel
theorem dX0_addName_18 : decode cX0_addName 18 = .ok (.ifCond .eq 14, 3) := by decide +kernel
theorem dX0_addName_21 : decode cX0_addName 21 = .ok (.aload_n 0, 1) := by decide +kernel
theorem dX0_addName_22 : decode cX0_addName 22 = .ok (.bipush 97, 2) := by decide +kernel
theorem dX0_addName_24 : decode cX0_addName 24 = .ok (.iload 4, 2) := by decide +kernel
theorem dX0_addName_26 : decode cX0_addName 26 = .ok (.iadd, 1) := by decide +kernel
theorem dX0_addName_27 : decode cX0_addName 27 = .ok (.iconst 1, 1) := by decide +kernel
theorem dX0_addName_28 : decode cX0_addName 28 = .ok (.isub, 1) := by decide +kernel
theorem dX0_addName_29 : decode cX0_addName 29 = .ok (.invokevirtual 57, 3) := by decide +kernel
theorem dX0_addName_32 : decode cX0_addName 32 = .ok (.iinc 3 (-5), 3) := by decide +kernel
theorem dX0_addName_35 : decode cX0_addName 35 = .ok (.goto (-32), 3) := by decide +kernel
theorem dX0_addName_38 : decode cX0_addName 38 = .ok (.return_, 1) := by decide +kernel
def fX0_addName_32 (r3 : zF → Nat → Int64 → Int32 → Option zF) (N n : Nat) (f : zF) (a0 : Nat) (a1 : Int64) (a3 : Int32) : Option zF :=
    (r3 f a0 a1 (a3 + (-5)))
set_option maxRecDepth 100000 in
set_option maxHeartbeats 4000000 in
theorem gX0_addName_32 (l : Launch) {G : zG} {p : Program} {e : Env} {s : State} {m : MethodId} {args : Array Value} {below : List Frame} {meth : Method} {c : Code} {N n : Nat} {f9 : zF} {r3 : zF → Nat → Int64 → Int32 → Option zF} (B : zB G p s m args meth c RX0 cX0_addName 5 (none)) (hr3 : ∀ (f : zF) (a0 : Nat) (a1 : Int64) (a3 : Int32) (H : Heap) (locs : List Loc) (ls : Array Slot), r3 f a0 a1 a3 = some f9 → zS G n f H locs → lv_has ls 5 [(0, zr G a0), (1, .long a1), (3, .int a3)] → W p l e (zrm 2) s m args below meth c H locs 0 0 (MQ below (zQc G n f9 (none)) args s 0 0 (zA G)) (F0 m 3 ls [])) : ∀ (f : zF) (a0 : Nat) (a1 : Int64) (a3 : Int32) (H : Heap) (locs : List Loc) (ls : Array Slot), fX0_addName_32 r3 N n f a0 a1 a3 = some f9 → zS G n f H locs → lv_has ls 5 [(0, zr G a0), (1, .long a1), (3, .int a3)] → W p l e (zrm 2) s m args below meth c H locs 0 0 (MQ below (zQc G n f9 (none)) args s 0 0 (zA G)) (F0 m 32 ls []) := by
  have he := B.1
  have hb := B.2.1
  intro f a0 a1 a3 H locs ls h hS hl
  unfold fX0_addName_32 at h
  refine lv_iinc (v := (a3 + (-5))) (lv' := [(3, _), (0, _), (1, _)]) he hb dX0_addName_32 hl (k := 2) rfl rfl (by decide) rfl (fun ls hl => ?_)
  refine lv_goto (tgt := 3) he hb dX0_addName_35 (by decide) ?_
  exact hr3 _ _ _ _ _ _ _ h hS (lv_sub hl [1, 2, 0] rfl)
def fX0_addName_3 (N n : Nat) : Nat → zF → Nat → Int64 → Int32 → Option zF
  | 0, _, _, _, _ => none
  | k + 1, f, a0, a1, a3 =>
    (if a3 < 0 then some f else (if (((zlshr a1 a3).toInt32) &&& (31 : Int32)) = 0 then (fX0_addName_32 (fX0_addName_3 N n k) N n f a0 a1 a3) else ((zck n f 0 a0).bind fun _ => ((fX0_addSign N n f a0 (((97 : Int32) + (((zlshr a1 a3).toInt32) &&& (31 : Int32))) - (1 : Int32))).bind fun f1 => (fX0_addName_32 (fX0_addName_3 N n k) N n f1 a0 a1 a3)))))
set_option maxRecDepth 100000 in
set_option maxHeartbeats 4000000 in
theorem gX0_addName_3 (l : Launch) {G : zG} {p : Program} {e : Env} {s : State} {m : MethodId} {args : Array Value} {below : List Frame} {meth : Method} {c : Code} {N n : Nat} {f9 : zF} (B : zB G p s m args meth c RX0 cX0_addName 5 (none)) : ∀ (k : Nat), ∀ (f : zF) (a0 : Nat) (a1 : Int64) (a3 : Int32) (H : Heap) (locs : List Loc) (ls : Array Slot), fX0_addName_3 N n k f a0 a1 a3 = some f9 → zS G n f H locs → lv_has ls 5 [(0, zr G a0), (1, .long a1), (3, .int a3)] → W p l e (zrm 2) s m args below meth c H locs 0 0 (MQ below (zQc G n f9 (none)) args s 0 0 (zA G)) (F0 m 3 ls []) := by
  have he := B.1
  have hb := B.2.1
  intro k
  induction k with
  | zero =>
    intro f a0 a1 a3 H locs ls h
    unfold fX0_addName_3 at h
    cases h
  | succ k ih =>
    intro f a0 a1 a3 H locs ls h hS hl
    unfold fX0_addName_3 at h
    refine lv_iload_n he hb dX0_addName_3 rfl (lv_at hl 2 rfl) ?_
    refine lv_if_lt (tgt := 38) he hb dX0_addName_4 (by decide) (fun hc => ?_) (fun hc => ?_)
    · rw [if_pos hc] at h
      obtain rfl := Option.some.inj h
      exact z_vret B hS dX0_addName_38
    · rw [if_neg hc] at h
      refine lv_lload_n he hb dX0_addName_7 rfl (lv_at hl 1 rfl) ?_
      refine lv_iload_n he hb dX0_addName_8 rfl (lv_at hl 2 rfl) ?_
      refine z_lshr he hb dX0_addName_9 ?_
      refine lv_l2i (v := ((zlshr a1 a3).toInt32)) he hb dX0_addName_10 rfl ?_
      refine lv_bipush (v := (31 : Int32)) he hb dX0_addName_11 (by decide) ?_
      refine lv_iand he hb dX0_addName_13 ?_
      refine lv_istore (lv' := [(4, _), (0, _), (1, _), (3, _)]) he hb dX0_addName_14 hl (by decide) rfl (fun ls hl => ?_)
      refine lv_iload he hb dX0_addName_16 (lv_at hl 0 rfl) ?_
      refine lv_if_eq (tgt := 32) he hb dX0_addName_18 (by decide) (fun hc => ?_) (fun hc => ?_)
      · rw [if_pos hc] at h
        exact gX0_addName_32 l B ih _ _ _ _ _ _ _ h hS (lv_sub hl [1, 2, 3] rfl)
      · rw [if_neg hc] at h
        refine z_aload_n he hb dX0_addName_21 rfl (lv_at hl 1 rfl) (zref_r _ _) ?_
        refine lv_bipush (v := (97 : Int32)) he hb dX0_addName_22 (by decide) ?_
        refine lv_iload he hb dX0_addName_24 (lv_at hl 0 rfl) ?_
        refine lv_iadd he hb dX0_addName_26 ?_
        refine lv_iconst (v := (1 : Int32)) he hb dX0_addName_27 (by decide) ?_
        refine lv_isub he hb dX0_addName_28 ?_
        obtain ⟨_, hc, h⟩ := zob h
        obtain ⟨f1, hx, h⟩ := zob h
        refine z_callV (ci := 0) (T := TX0) (N := 9) (rest := []) B hS (mX0_addSign l G hx) zy_X0_addSign zk_1033 (by decide) hc rfl rfl hl rfl (Nat.le_of_ble_eq_true rfl) dX0_addName_29 (kk := (fun H locs hS => ?_))
        exact gX0_addName_32 l B ih _ _ _ _ _ _ _ h hS (lv_sub hl [1, 2, 3] rfl)
def fX0_addName (N n : Nat) (f : zF) (a0 : Nat) (a1 : Int64) : Option zF :=
    (fX0_addName_3 N n N f a0 a1 (30 : Int32))
set_option maxRecDepth 100000 in
set_option maxHeartbeats 4000000 in
theorem mX0_addName (l : Launch) (G : zG) {N n : Nat} {f : zF} {f9 : zF} {a0 : Nat} {a1 : Int64} (h : fX0_addName N n f a0 a1 = some f9) : zM l G yX0_addName cX0_addName 5 (none) 2 n f [zr G a0, .long a1] (none) f9 := by
  refine zM.of (by decide) (Nat.le_of_ble_eq_true rfl) ?_
  intro p e s m args below meth c locs ls B hS hl
  have he := B.1
  have hb := B.2.1
  have hl : lv_has ls 5 [(0, zr G a0), (1, .long a1)] := hl
  unfold fX0_addName at h
  generalize s.heap = H at hS ⊢
  refine lv_bipush (v := (30 : Int32)) he hb dX0_addName_0 (by decide) ?_
  refine lv_istore_n (lv' := [(3, _), (0, _), (1, _)]) he hb dX0_addName_2 rfl hl (by decide) rfl (fun ls hl => ?_)
  exact gX0_addName_3 l B N _ _ _ _ _ _ _ h hS (lv_sub hl [1, 2, 0] rfl)
theorem dX1_addLine_0 : decode cX1_addLine 0 = .ok (.aload_n 0, 1) := by decide +kernel
theorem dX1_addLine_1 : decode cX1_addLine 1 = .ok (.getfield 9, 3) := by decide +kernel
theorem dX1_addLine_4 : decode cX1_addLine 4 = .ok (.aload_n 0, 1) := by decide +kernel
theorem dX1_addLine_5 : decode cX1_addLine 5 = .ok (.getfield 29, 3) := by decide +kernel
theorem dX1_addLine_8 : decode cX1_addLine 8 = .ok (.iload_n 1, 1) := by decide +kernel
theorem dX1_addLine_9 : decode cX1_addLine 9 = .ok (.invokestatic 103, 3) := by decide +kernel
theorem dX1_addLine_12 : decode cX1_addLine 12 = .ok (.aload_n 0, 1) := by decide +kernel
theorem dX1_addLine_13 : decode cX1_addLine 13 = .ok (.getfield 15, 3) := by decide +kernel
theorem dX1_addLine_16 : decode cX1_addLine 16 = .ok (.aload_n 0, 1) := by decide +kernel
theorem dX1_addLine_17 : decode cX1_addLine 17 = .ok (.getfield 29, 3) := by decide +kernel
theorem dX1_addLine_20 : decode cX1_addLine 20 = .ok (.iload_n 2, 1) := by decide +kernel
theorem dX1_addLine_21 : decode cX1_addLine 21 = .ok (.invokestatic 103, 3) := by decide +kernel
theorem dX1_addLine_24 : decode cX1_addLine 24 = .ok (.aload_n 0, 1) := by decide +kernel
theorem dX1_addLine_25 : decode cX1_addLine 25 = .ok (.getfield 18, 3) := by decide +kernel
theorem dX1_addLine_28 : decode cX1_addLine 28 = .ok (.aload_n 0, 1) := by decide +kernel
theorem dX1_addLine_29 : decode cX1_addLine 29 = .ok (.getfield 29, 3) := by decide +kernel
theorem dX1_addLine_32 : decode cX1_addLine 32 = .ok (.iload_n 3, 1) := by decide +kernel
theorem dX1_addLine_33 : decode cX1_addLine 33 = .ok (.invokestatic 103, 3) := by decide +kernel
theorem dX1_addLine_36 : decode cX1_addLine 36 = .ok (.aload_n 0, 1) := by decide +kernel
theorem dX1_addLine_37 : decode cX1_addLine 37 = .ok (.dup, 1) := by decide +kernel
theorem dX1_addLine_38 : decode cX1_addLine 38 = .ok (.getfield 29, 3) := by decide +kernel
theorem dX1_addLine_41 : decode cX1_addLine 41 = .ok (.iconst 1, 1) := by decide +kernel
theorem dX1_addLine_42 : decode cX1_addLine 42 = .ok (.iadd, 1) := by decide +kernel
theorem dX1_addLine_43 : decode cX1_addLine 43 = .ok (.putfield 29, 3) := by decide +kernel
theorem dX1_addLine_46 : decode cX1_addLine 46 = .ok (.return_, 1) := by decide +kernel
def fX1_addLine (N n : Nat) (f : zF) (a0 : Nat) (a1 : Int32) (a2 : Int32) (a3 : Int32) : Option zF :=
    ((zgR n f 1 a0 3).bind fun x1 => ((zgI n f 1 a0 2).bind fun x2 => ((fX11_put N n f x1 x2 a1).bind fun f3 => ((zgR n f3 1 a0 4).bind fun x4 => ((zgI n f3 1 a0 2).bind fun x5 => ((fX11_put N n f3 x4 x5 a2).bind fun f6 => ((zgR n f6 1 a0 5).bind fun x7 => ((zgI n f6 1 a0 2).bind fun x8 => ((fX11_put N n f6 x7 x8 a3).bind fun f9 => ((zgI n f9 1 a0 2).bind fun x10 => ((zpI n f9 1 a0 2 (x10 + (1 : Int32))).bind fun f11 => some f11)))))))))))
set_option maxRecDepth 100000 in
set_option maxHeartbeats 4000000 in
theorem mX1_addLine (l : Launch) (G : zG) {N n : Nat} {f : zF} {f9 : zF} {a0 : Nat} {a1 : Int32} {a2 : Int32} {a3 : Int32} (h : fX1_addLine N n f a0 a1 a2 a3 = some f9) : zM l G yX1_addLine cX1_addLine 4 (none) 1 n f [zr G a0, .int a1, .int a2, .int a3] (none) f9 := by
  refine zM.of (by decide) (Nat.le_of_ble_eq_true rfl) ?_
  intro p e s m args below meth c locs ls B hS hl
  have he := B.1
  have hb := B.2.1
  have hl : lv_has ls 4 [(0, zr G a0), (1, .int a1), (2, .int a2), (3, .int a3)] := hl
  unfold fX1_addLine at h
  generalize s.heap = H at hS ⊢
  refine z_aload_n he hb dX1_addLine_0 rfl (lv_at hl 0 rfl) (zref_r _ _) ?_
  obtain ⟨x1, hx, h⟩ := zob h
  refine z_getR (ci := 1) (T := TX1) (N := 6) (j := 3) B hS hx rfl zin_X1 (by decide) zk_354 dX1_addLine_1 ?_
  refine z_aload_n he hb dX1_addLine_4 rfl (lv_at hl 0 rfl) (zref_r _ _) ?_
  obtain ⟨x2, hx, h⟩ := zob h
  refine z_getI (ci := 1) (T := TX1) (N := 6) (j := 2) B hS hx rfl zin_X1 (by decide) zk_352 dX1_addLine_5 ?_
  refine lv_iload_n he hb dX1_addLine_8 rfl (lv_at hl 1 rfl) ?_
  obtain ⟨f3, hx, h⟩ := zob h
  refine z_callN (rest := []) B hS (mX11_put l G hx) zy_X11_put zkn_1102 (by decide) rfl hl rfl (Nat.le_of_ble_eq_true rfl) dX1_addLine_9 (kk := (fun H locs hS => ?_))
  refine z_aload_n he hb dX1_addLine_12 rfl (lv_at hl 0 rfl) (zref_r _ _) ?_
  obtain ⟨x4, hx, h⟩ := zob h
  refine z_getR (ci := 1) (T := TX1) (N := 6) (j := 4) B hS hx rfl zin_X1 (by decide) zk_355 dX1_addLine_13 ?_
  refine z_aload_n he hb dX1_addLine_16 rfl (lv_at hl 0 rfl) (zref_r _ _) ?_
  obtain ⟨x5, hx, h⟩ := zob h
  refine z_getI (ci := 1) (T := TX1) (N := 6) (j := 2) B hS hx rfl zin_X1 (by decide) zk_352 dX1_addLine_17 ?_
  refine lv_iload_n he hb dX1_addLine_20 rfl (lv_at hl 2 rfl) ?_
  obtain ⟨f6, hx, h⟩ := zob h
  refine z_callN (rest := []) B hS (mX11_put l G hx) zy_X11_put zkn_1102 (by decide) rfl hl rfl (Nat.le_of_ble_eq_true rfl) dX1_addLine_21 (kk := (fun H locs hS => ?_))
  refine z_aload_n he hb dX1_addLine_24 rfl (lv_at hl 0 rfl) (zref_r _ _) ?_
  obtain ⟨x7, hx, h⟩ := zob h
  refine z_getR (ci := 1) (T := TX1) (N := 6) (j := 5) B hS hx rfl zin_X1 (by decide) zk_356 dX1_addLine_25 ?_
  refine z_aload_n he hb dX1_addLine_28 rfl (lv_at hl 0 rfl) (zref_r _ _) ?_
  obtain ⟨x8, hx, h⟩ := zob h
  refine z_getI (ci := 1) (T := TX1) (N := 6) (j := 2) B hS hx rfl zin_X1 (by decide) zk_352 dX1_addLine_29 ?_
  refine lv_iload_n he hb dX1_addLine_32 rfl (lv_at hl 3 rfl) ?_
  obtain ⟨f9, hx, h⟩ := zob h
  refine z_callN (rest := []) B hS (mX11_put l G hx) zy_X11_put zkn_1102 (by decide) rfl hl rfl (Nat.le_of_ble_eq_true rfl) dX1_addLine_33 (kk := (fun H locs hS => ?_))
  refine z_aload_n he hb dX1_addLine_36 rfl (lv_at hl 0 rfl) (zref_r _ _) ?_
  refine lv_dup he hb dX1_addLine_37 rfl ?_
  obtain ⟨x10, hx, h⟩ := zob h
  refine z_getI (ci := 1) (T := TX1) (N := 6) (j := 2) B hS hx rfl zin_X1 (by decide) zk_352 dX1_addLine_38 ?_
  refine lv_iconst (v := (1 : Int32)) he hb dX1_addLine_41 (by decide) ?_
  refine lv_iadd he hb dX1_addLine_42 ?_
  obtain ⟨f11, hx, h⟩ := zob h
  refine z_putI (ci := 1) (T := TX1) (N := 6) (j := 2) B hS hx rfl zin_X1 tyX1 tyX1_ok nmX1 (by decide) zk_352 rfl rfl dX1_addLine_43 (fun H locs hS => ?_)
  obtain rfl := Option.some.inj h
  exact z_vret B hS dX1_addLine_46
theorem dX1_readLooker_0 : decode cX1_readLooker 0 = .ok (.aload_n 0, 1) := by decide +kernel
theorem dX1_readLooker_1 : decode cX1_readLooker 1 = .ok (.getfield 21, 3) := by decide +kernel
theorem dX1_readLooker_4 : decode cX1_readLooker 4 = .ok (.bipush 10, 2) := by decide +kernel
theorem dX1_readLooker_6 : decode cX1_readLooker 6 = .ok (.invokevirtual 96, 3) := by decide +kernel
theorem dX1_readLooker_9 : decode cX1_readLooker 9 = .ok (.ifCond .eq 20, 3) := by decide +kernel
theorem dX1_readLooker_12 : decode cX1_readLooker 12 = .ok (.aload_n 0, 1) := by decide +kernel
theorem dX1_readLooker_13 : decode cX1_readLooker 13 = .ok (.bipush 10, 2) := by decide +kernel
theorem dX1_readLooker_15 : decode cX1_readLooker 15 = .ok (.iload_n 1, 1) := by decide +kernel
theorem dX1_readLooker_16 : decode cX1_readLooker 16 = .ok (.aload_n 0, 1) := by decide +kernel
theorem dX1_readLooker_17 : decode cX1_readLooker 17 = .ok (.getfield 21, 3) := by decide +kernel
theorem dX1_readLooker_20 : decode cX1_readLooker 20 = .ok (.invokevirtual 99, 3) := by decide +kernel
theorem dX1_readLooker_23 : decode cX1_readLooker 23 = .ok (.invokevirtual 89, 3) := by decide +kernel
theorem dX1_readLooker_26 : decode cX1_readLooker 26 = .ok (.goto 86, 3) := by decide +kernel
theorem dX1_readLooker_29 : decode cX1_readLooker 29 = .ok (.aload_n 0, 1) := by decide +kernel
theorem dX1_readLooker_30 : decode cX1_readLooker 30 = .ok (.getfield 21, 3) := by decide +kernel
theorem dX1_readLooker_33 : decode cX1_readLooker 33 = .ok (.bipush 11, 2) := by decide +kernel
theorem dX1_readLooker_35 : decode cX1_readLooker 35 = .ok (.invokevirtual 96, 3) := by decide +kernel
theorem dX1_readLooker_38 : decode cX1_readLooker 38 = .ok (.ifCond .eq 20, 3) := by decide +kernel
theorem dX1_readLooker_41 : decode cX1_readLooker 41 = .ok (.aload_n 0, 1) := by decide +kernel
theorem dX1_readLooker_42 : decode cX1_readLooker 42 = .ok (.bipush 11, 2) := by decide +kernel
theorem dX1_readLooker_44 : decode cX1_readLooker 44 = .ok (.iload_n 1, 1) := by decide +kernel
theorem dX1_readLooker_45 : decode cX1_readLooker 45 = .ok (.aload_n 0, 1) := by decide +kernel
theorem dX1_readLooker_46 : decode cX1_readLooker 46 = .ok (.getfield 21, 3) := by decide +kernel
theorem dX1_readLooker_49 : decode cX1_readLooker 49 = .ok (.invokevirtual 99, 3) := by decide +kernel
theorem dX1_readLooker_52 : decode cX1_readLooker 52 = .ok (.invokevirtual 89, 3) := by decide +kernel
theorem dX1_readLooker_55 : decode cX1_readLooker 55 = .ok (.goto 57, 3) := by decide +kernel
theorem dX1_readLooker_58 : decode cX1_readLooker 58 = .ok (.aload_n 0, 1) := by decide +kernel
theorem dX1_readLooker_59 : decode cX1_readLooker 59 = .ok (.getfield 21, 3) := by decide +kernel
theorem dX1_readLooker_62 : decode cX1_readLooker 62 = .ok (.bipush 12, 2) := by decide +kernel
theorem dX1_readLooker_64 : decode cX1_readLooker 64 = .ok (.invokevirtual 96, 3) := by decide +kernel
theorem dX1_readLooker_67 : decode cX1_readLooker 67 = .ok (.ifCond .eq 14, 3) := by decide +kernel
theorem dX1_readLooker_70 : decode cX1_readLooker 70 = .ok (.aload_n 0, 1) := by decide +kernel
theorem dX1_readLooker_71 : decode cX1_readLooker 71 = .ok (.bipush 12, 2) := by decide +kernel
theorem dX1_readLooker_73 : decode cX1_readLooker 73 = .ok (.iload_n 1, 1) := by decide +kernel
theorem dX1_readLooker_74 : decode cX1_readLooker 74 = .ok (.iconst 0, 1) := by decide +kernel
theorem dX1_readLooker_75 : decode cX1_readLooker 75 = .ok (.invokevirtual 89, 3) := by decide +kernel
theorem dX1_readLooker_78 : decode cX1_readLooker 78 = .ok (.goto 34, 3) := by decide +kernel
theorem dX1_readLooker_81 : decode cX1_readLooker 81 = .ok (.aload_n 0, 1) := by decide +kernel
theorem dX1_readLooker_82 : decode cX1_readLooker 82 = .ok (.getfield 21, 3) := by decide +kernel
theorem dX1_readLooker_85 : decode cX1_readLooker 85 = .ok (.bipush 13, 2) := by decide +kernel
theorem dX1_readLooker_87 : decode cX1_readLooker 87 = .ok (.invokevirtual 96, 3) := by decide +kernel
theorem dX1_readLooker_90 : decode cX1_readLooker 90 = .ok (.ifCond .eq 14, 3) := by decide +kernel
theorem dX1_readLooker_93 : decode cX1_readLooker 93 = .ok (.aload_n 0, 1) := by decide +kernel
theorem dX1_readLooker_94 : decode cX1_readLooker 94 = .ok (.bipush 13, 2) := by decide +kernel
theorem dX1_readLooker_96 : decode cX1_readLooker 96 = .ok (.iload_n 1, 1) := by decide +kernel
theorem dX1_readLooker_97 : decode cX1_readLooker 97 = .ok (.iconst 0, 1) := by decide +kernel
theorem dX1_readLooker_98 : decode cX1_readLooker 98 = .ok (.invokevirtual 89, 3) := by decide +kernel
theorem dX1_readLooker_101 : decode cX1_readLooker 101 = .ok (.goto 11, 3) := by decide +kernel
theorem dX1_readLooker_104 : decode cX1_readLooker 104 = .ok (.aload_n 0, 1) := by decide +kernel
theorem dX1_readLooker_105 : decode cX1_readLooker 105 = .ok (.getfield 21, 3) := by decide +kernel
theorem dX1_readLooker_108 : decode cX1_readLooker 108 = .ok (.iconst 1, 1) := by decide +kernel
theorem dX1_readLooker_109 : decode cX1_readLooker 109 = .ok (.invokevirtual 79, 3) := by decide +kernel
theorem dX1_readLooker_112 : decode cX1_readLooker 112 = .ok (.return_, 1) := by decide +kernel
def fX1_readLooker (N n : Nat) (f : zF) (a0 : Nat) (a1 : Int32) : Option zF :=
    ((zgR n f 1 a0 0).bind fun x1 => ((zck n f 9 x1).bind fun _ => (zbd (fX9_takesWord N n f x1 (10 : Int32)) fun f3 x2 => (if x2 = 0 then ((zgR n f3 1 a0 0).bind fun x4 => ((zck n f3 9 x4).bind fun _ => (zbd (fX9_takesWord N n f3 x4 (11 : Int32)) fun f6 x5 => (if x5 = 0 then ((zgR n f6 1 a0 0).bind fun x7 => ((zck n f6 9 x7).bind fun _ => (zbd (fX9_takesWord N n f6 x7 (12 : Int32)) fun f9 x8 => (if x8 = 0 then ((zgR n f9 1 a0 0).bind fun x10 => ((zck n f9 9 x10).bind fun _ => (zbd (fX9_takesWord N n f9 x10 (13 : Int32)) fun f12 x11 => (if x11 = 0 then ((zgR n f12 1 a0 0).bind fun x13 => ((zck n f12 9 x13).bind fun _ => ((fX9_fail N n f12 x13 (1 : Int32)).bind fun f14 => some f14))) else ((zck n f12 1 a0).bind fun _ => ((fX1_addLine N n f12 a0 (13 : Int32) a1 (0 : Int32)).bind fun f15 => some f15)))))) else ((zck n f9 1 a0).bind fun _ => ((fX1_addLine N n f9 a0 (12 : Int32) a1 (0 : Int32)).bind fun f16 => some f16)))))) else ((zgR n f6 1 a0 0).bind fun x17 => ((zck n f6 9 x17).bind fun _ => (zbd (fX9_needSide N n f6 x17) fun f19 x18 => ((zck n f19 1 a0).bind fun _ => ((fX1_addLine N n f19 a0 (11 : Int32) a1 x18).bind fun f20 => some f20))))))))) else ((zgR n f3 1 a0 0).bind fun x21 => ((zck n f3 9 x21).bind fun _ => (zbd (fX9_needSide N n f3 x21) fun f23 x22 => ((zck n f23 1 a0).bind fun _ => ((fX1_addLine N n f23 a0 (10 : Int32) a1 x22).bind fun f24 => some f24)))))))))
set_option maxRecDepth 100000 in
set_option maxHeartbeats 4000000 in
theorem mX1_readLooker (l : Launch) (G : zG) {N n : Nat} {f : zF} {f9 : zF} {a0 : Nat} {a1 : Int32} (h : fX1_readLooker N n f a0 a1 = some f9) : zM l G yX1_readLooker cX1_readLooker 2 (none) 3 n f [zr G a0, .int a1] (none) f9 := by
  refine zM.of (by decide) (Nat.le_of_ble_eq_true rfl) ?_
  intro p e s m args below meth c locs ls B hS hl
  have he := B.1
  have hb := B.2.1
  have hl : lv_has ls 2 [(0, zr G a0), (1, .int a1)] := hl
  unfold fX1_readLooker at h
  generalize s.heap = H at hS ⊢
  refine z_aload_n he hb dX1_readLooker_0 rfl (lv_at hl 0 rfl) (zref_r _ _) ?_
  obtain ⟨x1, hx, h⟩ := zob h
  refine z_getR (ci := 1) (T := TX1) (N := 6) (j := 0) B hS hx rfl zin_X1 (by decide) zk_350 dX1_readLooker_1 ?_
  refine lv_bipush (v := (10 : Int32)) he hb dX1_readLooker_4 (by decide) ?_
  obtain ⟨_, hc, h⟩ := zob h
  obtain ⟨f3, x2, hx, h⟩ := zbd_i h
  refine z_callV (ci := 9) (T := TX9) (N := 12) (rest := []) B hS (mX9_takesWord l G hx) zy_X9_takesWord zk_1107 (by decide) hc rfl rfl hl rfl (Nat.le_of_ble_eq_true rfl) dX1_readLooker_6 (kk := (fun H locs hS => ?_))
  refine lv_if_eq (tgt := 29) he hb dX1_readLooker_9 (by decide) (fun hc => ?_) (fun hc => ?_)
  · rw [if_pos hc] at h
    refine z_aload_n he hb dX1_readLooker_29 rfl (lv_at hl 0 rfl) (zref_r _ _) ?_
    obtain ⟨x4, hx, h⟩ := zob h
    refine z_getR (ci := 1) (T := TX1) (N := 6) (j := 0) B hS hx rfl zin_X1 (by decide) zk_350 dX1_readLooker_30 ?_
    refine lv_bipush (v := (11 : Int32)) he hb dX1_readLooker_33 (by decide) ?_
    obtain ⟨_, hc, h⟩ := zob h
    obtain ⟨f6, x5, hx, h⟩ := zbd_i h
    refine z_callV (ci := 9) (T := TX9) (N := 12) (rest := []) B hS (mX9_takesWord l G hx) zy_X9_takesWord zk_1107 (by decide) hc rfl rfl hl rfl (Nat.le_of_ble_eq_true rfl) dX1_readLooker_35 (kk := (fun H locs hS => ?_))
    refine lv_if_eq (tgt := 58) he hb dX1_readLooker_38 (by decide) (fun hc => ?_) (fun hc => ?_)
    · rw [if_pos hc] at h
      refine z_aload_n he hb dX1_readLooker_58 rfl (lv_at hl 0 rfl) (zref_r _ _) ?_
      obtain ⟨x7, hx, h⟩ := zob h
      refine z_getR (ci := 1) (T := TX1) (N := 6) (j := 0) B hS hx rfl zin_X1 (by decide) zk_350 dX1_readLooker_59 ?_
      refine lv_bipush (v := (12 : Int32)) he hb dX1_readLooker_62 (by decide) ?_
      obtain ⟨_, hc, h⟩ := zob h
      obtain ⟨f9, x8, hx, h⟩ := zbd_i h
      refine z_callV (ci := 9) (T := TX9) (N := 12) (rest := []) B hS (mX9_takesWord l G hx) zy_X9_takesWord zk_1107 (by decide) hc rfl rfl hl rfl (Nat.le_of_ble_eq_true rfl) dX1_readLooker_64 (kk := (fun H locs hS => ?_))
      refine lv_if_eq (tgt := 81) he hb dX1_readLooker_67 (by decide) (fun hc => ?_) (fun hc => ?_)
      · rw [if_pos hc] at h
        refine z_aload_n he hb dX1_readLooker_81 rfl (lv_at hl 0 rfl) (zref_r _ _) ?_
        obtain ⟨x10, hx, h⟩ := zob h
        refine z_getR (ci := 1) (T := TX1) (N := 6) (j := 0) B hS hx rfl zin_X1 (by decide) zk_350 dX1_readLooker_82 ?_
        refine lv_bipush (v := (13 : Int32)) he hb dX1_readLooker_85 (by decide) ?_
        obtain ⟨_, hc, h⟩ := zob h
        obtain ⟨f12, x11, hx, h⟩ := zbd_i h
        refine z_callV (ci := 9) (T := TX9) (N := 12) (rest := []) B hS (mX9_takesWord l G hx) zy_X9_takesWord zk_1107 (by decide) hc rfl rfl hl rfl (Nat.le_of_ble_eq_true rfl) dX1_readLooker_87 (kk := (fun H locs hS => ?_))
        refine lv_if_eq (tgt := 104) he hb dX1_readLooker_90 (by decide) (fun hc => ?_) (fun hc => ?_)
        · rw [if_pos hc] at h
          refine z_aload_n he hb dX1_readLooker_104 rfl (lv_at hl 0 rfl) (zref_r _ _) ?_
          obtain ⟨x13, hx, h⟩ := zob h
          refine z_getR (ci := 1) (T := TX1) (N := 6) (j := 0) B hS hx rfl zin_X1 (by decide) zk_350 dX1_readLooker_105 ?_
          refine lv_iconst (v := (1 : Int32)) he hb dX1_readLooker_108 (by decide) ?_
          obtain ⟨_, hc, h⟩ := zob h
          obtain ⟨f14, hx, h⟩ := zob h
          refine z_callV (ci := 9) (T := TX9) (N := 12) (rest := []) B hS (mX9_fail l G hx) zy_X9_fail zk_1095 (by decide) hc rfl rfl hl rfl (Nat.le_of_ble_eq_true rfl) dX1_readLooker_109 (kk := (fun H locs hS => ?_))
          obtain rfl := Option.some.inj h
          exact z_vret B hS dX1_readLooker_112
        · rw [if_neg hc] at h
          refine z_aload_n he hb dX1_readLooker_93 rfl (lv_at hl 0 rfl) (zref_r _ _) ?_
          refine lv_bipush (v := (13 : Int32)) he hb dX1_readLooker_94 (by decide) ?_
          refine lv_iload_n he hb dX1_readLooker_96 rfl (lv_at hl 1 rfl) ?_
          refine lv_iconst (v := (0 : Int32)) he hb dX1_readLooker_97 (by decide) ?_
          obtain ⟨_, hc, h⟩ := zob h
          obtain ⟨f15, hx, h⟩ := zob h
          refine z_callV (ci := 1) (T := TX1) (N := 6) (rest := []) B hS (mX1_addLine l G hx) zy_X1_addLine zk_1098 (by decide) hc rfl rfl hl rfl (Nat.le_of_ble_eq_true rfl) dX1_readLooker_98 (kk := (fun H locs hS => ?_))
          refine lv_goto (tgt := 112) he hb dX1_readLooker_101 (by decide) ?_
          obtain rfl := Option.some.inj h
          exact z_vret B hS dX1_readLooker_112
      · rw [if_neg hc] at h
        refine z_aload_n he hb dX1_readLooker_70 rfl (lv_at hl 0 rfl) (zref_r _ _) ?_
        refine lv_bipush (v := (12 : Int32)) he hb dX1_readLooker_71 (by decide) ?_
        refine lv_iload_n he hb dX1_readLooker_73 rfl (lv_at hl 1 rfl) ?_
        refine lv_iconst (v := (0 : Int32)) he hb dX1_readLooker_74 (by decide) ?_
        obtain ⟨_, hc, h⟩ := zob h
        obtain ⟨f16, hx, h⟩ := zob h
        refine z_callV (ci := 1) (T := TX1) (N := 6) (rest := []) B hS (mX1_addLine l G hx) zy_X1_addLine zk_1098 (by decide) hc rfl rfl hl rfl (Nat.le_of_ble_eq_true rfl) dX1_readLooker_75 (kk := (fun H locs hS => ?_))
        refine lv_goto (tgt := 112) he hb dX1_readLooker_78 (by decide) ?_
        obtain rfl := Option.some.inj h
        exact z_vret B hS dX1_readLooker_112
    · rw [if_neg hc] at h
      refine z_aload_n he hb dX1_readLooker_41 rfl (lv_at hl 0 rfl) (zref_r _ _) ?_
      refine lv_bipush (v := (11 : Int32)) he hb dX1_readLooker_42 (by decide) ?_
      refine lv_iload_n he hb dX1_readLooker_44 rfl (lv_at hl 1 rfl) ?_
      refine z_aload_n he hb dX1_readLooker_45 rfl (lv_at hl 0 rfl) (zref_r _ _) ?_
      obtain ⟨x17, hx, h⟩ := zob h
      refine z_getR (ci := 1) (T := TX1) (N := 6) (j := 0) B hS hx rfl zin_X1 (by decide) zk_350 dX1_readLooker_46 ?_
      obtain ⟨_, hc, h⟩ := zob h
      obtain ⟨f19, x18, hx, h⟩ := zbd_i h
      refine z_callV (ci := 9) (T := TX9) (N := 12) (rest := [_, _, _]) B hS (mX9_needSide l G hx) zy_X9_needSide zk_1112 (by decide) hc rfl rfl hl rfl (Nat.le_of_ble_eq_true rfl) dX1_readLooker_49 (kk := (fun H locs hS => ?_))
      obtain ⟨_, hc, h⟩ := zob h
      obtain ⟨f20, hx, h⟩ := zob h
      refine z_callV (ci := 1) (T := TX1) (N := 6) (rest := []) B hS (mX1_addLine l G hx) zy_X1_addLine zk_1098 (by decide) hc rfl rfl hl rfl (Nat.le_of_ble_eq_true rfl) dX1_readLooker_52 (kk := (fun H locs hS => ?_))
      refine lv_goto (tgt := 112) he hb dX1_readLooker_55 (by decide) ?_
      obtain rfl := Option.some.inj h
      exact z_vret B hS dX1_readLooker_112
  · rw [if_neg hc] at h
    refine z_aload_n he hb dX1_readLooker_12 rfl (lv_at hl 0 rfl) (zref_r _ _) ?_
    refine lv_bipush (v := (10 : Int32)) he hb dX1_readLooker_13 (by decide) ?_
    refine lv_iload_n he hb dX1_readLooker_15 rfl (lv_at hl 1 rfl) ?_
    refine z_aload_n he hb dX1_readLooker_16 rfl (lv_at hl 0 rfl) (zref_r _ _) ?_
    obtain ⟨x21, hx, h⟩ := zob h
    refine z_getR (ci := 1) (T := TX1) (N := 6) (j := 0) B hS hx rfl zin_X1 (by decide) zk_350 dX1_readLooker_17 ?_
    obtain ⟨_, hc, h⟩ := zob h
    obtain ⟨f23, x22, hx, h⟩ := zbd_i h
    refine z_callV (ci := 9) (T := TX9) (N := 12) (rest := [_, _, _]) B hS (mX9_needSide l G hx) zy_X9_needSide zk_1112 (by decide) hc rfl rfl hl rfl (Nat.le_of_ble_eq_true rfl) dX1_readLooker_20 (kk := (fun H locs hS => ?_))
    obtain ⟨_, hc, h⟩ := zob h
    obtain ⟨f24, hx, h⟩ := zob h
    refine z_callV (ci := 1) (T := TX1) (N := 6) (rest := []) B hS (mX1_addLine l G hx) zy_X1_addLine zk_1098 (by decide) hc rfl rfl hl rfl (Nat.le_of_ble_eq_true rfl) dX1_readLooker_23 (kk := (fun H locs hS => ?_))
    refine lv_goto (tgt := 112) he hb dX1_readLooker_26 (by decide) ?_
    obtain rfl := Option.some.inj h
    exact z_vret B hS dX1_readLooker_112
theorem dX1_readLine_0 : decode cX1_readLine 0 = .ok (.aload_n 0, 1) := by decide +kernel
theorem dX1_readLine_1 : decode cX1_readLine 1 = .ok (.getfield 21, 3) := by decide +kernel
theorem dX1_readLine_4 : decode cX1_readLine 4 = .ok (.getfield 49, 3) := by decide +kernel
theorem dX1_readLine_7 : decode cX1_readLine 7 = .ok (.iconst 3, 1) := by decide +kernel
theorem dX1_readLine_8 : decode cX1_readLine 8 = .ok (.if_icmp .ne 7, 3) := by decide +kernel
theorem dX1_readLine_11 : decode cX1_readLine 11 = .ok (.iconst 1, 1) := by decide +kernel
theorem dX1_readLine_12 : decode cX1_readLine 12 = .ok (.goto 4, 3) := by decide +kernel
theorem dX1_readLine_15 : decode cX1_readLine 15 = .ok (.iconst 0, 1) := by decide +kernel
theorem dX1_readLine_16 : decode cX1_readLine 16 = .ok (.istore_n 1, 1) := by decide +kernel
theorem dX1_readLine_17 : decode cX1_readLine 17 = .ok (.aload_n 0, 1) := by decide +kernel
theorem dX1_readLine_18 : decode cX1_readLine 18 = .ok (.getfield 21, 3) := by decide +kernel
theorem dX1_readLine_21 : decode cX1_readLine 21 = .ok (.bipush 15, 2) := by decide +kernel
theorem dX1_readLine_23 : decode cX1_readLine 23 = .ok (.invokevirtual 52, 3) := by decide +kernel
theorem dX1_readLine_26 : decode cX1_readLine 26 = .ok (.istore_n 2, 1) := by decide +kernel
theorem dX1_readLine_27 : decode cX1_readLine 27 = .ok (.iload_n 1, 1) := by decide +kernel
theorem dX1_readLine_28 : decode cX1_readLine 28 = .ok (.ifCond .eq 30, 3) := by decide +kernel
theorem dX1_readLine_31 : decode cX1_readLine 31 = .ok (.aload_n 0, 1) := by decide +kernel
theorem dX1_readLine_32 : decode cX1_readLine 32 = .ok (.getfield 25, 3) := by decide +kernel
theorem dX1_readLine_35 : decode cX1_readLine 35 = .ok (.getfield 56, 3) := by decide +kernel
theorem dX1_readLine_38 : decode cX1_readLine 38 = .ok (.aload_n 0, 1) := by decide +kernel
theorem dX1_readLine_39 : decode cX1_readLine 39 = .ok (.getfield 25, 3) := by decide +kernel
theorem dX1_readLine_42 : decode cX1_readLine 42 = .ok (.getfield 62, 3) := by decide +kernel
theorem dX1_readLine_45 : decode cX1_readLine 45 = .ok (.aload_n 0, 1) := by decide +kernel
theorem dX1_readLine_46 : decode cX1_readLine 46 = .ok (.getfield 21, 3) := by decide +kernel
theorem dX1_readLine_49 : decode cX1_readLine 49 = .ok (.getfield 65, 3) := by decide +kernel
theorem dX1_readLine_52 : decode cX1_readLine 52 = .ok (.invokestatic 69, 3) := by decide +kernel
theorem dX1_readLine_55 : decode cX1_readLine 55 = .ok (.goto 4, 3) := by decide +kernel
theorem dX1_readLine_58 : decode cX1_readLine 58 = .ok (.iconst (-1), 1) := by decide +kernel
theorem dX1_readLine_59 : decode cX1_readLine 59 = .ok (.istore_n 3, 1) := by decide +kernel
theorem dX1_readLine_60 : decode cX1_readLine 60 = .ok (.iload_n 1, 1) := by decide +kernel
theorem dX1_readLine_61 : decode cX1_readLine 61 = .ok (.ifCond .eq 30, 3) := by decide +kernel
theorem dX1_readLine_64 : decode cX1_readLine 64 = .ok (.aload_n 0, 1) := by decide +kernel
theorem dX1_readLine_65 : decode cX1_readLine 65 = .ok (.getfield 25, 3) := by decide +kernel
theorem dX1_readLine_68 : decode cX1_readLine 68 = .ok (.getfield 73, 3) := by decide +kernel
theorem dX1_readLine_71 : decode cX1_readLine 71 = .ok (.aload_n 0, 1) := by decide +kernel
theorem dX1_readLine_72 : decode cX1_readLine 72 = .ok (.getfield 25, 3) := by decide +kernel
theorem dX1_readLine_75 : decode cX1_readLine 75 = .ok (.getfield 76, 3) := by decide +kernel
theorem dX1_readLine_78 : decode cX1_readLine 78 = .ok (.aload_n 0, 1) := by decide +kernel
theorem dX1_readLine_79 : decode cX1_readLine 79 = .ok (.getfield 21, 3) := by decide +kernel
theorem dX1_readLine_82 : decode cX1_readLine 82 = .ok (.getfield 65, 3) := by decide +kernel
theorem dX1_readLine_85 : decode cX1_readLine 85 = .ok (.invokestatic 69, 3) := by decide +kernel
theorem dX1_readLine_88 : decode cX1_readLine 88 = .ok (.goto 4, 3) := by decide +kernel
theorem dX1_readLine_91 : decode cX1_readLine 91 = .ok (.iconst (-1), 1) := by decide +kernel
theorem dX1_readLine_92 : decode cX1_readLine 92 = .ok (.istore 4, 2) := by decide +kernel
theorem dX1_readLine_94 : decode cX1_readLine 94 = .ok (.iload_n 1, 1) := by decide +kernel
theorem dX1_readLine_95 : decode cX1_readLine 95 = .ok (.ifCond .ne 18, 3) := by decide +kernel
theorem dX1_readLine_98 : decode cX1_readLine 98 = .ok (.iload_n 2, 1) := by decide +kernel
theorem dX1_readLine_99 : decode cX1_readLine 99 = .ok (.ifCond .ne 14, 3) := by decide +kernel
theorem dX1_readLine_102 : decode cX1_readLine 102 = .ok (.aload_n 0, 1) := by decide +kernel
theorem dX1_readLine_103 : decode cX1_readLine 103 = .ok (.getfield 21, 3) := by decide +kernel
theorem dX1_readLine_106 : decode cX1_readLine 106 = .ok (.iconst 1, 1) := by decide +kernel
theorem dX1_readLine_107 : decode cX1_readLine 107 = .ok (.invokevirtual 79, 3) := by decide +kernel
theorem dX1_readLine_110 : decode cX1_readLine 110 = .ok (.goto 131, 3) := by decide +kernel
theorem dX1_readLine_113 : decode cX1_readLine 113 = .ok (.iload_n 1, 1) := by decide +kernel
theorem dX1_readLine_114 : decode cX1_readLine 114 = .ok (.ifCond .eq 25, 3) := by decide +kernel
theorem dX1_readLine_117 : decode cX1_readLine 117 = .ok (.iload_n 3, 1) := by decide +kernel
theorem dX1_readLine_118 : decode cX1_readLine 118 = .ok (.iconst (-1), 1) := by decide +kernel
theorem dX1_readLine_119 : decode cX1_readLine 119 = .ok (.if_icmp .ne 20, 3) := by decide +kernel
theorem dX1_readLine_122 : decode cX1_readLine 122 = .ok (.iload 4, 2) := by decide +kernel
theorem dX1_readLine_124 : decode cX1_readLine 124 = .ok (.iconst (-1), 1) := by decide +kernel
theorem dX1_readLine_125 : decode cX1_readLine 125 = .ok (.if_icmp .ne 14, 3) := by decide +kernel
theorem dX1_readLine_128 : decode cX1_readLine 128 = .ok (.aload_n 0, 1) := by decide +kernel
theorem dX1_readLine_129 : decode cX1_readLine 129 = .ok (.getfield 21, 3) := by decide +kernel
theorem dX1_readLine_132 : decode cX1_readLine 132 = .ok (.iconst 3, 1) := by decide +kernel
theorem dX1_readLine_133 : decode cX1_readLine 133 = .ok (.invokevirtual 79, 3) := by decide +kernel
theorem dX1_readLine_136 : decode cX1_readLine 136 = .ok (.goto 105, 3) := by decide +kernel
theorem dX1_readLine_139 : decode cX1_readLine 139 = .ok (.aload_n 0, 1) := by decide +kernel
theorem dX1_readLine_140 : decode cX1_readLine 140 = .ok (.getfield 29, 3) := by decide +kernel
theorem dX1_readLine_143 : decode cX1_readLine 143 = .ok (.bipush 40, 2) := by decide +kernel
theorem dX1_readLine_145 : decode cX1_readLine 145 = .ok (.if_icmp .lt 14, 3) := by decide +kernel
theorem dX1_readLine_148 : decode cX1_readLine 148 = .ok (.aload_n 0, 1) := by decide +kernel
theorem dX1_readLine_149 : decode cX1_readLine 149 = .ok (.getfield 21, 3) := by decide +kernel
theorem dX1_readLine_152 : decode cX1_readLine 152 = .ok (.iconst 4, 1) := by decide +kernel
theorem dX1_readLine_153 : decode cX1_readLine 153 = .ok (.invokevirtual 79, 3) := by decide +kernel
theorem dX1_readLine_156 : decode cX1_readLine 156 = .ok (.goto 85, 3) := by decide +kernel
theorem dX1_readLine_159 : decode cX1_readLine 159 = .ok (.aload_n 0, 1) := by decide +kernel
theorem dX1_readLine_160 : decode cX1_readLine 160 = .ok (.getfield 21, 3) := by decide +kernel
theorem dX1_readLine_163 : decode cX1_readLine 163 = .ok (.invokevirtual 82, 3) := by decide +kernel
theorem dX1_readLine_166 : decode cX1_readLine 166 = .ok (.iload_n 2, 1) := by decide +kernel
theorem dX1_readLine_167 : decode cX1_readLine 167 = .ok (.ifCond .eq 23, 3) := by decide +kernel
theorem dX1_readLine_170 : decode cX1_readLine 170 = .ok (.aload_n 0, 1) := by decide +kernel
theorem dX1_readLine_171 : decode cX1_readLine 171 = .ok (.bipush 15, 2) := by decide +kernel
theorem dX1_readLine_173 : decode cX1_readLine 173 = .ok (.iconst 0, 1) := by decide +kernel
theorem dX1_readLine_174 : decode cX1_readLine 174 = .ok (.aload_n 0, 1) := by decide +kernel
theorem dX1_readLine_175 : decode cX1_readLine 175 = .ok (.getfield 21, 3) := by decide +kernel
theorem dX1_readLine_178 : decode cX1_readLine 178 = .ok (.iconst 1, 1) := by decide +kernel
theorem dX1_readLine_179 : decode cX1_readLine 179 = .ok (.bipush 60, 2) := by decide +kernel
theorem dX1_readLine_181 : decode cX1_readLine 181 = .ok (.invokevirtual 85, 3) := by decide +kernel
theorem dX1_readLine_184 : decode cX1_readLine 184 = .ok (.invokevirtual 89, 3) := by decide +kernel
theorem dX1_readLine_187 : decode cX1_readLine 187 = .ok (.goto 54, 3) := by decide +kernel
theorem dX1_readLine_190 : decode cX1_readLine 190 = .ok (.iload_n 3, 1) := by decide +kernel
theorem dX1_readLine_191 : decode cX1_readLine 191 = .ok (.iconst (-1), 1) := by decide +kernel
theorem dX1_readLine_192 : decode cX1_readLine 192 = .ok (.if_icmp .eq 11, 3) := by decide +kernel
theorem dX1_readLine_195 : decode cX1_readLine 195 = .ok (.aload_n 0, 1) := by decide +kernel
theorem dX1_readLine_196 : decode cX1_readLine 196 = .ok (.iload_n 3, 1) := by decide +kernel
theorem dX1_readLine_197 : decode cX1_readLine 197 = .ok (.invokevirtual 93, 3) := by decide +kernel
theorem dX1_readLine_200 : decode cX1_readLine 200 = .ok (.goto 41, 3) := by decide +kernel
theorem dX1_readLine_203 : decode cX1_readLine 203 = .ok (.aload_n 0, 1) := by decide +kernel
theorem dX1_readLine_204 : decode cX1_readLine 204 = .ok (.getfield 21, 3) := by decide +kernel
theorem dX1_readLine_207 : decode cX1_readLine 207 = .ok (.bipush 14, 2) := by decide +kernel
theorem dX1_readLine_209 : decode cX1_readLine 209 = .ok (.invokevirtual 96, 3) := by decide +kernel
theorem dX1_readLine_212 : decode cX1_readLine 212 = .ok (.ifCond .eq 21, 3) := by decide +kernel
theorem dX1_readLine_215 : decode cX1_readLine 215 = .ok (.aload_n 0, 1) := by decide +kernel
theorem dX1_readLine_216 : decode cX1_readLine 216 = .ok (.bipush 14, 2) := by decide +kernel
theorem dX1_readLine_218 : decode cX1_readLine 218 = .ok (.iload 4, 2) := by decide +kernel
theorem dX1_readLine_220 : decode cX1_readLine 220 = .ok (.aload_n 0, 1) := by decide +kernel
theorem dX1_readLine_221 : decode cX1_readLine 221 = .ok (.getfield 21, 3) := by decide +kernel
theorem dX1_readLine_224 : decode cX1_readLine 224 = .ok (.invokevirtual 99, 3) := by decide +kernel
theorem dX1_readLine_227 : decode cX1_readLine 227 = .ok (.invokevirtual 89, 3) := by decide +kernel
theorem dX1_readLine_230 : decode cX1_readLine 230 = .ok (.goto 11, 3) := by decide +kernel
theorem dX1_readLine_233 : decode cX1_readLine 233 = .ok (.aload_n 0, 1) := by decide +kernel
theorem dX1_readLine_234 : decode cX1_readLine 234 = .ok (.getfield 21, 3) := by decide +kernel
theorem dX1_readLine_237 : decode cX1_readLine 237 = .ok (.iconst 1, 1) := by decide +kernel
theorem dX1_readLine_238 : decode cX1_readLine 238 = .ok (.invokevirtual 79, 3) := by decide +kernel
theorem dX1_readLine_241 : decode cX1_readLine 241 = .ok (.return_, 1) := by decide +kernel
def fX1_readLine_139 (N n : Nat) (f : zF) (a0 : Nat) (a2 : Int32) (a3 : Int32) (a4 : Int32) : Option zF :=
    ((zgI n f 1 a0 2).bind fun x5 => (if x5 < (40 : Int32) then ((zgR n f 1 a0 0).bind fun x6 => ((zck n f 9 x6).bind fun _ => ((fX9_advance N n f x6).bind fun f7 => (if a2 = 0 then (if a3 = (-1 : Int32) then ((zgR n f7 1 a0 0).bind fun x8 => ((zck n f7 9 x8).bind fun _ => (zbd (fX9_takesWord N n f7 x8 (14 : Int32)) fun f10 x9 => (if x9 = 0 then ((zgR n f10 1 a0 0).bind fun x11 => ((zck n f10 9 x11).bind fun _ => ((fX9_fail N n f10 x11 (1 : Int32)).bind fun f12 => some f12))) else ((zgR n f10 1 a0 0).bind fun x13 => ((zck n f10 9 x13).bind fun _ => (zbd (fX9_needSide N n f10 x13) fun f15 x14 => ((zck n f15 1 a0).bind fun _ => ((fX1_addLine N n f15 a0 (14 : Int32) a4 x14).bind fun f16 => some f16))))))))) else ((zck n f7 1 a0).bind fun _ => ((fX1_readLooker N n f7 a0 a3).bind fun f17 => some f17))) else ((zgR n f7 1 a0 0).bind fun x18 => ((zck n f7 9 x18).bind fun _ => (zbd (fX9_needNumber N n f7 x18 (1 : Int32) (60 : Int32)) fun f20 x19 => ((zck n f20 1 a0).bind fun _ => ((fX1_addLine N n f20 a0 (15 : Int32) (0 : Int32) x19).bind fun f21 => some f21))))))))) else ((zgR n f 1 a0 0).bind fun x22 => ((zck n f 9 x22).bind fun _ => ((fX9_fail N n f x22 (4 : Int32)).bind fun f23 => some f23)))))
set_option maxRecDepth 100000 in
set_option maxHeartbeats 4000000 in
theorem gX1_readLine_139 (l : Launch) {G : zG} {p : Program} {e : Env} {s : State} {m : MethodId} {args : Array Value} {below : List Frame} {meth : Method} {c : Code} {N n : Nat} {f9 : zF} (B : zB G p s m args meth c RX1 cX1_readLine 5 (none)) : ∀ (f : zF) (a0 : Nat) (a2 : Int32) (a3 : Int32) (a4 : Int32) (H : Heap) (locs : List Loc) (ls : Array Slot), fX1_readLine_139 N n f a0 a2 a3 a4 = some f9 → zS G n f H locs → lv_has ls 5 [(0, zr G a0), (2, .int a2), (3, .int a3), (4, .int a4)] → W p l e (zrm 4) s m args below meth c H locs 0 0 (MQ below (zQc G n f9 (none)) args s 0 0 (zA G)) (F0 m 139 ls []) := by
  have he := B.1
  have hb := B.2.1
  intro f a0 a2 a3 a4 H locs ls h hS hl
  unfold fX1_readLine_139 at h
  refine z_aload_n he hb dX1_readLine_139 rfl (lv_at hl 0 rfl) (zref_r _ _) ?_
  obtain ⟨x5, hx, h⟩ := zob h
  refine z_getI (ci := 1) (T := TX1) (N := 6) (j := 2) B hS hx rfl zin_X1 (by decide) zk_352 dX1_readLine_140 ?_
  refine lv_bipush (v := (40 : Int32)) he hb dX1_readLine_143 (by decide) ?_
  refine lv_icmp_lt (tgt := 159) he hb dX1_readLine_145 (by decide) (fun hc => ?_) (fun hc => ?_)
  · rw [if_pos hc] at h
    refine z_aload_n he hb dX1_readLine_159 rfl (lv_at hl 0 rfl) (zref_r _ _) ?_
    obtain ⟨x6, hx, h⟩ := zob h
    refine z_getR (ci := 1) (T := TX1) (N := 6) (j := 0) B hS hx rfl zin_X1 (by decide) zk_350 dX1_readLine_160 ?_
    obtain ⟨_, hc, h⟩ := zob h
    obtain ⟨f7, hx, h⟩ := zob h
    refine z_callV (ci := 9) (T := TX9) (N := 12) (rest := []) B hS (mX9_advance l G hx) zy_X9_advance zk_1096 (by decide) hc rfl rfl hl rfl (Nat.le_of_ble_eq_true rfl) dX1_readLine_163 (kk := (fun H locs hS => ?_))
    refine lv_iload_n he hb dX1_readLine_166 rfl (lv_at hl 1 rfl) ?_
    refine lv_if_eq (tgt := 190) he hb dX1_readLine_167 (by decide) (fun hc => ?_) (fun hc => ?_)
    · rw [if_pos hc] at h
      refine lv_iload_n he hb dX1_readLine_190 rfl (lv_at hl 2 rfl) ?_
      refine lv_iconst (v := (-1 : Int32)) he hb dX1_readLine_191 (by decide) ?_
      refine lv_icmp_eq (tgt := 203) he hb dX1_readLine_192 (by decide) (fun hc => ?_) (fun hc => ?_)
      · rw [if_pos hc] at h
        refine z_aload_n he hb dX1_readLine_203 rfl (lv_at hl 0 rfl) (zref_r _ _) ?_
        obtain ⟨x8, hx, h⟩ := zob h
        refine z_getR (ci := 1) (T := TX1) (N := 6) (j := 0) B hS hx rfl zin_X1 (by decide) zk_350 dX1_readLine_204 ?_
        refine lv_bipush (v := (14 : Int32)) he hb dX1_readLine_207 (by decide) ?_
        obtain ⟨_, hc, h⟩ := zob h
        obtain ⟨f10, x9, hx, h⟩ := zbd_i h
        refine z_callV (ci := 9) (T := TX9) (N := 12) (rest := []) B hS (mX9_takesWord l G hx) zy_X9_takesWord zk_1107 (by decide) hc rfl rfl hl rfl (Nat.le_of_ble_eq_true rfl) dX1_readLine_209 (kk := (fun H locs hS => ?_))
        refine lv_if_eq (tgt := 233) he hb dX1_readLine_212 (by decide) (fun hc => ?_) (fun hc => ?_)
        · rw [if_pos hc] at h
          refine z_aload_n he hb dX1_readLine_233 rfl (lv_at hl 0 rfl) (zref_r _ _) ?_
          obtain ⟨x11, hx, h⟩ := zob h
          refine z_getR (ci := 1) (T := TX1) (N := 6) (j := 0) B hS hx rfl zin_X1 (by decide) zk_350 dX1_readLine_234 ?_
          refine lv_iconst (v := (1 : Int32)) he hb dX1_readLine_237 (by decide) ?_
          obtain ⟨_, hc, h⟩ := zob h
          obtain ⟨f12, hx, h⟩ := zob h
          refine z_callV (ci := 9) (T := TX9) (N := 12) (rest := []) B hS (mX9_fail l G hx) zy_X9_fail zk_1095 (by decide) hc rfl rfl hl rfl (Nat.le_of_ble_eq_true rfl) dX1_readLine_238 (kk := (fun H locs hS => ?_))
          obtain rfl := Option.some.inj h
          exact z_vret B hS dX1_readLine_241
        · rw [if_neg hc] at h
          refine z_aload_n he hb dX1_readLine_215 rfl (lv_at hl 0 rfl) (zref_r _ _) ?_
          refine lv_bipush (v := (14 : Int32)) he hb dX1_readLine_216 (by decide) ?_
          refine lv_iload he hb dX1_readLine_218 (lv_at hl 3 rfl) ?_
          refine z_aload_n he hb dX1_readLine_220 rfl (lv_at hl 0 rfl) (zref_r _ _) ?_
          obtain ⟨x13, hx, h⟩ := zob h
          refine z_getR (ci := 1) (T := TX1) (N := 6) (j := 0) B hS hx rfl zin_X1 (by decide) zk_350 dX1_readLine_221 ?_
          obtain ⟨_, hc, h⟩ := zob h
          obtain ⟨f15, x14, hx, h⟩ := zbd_i h
          refine z_callV (ci := 9) (T := TX9) (N := 12) (rest := [_, _, _]) B hS (mX9_needSide l G hx) zy_X9_needSide zk_1112 (by decide) hc rfl rfl hl rfl (Nat.le_of_ble_eq_true rfl) dX1_readLine_224 (kk := (fun H locs hS => ?_))
          obtain ⟨_, hc, h⟩ := zob h
          obtain ⟨f16, hx, h⟩ := zob h
          refine z_callV (ci := 1) (T := TX1) (N := 6) (rest := []) B hS (mX1_addLine l G hx) zy_X1_addLine zk_1098 (by decide) hc rfl rfl hl rfl (Nat.le_of_ble_eq_true rfl) dX1_readLine_227 (kk := (fun H locs hS => ?_))
          refine lv_goto (tgt := 241) he hb dX1_readLine_230 (by decide) ?_
          obtain rfl := Option.some.inj h
          exact z_vret B hS dX1_readLine_241
      · rw [if_neg hc] at h
        refine z_aload_n he hb dX1_readLine_195 rfl (lv_at hl 0 rfl) (zref_r _ _) ?_
        refine lv_iload_n he hb dX1_readLine_196 rfl (lv_at hl 2 rfl) ?_
        obtain ⟨_, hc, h⟩ := zob h
        obtain ⟨f17, hx, h⟩ := zob h
        refine z_callV (ci := 1) (T := TX1) (N := 6) (rest := []) B hS (mX1_readLooker l G hx) zy_X1_readLooker zk_1103 (by decide) hc rfl rfl hl rfl (Nat.le_of_ble_eq_true rfl) dX1_readLine_197 (kk := (fun H locs hS => ?_))
        refine lv_goto (tgt := 241) he hb dX1_readLine_200 (by decide) ?_
        obtain rfl := Option.some.inj h
        exact z_vret B hS dX1_readLine_241
    · rw [if_neg hc] at h
      refine z_aload_n he hb dX1_readLine_170 rfl (lv_at hl 0 rfl) (zref_r _ _) ?_
      refine lv_bipush (v := (15 : Int32)) he hb dX1_readLine_171 (by decide) ?_
      refine lv_iconst (v := (0 : Int32)) he hb dX1_readLine_173 (by decide) ?_
      refine z_aload_n he hb dX1_readLine_174 rfl (lv_at hl 0 rfl) (zref_r _ _) ?_
      obtain ⟨x18, hx, h⟩ := zob h
      refine z_getR (ci := 1) (T := TX1) (N := 6) (j := 0) B hS hx rfl zin_X1 (by decide) zk_350 dX1_readLine_175 ?_
      refine lv_iconst (v := (1 : Int32)) he hb dX1_readLine_178 (by decide) ?_
      refine lv_bipush (v := (60 : Int32)) he hb dX1_readLine_179 (by decide) ?_
      obtain ⟨_, hc, h⟩ := zob h
      obtain ⟨f20, x19, hx, h⟩ := zbd_i h
      refine z_callV (ci := 9) (T := TX9) (N := 12) (rest := [_, _, _]) B hS (mX9_needNumber l G hx) zy_X9_needNumber zk_1097 (by decide) hc rfl rfl hl rfl (Nat.le_of_ble_eq_true rfl) dX1_readLine_181 (kk := (fun H locs hS => ?_))
      obtain ⟨_, hc, h⟩ := zob h
      obtain ⟨f21, hx, h⟩ := zob h
      refine z_callV (ci := 1) (T := TX1) (N := 6) (rest := []) B hS (mX1_addLine l G hx) zy_X1_addLine zk_1098 (by decide) hc rfl rfl hl rfl (Nat.le_of_ble_eq_true rfl) dX1_readLine_184 (kk := (fun H locs hS => ?_))
      refine lv_goto (tgt := 241) he hb dX1_readLine_187 (by decide) ?_
      obtain rfl := Option.some.inj h
      exact z_vret B hS dX1_readLine_241
  · rw [if_neg hc] at h
    refine z_aload_n he hb dX1_readLine_148 rfl (lv_at hl 0 rfl) (zref_r _ _) ?_
    obtain ⟨x22, hx, h⟩ := zob h
    refine z_getR (ci := 1) (T := TX1) (N := 6) (j := 0) B hS hx rfl zin_X1 (by decide) zk_350 dX1_readLine_149 ?_
    refine lv_iconst (v := (4 : Int32)) he hb dX1_readLine_152 (by decide) ?_
    obtain ⟨_, hc, h⟩ := zob h
    obtain ⟨f23, hx, h⟩ := zob h
    refine z_callV (ci := 9) (T := TX9) (N := 12) (rest := []) B hS (mX9_fail l G hx) zy_X9_fail zk_1095 (by decide) hc rfl rfl hl rfl (Nat.le_of_ble_eq_true rfl) dX1_readLine_153 (kk := (fun H locs hS => ?_))
    refine lv_goto (tgt := 241) he hb dX1_readLine_156 (by decide) ?_
    obtain rfl := Option.some.inj h
    exact z_vret B hS dX1_readLine_241
def fX1_readLine_113 (N n : Nat) (f : zF) (a0 : Nat) (a1 : Int32) (a2 : Int32) (a3 : Int32) (a4 : Int32) : Option zF :=
    (if a1 = 0 then (fX1_readLine_139 N n f a0 a2 a3 a4) else (if a3 = (-1 : Int32) then (if a4 = (-1 : Int32) then ((zgR n f 1 a0 0).bind fun x24 => ((zck n f 9 x24).bind fun _ => ((fX9_fail N n f x24 (3 : Int32)).bind fun f25 => some f25))) else (fX1_readLine_139 N n f a0 a2 a3 a4)) else (fX1_readLine_139 N n f a0 a2 a3 a4)))
set_option maxRecDepth 100000 in
set_option maxHeartbeats 4000000 in
theorem gX1_readLine_113 (l : Launch) {G : zG} {p : Program} {e : Env} {s : State} {m : MethodId} {args : Array Value} {below : List Frame} {meth : Method} {c : Code} {N n : Nat} {f9 : zF} (B : zB G p s m args meth c RX1 cX1_readLine 5 (none)) : ∀ (f : zF) (a0 : Nat) (a1 : Int32) (a2 : Int32) (a3 : Int32) (a4 : Int32) (H : Heap) (locs : List Loc) (ls : Array Slot), fX1_readLine_113 N n f a0 a1 a2 a3 a4 = some f9 → zS G n f H locs → lv_has ls 5 [(0, zr G a0), (1, .int a1), (2, .int a2), (3, .int a3), (4, .int a4)] → W p l e (zrm 4) s m args below meth c H locs 0 0 (MQ below (zQc G n f9 (none)) args s 0 0 (zA G)) (F0 m 113 ls []) := by
  have he := B.1
  have hb := B.2.1
  intro f a0 a1 a2 a3 a4 H locs ls h hS hl
  unfold fX1_readLine_113 at h
  refine lv_iload_n he hb dX1_readLine_113 rfl (lv_at hl 1 rfl) ?_
  refine lv_if_eq (tgt := 139) he hb dX1_readLine_114 (by decide) (fun hc => ?_) (fun hc => ?_)
  · rw [if_pos hc] at h
    exact gX1_readLine_139 l B _ _ _ _ _ _ _ _ h hS (lv_sub hl [0, 2, 3, 4] rfl)
  · rw [if_neg hc] at h
    refine lv_iload_n he hb dX1_readLine_117 rfl (lv_at hl 3 rfl) ?_
    refine lv_iconst (v := (-1 : Int32)) he hb dX1_readLine_118 (by decide) ?_
    refine lv_icmp_ne (tgt := 139) he hb dX1_readLine_119 (by decide) (fun hc => ?_) (fun hc => ?_)
    · rw [if_neg hc] at h
      exact gX1_readLine_139 l B _ _ _ _ _ _ _ _ h hS (lv_sub hl [0, 2, 3, 4] rfl)
    · rw [if_pos hc] at h
      refine lv_iload he hb dX1_readLine_122 (lv_at hl 4 rfl) ?_
      refine lv_iconst (v := (-1 : Int32)) he hb dX1_readLine_124 (by decide) ?_
      refine lv_icmp_ne (tgt := 139) he hb dX1_readLine_125 (by decide) (fun hc => ?_) (fun hc => ?_)
      · rw [if_neg hc] at h
        exact gX1_readLine_139 l B _ _ _ _ _ _ _ _ h hS (lv_sub hl [0, 2, 3, 4] rfl)
      · rw [if_pos hc] at h
        refine z_aload_n he hb dX1_readLine_128 rfl (lv_at hl 0 rfl) (zref_r _ _) ?_
        obtain ⟨x24, hx, h⟩ := zob h
        refine z_getR (ci := 1) (T := TX1) (N := 6) (j := 0) B hS hx rfl zin_X1 (by decide) zk_350 dX1_readLine_129 ?_
        refine lv_iconst (v := (3 : Int32)) he hb dX1_readLine_132 (by decide) ?_
        obtain ⟨_, hc, h⟩ := zob h
        obtain ⟨f25, hx, h⟩ := zob h
        refine z_callV (ci := 9) (T := TX9) (N := 12) (rest := []) B hS (mX9_fail l G hx) zy_X9_fail zk_1095 (by decide) hc rfl rfl hl rfl (Nat.le_of_ble_eq_true rfl) dX1_readLine_133 (kk := (fun H locs hS => ?_))
        refine lv_goto (tgt := 241) he hb dX1_readLine_136 (by decide) ?_
        obtain rfl := Option.some.inj h
        exact z_vret B hS dX1_readLine_241
def fX1_readLine_92 (N n : Nat) (f : zF) (a0 : Nat) (a1 : Int32) (a2 : Int32) (a3 : Int32) (t0 : Int32) : Option zF :=
    (if a1 = 0 then (if a2 = 0 then ((zgR n f 1 a0 0).bind fun x26 => ((zck n f 9 x26).bind fun _ => ((fX9_fail N n f x26 (1 : Int32)).bind fun f27 => some f27))) else (fX1_readLine_113 N n f a0 a1 a2 a3 t0)) else (fX1_readLine_113 N n f a0 a1 a2 a3 t0))
set_option maxRecDepth 100000 in
set_option maxHeartbeats 4000000 in
theorem gX1_readLine_92 (l : Launch) {G : zG} {p : Program} {e : Env} {s : State} {m : MethodId} {args : Array Value} {below : List Frame} {meth : Method} {c : Code} {N n : Nat} {f9 : zF} (B : zB G p s m args meth c RX1 cX1_readLine 5 (none)) : ∀ (f : zF) (a0 : Nat) (a1 : Int32) (a2 : Int32) (a3 : Int32) (t0 : Int32) (H : Heap) (locs : List Loc) (ls : Array Slot), fX1_readLine_92 N n f a0 a1 a2 a3 t0 = some f9 → zS G n f H locs → lv_has ls 5 [(0, zr G a0), (1, .int a1), (2, .int a2), (3, .int a3)] → W p l e (zrm 4) s m args below meth c H locs 0 0 (MQ below (zQc G n f9 (none)) args s 0 0 (zA G)) (F0 m 92 ls [.int t0]) := by
  have he := B.1
  have hb := B.2.1
  intro f a0 a1 a2 a3 t0 H locs ls h hS hl
  unfold fX1_readLine_92 at h
  refine lv_istore (lv' := [(4, _), (0, _), (1, _), (2, _), (3, _)]) he hb dX1_readLine_92 hl (by decide) rfl (fun ls hl => ?_)
  refine lv_iload_n he hb dX1_readLine_94 rfl (lv_at hl 2 rfl) ?_
  refine lv_if_ne (tgt := 113) he hb dX1_readLine_95 (by decide) (fun hc => ?_) (fun hc => ?_)
  · rw [if_neg hc] at h
    exact gX1_readLine_113 l B _ _ _ _ _ _ _ _ _ h hS (lv_sub hl [1, 2, 3, 4, 0] rfl)
  · rw [if_pos hc] at h
    refine lv_iload_n he hb dX1_readLine_98 rfl (lv_at hl 3 rfl) ?_
    refine lv_if_ne (tgt := 113) he hb dX1_readLine_99 (by decide) (fun hc => ?_) (fun hc => ?_)
    · rw [if_neg hc] at h
      exact gX1_readLine_113 l B _ _ _ _ _ _ _ _ _ h hS (lv_sub hl [1, 2, 3, 4, 0] rfl)
    · rw [if_pos hc] at h
      refine z_aload_n he hb dX1_readLine_102 rfl (lv_at hl 1 rfl) (zref_r _ _) ?_
      obtain ⟨x26, hx, h⟩ := zob h
      refine z_getR (ci := 1) (T := TX1) (N := 6) (j := 0) B hS hx rfl zin_X1 (by decide) zk_350 dX1_readLine_103 ?_
      refine lv_iconst (v := (1 : Int32)) he hb dX1_readLine_106 (by decide) ?_
      obtain ⟨_, hc, h⟩ := zob h
      obtain ⟨f27, hx, h⟩ := zob h
      refine z_callV (ci := 9) (T := TX9) (N := 12) (rest := []) B hS (mX9_fail l G hx) zy_X9_fail zk_1095 (by decide) hc rfl rfl hl rfl (Nat.le_of_ble_eq_true rfl) dX1_readLine_107 (kk := (fun H locs hS => ?_))
      refine lv_goto (tgt := 241) he hb dX1_readLine_110 (by decide) ?_
      obtain rfl := Option.some.inj h
      exact z_vret B hS dX1_readLine_241
def fX1_readLine_59 (N n : Nat) (f : zF) (a0 : Nat) (a1 : Int32) (a2 : Int32) (t0 : Int32) : Option zF :=
    (if a1 = 0 then (fX1_readLine_92 N n f a0 a1 a2 t0 (-1 : Int32)) else ((zgR n f 1 a0 1).bind fun x28 => ((zgR n f 2 x28 6).bind fun x29 => ((zgR n f 1 a0 1).bind fun x30 => ((zgI n f 2 x30 3).bind fun x31 => ((zgR n f 1 a0 0).bind fun x32 => ((zgL n f 9 x32 9).bind fun x33 => ((fX11_placeOf N n f x29 x31 x33).bind fun x34 => (fX1_readLine_92 N n f a0 a1 a2 t0 x34)))))))))
set_option maxRecDepth 100000 in
set_option maxHeartbeats 4000000 in
theorem gX1_readLine_59 (l : Launch) {G : zG} {p : Program} {e : Env} {s : State} {m : MethodId} {args : Array Value} {below : List Frame} {meth : Method} {c : Code} {N n : Nat} {f9 : zF} (B : zB G p s m args meth c RX1 cX1_readLine 5 (none)) : ∀ (f : zF) (a0 : Nat) (a1 : Int32) (a2 : Int32) (t0 : Int32) (H : Heap) (locs : List Loc) (ls : Array Slot), fX1_readLine_59 N n f a0 a1 a2 t0 = some f9 → zS G n f H locs → lv_has ls 5 [(0, zr G a0), (1, .int a1), (2, .int a2)] → W p l e (zrm 4) s m args below meth c H locs 0 0 (MQ below (zQc G n f9 (none)) args s 0 0 (zA G)) (F0 m 59 ls [.int t0]) := by
  have he := B.1
  have hb := B.2.1
  intro f a0 a1 a2 t0 H locs ls h hS hl
  unfold fX1_readLine_59 at h
  refine lv_istore_n (lv' := [(3, _), (0, _), (1, _), (2, _)]) he hb dX1_readLine_59 rfl hl (by decide) rfl (fun ls hl => ?_)
  refine lv_iload_n he hb dX1_readLine_60 rfl (lv_at hl 2 rfl) ?_
  refine lv_if_eq (tgt := 91) he hb dX1_readLine_61 (by decide) (fun hc => ?_) (fun hc => ?_)
  · rw [if_pos hc] at h
    refine lv_iconst (v := (-1 : Int32)) he hb dX1_readLine_91 (by decide) ?_
    exact gX1_readLine_92 l B _ _ _ _ _ _ _ _ _ h hS (lv_sub hl [1, 2, 3, 0] rfl)
  · rw [if_neg hc] at h
    refine z_aload_n he hb dX1_readLine_64 rfl (lv_at hl 1 rfl) (zref_r _ _) ?_
    obtain ⟨x28, hx, h⟩ := zob h
    refine z_getR (ci := 1) (T := TX1) (N := 6) (j := 1) B hS hx rfl zin_X1 (by decide) zk_351 dX1_readLine_65 ?_
    obtain ⟨x29, hx, h⟩ := zob h
    refine z_getR (ci := 2) (T := TX2) (N := 15) (j := 6) B hS hx rfl zin_X2 (by decide) zk_178 dX1_readLine_68 ?_
    refine z_aload_n he hb dX1_readLine_71 rfl (lv_at hl 1 rfl) (zref_r _ _) ?_
    obtain ⟨x30, hx, h⟩ := zob h
    refine z_getR (ci := 1) (T := TX1) (N := 6) (j := 1) B hS hx rfl zin_X1 (by decide) zk_351 dX1_readLine_72 ?_
    obtain ⟨x31, hx, h⟩ := zob h
    refine z_getI (ci := 2) (T := TX2) (N := 15) (j := 3) B hS hx rfl zin_X2 (by decide) zk_164 dX1_readLine_75 ?_
    refine z_aload_n he hb dX1_readLine_78 rfl (lv_at hl 1 rfl) (zref_r _ _) ?_
    obtain ⟨x32, hx, h⟩ := zob h
    refine z_getR (ci := 1) (T := TX1) (N := 6) (j := 0) B hS hx rfl zin_X1 (by decide) zk_350 dX1_readLine_79 ?_
    obtain ⟨x33, hx, h⟩ := zob h
    refine z_getL (ci := 9) (T := TX9) (N := 12) (j := 9) B hS hx rfl zin_X9 (by decide) zk_109 dX1_readLine_82 ?_
    obtain ⟨x34, hx, h⟩ := zob h
    refine z_callN (rest := []) B hS (mX11_placeOf l G hx) zy_X11_placeOf zkn_1094 (by decide) rfl hl rfl (Nat.le_of_ble_eq_true rfl) dX1_readLine_85 (kk := (fun H locs hS => ?_))
    refine lv_goto (tgt := 92) he hb dX1_readLine_88 (by decide) ?_
    exact gX1_readLine_92 l B _ _ _ _ _ _ _ _ _ h hS (lv_sub hl [1, 2, 3, 0] rfl)
def fX1_readLine_16 (N n : Nat) (f : zF) (a0 : Nat) (t0 : Int32) : Option zF :=
    ((zgR n f 1 a0 0).bind fun x3 => ((zck n f 9 x3).bind fun _ => ((fX9_isWord N n f x3 (15 : Int32)).bind fun x4 => (if t0 = 0 then (fX1_readLine_59 N n f a0 t0 x4 (-1 : Int32)) else ((zgR n f 1 a0 1).bind fun x35 => ((zgR n f 2 x35 7).bind fun x36 => ((zgR n f 1 a0 1).bind fun x37 => ((zgI n f 2 x37 4).bind fun x38 => ((zgR n f 1 a0 0).bind fun x39 => ((zgL n f 9 x39 9).bind fun x40 => ((fX11_placeOf N n f x36 x38 x40).bind fun x41 => (fX1_readLine_59 N n f a0 t0 x4 x41))))))))))))
set_option maxRecDepth 100000 in
set_option maxHeartbeats 4000000 in
theorem gX1_readLine_16 (l : Launch) {G : zG} {p : Program} {e : Env} {s : State} {m : MethodId} {args : Array Value} {below : List Frame} {meth : Method} {c : Code} {N n : Nat} {f9 : zF} (B : zB G p s m args meth c RX1 cX1_readLine 5 (none)) : ∀ (f : zF) (a0 : Nat) (t0 : Int32) (H : Heap) (locs : List Loc) (ls : Array Slot), fX1_readLine_16 N n f a0 t0 = some f9 → zS G n f H locs → lv_has ls 5 [(0, zr G a0)] → W p l e (zrm 4) s m args below meth c H locs 0 0 (MQ below (zQc G n f9 (none)) args s 0 0 (zA G)) (F0 m 16 ls [.int t0]) := by
  have he := B.1
  have hb := B.2.1
  intro f a0 t0 H locs ls h hS hl
  unfold fX1_readLine_16 at h
  refine lv_istore_n (lv' := [(1, _), (0, _)]) he hb dX1_readLine_16 rfl hl (by decide) rfl (fun ls hl => ?_)
  refine z_aload_n he hb dX1_readLine_17 rfl (lv_at hl 1 rfl) (zref_r _ _) ?_
  obtain ⟨x3, hx, h⟩ := zob h
  refine z_getR (ci := 1) (T := TX1) (N := 6) (j := 0) B hS hx rfl zin_X1 (by decide) zk_350 dX1_readLine_18 ?_
  refine lv_bipush (v := (15 : Int32)) he hb dX1_readLine_21 (by decide) ?_
  obtain ⟨_, hc, h⟩ := zob h
  obtain ⟨x4, hx, h⟩ := zob h
  refine z_callV (ci := 9) (T := TX9) (N := 12) (rest := []) B hS (mX9_isWord l G hx) zy_X9_isWord zk_1090 (by decide) hc rfl rfl hl rfl (Nat.le_of_ble_eq_true rfl) dX1_readLine_23 (kk := (fun H locs hS => ?_))
  refine lv_istore_n (lv' := [(2, _), (1, _), (0, _)]) he hb dX1_readLine_26 rfl hl (by decide) rfl (fun ls hl => ?_)
  refine lv_iload_n he hb dX1_readLine_27 rfl (lv_at hl 1 rfl) ?_
  refine lv_if_eq (tgt := 58) he hb dX1_readLine_28 (by decide) (fun hc => ?_) (fun hc => ?_)
  · rw [if_pos hc] at h
    refine lv_iconst (v := (-1 : Int32)) he hb dX1_readLine_58 (by decide) ?_
    exact gX1_readLine_59 l B _ _ _ _ _ _ _ _ h hS (lv_sub hl [2, 1, 0] rfl)
  · rw [if_neg hc] at h
    refine z_aload_n he hb dX1_readLine_31 rfl (lv_at hl 2 rfl) (zref_r _ _) ?_
    obtain ⟨x35, hx, h⟩ := zob h
    refine z_getR (ci := 1) (T := TX1) (N := 6) (j := 1) B hS hx rfl zin_X1 (by decide) zk_351 dX1_readLine_32 ?_
    obtain ⟨x36, hx, h⟩ := zob h
    refine z_getR (ci := 2) (T := TX2) (N := 15) (j := 7) B hS hx rfl zin_X2 (by decide) zk_182 dX1_readLine_35 ?_
    refine z_aload_n he hb dX1_readLine_38 rfl (lv_at hl 2 rfl) (zref_r _ _) ?_
    obtain ⟨x37, hx, h⟩ := zob h
    refine z_getR (ci := 1) (T := TX1) (N := 6) (j := 1) B hS hx rfl zin_X1 (by decide) zk_351 dX1_readLine_39 ?_
    obtain ⟨x38, hx, h⟩ := zob h
    refine z_getI (ci := 2) (T := TX2) (N := 15) (j := 4) B hS hx rfl zin_X2 (by decide) zk_169 dX1_readLine_42 ?_
    refine z_aload_n he hb dX1_readLine_45 rfl (lv_at hl 2 rfl) (zref_r _ _) ?_
    obtain ⟨x39, hx, h⟩ := zob h
    refine z_getR (ci := 1) (T := TX1) (N := 6) (j := 0) B hS hx rfl zin_X1 (by decide) zk_350 dX1_readLine_46 ?_
    obtain ⟨x40, hx, h⟩ := zob h
    refine z_getL (ci := 9) (T := TX9) (N := 12) (j := 9) B hS hx rfl zin_X9 (by decide) zk_109 dX1_readLine_49 ?_
    obtain ⟨x41, hx, h⟩ := zob h
    refine z_callN (rest := []) B hS (mX11_placeOf l G hx) zy_X11_placeOf zkn_1094 (by decide) rfl hl rfl (Nat.le_of_ble_eq_true rfl) dX1_readLine_52 (kk := (fun H locs hS => ?_))
    refine lv_goto (tgt := 59) he hb dX1_readLine_55 (by decide) ?_
    exact gX1_readLine_59 l B _ _ _ _ _ _ _ _ h hS (lv_sub hl [2, 1, 0] rfl)
def fX1_readLine (N n : Nat) (f : zF) (a0 : Nat) : Option zF :=
    ((zgR n f 1 a0 0).bind fun x1 => ((zgI n f 9 x1 5).bind fun x2 => (if x2 = (3 : Int32) then (fX1_readLine_16 N n f a0 (1 : Int32)) else (fX1_readLine_16 N n f a0 (0 : Int32)))))
set_option maxRecDepth 100000 in
set_option maxHeartbeats 4000000 in
theorem mX1_readLine (l : Launch) (G : zG) {N n : Nat} {f : zF} {f9 : zF} {a0 : Nat} (h : fX1_readLine N n f a0 = some f9) : zM l G yX1_readLine cX1_readLine 5 (none) 4 n f [zr G a0] (none) f9 := by
  refine zM.of (by decide) (Nat.le_of_ble_eq_true rfl) ?_
  intro p e s m args below meth c locs ls B hS hl
  have he := B.1
  have hb := B.2.1
  have hl : lv_has ls 5 [(0, zr G a0)] := hl
  unfold fX1_readLine at h
  generalize s.heap = H at hS ⊢
  refine z_aload_n he hb dX1_readLine_0 rfl (lv_at hl 0 rfl) (zref_r _ _) ?_
  obtain ⟨x1, hx, h⟩ := zob h
  refine z_getR (ci := 1) (T := TX1) (N := 6) (j := 0) B hS hx rfl zin_X1 (by decide) zk_350 dX1_readLine_1 ?_
  obtain ⟨x2, hx, h⟩ := zob h
  refine z_getI (ci := 9) (T := TX9) (N := 12) (j := 5) B hS hx rfl zin_X9 (by decide) zk_100 dX1_readLine_4 ?_
  refine lv_iconst (v := (3 : Int32)) he hb dX1_readLine_7 (by decide) ?_
  refine lv_icmp_ne (tgt := 15) he hb dX1_readLine_8 (by decide) (fun hc => ?_) (fun hc => ?_)
  · rw [if_neg hc] at h
    refine lv_iconst (v := (0 : Int32)) he hb dX1_readLine_15 (by decide) ?_
    exact gX1_readLine_16 l B _ _ _ _ _ _ h hS (lv_sub hl [0] rfl)
  · rw [if_pos hc] at h
    refine lv_iconst (v := (1 : Int32)) he hb dX1_readLine_11 (by decide) ?_
    refine lv_goto (tgt := 16) he hb dX1_readLine_12 (by decide) ?_
    exact gX1_readLine_16 l B _ _ _ _ _ _ h hS (lv_sub hl [0] rfl)
theorem dX1_read_0 : decode cX1_read 0 = .ok (.aload_n 0, 1) := by decide +kernel
theorem dX1_read_1 : decode cX1_read 1 = .ok (.iconst 0, 1) := by decide +kernel
theorem dX1_read_2 : decode cX1_read 2 = .ok (.putfield 29, 3) := by decide +kernel
theorem dX1_read_5 : decode cX1_read 5 = .ok (.aload_n 0, 1) := by decide +kernel
theorem dX1_read_6 : decode cX1_read 6 = .ok (.getfield 21, 3) := by decide +kernel
theorem dX1_read_9 : decode cX1_read 9 = .ok (.sipush 400, 3) := by decide +kernel
theorem dX1_read_12 : decode cX1_read 12 = .ok (.invokevirtual 33, 3) := by decide +kernel
theorem dX1_read_15 : decode cX1_read 15 = .ok (.iconst 0, 1) := by decide +kernel
theorem dX1_read_16 : decode cX1_read 16 = .ok (.istore_n 1, 1) := by decide +kernel
theorem dX1_read_17 : decode cX1_read 17 = .ok (.iload_n 1, 1) := by decide +kernel
theorem dX1_read_18 : decode cX1_read 18 = .ok (.sipush 400, 3) := by decide +kernel
theorem dX1_read_21 : decode cX1_read 21 = .ok (.if_icmp .ge 32, 3) := by decide +kernel
theorem dX1_read_24 : decode cX1_read 24 = .ok (.aload_n 0, 1) := by decide +kernel
theorem dX1_read_25 : decode cX1_read 25 = .ok (.getfield 21, 3) := by decide +kernel
theorem dX1_read_28 : decode cX1_read 28 = .ok (.invokevirtual 39, 3) := by decide +kernel
theorem dX1_read_31 : decode cX1_read 31 = .ok (.ifCond .eq 22, 3) := by decide +kernel
theorem dX1_read_34 : decode cX1_read 34 = .ok (.aload_n 0, 1) := by decide +kernel
theorem dX1_read_35 : decode cX1_read 35 = .ok (.invokevirtual 43, 3) := by decide +kernel
theorem dX1_read_38 : decode cX1_read 38 = .ok (.aload_n 0, 1) := by decide +kernel
theorem dX1_read_39 : decode cX1_read 39 = .ok (.getfield 21, 3) := by decide +kernel
theorem dX1_read_42 : decode cX1_read 42 = .ok (.bipush 59, 2) := by decide +kernel
theorem dX1_read_44 : decode cX1_read 44 = .ok (.invokevirtual 46, 3) := by decide +kernel
theorem dX1_read_47 : decode cX1_read 47 = .ok (.iinc 1 1, 3) := by decide +kernel
theorem dX1_read_50 : decode cX1_read 50 = .ok (.goto (-33), 3) := by decide +kernel
theorem dX1_read_53 : decode cX1_read 53 = .ok (.return_, 1) := by decide +kernel
def fX1_read_17 (N n : Nat) : Nat → zF → Nat → Int32 → Option zF
  | 0, _, _, _ => none
  | k + 1, f, a0, a1 =>
    (if (400 : Int32) ≤ a1 then some f else ((zgR n f 1 a0 0).bind fun x4 => ((zck n f 9 x4).bind fun _ => (zbd (fX9_goesOn N n f x4) fun f6 x5 => (if x5 = 0 then some f6 else ((zck n f6 1 a0).bind fun _ => ((fX1_readLine N n f6 a0).bind fun f7 => ((zgR n f7 1 a0 0).bind fun x8 => ((zck n f7 9 x8).bind fun _ => ((fX9_needSign N n f7 x8 (59 : Int32)).bind fun f9 => (fX1_read_17 N n k f9 a0 (a1 + 1))))))))))))
set_option maxRecDepth 100000 in
set_option maxHeartbeats 4000000 in
theorem gX1_read_17 (l : Launch) {G : zG} {p : Program} {e : Env} {s : State} {m : MethodId} {args : Array Value} {below : List Frame} {meth : Method} {c : Code} {N n : Nat} {f9 : zF} (B : zB G p s m args meth c RX1 cX1_read 2 (none)) : ∀ (k : Nat), ∀ (f : zF) (a0 : Nat) (a1 : Int32) (H : Heap) (locs : List Loc) (ls : Array Slot), fX1_read_17 N n k f a0 a1 = some f9 → zS G n f H locs → lv_has ls 2 [(0, zr G a0), (1, .int a1)] → W p l e (zrm 5) s m args below meth c H locs 0 0 (MQ below (zQc G n f9 (none)) args s 0 0 (zA G)) (F0 m 17 ls []) := by
  have he := B.1
  have hb := B.2.1
  intro k
  induction k with
  | zero =>
    intro f a0 a1 H locs ls h
    unfold fX1_read_17 at h
    cases h
  | succ k ih =>
    intro f a0 a1 H locs ls h hS hl
    unfold fX1_read_17 at h
    refine lv_iload_n he hb dX1_read_17 rfl (lv_at hl 1 rfl) ?_
    refine lv_sipush (v := (400 : Int32)) he hb dX1_read_18 (by decide) ?_
    refine lv_icmp_ge (tgt := 53) he hb dX1_read_21 (by decide) (fun hc => ?_) (fun hc => ?_)
    · rw [if_pos hc] at h
      obtain rfl := Option.some.inj h
      exact z_vret B hS dX1_read_53
    · rw [if_neg hc] at h
      refine z_aload_n he hb dX1_read_24 rfl (lv_at hl 0 rfl) (zref_r _ _) ?_
      obtain ⟨x4, hx, h⟩ := zob h
      refine z_getR (ci := 1) (T := TX1) (N := 6) (j := 0) B hS hx rfl zin_X1 (by decide) zk_350 dX1_read_25 ?_
      obtain ⟨_, hc, h⟩ := zob h
      obtain ⟨f6, x5, hx, h⟩ := zbd_i h
      refine z_callV (ci := 9) (T := TX9) (N := 12) (rest := []) B hS (mX9_goesOn l G hx) zy_X9_goesOn zk_1085 (by decide) hc rfl rfl hl rfl (Nat.le_of_ble_eq_true rfl) dX1_read_28 (kk := (fun H locs hS => ?_))
      refine lv_if_eq (tgt := 53) he hb dX1_read_31 (by decide) (fun hc => ?_) (fun hc => ?_)
      · rw [if_pos hc] at h
        obtain rfl := Option.some.inj h
        exact z_vret B hS dX1_read_53
      · rw [if_neg hc] at h
        refine z_aload_n he hb dX1_read_34 rfl (lv_at hl 0 rfl) (zref_r _ _) ?_
        obtain ⟨_, hc, h⟩ := zob h
        obtain ⟨f7, hx, h⟩ := zob h
        refine z_callV (ci := 1) (T := TX1) (N := 6) (rest := []) B hS (mX1_readLine l G hx) zy_X1_readLine zk_1086 (by decide) hc rfl rfl hl rfl (Nat.le_of_ble_eq_true rfl) dX1_read_35 (kk := (fun H locs hS => ?_))
        refine z_aload_n he hb dX1_read_38 rfl (lv_at hl 0 rfl) (zref_r _ _) ?_
        obtain ⟨x8, hx, h⟩ := zob h
        refine z_getR (ci := 1) (T := TX1) (N := 6) (j := 0) B hS hx rfl zin_X1 (by decide) zk_350 dX1_read_39 ?_
        refine lv_bipush (v := (59 : Int32)) he hb dX1_read_42 (by decide) ?_
        obtain ⟨_, hc, h⟩ := zob h
        obtain ⟨f9, hx, h⟩ := zob h
        refine z_callV (ci := 9) (T := TX9) (N := 12) (rest := []) B hS (mX9_needSign l G hx) zy_X9_needSign zk_1113 (by decide) hc rfl rfl hl rfl (Nat.le_of_ble_eq_true rfl) dX1_read_44 (kk := (fun H locs hS => ?_))
        refine lv_iinc (v := (a1 + 1)) (lv' := [(1, _), (0, _)]) he hb dX1_read_47 hl (k := 1) rfl rfl (by decide) rfl (fun ls hl => ?_)
        refine lv_goto (tgt := 17) he hb dX1_read_50 (by decide) ?_
        exact ih _ _ _ _ _ _ h hS (lv_sub hl [1, 0] rfl)
def fX1_read (N n : Nat) (f : zF) (a0 : Nat) : Option zF :=
    ((zpI n f 1 a0 2 (0 : Int32)).bind fun f1 => ((zgR n f1 1 a0 0).bind fun x2 => ((zck n f1 9 x2).bind fun _ => ((fX9_start N n f1 x2 (400 : Int32)).bind fun f3 => (fX1_read_17 N n N f3 a0 (0 : Int32))))))
set_option maxRecDepth 100000 in
set_option maxHeartbeats 4000000 in
theorem mX1_read (l : Launch) (G : zG) {N n : Nat} {f : zF} {f9 : zF} {a0 : Nat} (h : fX1_read N n f a0 = some f9) : zM l G yX1_read cX1_read 2 (none) 5 n f [zr G a0] (none) f9 := by
  refine zM.of (by decide) (Nat.le_of_ble_eq_true rfl) ?_
  intro p e s m args below meth c locs ls B hS hl
  have he := B.1
  have hb := B.2.1
  have hl : lv_has ls 2 [(0, zr G a0)] := hl
  unfold fX1_read at h
  generalize s.heap = H at hS ⊢
  refine z_aload_n he hb dX1_read_0 rfl (lv_at hl 0 rfl) (zref_r _ _) ?_
  refine lv_iconst (v := (0 : Int32)) he hb dX1_read_1 (by decide) ?_
  obtain ⟨f1, hx, h⟩ := zob h
  refine z_putI (ci := 1) (T := TX1) (N := 6) (j := 2) B hS hx rfl zin_X1 tyX1 tyX1_ok nmX1 (by decide) zk_352 rfl rfl dX1_read_2 (fun H locs hS => ?_)
  refine z_aload_n he hb dX1_read_5 rfl (lv_at hl 0 rfl) (zref_r _ _) ?_
  obtain ⟨x2, hx, h⟩ := zob h
  refine z_getR (ci := 1) (T := TX1) (N := 6) (j := 0) B hS hx rfl zin_X1 (by decide) zk_350 dX1_read_6 ?_
  refine lv_sipush (v := (400 : Int32)) he hb dX1_read_9 (by decide) ?_
  obtain ⟨_, hc, h⟩ := zob h
  obtain ⟨f3, hx, h⟩ := zob h
  refine z_callV (ci := 9) (T := TX9) (N := 12) (rest := []) B hS (mX9_start l G hx) zy_X9_start zk_1084 (by decide) hc rfl rfl hl rfl (Nat.le_of_ble_eq_true rfl) dX1_read_12 (kk := (fun H locs hS => ?_))
  refine lv_iconst (v := (0 : Int32)) he hb dX1_read_15 (by decide) ?_
  refine lv_istore_n (lv' := [(1, _), (0, _)]) he hb dX1_read_16 rfl hl (by decide) rfl (fun ls hl => ?_)
  exact gX1_read_17 l B N _ _ _ _ _ _ h hS (lv_sub hl [1, 0] rfl)
theorem dX1_wrongBy_0 : decode cX1_wrongBy 0 = .ok (.iload_n 1, 1) := by decide +kernel
theorem dX1_wrongBy_1 : decode cX1_wrongBy 1 = .ok (.ifCond .ne 7, 3) := by decide +kernel
theorem dX1_wrongBy_4 : decode cX1_wrongBy 4 = .ok (.iconst 0, 1) := by decide +kernel
theorem dX1_wrongBy_5 : decode cX1_wrongBy 5 = .ok (.goto 6, 3) := by decide +kernel
theorem dX1_wrongBy_8 : decode cX1_wrongBy 8 = .ok (.iload_n 0, 1) := by decide +kernel
theorem dX1_wrongBy_9 : decode cX1_wrongBy 9 = .ok (.iload_n 1, 1) := by decide +kernel
theorem dX1_wrongBy_10 : decode cX1_wrongBy 10 = .ok (.iadd, 1) := by decide +kernel
theorem dX1_wrongBy_11 : decode cX1_wrongBy 11 = .ok (.ireturn, 1) := by decide +kernel
def fX1_wrongBy (N n : Nat) (f : zF) (a0 : Int32) (a1 : Int32) : Option Int32 :=
    (if a1 = 0 then some (0 : Int32) else some (a0 + a1))
set_option maxRecDepth 100000 in
set_option maxHeartbeats 4000000 in
theorem mX1_wrongBy (l : Launch) (G : zG) {N n : Nat} {f : zF} {r : Int32} {a0 : Int32} {a1 : Int32} (h : fX1_wrongBy N n f a0 a1 = some r) : zM l G yX1_wrongBy cX1_wrongBy 2 (some .int) 0 n f [.int a0, .int a1] (some (.int r)) f := by
  refine zM.of (by decide) (Nat.le_of_ble_eq_true rfl) ?_
  intro p e s m args below meth c locs ls B hS hl
  have he := B.1
  have hb := B.2.1
  have hl : lv_has ls 2 [(0, .int a0), (1, .int a1)] := hl
  unfold fX1_wrongBy at h
  generalize s.heap = H at hS ⊢
  refine lv_iload_n he hb dX1_wrongBy_0 rfl (lv_at hl 1 rfl) ?_
  refine lv_if_ne (tgt := 8) he hb dX1_wrongBy_1 (by decide) (fun hc => ?_) (fun hc => ?_)
  · rw [if_neg hc] at h
    refine lv_iload_n he hb dX1_wrongBy_8 rfl (lv_at hl 0 rfl) ?_
    refine lv_iload_n he hb dX1_wrongBy_9 rfl (lv_at hl 1 rfl) ?_
    refine lv_iadd he hb dX1_wrongBy_10 ?_
    obtain rfl := Option.some.inj h
    exact z_iret B hS dX1_wrongBy_11
  · rw [if_pos hc] at h
    refine lv_iconst (v := (0 : Int32)) he hb dX1_wrongBy_4 (by decide) ?_
    refine lv_goto (tgt := 11) he hb dX1_wrongBy_5 (by decide) ?_
    obtain rfl := Option.some.inj h
    exact z_iret B hS dX1_wrongBy_11
theorem dX1_doLine_0 : decode cX1_doLine 0 = .ok (.aload_n 0, 1) := by decide +kernel
theorem dX1_doLine_1 : decode cX1_doLine 1 = .ok (.getfield 15, 3) := by decide +kernel
theorem dX1_doLine_4 : decode cX1_doLine 4 = .ok (.iload_n 2, 1) := by decide +kernel
theorem dX1_doLine_5 : decode cX1_doLine 5 = .ok (.invokestatic 107, 3) := by decide +kernel
theorem dX1_doLine_8 : decode cX1_doLine 8 = .ok (.istore_n 3, 1) := by decide +kernel
theorem dX1_doLine_9 : decode cX1_doLine 9 = .ok (.aload_n 0, 1) := by decide +kernel
theorem dX1_doLine_10 : decode cX1_doLine 10 = .ok (.getfield 18, 3) := by decide +kernel
theorem dX1_doLine_13 : decode cX1_doLine 13 = .ok (.iload_n 2, 1) := by decide +kernel
theorem dX1_doLine_14 : decode cX1_doLine 14 = .ok (.invokestatic 107, 3) := by decide +kernel
theorem dX1_doLine_17 : decode cX1_doLine 17 = .ok (.istore 4, 2) := by decide +kernel
theorem dX1_doLine_19 : decode cX1_doLine 19 = .ok (.aload_n 0, 1) := by decide +kernel
theorem dX1_doLine_20 : decode cX1_doLine 20 = .ok (.getfield 9, 3) := by decide +kernel
theorem dX1_doLine_23 : decode cX1_doLine 23 = .ok (.iload_n 2, 1) := by decide +kernel
theorem dX1_doLine_24 : decode cX1_doLine 24 = .ok (.invokestatic 107, 3) := by decide +kernel
theorem dX1_doLine_27 : decode cX1_doLine 27 = .ok (.tableswitch 95 10 14 #[33, 45, 58, 70, 82], 33) := by decide +kernel
theorem dX1_doLine_60 : decode cX1_doLine 60 = .ok (.iconst 0, 1) := by decide +kernel
theorem dX1_doLine_61 : decode cX1_doLine 61 = .ok (.aload_n 1, 1) := by decide +kernel
theorem dX1_doLine_62 : decode cX1_doLine 62 = .ok (.iload_n 3, 1) := by decide +kernel
theorem dX1_doLine_63 : decode cX1_doLine 63 = .ok (.iload 4, 2) := by decide +kernel
theorem dX1_doLine_65 : decode cX1_doLine 65 = .ok (.invokevirtual 111, 3) := by decide +kernel
theorem dX1_doLine_68 : decode cX1_doLine 68 = .ok (.invokestatic 116, 3) := by decide +kernel
theorem dX1_doLine_71 : decode cX1_doLine 71 = .ok (.ireturn, 1) := by decide +kernel
theorem dX1_doLine_72 : decode cX1_doLine 72 = .ok (.bipush 10, 2) := by decide +kernel
theorem dX1_doLine_74 : decode cX1_doLine 74 = .ok (.aload_n 1, 1) := by decide +kernel
theorem dX1_doLine_75 : decode cX1_doLine 75 = .ok (.iload_n 3, 1) := by decide +kernel
theorem dX1_doLine_76 : decode cX1_doLine 76 = .ok (.iload 4, 2) := by decide +kernel
theorem dX1_doLine_78 : decode cX1_doLine 78 = .ok (.invokevirtual 119, 3) := by decide +kernel
theorem dX1_doLine_81 : decode cX1_doLine 81 = .ok (.invokestatic 116, 3) := by decide +kernel
theorem dX1_doLine_84 : decode cX1_doLine 84 = .ok (.ireturn, 1) := by decide +kernel
theorem dX1_doLine_85 : decode cX1_doLine 85 = .ok (.bipush 20, 2) := by decide +kernel
theorem dX1_doLine_87 : decode cX1_doLine 87 = .ok (.aload_n 1, 1) := by decide +kernel
theorem dX1_doLine_88 : decode cX1_doLine 88 = .ok (.iload_n 3, 1) := by decide +kernel
theorem dX1_doLine_89 : decode cX1_doLine 89 = .ok (.iconst 1, 1) := by decide +kernel
theorem dX1_doLine_90 : decode cX1_doLine 90 = .ok (.invokevirtual 122, 3) := by decide +kernel
theorem dX1_doLine_93 : decode cX1_doLine 93 = .ok (.invokestatic 116, 3) := by decide +kernel
theorem dX1_doLine_96 : decode cX1_doLine 96 = .ok (.ireturn, 1) := by decide +kernel
theorem dX1_doLine_97 : decode cX1_doLine 97 = .ok (.bipush 30, 2) := by decide +kernel
theorem dX1_doLine_99 : decode cX1_doLine 99 = .ok (.aload_n 1, 1) := by decide +kernel
theorem dX1_doLine_100 : decode cX1_doLine 100 = .ok (.iload_n 3, 1) := by decide +kernel
theorem dX1_doLine_101 : decode cX1_doLine 101 = .ok (.iconst 0, 1) := by decide +kernel
theorem dX1_doLine_102 : decode cX1_doLine 102 = .ok (.invokevirtual 122, 3) := by decide +kernel
theorem dX1_doLine_105 : decode cX1_doLine 105 = .ok (.invokestatic 116, 3) := by decide +kernel
theorem dX1_doLine_108 : decode cX1_doLine 108 = .ok (.ireturn, 1) := by decide +kernel
theorem dX1_doLine_109 : decode cX1_doLine 109 = .ok (.bipush 40, 2) := by decide +kernel
theorem dX1_doLine_111 : decode cX1_doLine 111 = .ok (.aload_n 1, 1) := by decide +kernel
theorem dX1_doLine_112 : decode cX1_doLine 112 = .ok (.iload_n 3, 1) := by decide +kernel
theorem dX1_doLine_113 : decode cX1_doLine 113 = .ok (.iload 4, 2) := by decide +kernel
theorem dX1_doLine_115 : decode cX1_doLine 115 = .ok (.invokevirtual 125, 3) := by decide +kernel
theorem dX1_doLine_118 : decode cX1_doLine 118 = .ok (.invokestatic 116, 3) := by decide +kernel
theorem dX1_doLine_121 : decode cX1_doLine 121 = .ok (.ireturn, 1) := by decide +kernel
theorem dX1_doLine_122 : decode cX1_doLine 122 = .ok (.aload_n 1, 1) := by decide +kernel
theorem dX1_doLine_123 : decode cX1_doLine 123 = .ok (.getfield 128, 3) := by decide +kernel
theorem dX1_doLine_126 : decode cX1_doLine 126 = .ok (.iload 4, 2) := by decide +kernel
theorem dX1_doLine_128 : decode cX1_doLine 128 = .ok (.iadd, 1) := by decide +kernel
theorem dX1_doLine_129 : decode cX1_doLine 129 = .ok (.sipush 1000, 3) := by decide +kernel
theorem dX1_doLine_132 : decode cX1_doLine 132 = .ok (.if_icmp .le 6, 3) := by decide +kernel
theorem dX1_doLine_135 : decode cX1_doLine 135 = .ok (.bipush 51, 2) := by decide +kernel
theorem dX1_doLine_137 : decode cX1_doLine 137 = .ok (.ireturn, 1) := by decide +kernel
theorem dX1_doLine_138 : decode cX1_doLine 138 = .ok (.iconst 0, 1) := by decide +kernel
theorem dX1_doLine_139 : decode cX1_doLine 139 = .ok (.istore 5, 2) := by decide +kernel
theorem dX1_doLine_141 : decode cX1_doLine 141 = .ok (.iload 5, 2) := by decide +kernel
theorem dX1_doLine_143 : decode cX1_doLine 143 = .ok (.iload 4, 2) := by decide +kernel
theorem dX1_doLine_145 : decode cX1_doLine 145 = .ok (.if_icmp .ge 13, 3) := by decide +kernel
theorem dX1_doLine_148 : decode cX1_doLine 148 = .ok (.aload_n 1, 1) := by decide +kernel
theorem dX1_doLine_149 : decode cX1_doLine 149 = .ok (.invokevirtual 131, 3) := by decide +kernel
theorem dX1_doLine_152 : decode cX1_doLine 152 = .ok (.iinc 5 1, 3) := by decide +kernel
theorem dX1_doLine_155 : decode cX1_doLine 155 = .ok (.goto (-14), 3) := by decide +kernel
theorem dX1_doLine_158 : decode cX1_doLine 158 = .ok (.iconst 0, 1) := by decide +kernel
theorem dX1_doLine_159 : decode cX1_doLine 159 = .ok (.ireturn, 1) := by decide +kernel
def fX1_doLine_141 (N n : Nat) : Nat → zF → Nat → Int32 → Int32 → Option (zF × Int32)
  | 0, _, _, _, _ => none
  | k + 1, f, a1, a4, a5 =>
    (if a4 ≤ a5 then some (f, (0 : Int32)) else ((zck n f 8 a1).bind fun _ => ((fX8_goHour N n f a1).bind fun f23 => (fX1_doLine_141 N n k f23 a1 a4 (a5 + 1)))))
set_option maxRecDepth 100000 in
set_option maxHeartbeats 4000000 in
theorem gX1_doLine_141 (l : Launch) {G : zG} {p : Program} {e : Env} {s : State} {m : MethodId} {args : Array Value} {below : List Frame} {meth : Method} {c : Code} {N n : Nat} {f9 : zF} {r : Int32} (B : zB G p s m args meth c RX1 cX1_doLine 6 (some .int)) : ∀ (k : Nat), ∀ (f : zF) (a1 : Nat) (a4 : Int32) (a5 : Int32) (H : Heap) (locs : List Loc) (ls : Array Slot), fX1_doLine_141 N n k f a1 a4 a5 = some (f9, r) → zS G n f H locs → lv_has ls 6 [(1, zr G a1), (4, .int a4), (5, .int a5)] → W p l e (zrm 4) s m args below meth c H locs 0 0 (MQ below (zQc G n f9 (some (.int r))) args s 0 0 (zA G)) (F0 m 141 ls []) := by
  have he := B.1
  have hb := B.2.1
  intro k
  induction k with
  | zero =>
    intro f a1 a4 a5 H locs ls h
    unfold fX1_doLine_141 at h
    cases h
  | succ k ih =>
    intro f a1 a4 a5 H locs ls h hS hl
    unfold fX1_doLine_141 at h
    refine lv_iload he hb dX1_doLine_141 (lv_at hl 2 rfl) ?_
    refine lv_iload he hb dX1_doLine_143 (lv_at hl 1 rfl) ?_
    refine lv_icmp_ge (tgt := 158) he hb dX1_doLine_145 (by decide) (fun hc => ?_) (fun hc => ?_)
    · rw [if_pos hc] at h
      refine lv_iconst (v := (0 : Int32)) he hb dX1_doLine_158 (by decide) ?_
      obtain ⟨rfl, rfl⟩ := Prod.mk.inj (Option.some.inj h)
      exact z_iret B hS dX1_doLine_159
    · rw [if_neg hc] at h
      refine z_aload_n he hb dX1_doLine_148 rfl (lv_at hl 0 rfl) (zref_r _ _) ?_
      obtain ⟨_, hc, h⟩ := zob h
      obtain ⟨f23, hx, h⟩ := zob h
      refine z_callV (ci := 8) (T := TX8) (N := 9) (rest := []) B hS (mX8_goHour l G hx) zy_X8_goHour zk_1126 (by decide) hc rfl rfl hl rfl (Nat.le_of_ble_eq_true rfl) dX1_doLine_149 (kk := (fun H locs hS => ?_))
      refine lv_iinc (v := (a5 + 1)) (lv' := [(5, _), (1, _), (4, _)]) he hb dX1_doLine_152 hl (k := 2) rfl rfl (by decide) rfl (fun ls hl => ?_)
      refine lv_goto (tgt := 141) he hb dX1_doLine_155 (by decide) ?_
      exact ih _ _ _ _ _ _ _ h hS (lv_sub hl [1, 2, 0] rfl)
def fX1_doLine (N n : Nat) (f : zF) (a0 : Nat) (a1 : Nat) (a2 : Int32) : Option (zF × Int32) :=
    ((zgR n f 1 a0 4).bind fun x1 => ((fX11_at N n f x1 a2).bind fun x2 => ((zgR n f 1 a0 5).bind fun x3 => ((fX11_at N n f x3 a2).bind fun x4 => ((zgR n f 1 a0 3).bind fun x5 => ((fX11_at N n f x5 a2).bind fun x6 => (if x6 = (10 : Int32) then ((zck n f 8 a1).bind fun _ => (zbd (fX8_turnTo N n f a1 x2 x4) fun f8 x7 => ((fX1_wrongBy N n f8 (0 : Int32) x7).bind fun x9 => some (f8, x9)))) else (if x6 = (11 : Int32) then ((zck n f 8 a1).bind fun _ => (zbd (fX8_walkTo N n f a1 x2 x4) fun f11 x10 => ((fX1_wrongBy N n f11 (10 : Int32) x10).bind fun x12 => some (f11, x12)))) else (if x6 = (12 : Int32) then ((zck n f 8 a1).bind fun _ => (zbd (fX8_setEyes N n f a1 x2 (1 : Int32)) fun f14 x13 => ((fX1_wrongBy N n f14 (20 : Int32) x13).bind fun x15 => some (f14, x15)))) else (if x6 = (13 : Int32) then ((zck n f 8 a1).bind fun _ => (zbd (fX8_setEyes N n f a1 x2 (0 : Int32)) fun f17 x16 => ((fX1_wrongBy N n f17 (30 : Int32) x16).bind fun x18 => some (f17, x18)))) else (if x6 = (14 : Int32) then ((zck n f 8 a1).bind fun _ => (zbd (fX8_faceTo N n f a1 x2 x4) fun f20 x19 => ((fX1_wrongBy N n f20 (40 : Int32) x19).bind fun x21 => some (f20, x21)))) else ((zgI n f 8 a1 1).bind fun x22 => (if (x22 + x4) ≤ (1000 : Int32) then (fX1_doLine_141 N n N f a1 x4 (0 : Int32)) else some (f, (51 : Int32)))))))))))))))
set_option maxRecDepth 100000 in
set_option maxHeartbeats 4000000 in
theorem mX1_doLine (l : Launch) (G : zG) {N n : Nat} {f : zF} {f9 : zF} {r : Int32} {a0 : Nat} {a1 : Nat} {a2 : Int32} (h : fX1_doLine N n f a0 a1 a2 = some (f9, r)) : zM l G yX1_doLine cX1_doLine 6 (some .int) 4 n f [zr G a0, zr G a1, .int a2] (some (.int r)) f9 := by
  refine zM.of (by decide) (Nat.le_of_ble_eq_true rfl) ?_
  intro p e s m args below meth c locs ls B hS hl
  have he := B.1
  have hb := B.2.1
  have hl : lv_has ls 6 [(0, zr G a0), (1, zr G a1), (2, .int a2)] := hl
  unfold fX1_doLine at h
  generalize s.heap = H at hS ⊢
  refine z_aload_n he hb dX1_doLine_0 rfl (lv_at hl 0 rfl) (zref_r _ _) ?_
  obtain ⟨x1, hx, h⟩ := zob h
  refine z_getR (ci := 1) (T := TX1) (N := 6) (j := 4) B hS hx rfl zin_X1 (by decide) zk_355 dX1_doLine_1 ?_
  refine lv_iload_n he hb dX1_doLine_4 rfl (lv_at hl 2 rfl) ?_
  obtain ⟨x2, hx, h⟩ := zob h
  refine z_callN (rest := []) B hS (mX11_at l G hx) zy_X11_at zkn_1118 (by decide) rfl hl rfl (Nat.le_of_ble_eq_true rfl) dX1_doLine_5 (kk := (fun H locs hS => ?_))
  refine lv_istore_n (lv' := [(3, _), (0, _), (1, _), (2, _)]) he hb dX1_doLine_8 rfl hl (by decide) rfl (fun ls hl => ?_)
  refine z_aload_n he hb dX1_doLine_9 rfl (lv_at hl 1 rfl) (zref_r _ _) ?_
  obtain ⟨x3, hx, h⟩ := zob h
  refine z_getR (ci := 1) (T := TX1) (N := 6) (j := 5) B hS hx rfl zin_X1 (by decide) zk_356 dX1_doLine_10 ?_
  refine lv_iload_n he hb dX1_doLine_13 rfl (lv_at hl 3 rfl) ?_
  obtain ⟨x4, hx, h⟩ := zob h
  refine z_callN (rest := []) B hS (mX11_at l G hx) zy_X11_at zkn_1118 (by decide) rfl hl rfl (Nat.le_of_ble_eq_true rfl) dX1_doLine_14 (kk := (fun H locs hS => ?_))
  refine lv_istore (lv' := [(4, _), (3, _), (0, _), (1, _), (2, _)]) he hb dX1_doLine_17 hl (by decide) rfl (fun ls hl => ?_)
  refine z_aload_n he hb dX1_doLine_19 rfl (lv_at hl 2 rfl) (zref_r _ _) ?_
  obtain ⟨x5, hx, h⟩ := zob h
  refine z_getR (ci := 1) (T := TX1) (N := 6) (j := 3) B hS hx rfl zin_X1 (by decide) zk_354 dX1_doLine_20 ?_
  refine lv_iload_n he hb dX1_doLine_23 rfl (lv_at hl 4 rfl) ?_
  obtain ⟨x6, hx, h⟩ := zob h
  refine z_callN (rest := []) B hS (mX11_at l G hx) zy_X11_at zkn_1118 (by decide) rfl hl rfl (Nat.le_of_ble_eq_true rfl) dX1_doLine_24 (kk := (fun H locs hS => ?_))
  by_cases hc0 : x6 = (10 : Int32)
  · rw [if_pos hc0] at h
    refine lv_tableIn (tgt := 60) he hb dX1_doLine_27 (by rw [hc0]; decide) (by rw [hc0]; decide) (by rw [hc0]; rfl) (by decide) ?_
    refine lv_iconst (v := (0 : Int32)) he hb dX1_doLine_60 (by decide) ?_
    refine z_aload_n he hb dX1_doLine_61 rfl (lv_at hl 3 rfl) (zref_r _ _) ?_
    refine lv_iload_n he hb dX1_doLine_62 rfl (lv_at hl 1 rfl) ?_
    refine lv_iload he hb dX1_doLine_63 (lv_at hl 0 rfl) ?_
    obtain ⟨_, hc, h⟩ := zob h
    obtain ⟨f8, x7, hx, h⟩ := zbd_i h
    refine z_callV (ci := 8) (T := TX8) (N := 9) (rest := [_]) B hS (mX8_turnTo l G hx) zy_X8_turnTo zk_1119 (by decide) hc rfl rfl hl rfl (Nat.le_of_ble_eq_true rfl) dX1_doLine_65 (kk := (fun H locs hS => ?_))
    obtain ⟨x9, hx, h⟩ := zob h
    refine z_callS (rest := []) B hS (mX1_wrongBy l G hx) zy_X1_wrongBy zk_1120 (by decide) rfl hl rfl (Nat.le_of_ble_eq_true rfl) dX1_doLine_68 (kk := (fun H locs hS => ?_))
    obtain ⟨rfl, rfl⟩ := Prod.mk.inj (Option.some.inj h)
    exact z_iret B hS dX1_doLine_71
  rw [if_neg hc0] at h
  by_cases hc1 : x6 = (11 : Int32)
  · rw [if_pos hc1] at h
    refine lv_tableIn (tgt := 72) he hb dX1_doLine_27 (by rw [hc1]; decide) (by rw [hc1]; decide) (by rw [hc1]; rfl) (by decide) ?_
    refine lv_bipush (v := (10 : Int32)) he hb dX1_doLine_72 (by decide) ?_
    refine z_aload_n he hb dX1_doLine_74 rfl (lv_at hl 3 rfl) (zref_r _ _) ?_
    refine lv_iload_n he hb dX1_doLine_75 rfl (lv_at hl 1 rfl) ?_
    refine lv_iload he hb dX1_doLine_76 (lv_at hl 0 rfl) ?_
    obtain ⟨_, hc, h⟩ := zob h
    obtain ⟨f11, x10, hx, h⟩ := zbd_i h
    refine z_callV (ci := 8) (T := TX8) (N := 9) (rest := [_]) B hS (mX8_walkTo l G hx) zy_X8_walkTo zk_1123 (by decide) hc rfl rfl hl rfl (Nat.le_of_ble_eq_true rfl) dX1_doLine_78 (kk := (fun H locs hS => ?_))
    obtain ⟨x12, hx, h⟩ := zob h
    refine z_callS (rest := []) B hS (mX1_wrongBy l G hx) zy_X1_wrongBy zk_1120 (by decide) rfl hl rfl (Nat.le_of_ble_eq_true rfl) dX1_doLine_81 (kk := (fun H locs hS => ?_))
    obtain ⟨rfl, rfl⟩ := Prod.mk.inj (Option.some.inj h)
    exact z_iret B hS dX1_doLine_84
  rw [if_neg hc1] at h
  by_cases hc2 : x6 = (12 : Int32)
  · rw [if_pos hc2] at h
    refine lv_tableIn (tgt := 85) he hb dX1_doLine_27 (by rw [hc2]; decide) (by rw [hc2]; decide) (by rw [hc2]; rfl) (by decide) ?_
    refine lv_bipush (v := (20 : Int32)) he hb dX1_doLine_85 (by decide) ?_
    refine z_aload_n he hb dX1_doLine_87 rfl (lv_at hl 3 rfl) (zref_r _ _) ?_
    refine lv_iload_n he hb dX1_doLine_88 rfl (lv_at hl 1 rfl) ?_
    refine lv_iconst (v := (1 : Int32)) he hb dX1_doLine_89 (by decide) ?_
    obtain ⟨_, hc, h⟩ := zob h
    obtain ⟨f14, x13, hx, h⟩ := zbd_i h
    refine z_callV (ci := 8) (T := TX8) (N := 9) (rest := [_]) B hS (mX8_setEyes l G hx) zy_X8_setEyes zk_1124 (by decide) hc rfl rfl hl rfl (Nat.le_of_ble_eq_true rfl) dX1_doLine_90 (kk := (fun H locs hS => ?_))
    obtain ⟨x15, hx, h⟩ := zob h
    refine z_callS (rest := []) B hS (mX1_wrongBy l G hx) zy_X1_wrongBy zk_1120 (by decide) rfl hl rfl (Nat.le_of_ble_eq_true rfl) dX1_doLine_93 (kk := (fun H locs hS => ?_))
    obtain ⟨rfl, rfl⟩ := Prod.mk.inj (Option.some.inj h)
    exact z_iret B hS dX1_doLine_96
  rw [if_neg hc2] at h
  by_cases hc3 : x6 = (13 : Int32)
  · rw [if_pos hc3] at h
    refine lv_tableIn (tgt := 97) he hb dX1_doLine_27 (by rw [hc3]; decide) (by rw [hc3]; decide) (by rw [hc3]; rfl) (by decide) ?_
    refine lv_bipush (v := (30 : Int32)) he hb dX1_doLine_97 (by decide) ?_
    refine z_aload_n he hb dX1_doLine_99 rfl (lv_at hl 3 rfl) (zref_r _ _) ?_
    refine lv_iload_n he hb dX1_doLine_100 rfl (lv_at hl 1 rfl) ?_
    refine lv_iconst (v := (0 : Int32)) he hb dX1_doLine_101 (by decide) ?_
    obtain ⟨_, hc, h⟩ := zob h
    obtain ⟨f17, x16, hx, h⟩ := zbd_i h
    refine z_callV (ci := 8) (T := TX8) (N := 9) (rest := [_]) B hS (mX8_setEyes l G hx) zy_X8_setEyes zk_1124 (by decide) hc rfl rfl hl rfl (Nat.le_of_ble_eq_true rfl) dX1_doLine_102 (kk := (fun H locs hS => ?_))
    obtain ⟨x18, hx, h⟩ := zob h
    refine z_callS (rest := []) B hS (mX1_wrongBy l G hx) zy_X1_wrongBy zk_1120 (by decide) rfl hl rfl (Nat.le_of_ble_eq_true rfl) dX1_doLine_105 (kk := (fun H locs hS => ?_))
    obtain ⟨rfl, rfl⟩ := Prod.mk.inj (Option.some.inj h)
    exact z_iret B hS dX1_doLine_108
  rw [if_neg hc3] at h
  by_cases hc4 : x6 = (14 : Int32)
  · rw [if_pos hc4] at h
    refine lv_tableIn (tgt := 109) he hb dX1_doLine_27 (by rw [hc4]; decide) (by rw [hc4]; decide) (by rw [hc4]; rfl) (by decide) ?_
    refine lv_bipush (v := (40 : Int32)) he hb dX1_doLine_109 (by decide) ?_
    refine z_aload_n he hb dX1_doLine_111 rfl (lv_at hl 3 rfl) (zref_r _ _) ?_
    refine lv_iload_n he hb dX1_doLine_112 rfl (lv_at hl 1 rfl) ?_
    refine lv_iload he hb dX1_doLine_113 (lv_at hl 0 rfl) ?_
    obtain ⟨_, hc, h⟩ := zob h
    obtain ⟨f20, x19, hx, h⟩ := zbd_i h
    refine z_callV (ci := 8) (T := TX8) (N := 9) (rest := [_]) B hS (mX8_faceTo l G hx) zy_X8_faceTo zk_1125 (by decide) hc rfl rfl hl rfl (Nat.le_of_ble_eq_true rfl) dX1_doLine_115 (kk := (fun H locs hS => ?_))
    obtain ⟨x21, hx, h⟩ := zob h
    refine z_callS (rest := []) B hS (mX1_wrongBy l G hx) zy_X1_wrongBy zk_1120 (by decide) rfl hl rfl (Nat.le_of_ble_eq_true rfl) dX1_doLine_118 (kk := (fun H locs hS => ?_))
    obtain ⟨rfl, rfl⟩ := Prod.mk.inj (Option.some.inj h)
    exact z_iret B hS dX1_doLine_121
  rw [if_neg hc4] at h
  refine lv_tableOut (tgt := 122) he hb dX1_doLine_27 ?_ (by decide) ?_
  · have h0 := lv_neT hc0 (a := 10) rfl; have h1 := lv_neT hc1 (a := 11) rfl; have h2 := lv_neT hc2 (a := 12) rfl; have h3 := lv_neT hc3 (a := 13) rfl; have h4 := lv_neT hc4 (a := 14) rfl; omega
  · skip
    refine z_aload_n he hb dX1_doLine_122 rfl (lv_at hl 3 rfl) (zref_r _ _) ?_
    obtain ⟨x22, hx, h⟩ := zob h
    refine z_getI (ci := 8) (T := TX8) (N := 9) (j := 1) B hS hx rfl zin_X8 (by decide) zk_252 dX1_doLine_123 ?_
    refine lv_iload he hb dX1_doLine_126 (lv_at hl 0 rfl) ?_
    refine lv_iadd he hb dX1_doLine_128 ?_
    refine lv_sipush (v := (1000 : Int32)) he hb dX1_doLine_129 (by decide) ?_
    refine lv_icmp_le (tgt := 138) he hb dX1_doLine_132 (by decide) (fun hc => ?_) (fun hc => ?_)
    · rw [if_pos hc] at h
      refine lv_iconst (v := (0 : Int32)) he hb dX1_doLine_138 (by decide) ?_
      refine lv_istore (lv' := [(5, _), (4, _), (3, _), (0, _), (1, _), (2, _)]) he hb dX1_doLine_139 hl (by decide) rfl (fun ls hl => ?_)
      exact gX1_doLine_141 l B N _ _ _ _ _ _ _ h hS (lv_sub hl [4, 1, 0] rfl)
    · rw [if_neg hc] at h
      refine lv_bipush (v := (51 : Int32)) he hb dX1_doLine_135 (by decide) ?_
      obtain ⟨rfl, rfl⟩ := Prod.mk.inj (Option.some.inj h)
      exact z_iret B hS dX1_doLine_137
theorem dX3_readSize_0 : decode cX3_readSize 0 = .ok (.aload_n 0, 1) := by decide +kernel
theorem dX3_readSize_1 : decode cX3_readSize 1 = .ok (.getfield 42, 3) := by decide +kernel
theorem dX3_readSize_4 : decode cX3_readSize 4 = .ok (.ifCond .ne 10, 3) := by decide +kernel
theorem dX3_readSize_7 : decode cX3_readSize 7 = .ok (.aload_n 0, 1) := by decide +kernel
theorem dX3_readSize_8 : decode cX3_readSize 8 = .ok (.getfield 46, 3) := by decide +kernel
theorem dX3_readSize_11 : decode cX3_readSize 11 = .ok (.ifCond .eq 12, 3) := by decide +kernel
theorem dX3_readSize_14 : decode cX3_readSize 14 = .ok (.aload_n 0, 1) := by decide +kernel
theorem dX3_readSize_15 : decode cX3_readSize 15 = .ok (.getfield 31, 3) := by decide +kernel
theorem dX3_readSize_18 : decode cX3_readSize 18 = .ok (.iconst 3, 1) := by decide +kernel
theorem dX3_readSize_19 : decode cX3_readSize 19 = .ok (.invokevirtual 84, 3) := by decide +kernel
theorem dX3_readSize_22 : decode cX3_readSize 22 = .ok (.return_, 1) := by decide +kernel
theorem dX3_readSize_23 : decode cX3_readSize 23 = .ok (.aload_n 0, 1) := by decide +kernel
theorem dX3_readSize_24 : decode cX3_readSize 24 = .ok (.iconst 1, 1) := by decide +kernel
theorem dX3_readSize_25 : decode cX3_readSize 25 = .ok (.putfield 42, 3) := by decide +kernel
theorem dX3_readSize_28 : decode cX3_readSize 28 = .ok (.aload_n 0, 1) := by decide +kernel
theorem dX3_readSize_29 : decode cX3_readSize 29 = .ok (.getfield 31, 3) := by decide +kernel
theorem dX3_readSize_32 : decode cX3_readSize 32 = .ok (.invokevirtual 97, 3) := by decide +kernel
theorem dX3_readSize_35 : decode cX3_readSize 35 = .ok (.aload_n 0, 1) := by decide +kernel
theorem dX3_readSize_36 : decode cX3_readSize 36 = .ok (.getfield 12, 3) := by decide +kernel
theorem dX3_readSize_39 : decode cX3_readSize 39 = .ok (.aload_n 0, 1) := by decide +kernel
theorem dX3_readSize_40 : decode cX3_readSize 40 = .ok (.getfield 31, 3) := by decide +kernel
theorem dX3_readSize_43 : decode cX3_readSize 43 = .ok (.iconst 2, 1) := by decide +kernel
theorem dX3_readSize_44 : decode cX3_readSize 44 = .ok (.bipush 9, 2) := by decide +kernel
theorem dX3_readSize_46 : decode cX3_readSize 46 = .ok (.invokevirtual 100, 3) := by decide +kernel
theorem dX3_readSize_49 : decode cX3_readSize 49 = .ok (.putfield 104, 3) := by decide +kernel
theorem dX3_readSize_52 : decode cX3_readSize 52 = .ok (.aload_n 0, 1) := by decide +kernel
theorem dX3_readSize_53 : decode cX3_readSize 53 = .ok (.getfield 12, 3) := by decide +kernel
theorem dX3_readSize_56 : decode cX3_readSize 56 = .ok (.aload_n 0, 1) := by decide +kernel
theorem dX3_readSize_57 : decode cX3_readSize 57 = .ok (.getfield 31, 3) := by decide +kernel
theorem dX3_readSize_60 : decode cX3_readSize 60 = .ok (.iconst 2, 1) := by decide +kernel
theorem dX3_readSize_61 : decode cX3_readSize 61 = .ok (.bipush 9, 2) := by decide +kernel
theorem dX3_readSize_63 : decode cX3_readSize 63 = .ok (.invokevirtual 100, 3) := by decide +kernel
theorem dX3_readSize_66 : decode cX3_readSize 66 = .ok (.putfield 107, 3) := by decide +kernel
theorem dX3_readSize_69 : decode cX3_readSize 69 = .ok (.return_, 1) := by decide +kernel
def fX3_readSize_14 (N n : Nat) (f : zF) (a0 : Nat) : Option zF :=
    ((zgR n f 3 a0 0).bind fun x2 => ((zck n f 9 x2).bind fun _ => ((fX9_fail N n f x2 (3 : Int32)).bind fun f3 => some f3)))
set_option maxRecDepth 100000 in
set_option maxHeartbeats 4000000 in
theorem gX3_readSize_14 (l : Launch) {G : zG} {p : Program} {e : Env} {s : State} {m : MethodId} {args : Array Value} {below : List Frame} {meth : Method} {c : Code} {N n : Nat} {f9 : zF} (B : zB G p s m args meth c RX3 cX3_readSize 1 (none)) : ∀ (f : zF) (a0 : Nat) (H : Heap) (locs : List Loc) (ls : Array Slot), fX3_readSize_14 N n f a0 = some f9 → zS G n f H locs → lv_has ls 1 [(0, zr G a0)] → W p l e (zrm 3) s m args below meth c H locs 0 0 (MQ below (zQc G n f9 (none)) args s 0 0 (zA G)) (F0 m 14 ls []) := by
  have he := B.1
  have hb := B.2.1
  intro f a0 H locs ls h hS hl
  unfold fX3_readSize_14 at h
  refine z_aload_n he hb dX3_readSize_14 rfl (lv_at hl 0 rfl) (zref_r _ _) ?_
  obtain ⟨x2, hx, h⟩ := zob h
  refine z_getR (ci := 3) (T := TX3) (N := 6) (j := 0) B hS hx rfl zin_X3 (by decide) zk_323 dX3_readSize_15 ?_
  refine lv_iconst (v := (3 : Int32)) he hb dX3_readSize_18 (by decide) ?_
  obtain ⟨_, hc, h⟩ := zob h
  obtain ⟨f3, hx, h⟩ := zob h
  refine z_callV (ci := 9) (T := TX9) (N := 12) (rest := []) B hS (mX9_fail l G hx) zy_X9_fail zk_623 (by decide) hc rfl rfl hl rfl (Nat.le_of_ble_eq_true rfl) dX3_readSize_19 (kk := (fun H locs hS => ?_))
  obtain rfl := Option.some.inj h
  exact z_vret B hS dX3_readSize_22
def fX3_readSize (N n : Nat) (f : zF) (a0 : Nat) : Option zF :=
    ((zgI n f 3 a0 4).bind fun x1 => (if x1 = 0 then ((zgI n f 3 a0 5).bind fun x4 => (if x4 = 0 then ((zpZ n f 3 a0 4 (1 : Int32)).bind fun f5 => ((zgR n f5 3 a0 0).bind fun x6 => ((zck n f5 9 x6).bind fun _ => ((fX9_advance N n f5 x6).bind fun f7 => ((zgR n f7 3 a0 1).bind fun x8 => ((zgR n f7 3 a0 0).bind fun x9 => ((zck n f7 9 x9).bind fun _ => (zbd (fX9_needNumber N n f7 x9 (2 : Int32) (9 : Int32)) fun f11 x10 => ((zpI n f11 2 x8 0 x10).bind fun f12 => ((zgR n f12 3 a0 1).bind fun x13 => ((zgR n f12 3 a0 0).bind fun x14 => ((zck n f12 9 x14).bind fun _ => (zbd (fX9_needNumber N n f12 x14 (2 : Int32) (9 : Int32)) fun f16 x15 => ((zpI n f16 2 x13 1 x15).bind fun f17 => some f17)))))))))))))) else (fX3_readSize_14 N n f a0))) else (fX3_readSize_14 N n f a0)))
set_option maxRecDepth 100000 in
set_option maxHeartbeats 4000000 in
theorem mX3_readSize (l : Launch) (G : zG) {N n : Nat} {f : zF} {f9 : zF} {a0 : Nat} (h : fX3_readSize N n f a0 = some f9) : zM l G yX3_readSize cX3_readSize 1 (none) 3 n f [zr G a0] (none) f9 := by
  refine zM.of (by decide) (Nat.le_of_ble_eq_true rfl) ?_
  intro p e s m args below meth c locs ls B hS hl
  have he := B.1
  have hb := B.2.1
  have hl : lv_has ls 1 [(0, zr G a0)] := hl
  unfold fX3_readSize at h
  generalize s.heap = H at hS ⊢
  refine z_aload_n he hb dX3_readSize_0 rfl (lv_at hl 0 rfl) (zref_r _ _) ?_
  obtain ⟨x1, hx, h⟩ := zob h
  refine z_getI (ci := 3) (T := TX3) (N := 6) (j := 4) B hS hx rfl zin_X3 (by decide) zk_329 dX3_readSize_1 ?_
  refine lv_if_ne (tgt := 14) he hb dX3_readSize_4 (by decide) (fun hc => ?_) (fun hc => ?_)
  · rw [if_neg hc] at h
    exact gX3_readSize_14 l B _ _ _ _ _ h hS (lv_sub hl [0] rfl)
  · rw [if_pos hc] at h
    refine z_aload_n he hb dX3_readSize_7 rfl (lv_at hl 0 rfl) (zref_r _ _) ?_
    obtain ⟨x4, hx, h⟩ := zob h
    refine z_getI (ci := 3) (T := TX3) (N := 6) (j := 5) B hS hx rfl zin_X3 (by decide) zk_330 dX3_readSize_8 ?_
    refine lv_if_eq (tgt := 23) he hb dX3_readSize_11 (by decide) (fun hc => ?_) (fun hc => ?_)
    · rw [if_pos hc] at h
      refine z_aload_n he hb dX3_readSize_23 rfl (lv_at hl 0 rfl) (zref_r _ _) ?_
      refine lv_iconst (v := (1 : Int32)) he hb dX3_readSize_24 (by decide) ?_
      obtain ⟨f5, hx, h⟩ := zob h
      refine z_putZ (ci := 3) (T := TX3) (N := 6) (j := 4) B hS hx rfl zin_X3 tyX3 tyX3_ok nmX3 (by decide) zk_329 rfl rfl dX3_readSize_25 (fun H locs hS => ?_)
      refine z_aload_n he hb dX3_readSize_28 rfl (lv_at hl 0 rfl) (zref_r _ _) ?_
      obtain ⟨x6, hx, h⟩ := zob h
      refine z_getR (ci := 3) (T := TX3) (N := 6) (j := 0) B hS hx rfl zin_X3 (by decide) zk_323 dX3_readSize_29 ?_
      obtain ⟨_, hc, h⟩ := zob h
      obtain ⟨f7, hx, h⟩ := zob h
      refine z_callV (ci := 9) (T := TX9) (N := 12) (rest := []) B hS (mX9_advance l G hx) zy_X9_advance zk_624 (by decide) hc rfl rfl hl rfl (Nat.le_of_ble_eq_true rfl) dX3_readSize_32 (kk := (fun H locs hS => ?_))
      refine z_aload_n he hb dX3_readSize_35 rfl (lv_at hl 0 rfl) (zref_r _ _) ?_
      obtain ⟨x8, hx, h⟩ := zob h
      refine z_getR (ci := 3) (T := TX3) (N := 6) (j := 1) B hS hx rfl zin_X3 (by decide) zk_324 dX3_readSize_36 ?_
      refine z_aload_n he hb dX3_readSize_39 rfl (lv_at hl 0 rfl) (zref_r _ _) ?_
      obtain ⟨x9, hx, h⟩ := zob h
      refine z_getR (ci := 3) (T := TX3) (N := 6) (j := 0) B hS hx rfl zin_X3 (by decide) zk_323 dX3_readSize_40 ?_
      refine lv_iconst (v := (2 : Int32)) he hb dX3_readSize_43 (by decide) ?_
      refine lv_bipush (v := (9 : Int32)) he hb dX3_readSize_44 (by decide) ?_
      obtain ⟨_, hc, h⟩ := zob h
      obtain ⟨f11, x10, hx, h⟩ := zbd_i h
      refine z_callV (ci := 9) (T := TX9) (N := 12) (rest := [_]) B hS (mX9_needNumber l G hx) zy_X9_needNumber zk_625 (by decide) hc rfl rfl hl rfl (Nat.le_of_ble_eq_true rfl) dX3_readSize_46 (kk := (fun H locs hS => ?_))
      obtain ⟨f12, hx, h⟩ := zob h
      refine z_putI (ci := 2) (T := TX2) (N := 15) (j := 0) B hS hx rfl zin_X2 tyX2 tyX2_ok nmX2 (by decide) zk_151 rfl rfl dX3_readSize_49 (fun H locs hS => ?_)
      refine z_aload_n he hb dX3_readSize_52 rfl (lv_at hl 0 rfl) (zref_r _ _) ?_
      obtain ⟨x13, hx, h⟩ := zob h
      refine z_getR (ci := 3) (T := TX3) (N := 6) (j := 1) B hS hx rfl zin_X3 (by decide) zk_324 dX3_readSize_53 ?_
      refine z_aload_n he hb dX3_readSize_56 rfl (lv_at hl 0 rfl) (zref_r _ _) ?_
      obtain ⟨x14, hx, h⟩ := zob h
      refine z_getR (ci := 3) (T := TX3) (N := 6) (j := 0) B hS hx rfl zin_X3 (by decide) zk_323 dX3_readSize_57 ?_
      refine lv_iconst (v := (2 : Int32)) he hb dX3_readSize_60 (by decide) ?_
      refine lv_bipush (v := (9 : Int32)) he hb dX3_readSize_61 (by decide) ?_
      obtain ⟨_, hc, h⟩ := zob h
      obtain ⟨f16, x15, hx, h⟩ := zbd_i h
      refine z_callV (ci := 9) (T := TX9) (N := 12) (rest := [_]) B hS (mX9_needNumber l G hx) zy_X9_needNumber zk_625 (by decide) hc rfl rfl hl rfl (Nat.le_of_ble_eq_true rfl) dX3_readSize_63 (kk := (fun H locs hS => ?_))
      obtain ⟨f17, hx, h⟩ := zob h
      refine z_putI (ci := 2) (T := TX2) (N := 15) (j := 1) B hS hx rfl zin_X2 tyX2 tyX2_ok nmX2 (by decide) zk_156 rfl rfl dX3_readSize_66 (fun H locs hS => ?_)
      obtain rfl := Option.some.inj h
      exact z_vret B hS dX3_readSize_69
    · rw [if_neg hc] at h
      exact gX3_readSize_14 l B _ _ _ _ _ h hS (lv_sub hl [0] rfl)
theorem dX3_readCell_0 : decode cX3_readCell 0 = .ok (.aload_n 0, 1) := by decide +kernel
theorem dX3_readCell_1 : decode cX3_readCell 1 = .ok (.iconst 1, 1) := by decide +kernel
theorem dX3_readCell_2 : decode cX3_readCell 2 = .ok (.putfield 46, 3) := by decide +kernel
theorem dX3_readCell_5 : decode cX3_readCell 5 = .ok (.aload_n 0, 1) := by decide +kernel
theorem dX3_readCell_6 : decode cX3_readCell 6 = .ok (.getfield 31, 3) := by decide +kernel
theorem dX3_readCell_9 : decode cX3_readCell 9 = .ok (.iconst 0, 1) := by decide +kernel
theorem dX3_readCell_10 : decode cX3_readCell 10 = .ok (.aload_n 0, 1) := by decide +kernel
theorem dX3_readCell_11 : decode cX3_readCell 11 = .ok (.getfield 12, 3) := by decide +kernel
theorem dX3_readCell_14 : decode cX3_readCell 14 = .ok (.getfield 104, 3) := by decide +kernel
theorem dX3_readCell_17 : decode cX3_readCell 17 = .ok (.iconst 1, 1) := by decide +kernel
theorem dX3_readCell_18 : decode cX3_readCell 18 = .ok (.isub, 1) := by decide +kernel
theorem dX3_readCell_19 : decode cX3_readCell 19 = .ok (.invokevirtual 100, 3) := by decide +kernel
theorem dX3_readCell_22 : decode cX3_readCell 22 = .ok (.istore_n 1, 1) := by decide +kernel
theorem dX3_readCell_23 : decode cX3_readCell 23 = .ok (.aload_n 0, 1) := by decide +kernel
theorem dX3_readCell_24 : decode cX3_readCell 24 = .ok (.getfield 31, 3) := by decide +kernel
theorem dX3_readCell_27 : decode cX3_readCell 27 = .ok (.iconst 0, 1) := by decide +kernel
theorem dX3_readCell_28 : decode cX3_readCell 28 = .ok (.aload_n 0, 1) := by decide +kernel
theorem dX3_readCell_29 : decode cX3_readCell 29 = .ok (.getfield 12, 3) := by decide +kernel
theorem dX3_readCell_32 : decode cX3_readCell 32 = .ok (.getfield 107, 3) := by decide +kernel
theorem dX3_readCell_35 : decode cX3_readCell 35 = .ok (.iconst 1, 1) := by decide +kernel
theorem dX3_readCell_36 : decode cX3_readCell 36 = .ok (.isub, 1) := by decide +kernel
theorem dX3_readCell_37 : decode cX3_readCell 37 = .ok (.invokevirtual 100, 3) := by decide +kernel
theorem dX3_readCell_40 : decode cX3_readCell 40 = .ok (.istore_n 2, 1) := by decide +kernel
theorem dX3_readCell_41 : decode cX3_readCell 41 = .ok (.bipush 9, 2) := by decide +kernel
theorem dX3_readCell_43 : decode cX3_readCell 43 = .ok (.iload_n 2, 1) := by decide +kernel
theorem dX3_readCell_44 : decode cX3_readCell 44 = .ok (.imul, 1) := by decide +kernel
theorem dX3_readCell_45 : decode cX3_readCell 45 = .ok (.iload_n 1, 1) := by decide +kernel
theorem dX3_readCell_46 : decode cX3_readCell 46 = .ok (.iadd, 1) := by decide +kernel
theorem dX3_readCell_47 : decode cX3_readCell 47 = .ok (.istore_n 3, 1) := by decide +kernel
theorem dX3_readCell_48 : decode cX3_readCell 48 = .ok (.aload_n 0, 1) := by decide +kernel
theorem dX3_readCell_49 : decode cX3_readCell 49 = .ok (.getfield 12, 3) := by decide +kernel
theorem dX3_readCell_52 : decode cX3_readCell 52 = .ok (.iload_n 3, 1) := by decide +kernel
theorem dX3_readCell_53 : decode cX3_readCell 53 = .ok (.invokevirtual 121, 3) := by decide +kernel
theorem dX3_readCell_56 : decode cX3_readCell 56 = .ok (.ifCond .ne 14, 3) := by decide +kernel
theorem dX3_readCell_59 : decode cX3_readCell 59 = .ok (.aload_n 0, 1) := by decide +kernel
theorem dX3_readCell_60 : decode cX3_readCell 60 = .ok (.getfield 23, 3) := by decide +kernel
theorem dX3_readCell_63 : decode cX3_readCell 63 = .ok (.iload_n 3, 1) := by decide +kernel
theorem dX3_readCell_64 : decode cX3_readCell 64 = .ok (.invokevirtual 125, 3) := by decide +kernel
theorem dX3_readCell_67 : decode cX3_readCell 67 = .ok (.ifCond .eq 18, 3) := by decide +kernel
theorem dX3_readCell_70 : decode cX3_readCell 70 = .ok (.aload_n 0, 1) := by decide +kernel
theorem dX3_readCell_71 : decode cX3_readCell 71 = .ok (.getfield 31, 3) := by decide +kernel
theorem dX3_readCell_74 : decode cX3_readCell 74 = .ok (.iconst 3, 1) := by decide +kernel
theorem dX3_readCell_75 : decode cX3_readCell 75 = .ok (.aload_n 0, 1) := by decide +kernel
theorem dX3_readCell_76 : decode cX3_readCell 76 = .ok (.getfield 31, 3) := by decide +kernel
theorem dX3_readCell_79 : decode cX3_readCell 79 = .ok (.getfield 128, 3) := by decide +kernel
theorem dX3_readCell_82 : decode cX3_readCell 82 = .ok (.invokevirtual 131, 3) := by decide +kernel
theorem dX3_readCell_85 : decode cX3_readCell 85 = .ok (.iload_n 3, 1) := by decide +kernel
theorem dX3_readCell_86 : decode cX3_readCell 86 = .ok (.ireturn, 1) := by decide +kernel
def fX3_readCell_70 (N n : Nat) (f : zF) (a0 : Nat) (a3 : Int32) : Option (zF × Int32) :=
    ((zgR n f 3 a0 0).bind fun x14 => ((zgR n f 3 a0 0).bind fun x15 => ((zgI n f 9 x15 7).bind fun x16 => ((zck n f 9 x14).bind fun _ => ((fX9_failAt N n f x14 (3 : Int32) x16).bind fun f17 => some (f17, a3))))))
set_option maxRecDepth 100000 in
set_option maxHeartbeats 4000000 in
theorem gX3_readCell_70 (l : Launch) {G : zG} {p : Program} {e : Env} {s : State} {m : MethodId} {args : Array Value} {below : List Frame} {meth : Method} {c : Code} {N n : Nat} {f9 : zF} {r : Int32} (B : zB G p s m args meth c RX3 cX3_readCell 4 (some .int)) : ∀ (f : zF) (a0 : Nat) (a3 : Int32) (H : Heap) (locs : List Loc) (ls : Array Slot), fX3_readCell_70 N n f a0 a3 = some (f9, r) → zS G n f H locs → lv_has ls 4 [(0, zr G a0), (3, .int a3)] → W p l e (zrm 3) s m args below meth c H locs 0 0 (MQ below (zQc G n f9 (some (.int r))) args s 0 0 (zA G)) (F0 m 70 ls []) := by
  have he := B.1
  have hb := B.2.1
  intro f a0 a3 H locs ls h hS hl
  unfold fX3_readCell_70 at h
  refine z_aload_n he hb dX3_readCell_70 rfl (lv_at hl 0 rfl) (zref_r _ _) ?_
  obtain ⟨x14, hx, h⟩ := zob h
  refine z_getR (ci := 3) (T := TX3) (N := 6) (j := 0) B hS hx rfl zin_X3 (by decide) zk_323 dX3_readCell_71 ?_
  refine lv_iconst (v := (3 : Int32)) he hb dX3_readCell_74 (by decide) ?_
  refine z_aload_n he hb dX3_readCell_75 rfl (lv_at hl 0 rfl) (zref_r _ _) ?_
  obtain ⟨x15, hx, h⟩ := zob h
  refine z_getR (ci := 3) (T := TX3) (N := 6) (j := 0) B hS hx rfl zin_X3 (by decide) zk_323 dX3_readCell_76 ?_
  obtain ⟨x16, hx, h⟩ := zob h
  refine z_getI (ci := 9) (T := TX9) (N := 12) (j := 7) B hS hx rfl zin_X9 (by decide) zk_105 dX3_readCell_79 ?_
  obtain ⟨_, hc, h⟩ := zob h
  obtain ⟨f17, hx, h⟩ := zob h
  refine z_callV (ci := 9) (T := TX9) (N := 12) (rest := []) B hS (mX9_failAt l G hx) zy_X9_failAt zk_653 (by decide) hc rfl rfl hl rfl (Nat.le_of_ble_eq_true rfl) dX3_readCell_82 (kk := (fun H locs hS => ?_))
  refine lv_iload_n he hb dX3_readCell_85 rfl (lv_at hl 1 rfl) ?_
  obtain ⟨rfl, rfl⟩ := Prod.mk.inj (Option.some.inj h)
  exact z_iret B hS dX3_readCell_86
def fX3_readCell (N n : Nat) (f : zF) (a0 : Nat) : Option (zF × Int32) :=
    ((zpZ n f 3 a0 5 (1 : Int32)).bind fun f1 => ((zgR n f1 3 a0 0).bind fun x2 => ((zgR n f1 3 a0 1).bind fun x3 => ((zgI n f1 2 x3 0).bind fun x4 => ((zck n f1 9 x2).bind fun _ => (zbd (fX9_needNumber N n f1 x2 (0 : Int32) (x4 - (1 : Int32))) fun f6 x5 => ((zgR n f6 3 a0 0).bind fun x7 => ((zgR n f6 3 a0 1).bind fun x8 => ((zgI n f6 2 x8 1).bind fun x9 => ((zck n f6 9 x7).bind fun _ => (zbd (fX9_needNumber N n f6 x7 (0 : Int32) (x9 - (1 : Int32))) fun f11 x10 => ((zgR n f11 3 a0 1).bind fun x12 => ((zck n f11 2 x12).bind fun _ => ((fX2_hasHedge N n f11 x12 (((9 : Int32) * x10) + x5)).bind fun x13 => (if x13 = 0 then ((zgR n f11 3 a0 2).bind fun x18 => ((zck n f11 8 x18).bind fun _ => ((fX8_hasSomebody N n f11 x18 (((9 : Int32) * x10) + x5)).bind fun x19 => (if x19 = 0 then some (f11, (((9 : Int32) * x10) + x5)) else (fX3_readCell_70 N n f11 a0 (((9 : Int32) * x10) + x5)))))) else (fX3_readCell_70 N n f11 a0 (((9 : Int32) * x10) + x5)))))))))))))))))
set_option maxRecDepth 100000 in
set_option maxHeartbeats 4000000 in
theorem mX3_readCell (l : Launch) (G : zG) {N n : Nat} {f : zF} {f9 : zF} {r : Int32} {a0 : Nat} (h : fX3_readCell N n f a0 = some (f9, r)) : zM l G yX3_readCell cX3_readCell 4 (some .int) 3 n f [zr G a0] (some (.int r)) f9 := by
  refine zM.of (by decide) (Nat.le_of_ble_eq_true rfl) ?_
  intro p e s m args below meth c locs ls B hS hl
  have he := B.1
  have hb := B.2.1
  have hl : lv_has ls 4 [(0, zr G a0)] := hl
  unfold fX3_readCell at h
  generalize s.heap = H at hS ⊢
  refine z_aload_n he hb dX3_readCell_0 rfl (lv_at hl 0 rfl) (zref_r _ _) ?_
  refine lv_iconst (v := (1 : Int32)) he hb dX3_readCell_1 (by decide) ?_
  obtain ⟨f1, hx, h⟩ := zob h
  refine z_putZ (ci := 3) (T := TX3) (N := 6) (j := 5) B hS hx rfl zin_X3 tyX3 tyX3_ok nmX3 (by decide) zk_330 rfl rfl dX3_readCell_2 (fun H locs hS => ?_)
  refine z_aload_n he hb dX3_readCell_5 rfl (lv_at hl 0 rfl) (zref_r _ _) ?_
  obtain ⟨x2, hx, h⟩ := zob h
  refine z_getR (ci := 3) (T := TX3) (N := 6) (j := 0) B hS hx rfl zin_X3 (by decide) zk_323 dX3_readCell_6 ?_
  refine lv_iconst (v := (0 : Int32)) he hb dX3_readCell_9 (by decide) ?_
  refine z_aload_n he hb dX3_readCell_10 rfl (lv_at hl 0 rfl) (zref_r _ _) ?_
  obtain ⟨x3, hx, h⟩ := zob h
  refine z_getR (ci := 3) (T := TX3) (N := 6) (j := 1) B hS hx rfl zin_X3 (by decide) zk_324 dX3_readCell_11 ?_
  obtain ⟨x4, hx, h⟩ := zob h
  refine z_getI (ci := 2) (T := TX2) (N := 15) (j := 0) B hS hx rfl zin_X2 (by decide) zk_151 dX3_readCell_14 ?_
  refine lv_iconst (v := (1 : Int32)) he hb dX3_readCell_17 (by decide) ?_
  refine lv_isub he hb dX3_readCell_18 ?_
  obtain ⟨_, hc, h⟩ := zob h
  obtain ⟨f6, x5, hx, h⟩ := zbd_i h
  refine z_callV (ci := 9) (T := TX9) (N := 12) (rest := []) B hS (mX9_needNumber l G hx) zy_X9_needNumber zk_625 (by decide) hc rfl rfl hl rfl (Nat.le_of_ble_eq_true rfl) dX3_readCell_19 (kk := (fun H locs hS => ?_))
  refine lv_istore_n (lv' := [(1, _), (0, _)]) he hb dX3_readCell_22 rfl hl (by decide) rfl (fun ls hl => ?_)
  refine z_aload_n he hb dX3_readCell_23 rfl (lv_at hl 1 rfl) (zref_r _ _) ?_
  obtain ⟨x7, hx, h⟩ := zob h
  refine z_getR (ci := 3) (T := TX3) (N := 6) (j := 0) B hS hx rfl zin_X3 (by decide) zk_323 dX3_readCell_24 ?_
  refine lv_iconst (v := (0 : Int32)) he hb dX3_readCell_27 (by decide) ?_
  refine z_aload_n he hb dX3_readCell_28 rfl (lv_at hl 1 rfl) (zref_r _ _) ?_
  obtain ⟨x8, hx, h⟩ := zob h
  refine z_getR (ci := 3) (T := TX3) (N := 6) (j := 1) B hS hx rfl zin_X3 (by decide) zk_324 dX3_readCell_29 ?_
  obtain ⟨x9, hx, h⟩ := zob h
  refine z_getI (ci := 2) (T := TX2) (N := 15) (j := 1) B hS hx rfl zin_X2 (by decide) zk_156 dX3_readCell_32 ?_
  refine lv_iconst (v := (1 : Int32)) he hb dX3_readCell_35 (by decide) ?_
  refine lv_isub he hb dX3_readCell_36 ?_
  obtain ⟨_, hc, h⟩ := zob h
  obtain ⟨f11, x10, hx, h⟩ := zbd_i h
  refine z_callV (ci := 9) (T := TX9) (N := 12) (rest := []) B hS (mX9_needNumber l G hx) zy_X9_needNumber zk_625 (by decide) hc rfl rfl hl rfl (Nat.le_of_ble_eq_true rfl) dX3_readCell_37 (kk := (fun H locs hS => ?_))
  refine lv_istore_n (lv' := [(2, _), (1, _), (0, _)]) he hb dX3_readCell_40 rfl hl (by decide) rfl (fun ls hl => ?_)
  refine lv_bipush (v := (9 : Int32)) he hb dX3_readCell_41 (by decide) ?_
  refine lv_iload_n he hb dX3_readCell_43 rfl (lv_at hl 0 rfl) ?_
  refine lv_imul he hb dX3_readCell_44 ?_
  refine lv_iload_n he hb dX3_readCell_45 rfl (lv_at hl 1 rfl) ?_
  refine lv_iadd he hb dX3_readCell_46 ?_
  refine lv_istore_n (lv' := [(3, _), (2, _), (1, _), (0, _)]) he hb dX3_readCell_47 rfl hl (by decide) rfl (fun ls hl => ?_)
  refine z_aload_n he hb dX3_readCell_48 rfl (lv_at hl 3 rfl) (zref_r _ _) ?_
  obtain ⟨x12, hx, h⟩ := zob h
  refine z_getR (ci := 3) (T := TX3) (N := 6) (j := 1) B hS hx rfl zin_X3 (by decide) zk_324 dX3_readCell_49 ?_
  refine lv_iload_n he hb dX3_readCell_52 rfl (lv_at hl 0 rfl) ?_
  obtain ⟨_, hc, h⟩ := zob h
  obtain ⟨x13, hx, h⟩ := zob h
  refine z_callV (ci := 2) (T := TX2) (N := 15) (rest := []) B hS (mX2_hasHedge l G hx) zy_X2_hasHedge zk_637 (by decide) hc rfl rfl hl rfl (Nat.le_of_ble_eq_true rfl) dX3_readCell_53 (kk := (fun H locs hS => ?_))
  refine lv_if_ne (tgt := 70) he hb dX3_readCell_56 (by decide) (fun hc => ?_) (fun hc => ?_)
  · rw [if_neg hc] at h
    exact gX3_readCell_70 l B _ _ _ _ _ _ h hS (lv_sub hl [3, 0] rfl)
  · rw [if_pos hc] at h
    refine z_aload_n he hb dX3_readCell_59 rfl (lv_at hl 3 rfl) (zref_r _ _) ?_
    obtain ⟨x18, hx, h⟩ := zob h
    refine z_getR (ci := 3) (T := TX3) (N := 6) (j := 2) B hS hx rfl zin_X3 (by decide) zk_326 dX3_readCell_60 ?_
    refine lv_iload_n he hb dX3_readCell_63 rfl (lv_at hl 0 rfl) ?_
    obtain ⟨_, hc, h⟩ := zob h
    obtain ⟨x19, hx, h⟩ := zob h
    refine z_callV (ci := 8) (T := TX8) (N := 9) (rest := []) B hS (mX8_hasSomebody l G hx) zy_X8_hasSomebody zk_641 (by decide) hc rfl rfl hl rfl (Nat.le_of_ble_eq_true rfl) dX3_readCell_64 (kk := (fun H locs hS => ?_))
    refine lv_if_eq (tgt := 85) he hb dX3_readCell_67 (by decide) (fun hc => ?_) (fun hc => ?_)
    · rw [if_pos hc] at h
      refine lv_iload_n he hb dX3_readCell_85 rfl (lv_at hl 0 rfl) ?_
      obtain ⟨rfl, rfl⟩ := Prod.mk.inj (Option.some.inj h)
      exact z_iret B hS dX3_readCell_86
    · rw [if_neg hc] at h
      exact gX3_readCell_70 l B _ _ _ _ _ _ h hS (lv_sub hl [3, 0] rfl)
theorem dX3_readHedge_0 : decode cX3_readHedge 0 = .ok (.aload_n 0, 1) := by decide +kernel
theorem dX3_readHedge_1 : decode cX3_readHedge 1 = .ok (.getfield 31, 3) := by decide +kernel
theorem dX3_readHedge_4 : decode cX3_readHedge 4 = .ok (.invokevirtual 97, 3) := by decide +kernel
theorem dX3_readHedge_7 : decode cX3_readHedge 7 = .ok (.aload_n 0, 1) := by decide +kernel
theorem dX3_readHedge_8 : decode cX3_readHedge 8 = .ok (.getfield 12, 3) := by decide +kernel
theorem dX3_readHedge_11 : decode cX3_readHedge 11 = .ok (.getfield 110, 3) := by decide +kernel
theorem dX3_readHedge_14 : decode cX3_readHedge 14 = .ok (.aload_n 0, 1) := by decide +kernel
theorem dX3_readHedge_15 : decode cX3_readHedge 15 = .ok (.invokevirtual 113, 3) := by decide +kernel
theorem dX3_readHedge_18 : decode cX3_readHedge 18 = .ok (.iconst 1, 1) := by decide +kernel
theorem dX3_readHedge_19 : decode cX3_readHedge 19 = .ok (.invokestatic 117, 3) := by decide +kernel
theorem dX3_readHedge_22 : decode cX3_readHedge 22 = .ok (.return_, 1) := by decide +kernel
def fX3_readHedge (N n : Nat) (f : zF) (a0 : Nat) : Option zF :=
    ((zgR n f 3 a0 0).bind fun x1 => ((zck n f 9 x1).bind fun _ => ((fX9_advance N n f x1).bind fun f2 => ((zgR n f2 3 a0 1).bind fun x3 => ((zgR n f2 2 x3 8).bind fun x4 => ((zck n f2 3 a0).bind fun _ => (zbd (fX3_readCell N n f2 a0) fun f6 x5 => ((fX11_put N n f6 x4 x5 (1 : Int32)).bind fun f7 => some f7))))))))
set_option maxRecDepth 100000 in
set_option maxHeartbeats 4000000 in
theorem mX3_readHedge (l : Launch) (G : zG) {N n : Nat} {f : zF} {f9 : zF} {a0 : Nat} (h : fX3_readHedge N n f a0 = some f9) : zM l G yX3_readHedge cX3_readHedge 1 (none) 4 n f [zr G a0] (none) f9 := by
  refine zM.of (by decide) (Nat.le_of_ble_eq_true rfl) ?_
  intro p e s m args below meth c locs ls B hS hl
  have he := B.1
  have hb := B.2.1
  have hl : lv_has ls 1 [(0, zr G a0)] := hl
  unfold fX3_readHedge at h
  generalize s.heap = H at hS ⊢
  refine z_aload_n he hb dX3_readHedge_0 rfl (lv_at hl 0 rfl) (zref_r _ _) ?_
  obtain ⟨x1, hx, h⟩ := zob h
  refine z_getR (ci := 3) (T := TX3) (N := 6) (j := 0) B hS hx rfl zin_X3 (by decide) zk_323 dX3_readHedge_1 ?_
  obtain ⟨_, hc, h⟩ := zob h
  obtain ⟨f2, hx, h⟩ := zob h
  refine z_callV (ci := 9) (T := TX9) (N := 12) (rest := []) B hS (mX9_advance l G hx) zy_X9_advance zk_624 (by decide) hc rfl rfl hl rfl (Nat.le_of_ble_eq_true rfl) dX3_readHedge_4 (kk := (fun H locs hS => ?_))
  refine z_aload_n he hb dX3_readHedge_7 rfl (lv_at hl 0 rfl) (zref_r _ _) ?_
  obtain ⟨x3, hx, h⟩ := zob h
  refine z_getR (ci := 3) (T := TX3) (N := 6) (j := 1) B hS hx rfl zin_X3 (by decide) zk_324 dX3_readHedge_8 ?_
  obtain ⟨x4, hx, h⟩ := zob h
  refine z_getR (ci := 2) (T := TX2) (N := 15) (j := 8) B hS hx rfl zin_X2 (by decide) zk_186 dX3_readHedge_11 ?_
  refine z_aload_n he hb dX3_readHedge_14 rfl (lv_at hl 0 rfl) (zref_r _ _) ?_
  obtain ⟨_, hc, h⟩ := zob h
  obtain ⟨f6, x5, hx, h⟩ := zbd_i h
  refine z_callV (ci := 3) (T := TX3) (N := 6) (rest := [_]) B hS (mX3_readCell l G hx) zy_X3_readCell zk_633 (by decide) hc rfl rfl hl rfl (Nat.le_of_ble_eq_true rfl) dX3_readHedge_15 (kk := (fun H locs hS => ?_))
  refine lv_iconst (v := (1 : Int32)) he hb dX3_readHedge_18 (by decide) ?_
  obtain ⟨f7, hx, h⟩ := zob h
  refine z_callN (rest := []) B hS (mX11_put l G hx) zy_X11_put zkn_654 (by decide) rfl hl rfl (Nat.le_of_ble_eq_true rfl) dX3_readHedge_19 (kk := (fun H locs hS => ?_))
  obtain rfl := Option.some.inj h
  exact z_vret B hS dX3_readHedge_22
theorem dX3_readNewName_0 : decode cX3_readNewName 0 = .ok (.aload_n 0, 1) := by decide +kernel
theorem dX3_readNewName_1 : decode cX3_readNewName 1 = .ok (.getfield 31, 3) := by decide +kernel
theorem dX3_readNewName_4 : decode cX3_readNewName 4 = .ok (.getfield 135, 3) := by decide +kernel
theorem dX3_readNewName_7 : decode cX3_readNewName 7 = .ok (.lstore_n 1, 1) := by decide +kernel
theorem dX3_readNewName_8 : decode cX3_readNewName 8 = .ok (.aload_n 0, 1) := by decide +kernel
theorem dX3_readNewName_9 : decode cX3_readNewName 9 = .ok (.getfield 31, 3) := by decide +kernel
theorem dX3_readNewName_12 : decode cX3_readNewName 12 = .ok (.getfield 59, 3) := by decide +kernel
theorem dX3_readNewName_15 : decode cX3_readNewName 15 = .ok (.iconst 3, 1) := by decide +kernel
theorem dX3_readNewName_16 : decode cX3_readNewName 16 = .ok (.if_icmp .eq 14, 3) := by decide +kernel
theorem dX3_readNewName_19 : decode cX3_readNewName 19 = .ok (.aload_n 0, 1) := by decide +kernel
theorem dX3_readNewName_20 : decode cX3_readNewName 20 = .ok (.getfield 31, 3) := by decide +kernel
theorem dX3_readNewName_23 : decode cX3_readNewName 23 = .ok (.iconst 1, 1) := by decide +kernel
theorem dX3_readNewName_24 : decode cX3_readNewName 24 = .ok (.invokevirtual 84, 3) := by decide +kernel
theorem dX3_readNewName_27 : decode cX3_readNewName 27 = .ok (.goto 32, 3) := by decide +kernel
theorem dX3_readNewName_30 : decode cX3_readNewName 30 = .ok (.aload_n 0, 1) := by decide +kernel
theorem dX3_readNewName_31 : decode cX3_readNewName 31 = .ok (.getfield 12, 3) := by decide +kernel
theorem dX3_readNewName_34 : decode cX3_readNewName 34 = .ok (.lload_n 1, 1) := by decide +kernel
theorem dX3_readNewName_35 : decode cX3_readNewName 35 = .ok (.invokevirtual 139, 3) := by decide +kernel
theorem dX3_readNewName_38 : decode cX3_readNewName 38 = .ok (.ifCond .eq 14, 3) := by decide +kernel
theorem dX3_readNewName_41 : decode cX3_readNewName 41 = .ok (.aload_n 0, 1) := by decide +kernel
theorem dX3_readNewName_42 : decode cX3_readNewName 42 = .ok (.getfield 31, 3) := by decide +kernel
theorem dX3_readNewName_45 : decode cX3_readNewName 45 = .ok (.iconst 3, 1) := by decide +kernel
theorem dX3_readNewName_46 : decode cX3_readNewName 46 = .ok (.invokevirtual 84, 3) := by decide +kernel
theorem dX3_readNewName_49 : decode cX3_readNewName 49 = .ok (.goto 10, 3) := by decide +kernel
theorem dX3_readNewName_52 : decode cX3_readNewName 52 = .ok (.aload_n 0, 1) := by decide +kernel
theorem dX3_readNewName_53 : decode cX3_readNewName 53 = .ok (.getfield 31, 3) := by decide +kernel
theorem dX3_readNewName_56 : decode cX3_readNewName 56 = .ok (.invokevirtual 97, 3) := by decide +kernel
theorem dX3_readNewName_59 : decode cX3_readNewName 59 = .ok (.lload_n 1, 1) := by decide +kernel
theorem dX3_readNewName_60 : decode cX3_readNewName 60 = .ok (.lreturn, 1) := by decide +kernel
def fX3_readNewName (N n : Nat) (f : zF) (a0 : Nat) : Option (zF × Int64) :=
    ((zgR n f 3 a0 0).bind fun x1 => ((zgL n f 9 x1 9).bind fun x2 => ((zgR n f 3 a0 0).bind fun x3 => ((zgI n f 9 x3 5).bind fun x4 => (if x4 = (3 : Int32) then ((zgR n f 3 a0 1).bind fun x5 => ((zck n f 2 x5).bind fun _ => ((fX2_isTold N n f x5 x2).bind fun x6 => (if x6 = 0 then ((zgR n f 3 a0 0).bind fun x7 => ((zck n f 9 x7).bind fun _ => ((fX9_advance N n f x7).bind fun f8 => some (f8, x2)))) else ((zgR n f 3 a0 0).bind fun x9 => ((zck n f 9 x9).bind fun _ => ((fX9_fail N n f x9 (3 : Int32)).bind fun f10 => some (f10, x2)))))))) else ((zgR n f 3 a0 0).bind fun x11 => ((zck n f 9 x11).bind fun _ => ((fX9_fail N n f x11 (1 : Int32)).bind fun f12 => some (f12, x2)))))))))
set_option maxRecDepth 100000 in
set_option maxHeartbeats 4000000 in
theorem mX3_readNewName (l : Launch) (G : zG) {N n : Nat} {f : zF} {f9 : zF} {r : Int64} {a0 : Nat} (h : fX3_readNewName N n f a0 = some (f9, r)) : zM l G yX3_readNewName cX3_readNewName 3 (some .long) 2 n f [zr G a0] (some (.long r)) f9 := by
  refine zM.of (by decide) (Nat.le_of_ble_eq_true rfl) ?_
  intro p e s m args below meth c locs ls B hS hl
  have he := B.1
  have hb := B.2.1
  have hl : lv_has ls 3 [(0, zr G a0)] := hl
  unfold fX3_readNewName at h
  generalize s.heap = H at hS ⊢
  refine z_aload_n he hb dX3_readNewName_0 rfl (lv_at hl 0 rfl) (zref_r _ _) ?_
  obtain ⟨x1, hx, h⟩ := zob h
  refine z_getR (ci := 3) (T := TX3) (N := 6) (j := 0) B hS hx rfl zin_X3 (by decide) zk_323 dX3_readNewName_1 ?_
  obtain ⟨x2, hx, h⟩ := zob h
  refine z_getL (ci := 9) (T := TX9) (N := 12) (j := 9) B hS hx rfl zin_X9 (by decide) zk_111 dX3_readNewName_4 ?_
  refine lv_lstore_n (lv' := [(1, _), (0, _)]) he hb dX3_readNewName_7 rfl hl (by decide) rfl (fun ls hl => ?_)
  refine z_aload_n he hb dX3_readNewName_8 rfl (lv_at hl 1 rfl) (zref_r _ _) ?_
  obtain ⟨x3, hx, h⟩ := zob h
  refine z_getR (ci := 3) (T := TX3) (N := 6) (j := 0) B hS hx rfl zin_X3 (by decide) zk_323 dX3_readNewName_9 ?_
  obtain ⟨x4, hx, h⟩ := zob h
  refine z_getI (ci := 9) (T := TX9) (N := 12) (j := 5) B hS hx rfl zin_X9 (by decide) zk_99 dX3_readNewName_12 ?_
  refine lv_iconst (v := (3 : Int32)) he hb dX3_readNewName_15 (by decide) ?_
  refine lv_icmp_eq (tgt := 30) he hb dX3_readNewName_16 (by decide) (fun hc => ?_) (fun hc => ?_)
  · rw [if_pos hc] at h
    refine z_aload_n he hb dX3_readNewName_30 rfl (lv_at hl 1 rfl) (zref_r _ _) ?_
    obtain ⟨x5, hx, h⟩ := zob h
    refine z_getR (ci := 3) (T := TX3) (N := 6) (j := 1) B hS hx rfl zin_X3 (by decide) zk_324 dX3_readNewName_31 ?_
    refine lv_lload_n he hb dX3_readNewName_34 rfl (lv_at hl 0 rfl) ?_
    obtain ⟨_, hc, h⟩ := zob h
    obtain ⟨x6, hx, h⟩ := zob h
    refine z_callV (ci := 2) (T := TX2) (N := 15) (rest := []) B hS (mX2_isTold l G hx) zy_X2_isTold zk_665 (by decide) hc rfl rfl hl rfl (Nat.le_of_ble_eq_true rfl) dX3_readNewName_35 (kk := (fun H locs hS => ?_))
    refine lv_if_eq (tgt := 52) he hb dX3_readNewName_38 (by decide) (fun hc => ?_) (fun hc => ?_)
    · rw [if_pos hc] at h
      refine z_aload_n he hb dX3_readNewName_52 rfl (lv_at hl 1 rfl) (zref_r _ _) ?_
      obtain ⟨x7, hx, h⟩ := zob h
      refine z_getR (ci := 3) (T := TX3) (N := 6) (j := 0) B hS hx rfl zin_X3 (by decide) zk_323 dX3_readNewName_53 ?_
      obtain ⟨_, hc, h⟩ := zob h
      obtain ⟨f8, hx, h⟩ := zob h
      refine z_callV (ci := 9) (T := TX9) (N := 12) (rest := []) B hS (mX9_advance l G hx) zy_X9_advance zk_624 (by decide) hc rfl rfl hl rfl (Nat.le_of_ble_eq_true rfl) dX3_readNewName_56 (kk := (fun H locs hS => ?_))
      refine lv_lload_n he hb dX3_readNewName_59 rfl (lv_at hl 0 rfl) ?_
      obtain ⟨rfl, rfl⟩ := Prod.mk.inj (Option.some.inj h)
      exact z_lret B hS dX3_readNewName_60
    · rw [if_neg hc] at h
      refine z_aload_n he hb dX3_readNewName_41 rfl (lv_at hl 1 rfl) (zref_r _ _) ?_
      obtain ⟨x9, hx, h⟩ := zob h
      refine z_getR (ci := 3) (T := TX3) (N := 6) (j := 0) B hS hx rfl zin_X3 (by decide) zk_323 dX3_readNewName_42 ?_
      refine lv_iconst (v := (3 : Int32)) he hb dX3_readNewName_45 (by decide) ?_
      obtain ⟨_, hc, h⟩ := zob h
      obtain ⟨f10, hx, h⟩ := zob h
      refine z_callV (ci := 9) (T := TX9) (N := 12) (rest := []) B hS (mX9_fail l G hx) zy_X9_fail zk_623 (by decide) hc rfl rfl hl rfl (Nat.le_of_ble_eq_true rfl) dX3_readNewName_46 (kk := (fun H locs hS => ?_))
      refine lv_goto (tgt := 59) he hb dX3_readNewName_49 (by decide) ?_
      refine lv_lload_n he hb dX3_readNewName_59 rfl (lv_at hl 0 rfl) ?_
      obtain ⟨rfl, rfl⟩ := Prod.mk.inj (Option.some.inj h)
      exact z_lret B hS dX3_readNewName_60
  · rw [if_neg hc] at h
    refine z_aload_n he hb dX3_readNewName_19 rfl (lv_at hl 1 rfl) (zref_r _ _) ?_
    obtain ⟨x11, hx, h⟩ := zob h
    refine z_getR (ci := 3) (T := TX3) (N := 6) (j := 0) B hS hx rfl zin_X3 (by decide) zk_323 dX3_readNewName_20 ?_
    refine lv_iconst (v := (1 : Int32)) he hb dX3_readNewName_23 (by decide) ?_
    obtain ⟨_, hc, h⟩ := zob h
    obtain ⟨f12, hx, h⟩ := zob h
    refine z_callV (ci := 9) (T := TX9) (N := 12) (rest := []) B hS (mX9_fail l G hx) zy_X9_fail zk_623 (by decide) hc rfl rfl hl rfl (Nat.le_of_ble_eq_true rfl) dX3_readNewName_24 (kk := (fun H locs hS => ?_))
    refine lv_goto (tgt := 59) he hb dX3_readNewName_27 (by decide) ?_
    refine lv_lload_n he hb dX3_readNewName_59 rfl (lv_at hl 0 rfl) ?_
    obtain ⟨rfl, rfl⟩ := Prod.mk.inj (Option.some.inj h)
    exact z_lret B hS dX3_readNewName_60
theorem dX3_readOwner_0 : decode cX3_readOwner 0 = .ok (.aload_n 0, 1) := by decide +kernel
theorem dX3_readOwner_1 : decode cX3_readOwner 1 = .ok (.getfield 12, 3) := by decide +kernel
theorem dX3_readOwner_4 : decode cX3_readOwner 4 = .ok (.getfield 143, 3) := by decide +kernel
theorem dX3_readOwner_7 : decode cX3_readOwner 7 = .ok (.iconst 4, 1) := by decide +kernel
theorem dX3_readOwner_8 : decode cX3_readOwner 8 = .ok (.if_icmp .lt 12, 3) := by decide +kernel
theorem dX3_readOwner_11 : decode cX3_readOwner 11 = .ok (.aload_n 0, 1) := by decide +kernel
theorem dX3_readOwner_12 : decode cX3_readOwner 12 = .ok (.getfield 31, 3) := by decide +kernel
theorem dX3_readOwner_15 : decode cX3_readOwner 15 = .ok (.iconst 4, 1) := by decide +kernel
theorem dX3_readOwner_16 : decode cX3_readOwner 16 = .ok (.invokevirtual 84, 3) := by decide +kernel
theorem dX3_readOwner_19 : decode cX3_readOwner 19 = .ok (.return_, 1) := by decide +kernel
theorem dX3_readOwner_20 : decode cX3_readOwner 20 = .ok (.aload_n 0, 1) := by decide +kernel
theorem dX3_readOwner_21 : decode cX3_readOwner 21 = .ok (.getfield 31, 3) := by decide +kernel
theorem dX3_readOwner_24 : decode cX3_readOwner 24 = .ok (.invokevirtual 97, 3) := by decide +kernel
theorem dX3_readOwner_27 : decode cX3_readOwner 27 = .ok (.aload_n 0, 1) := by decide +kernel
theorem dX3_readOwner_28 : decode cX3_readOwner 28 = .ok (.getfield 12, 3) := by decide +kernel
theorem dX3_readOwner_31 : decode cX3_readOwner 31 = .ok (.getfield 146, 3) := by decide +kernel
theorem dX3_readOwner_34 : decode cX3_readOwner 34 = .ok (.aload_n 0, 1) := by decide +kernel
theorem dX3_readOwner_35 : decode cX3_readOwner 35 = .ok (.getfield 12, 3) := by decide +kernel
theorem dX3_readOwner_38 : decode cX3_readOwner 38 = .ok (.getfield 143, 3) := by decide +kernel
theorem dX3_readOwner_41 : decode cX3_readOwner 41 = .ok (.aload_n 0, 1) := by decide +kernel
theorem dX3_readOwner_42 : decode cX3_readOwner 42 = .ok (.invokevirtual 150, 3) := by decide +kernel
theorem dX3_readOwner_45 : decode cX3_readOwner 45 = .ok (.invokestatic 154, 3) := by decide +kernel
theorem dX3_readOwner_48 : decode cX3_readOwner 48 = .ok (.aload_n 0, 1) := by decide +kernel
theorem dX3_readOwner_49 : decode cX3_readOwner 49 = .ok (.getfield 12, 3) := by decide +kernel
theorem dX3_readOwner_52 : decode cX3_readOwner 52 = .ok (.dup, 1) := by decide +kernel
theorem dX3_readOwner_53 : decode cX3_readOwner 53 = .ok (.getfield 143, 3) := by decide +kernel
theorem dX3_readOwner_56 : decode cX3_readOwner 56 = .ok (.iconst 1, 1) := by decide +kernel
theorem dX3_readOwner_57 : decode cX3_readOwner 57 = .ok (.iadd, 1) := by decide +kernel
theorem dX3_readOwner_58 : decode cX3_readOwner 58 = .ok (.putfield 143, 3) := by decide +kernel
theorem dX3_readOwner_61 : decode cX3_readOwner 61 = .ok (.return_, 1) := by decide +kernel
def fX3_readOwner (N n : Nat) (f : zF) (a0 : Nat) : Option zF :=
    ((zgR n f 3 a0 1).bind fun x1 => ((zgI n f 2 x1 2).bind fun x2 => (if x2 < (4 : Int32) then ((zgR n f 3 a0 0).bind fun x3 => ((zck n f 9 x3).bind fun _ => ((fX9_advance N n f x3).bind fun f4 => ((zgR n f4 3 a0 1).bind fun x5 => ((zgR n f4 2 x5 5).bind fun x6 => ((zgR n f4 3 a0 1).bind fun x7 => ((zgI n f4 2 x7 2).bind fun x8 => ((zck n f4 3 a0).bind fun _ => (zbd (fX3_readNewName N n f4 a0) fun f10 x9 => ((fX11_putName N n f10 x6 x8 x9).bind fun f11 => ((zgR n f11 3 a0 1).bind fun x12 => ((zgI n f11 2 x12 2).bind fun x13 => ((zpI n f11 2 x12 2 (x13 + (1 : Int32))).bind fun f14 => some f14))))))))))))) else ((zgR n f 3 a0 0).bind fun x15 => ((zck n f 9 x15).bind fun _ => ((fX9_fail N n f x15 (4 : Int32)).bind fun f16 => some f16))))))
set_option maxRecDepth 100000 in
set_option maxHeartbeats 4000000 in
theorem mX3_readOwner (l : Launch) (G : zG) {N n : Nat} {f : zF} {f9 : zF} {a0 : Nat} (h : fX3_readOwner N n f a0 = some f9) : zM l G yX3_readOwner cX3_readOwner 1 (none) 3 n f [zr G a0] (none) f9 := by
  refine zM.of (by decide) (Nat.le_of_ble_eq_true rfl) ?_
  intro p e s m args below meth c locs ls B hS hl
  have he := B.1
  have hb := B.2.1
  have hl : lv_has ls 1 [(0, zr G a0)] := hl
  unfold fX3_readOwner at h
  generalize s.heap = H at hS ⊢
  refine z_aload_n he hb dX3_readOwner_0 rfl (lv_at hl 0 rfl) (zref_r _ _) ?_
  obtain ⟨x1, hx, h⟩ := zob h
  refine z_getR (ci := 3) (T := TX3) (N := 6) (j := 1) B hS hx rfl zin_X3 (by decide) zk_324 dX3_readOwner_1 ?_
  obtain ⟨x2, hx, h⟩ := zob h
  refine z_getI (ci := 2) (T := TX2) (N := 15) (j := 2) B hS hx rfl zin_X2 (by decide) zk_161 dX3_readOwner_4 ?_
  refine lv_iconst (v := (4 : Int32)) he hb dX3_readOwner_7 (by decide) ?_
  refine lv_icmp_lt (tgt := 20) he hb dX3_readOwner_8 (by decide) (fun hc => ?_) (fun hc => ?_)
  · rw [if_pos hc] at h
    refine z_aload_n he hb dX3_readOwner_20 rfl (lv_at hl 0 rfl) (zref_r _ _) ?_
    obtain ⟨x3, hx, h⟩ := zob h
    refine z_getR (ci := 3) (T := TX3) (N := 6) (j := 0) B hS hx rfl zin_X3 (by decide) zk_323 dX3_readOwner_21 ?_
    obtain ⟨_, hc, h⟩ := zob h
    obtain ⟨f4, hx, h⟩ := zob h
    refine z_callV (ci := 9) (T := TX9) (N := 12) (rest := []) B hS (mX9_advance l G hx) zy_X9_advance zk_624 (by decide) hc rfl rfl hl rfl (Nat.le_of_ble_eq_true rfl) dX3_readOwner_24 (kk := (fun H locs hS => ?_))
    refine z_aload_n he hb dX3_readOwner_27 rfl (lv_at hl 0 rfl) (zref_r _ _) ?_
    obtain ⟨x5, hx, h⟩ := zob h
    refine z_getR (ci := 3) (T := TX3) (N := 6) (j := 1) B hS hx rfl zin_X3 (by decide) zk_324 dX3_readOwner_28 ?_
    obtain ⟨x6, hx, h⟩ := zob h
    refine z_getR (ci := 2) (T := TX2) (N := 15) (j := 5) B hS hx rfl zin_X2 (by decide) zk_176 dX3_readOwner_31 ?_
    refine z_aload_n he hb dX3_readOwner_34 rfl (lv_at hl 0 rfl) (zref_r _ _) ?_
    obtain ⟨x7, hx, h⟩ := zob h
    refine z_getR (ci := 3) (T := TX3) (N := 6) (j := 1) B hS hx rfl zin_X3 (by decide) zk_324 dX3_readOwner_35 ?_
    obtain ⟨x8, hx, h⟩ := zob h
    refine z_getI (ci := 2) (T := TX2) (N := 15) (j := 2) B hS hx rfl zin_X2 (by decide) zk_161 dX3_readOwner_38 ?_
    refine z_aload_n he hb dX3_readOwner_41 rfl (lv_at hl 0 rfl) (zref_r _ _) ?_
    obtain ⟨_, hc, h⟩ := zob h
    obtain ⟨f10, x9, hx, h⟩ := zbd_i h
    refine z_callV (ci := 3) (T := TX3) (N := 6) (rest := [_, _]) B hS (mX3_readNewName l G hx) zy_X3_readNewName zk_661 (by decide) hc rfl rfl hl rfl (Nat.le_of_ble_eq_true rfl) dX3_readOwner_42 (kk := (fun H locs hS => ?_))
    obtain ⟨f11, hx, h⟩ := zob h
    refine z_callN (rest := []) B hS (mX11_putName l G hx) zy_X11_putName zkn_670 (by decide) rfl hl rfl (Nat.le_of_ble_eq_true rfl) dX3_readOwner_45 (kk := (fun H locs hS => ?_))
    refine z_aload_n he hb dX3_readOwner_48 rfl (lv_at hl 0 rfl) (zref_r _ _) ?_
    obtain ⟨x12, hx, h⟩ := zob h
    refine z_getR (ci := 3) (T := TX3) (N := 6) (j := 1) B hS hx rfl zin_X3 (by decide) zk_324 dX3_readOwner_49 ?_
    refine lv_dup he hb dX3_readOwner_52 rfl ?_
    obtain ⟨x13, hx, h⟩ := zob h
    refine z_getI (ci := 2) (T := TX2) (N := 15) (j := 2) B hS hx rfl zin_X2 (by decide) zk_161 dX3_readOwner_53 ?_
    refine lv_iconst (v := (1 : Int32)) he hb dX3_readOwner_56 (by decide) ?_
    refine lv_iadd he hb dX3_readOwner_57 ?_
    obtain ⟨f14, hx, h⟩ := zob h
    refine z_putI (ci := 2) (T := TX2) (N := 15) (j := 2) B hS hx rfl zin_X2 tyX2 tyX2_ok nmX2 (by decide) zk_161 rfl rfl dX3_readOwner_58 (fun H locs hS => ?_)
    obtain rfl := Option.some.inj h
    exact z_vret B hS dX3_readOwner_61
  · rw [if_neg hc] at h
    refine z_aload_n he hb dX3_readOwner_11 rfl (lv_at hl 0 rfl) (zref_r _ _) ?_
    obtain ⟨x15, hx, h⟩ := zob h
    refine z_getR (ci := 3) (T := TX3) (N := 6) (j := 0) B hS hx rfl zin_X3 (by decide) zk_323 dX3_readOwner_12 ?_
    refine lv_iconst (v := (4 : Int32)) he hb dX3_readOwner_15 (by decide) ?_
    obtain ⟨_, hc, h⟩ := zob h
    obtain ⟨f16, hx, h⟩ := zob h
    refine z_callV (ci := 9) (T := TX9) (N := 12) (rest := []) B hS (mX9_fail l G hx) zy_X9_fail zk_623 (by decide) hc rfl rfl hl rfl (Nat.le_of_ble_eq_true rfl) dX3_readOwner_16 (kk := (fun H locs hS => ?_))
    obtain rfl := Option.some.inj h
    exact z_vret B hS dX3_readOwner_19
theorem dX3_readLand_0 : decode cX3_readLand 0 = .ok (.aload_n 0, 1) := by decide +kernel
theorem dX3_readLand_1 : decode cX3_readLand 1 = .ok (.iconst 1, 1) := by decide +kernel
theorem dX3_readLand_2 : decode cX3_readLand 2 = .ok (.putfield 46, 3) := by decide +kernel
theorem dX3_readLand_5 : decode cX3_readLand 5 = .ok (.aload_n 0, 1) := by decide +kernel
theorem dX3_readLand_6 : decode cX3_readLand 6 = .ok (.getfield 31, 3) := by decide +kernel
theorem dX3_readLand_9 : decode cX3_readLand 9 = .ok (.invokevirtual 97, 3) := by decide +kernel
theorem dX3_readLand_12 : decode cX3_readLand 12 = .ok (.aload_n 0, 1) := by decide +kernel
theorem dX3_readLand_13 : decode cX3_readLand 13 = .ok (.getfield 31, 3) := by decide +kernel
theorem dX3_readLand_16 : decode cX3_readLand 16 = .ok (.aload_n 0, 1) := by decide +kernel
theorem dX3_readLand_17 : decode cX3_readLand 17 = .ok (.getfield 12, 3) := by decide +kernel
theorem dX3_readLand_20 : decode cX3_readLand 20 = .ok (.getfield 146, 3) := by decide +kernel
theorem dX3_readLand_23 : decode cX3_readLand 23 = .ok (.aload_n 0, 1) := by decide +kernel
theorem dX3_readLand_24 : decode cX3_readLand 24 = .ok (.getfield 12, 3) := by decide +kernel
theorem dX3_readLand_27 : decode cX3_readLand 27 = .ok (.getfield 143, 3) := by decide +kernel
theorem dX3_readLand_30 : decode cX3_readLand 30 = .ok (.invokevirtual 158, 3) := by decide +kernel
theorem dX3_readLand_33 : decode cX3_readLand 33 = .ok (.istore_n 1, 1) := by decide +kernel
theorem dX3_readLand_34 : decode cX3_readLand 34 = .ok (.aload_n 0, 1) := by decide +kernel
theorem dX3_readLand_35 : decode cX3_readLand 35 = .ok (.getfield 31, 3) := by decide +kernel
theorem dX3_readLand_38 : decode cX3_readLand 38 = .ok (.iconst 0, 1) := by decide +kernel
theorem dX3_readLand_39 : decode cX3_readLand 39 = .ok (.aload_n 0, 1) := by decide +kernel
theorem dX3_readLand_40 : decode cX3_readLand 40 = .ok (.getfield 12, 3) := by decide +kernel
theorem dX3_readLand_43 : decode cX3_readLand 43 = .ok (.getfield 107, 3) := by decide +kernel
theorem dX3_readLand_46 : decode cX3_readLand 46 = .ok (.iconst 1, 1) := by decide +kernel
theorem dX3_readLand_47 : decode cX3_readLand 47 = .ok (.isub, 1) := by decide +kernel
theorem dX3_readLand_48 : decode cX3_readLand 48 = .ok (.invokevirtual 100, 3) := by decide +kernel
theorem dX3_readLand_51 : decode cX3_readLand 51 = .ok (.istore_n 2, 1) := by decide +kernel
theorem dX3_readLand_52 : decode cX3_readLand 52 = .ok (.aload_n 0, 1) := by decide +kernel
theorem dX3_readLand_53 : decode cX3_readLand 53 = .ok (.getfield 27, 3) := by decide +kernel
theorem dX3_readLand_56 : decode cX3_readLand 56 = .ok (.iload_n 2, 1) := by decide +kernel
theorem dX3_readLand_57 : decode cX3_readLand 57 = .ok (.invokestatic 162, 3) := by decide +kernel
theorem dX3_readLand_60 : decode cX3_readLand 60 = .ok (.iconst (-1), 1) := by decide +kernel
theorem dX3_readLand_61 : decode cX3_readLand 61 = .ok (.if_icmp .eq 18, 3) := by decide +kernel
theorem dX3_readLand_64 : decode cX3_readLand 64 = .ok (.aload_n 0, 1) := by decide +kernel
theorem dX3_readLand_65 : decode cX3_readLand 65 = .ok (.getfield 31, 3) := by decide +kernel
theorem dX3_readLand_68 : decode cX3_readLand 68 = .ok (.iconst 3, 1) := by decide +kernel
theorem dX3_readLand_69 : decode cX3_readLand 69 = .ok (.aload_n 0, 1) := by decide +kernel
theorem dX3_readLand_70 : decode cX3_readLand 70 = .ok (.getfield 31, 3) := by decide +kernel
theorem dX3_readLand_73 : decode cX3_readLand 73 = .ok (.getfield 128, 3) := by decide +kernel
theorem dX3_readLand_76 : decode cX3_readLand 76 = .ok (.invokevirtual 131, 3) := by decide +kernel
theorem dX3_readLand_79 : decode cX3_readLand 79 = .ok (.aload_n 0, 1) := by decide +kernel
theorem dX3_readLand_80 : decode cX3_readLand 80 = .ok (.getfield 27, 3) := by decide +kernel
theorem dX3_readLand_83 : decode cX3_readLand 83 = .ok (.iload_n 2, 1) := by decide +kernel
theorem dX3_readLand_84 : decode cX3_readLand 84 = .ok (.iload_n 1, 1) := by decide +kernel
theorem dX3_readLand_85 : decode cX3_readLand 85 = .ok (.invokestatic 117, 3) := by decide +kernel
theorem dX3_readLand_88 : decode cX3_readLand 88 = .ok (.return_, 1) := by decide +kernel
def fX3_readLand_79 (N n : Nat) (f : zF) (a0 : Nat) (a1 : Int32) (a2 : Int32) : Option zF :=
    ((zgR n f 3 a0 3).bind fun x18 => ((fX11_put N n f x18 a2 a1).bind fun f19 => some f19))
set_option maxRecDepth 100000 in
set_option maxHeartbeats 4000000 in
theorem gX3_readLand_79 (l : Launch) {G : zG} {p : Program} {e : Env} {s : State} {m : MethodId} {args : Array Value} {below : List Frame} {meth : Method} {c : Code} {N n : Nat} {f9 : zF} (B : zB G p s m args meth c RX3 cX3_readLand 3 (none)) : ∀ (f : zF) (a0 : Nat) (a1 : Int32) (a2 : Int32) (H : Heap) (locs : List Loc) (ls : Array Slot), fX3_readLand_79 N n f a0 a1 a2 = some f9 → zS G n f H locs → lv_has ls 3 [(0, zr G a0), (1, .int a1), (2, .int a2)] → W p l e (zrm 3) s m args below meth c H locs 0 0 (MQ below (zQc G n f9 (none)) args s 0 0 (zA G)) (F0 m 79 ls []) := by
  have he := B.1
  have hb := B.2.1
  intro f a0 a1 a2 H locs ls h hS hl
  unfold fX3_readLand_79 at h
  refine z_aload_n he hb dX3_readLand_79 rfl (lv_at hl 0 rfl) (zref_r _ _) ?_
  obtain ⟨x18, hx, h⟩ := zob h
  refine z_getR (ci := 3) (T := TX3) (N := 6) (j := 3) B hS hx rfl zin_X3 (by decide) zk_328 dX3_readLand_80 ?_
  refine lv_iload_n he hb dX3_readLand_83 rfl (lv_at hl 2 rfl) ?_
  refine lv_iload_n he hb dX3_readLand_84 rfl (lv_at hl 1 rfl) ?_
  obtain ⟨f19, hx, h⟩ := zob h
  refine z_callN (rest := []) B hS (mX11_put l G hx) zy_X11_put zkn_654 (by decide) rfl hl rfl (Nat.le_of_ble_eq_true rfl) dX3_readLand_85 (kk := (fun H locs hS => ?_))
  obtain rfl := Option.some.inj h
  exact z_vret B hS dX3_readLand_88
def fX3_readLand (N n : Nat) (f : zF) (a0 : Nat) : Option zF :=
    ((zpZ n f 3 a0 5 (1 : Int32)).bind fun f1 => ((zgR n f1 3 a0 0).bind fun x2 => ((zck n f1 9 x2).bind fun _ => ((fX9_advance N n f1 x2).bind fun f3 => ((zgR n f3 3 a0 0).bind fun x4 => ((zgR n f3 3 a0 1).bind fun x5 => ((zgR n f3 2 x5 5).bind fun x6 => ((zgR n f3 3 a0 1).bind fun x7 => ((zgI n f3 2 x7 2).bind fun x8 => ((zck n f3 9 x4).bind fun _ => (zbd (fX9_needNameOf N n f3 x4 x6 x8) fun f10 x9 => ((zgR n f10 3 a0 0).bind fun x11 => ((zgR n f10 3 a0 1).bind fun x12 => ((zgI n f10 2 x12 1).bind fun x13 => ((zck n f10 9 x11).bind fun _ => (zbd (fX9_needNumber N n f10 x11 (0 : Int32) (x13 - (1 : Int32))) fun f15 x14 => ((zgR n f15 3 a0 3).bind fun x16 => ((fX11_at N n f15 x16 x14).bind fun x17 => (if x17 = (-1 : Int32) then (fX3_readLand_79 N n f15 a0 x9 x14) else ((zgR n f15 3 a0 0).bind fun x20 => ((zgR n f15 3 a0 0).bind fun x21 => ((zgI n f15 9 x21 7).bind fun x22 => ((zck n f15 9 x20).bind fun _ => ((fX9_failAt N n f15 x20 (3 : Int32) x22).bind fun f23 => (fX3_readLand_79 N n f23 a0 x9 x14)))))))))))))))))))))))))
set_option maxRecDepth 100000 in
set_option maxHeartbeats 4000000 in
theorem mX3_readLand (l : Launch) (G : zG) {N n : Nat} {f : zF} {f9 : zF} {a0 : Nat} (h : fX3_readLand N n f a0 = some f9) : zM l G yX3_readLand cX3_readLand 3 (none) 3 n f [zr G a0] (none) f9 := by
  refine zM.of (by decide) (Nat.le_of_ble_eq_true rfl) ?_
  intro p e s m args below meth c locs ls B hS hl
  have he := B.1
  have hb := B.2.1
  have hl : lv_has ls 3 [(0, zr G a0)] := hl
  unfold fX3_readLand at h
  generalize s.heap = H at hS ⊢
  refine z_aload_n he hb dX3_readLand_0 rfl (lv_at hl 0 rfl) (zref_r _ _) ?_
  refine lv_iconst (v := (1 : Int32)) he hb dX3_readLand_1 (by decide) ?_
  obtain ⟨f1, hx, h⟩ := zob h
  refine z_putZ (ci := 3) (T := TX3) (N := 6) (j := 5) B hS hx rfl zin_X3 tyX3 tyX3_ok nmX3 (by decide) zk_330 rfl rfl dX3_readLand_2 (fun H locs hS => ?_)
  refine z_aload_n he hb dX3_readLand_5 rfl (lv_at hl 0 rfl) (zref_r _ _) ?_
  obtain ⟨x2, hx, h⟩ := zob h
  refine z_getR (ci := 3) (T := TX3) (N := 6) (j := 0) B hS hx rfl zin_X3 (by decide) zk_323 dX3_readLand_6 ?_
  obtain ⟨_, hc, h⟩ := zob h
  obtain ⟨f3, hx, h⟩ := zob h
  refine z_callV (ci := 9) (T := TX9) (N := 12) (rest := []) B hS (mX9_advance l G hx) zy_X9_advance zk_624 (by decide) hc rfl rfl hl rfl (Nat.le_of_ble_eq_true rfl) dX3_readLand_9 (kk := (fun H locs hS => ?_))
  refine z_aload_n he hb dX3_readLand_12 rfl (lv_at hl 0 rfl) (zref_r _ _) ?_
  obtain ⟨x4, hx, h⟩ := zob h
  refine z_getR (ci := 3) (T := TX3) (N := 6) (j := 0) B hS hx rfl zin_X3 (by decide) zk_323 dX3_readLand_13 ?_
  refine z_aload_n he hb dX3_readLand_16 rfl (lv_at hl 0 rfl) (zref_r _ _) ?_
  obtain ⟨x5, hx, h⟩ := zob h
  refine z_getR (ci := 3) (T := TX3) (N := 6) (j := 1) B hS hx rfl zin_X3 (by decide) zk_324 dX3_readLand_17 ?_
  obtain ⟨x6, hx, h⟩ := zob h
  refine z_getR (ci := 2) (T := TX2) (N := 15) (j := 5) B hS hx rfl zin_X2 (by decide) zk_176 dX3_readLand_20 ?_
  refine z_aload_n he hb dX3_readLand_23 rfl (lv_at hl 0 rfl) (zref_r _ _) ?_
  obtain ⟨x7, hx, h⟩ := zob h
  refine z_getR (ci := 3) (T := TX3) (N := 6) (j := 1) B hS hx rfl zin_X3 (by decide) zk_324 dX3_readLand_24 ?_
  obtain ⟨x8, hx, h⟩ := zob h
  refine z_getI (ci := 2) (T := TX2) (N := 15) (j := 2) B hS hx rfl zin_X2 (by decide) zk_161 dX3_readLand_27 ?_
  obtain ⟨_, hc, h⟩ := zob h
  obtain ⟨f10, x9, hx, h⟩ := zbd_i h
  refine z_callV (ci := 9) (T := TX9) (N := 12) (rest := []) B hS (mX9_needNameOf l G hx) zy_X9_needNameOf zk_675 (by decide) hc rfl rfl hl rfl (Nat.le_of_ble_eq_true rfl) dX3_readLand_30 (kk := (fun H locs hS => ?_))
  refine lv_istore_n (lv' := [(1, _), (0, _)]) he hb dX3_readLand_33 rfl hl (by decide) rfl (fun ls hl => ?_)
  refine z_aload_n he hb dX3_readLand_34 rfl (lv_at hl 1 rfl) (zref_r _ _) ?_
  obtain ⟨x11, hx, h⟩ := zob h
  refine z_getR (ci := 3) (T := TX3) (N := 6) (j := 0) B hS hx rfl zin_X3 (by decide) zk_323 dX3_readLand_35 ?_
  refine lv_iconst (v := (0 : Int32)) he hb dX3_readLand_38 (by decide) ?_
  refine z_aload_n he hb dX3_readLand_39 rfl (lv_at hl 1 rfl) (zref_r _ _) ?_
  obtain ⟨x12, hx, h⟩ := zob h
  refine z_getR (ci := 3) (T := TX3) (N := 6) (j := 1) B hS hx rfl zin_X3 (by decide) zk_324 dX3_readLand_40 ?_
  obtain ⟨x13, hx, h⟩ := zob h
  refine z_getI (ci := 2) (T := TX2) (N := 15) (j := 1) B hS hx rfl zin_X2 (by decide) zk_156 dX3_readLand_43 ?_
  refine lv_iconst (v := (1 : Int32)) he hb dX3_readLand_46 (by decide) ?_
  refine lv_isub he hb dX3_readLand_47 ?_
  obtain ⟨_, hc, h⟩ := zob h
  obtain ⟨f15, x14, hx, h⟩ := zbd_i h
  refine z_callV (ci := 9) (T := TX9) (N := 12) (rest := []) B hS (mX9_needNumber l G hx) zy_X9_needNumber zk_625 (by decide) hc rfl rfl hl rfl (Nat.le_of_ble_eq_true rfl) dX3_readLand_48 (kk := (fun H locs hS => ?_))
  refine lv_istore_n (lv' := [(2, _), (1, _), (0, _)]) he hb dX3_readLand_51 rfl hl (by decide) rfl (fun ls hl => ?_)
  refine z_aload_n he hb dX3_readLand_52 rfl (lv_at hl 2 rfl) (zref_r _ _) ?_
  obtain ⟨x16, hx, h⟩ := zob h
  refine z_getR (ci := 3) (T := TX3) (N := 6) (j := 3) B hS hx rfl zin_X3 (by decide) zk_328 dX3_readLand_53 ?_
  refine lv_iload_n he hb dX3_readLand_56 rfl (lv_at hl 0 rfl) ?_
  obtain ⟨x17, hx, h⟩ := zob h
  refine z_callN (rest := []) B hS (mX11_at l G hx) zy_X11_at zkn_679 (by decide) rfl hl rfl (Nat.le_of_ble_eq_true rfl) dX3_readLand_57 (kk := (fun H locs hS => ?_))
  refine lv_iconst (v := (-1 : Int32)) he hb dX3_readLand_60 (by decide) ?_
  refine lv_icmp_eq (tgt := 79) he hb dX3_readLand_61 (by decide) (fun hc => ?_) (fun hc => ?_)
  · rw [if_pos hc] at h
    exact gX3_readLand_79 l B _ _ _ _ _ _ _ h hS (lv_sub hl [2, 1, 0] rfl)
  · rw [if_neg hc] at h
    refine z_aload_n he hb dX3_readLand_64 rfl (lv_at hl 2 rfl) (zref_r _ _) ?_
    obtain ⟨x20, hx, h⟩ := zob h
    refine z_getR (ci := 3) (T := TX3) (N := 6) (j := 0) B hS hx rfl zin_X3 (by decide) zk_323 dX3_readLand_65 ?_
    refine lv_iconst (v := (3 : Int32)) he hb dX3_readLand_68 (by decide) ?_
    refine z_aload_n he hb dX3_readLand_69 rfl (lv_at hl 2 rfl) (zref_r _ _) ?_
    obtain ⟨x21, hx, h⟩ := zob h
    refine z_getR (ci := 3) (T := TX3) (N := 6) (j := 0) B hS hx rfl zin_X3 (by decide) zk_323 dX3_readLand_70 ?_
    obtain ⟨x22, hx, h⟩ := zob h
    refine z_getI (ci := 9) (T := TX9) (N := 12) (j := 7) B hS hx rfl zin_X9 (by decide) zk_105 dX3_readLand_73 ?_
    obtain ⟨_, hc, h⟩ := zob h
    obtain ⟨f23, hx, h⟩ := zob h
    refine z_callV (ci := 9) (T := TX9) (N := 12) (rest := []) B hS (mX9_failAt l G hx) zy_X9_failAt zk_653 (by decide) hc rfl rfl hl rfl (Nat.le_of_ble_eq_true rfl) dX3_readLand_76 (kk := (fun H locs hS => ?_))
    exact gX3_readLand_79 l B _ _ _ _ _ _ _ h hS (lv_sub hl [2, 1, 0] rfl)
theorem dX3_readFigure_0 : decode cX3_readFigure 0 = .ok (.aload_n 0, 1) := by decide +kernel
theorem dX3_readFigure_1 : decode cX3_readFigure 1 = .ok (.getfield 12, 3) := by decide +kernel
theorem dX3_readFigure_4 : decode cX3_readFigure 4 = .ok (.getfield 166, 3) := by decide +kernel
theorem dX3_readFigure_7 : decode cX3_readFigure 7 = .ok (.istore_n 1, 1) := by decide +kernel
theorem dX3_readFigure_8 : decode cX3_readFigure 8 = .ok (.iload_n 1, 1) := by decide +kernel
theorem dX3_readFigure_9 : decode cX3_readFigure 9 = .ok (.bipush 6, 2) := by decide +kernel
theorem dX3_readFigure_11 : decode cX3_readFigure 11 = .ok (.if_icmp .lt 12, 3) := by decide +kernel
theorem dX3_readFigure_14 : decode cX3_readFigure 14 = .ok (.aload_n 0, 1) := by decide +kernel
theorem dX3_readFigure_15 : decode cX3_readFigure 15 = .ok (.getfield 31, 3) := by decide +kernel
theorem dX3_readFigure_18 : decode cX3_readFigure 18 = .ok (.iconst 4, 1) := by decide +kernel
theorem dX3_readFigure_19 : decode cX3_readFigure 19 = .ok (.invokevirtual 84, 3) := by decide +kernel
theorem dX3_readFigure_22 : decode cX3_readFigure 22 = .ok (.return_, 1) := by decide +kernel
theorem dX3_readFigure_23 : decode cX3_readFigure 23 = .ok (.aload_n 0, 1) := by decide +kernel
theorem dX3_readFigure_24 : decode cX3_readFigure 24 = .ok (.getfield 31, 3) := by decide +kernel
theorem dX3_readFigure_27 : decode cX3_readFigure 27 = .ok (.invokevirtual 97, 3) := by decide +kernel
theorem dX3_readFigure_30 : decode cX3_readFigure 30 = .ok (.aload_n 0, 1) := by decide +kernel
theorem dX3_readFigure_31 : decode cX3_readFigure 31 = .ok (.getfield 12, 3) := by decide +kernel
theorem dX3_readFigure_34 : decode cX3_readFigure 34 = .ok (.getfield 169, 3) := by decide +kernel
theorem dX3_readFigure_37 : decode cX3_readFigure 37 = .ok (.iload_n 1, 1) := by decide +kernel
theorem dX3_readFigure_38 : decode cX3_readFigure 38 = .ok (.aload_n 0, 1) := by decide +kernel
theorem dX3_readFigure_39 : decode cX3_readFigure 39 = .ok (.invokevirtual 150, 3) := by decide +kernel
theorem dX3_readFigure_42 : decode cX3_readFigure 42 = .ok (.invokestatic 154, 3) := by decide +kernel
theorem dX3_readFigure_45 : decode cX3_readFigure 45 = .ok (.aload_n 0, 1) := by decide +kernel
theorem dX3_readFigure_46 : decode cX3_readFigure 46 = .ok (.getfield 12, 3) := by decide +kernel
theorem dX3_readFigure_49 : decode cX3_readFigure 49 = .ok (.getfield 172, 3) := by decide +kernel
theorem dX3_readFigure_52 : decode cX3_readFigure 52 = .ok (.iload_n 1, 1) := by decide +kernel
theorem dX3_readFigure_53 : decode cX3_readFigure 53 = .ok (.aload_n 0, 1) := by decide +kernel
theorem dX3_readFigure_54 : decode cX3_readFigure 54 = .ok (.getfield 31, 3) := by decide +kernel
theorem dX3_readFigure_57 : decode cX3_readFigure 57 = .ok (.aload_n 0, 1) := by decide +kernel
theorem dX3_readFigure_58 : decode cX3_readFigure 58 = .ok (.getfield 12, 3) := by decide +kernel
theorem dX3_readFigure_61 : decode cX3_readFigure 61 = .ok (.getfield 146, 3) := by decide +kernel
theorem dX3_readFigure_64 : decode cX3_readFigure 64 = .ok (.aload_n 0, 1) := by decide +kernel
theorem dX3_readFigure_65 : decode cX3_readFigure 65 = .ok (.getfield 12, 3) := by decide +kernel
theorem dX3_readFigure_68 : decode cX3_readFigure 68 = .ok (.getfield 143, 3) := by decide +kernel
theorem dX3_readFigure_71 : decode cX3_readFigure 71 = .ok (.invokevirtual 158, 3) := by decide +kernel
theorem dX3_readFigure_74 : decode cX3_readFigure 74 = .ok (.invokestatic 117, 3) := by decide +kernel
theorem dX3_readFigure_77 : decode cX3_readFigure 77 = .ok (.aload_n 0, 1) := by decide +kernel
theorem dX3_readFigure_78 : decode cX3_readFigure 78 = .ok (.getfield 23, 3) := by decide +kernel
theorem dX3_readFigure_81 : decode cX3_readFigure 81 = .ok (.getfield 175, 3) := by decide +kernel
theorem dX3_readFigure_84 : decode cX3_readFigure 84 = .ok (.iload_n 1, 1) := by decide +kernel
theorem dX3_readFigure_85 : decode cX3_readFigure 85 = .ok (.aload_n 0, 1) := by decide +kernel
theorem dX3_readFigure_86 : decode cX3_readFigure 86 = .ok (.invokevirtual 113, 3) := by decide +kernel
theorem dX3_readFigure_89 : decode cX3_readFigure 89 = .ok (.invokestatic 117, 3) := by decide +kernel
theorem dX3_readFigure_92 : decode cX3_readFigure 92 = .ok (.aload_n 0, 1) := by decide +kernel
theorem dX3_readFigure_93 : decode cX3_readFigure 93 = .ok (.getfield 23, 3) := by decide +kernel
theorem dX3_readFigure_96 : decode cX3_readFigure 96 = .ok (.getfield 178, 3) := by decide +kernel
theorem dX3_readFigure_99 : decode cX3_readFigure 99 = .ok (.iload_n 1, 1) := by decide +kernel
theorem dX3_readFigure_100 : decode cX3_readFigure 100 = .ok (.aload_n 0, 1) := by decide +kernel
theorem dX3_readFigure_101 : decode cX3_readFigure 101 = .ok (.getfield 31, 3) := by decide +kernel
theorem dX3_readFigure_104 : decode cX3_readFigure 104 = .ok (.invokevirtual 181, 3) := by decide +kernel
theorem dX3_readFigure_107 : decode cX3_readFigure 107 = .ok (.invokestatic 117, 3) := by decide +kernel
theorem dX3_readFigure_110 : decode cX3_readFigure 110 = .ok (.aload_n 0, 1) := by decide +kernel
theorem dX3_readFigure_111 : decode cX3_readFigure 111 = .ok (.getfield 12, 3) := by decide +kernel
theorem dX3_readFigure_114 : decode cX3_readFigure 114 = .ok (.getfield 184, 3) := by decide +kernel
theorem dX3_readFigure_117 : decode cX3_readFigure 117 = .ok (.iload_n 1, 1) := by decide +kernel
theorem dX3_readFigure_118 : decode cX3_readFigure 118 = .ok (.aload_n 0, 1) := by decide +kernel
theorem dX3_readFigure_119 : decode cX3_readFigure 119 = .ok (.getfield 31, 3) := by decide +kernel
theorem dX3_readFigure_122 : decode cX3_readFigure 122 = .ok (.iconst 1, 1) := by decide +kernel
theorem dX3_readFigure_123 : decode cX3_readFigure 123 = .ok (.bipush 9, 2) := by decide +kernel
theorem dX3_readFigure_125 : decode cX3_readFigure 125 = .ok (.invokevirtual 100, 3) := by decide +kernel
theorem dX3_readFigure_128 : decode cX3_readFigure 128 = .ok (.invokestatic 117, 3) := by decide +kernel
theorem dX3_readFigure_131 : decode cX3_readFigure 131 = .ok (.aload_n 0, 1) := by decide +kernel
theorem dX3_readFigure_132 : decode cX3_readFigure 132 = .ok (.getfield 12, 3) := by decide +kernel
theorem dX3_readFigure_135 : decode cX3_readFigure 135 = .ok (.dup, 1) := by decide +kernel
theorem dX3_readFigure_136 : decode cX3_readFigure 136 = .ok (.getfield 166, 3) := by decide +kernel
theorem dX3_readFigure_139 : decode cX3_readFigure 139 = .ok (.iconst 1, 1) := by decide +kernel
theorem dX3_readFigure_140 : decode cX3_readFigure 140 = .ok (.iadd, 1) := by decide +kernel
theorem dX3_readFigure_141 : decode cX3_readFigure 141 = .ok (.putfield 166, 3) := by decide +kernel
theorem dX3_readFigure_144 : decode cX3_readFigure 144 = .ok (.return_, 1) := by decide +kernel
def fX3_readFigure (N n : Nat) (f : zF) (a0 : Nat) : Option zF :=
    ((zgR n f 3 a0 1).bind fun x1 => ((zgI n f 2 x1 3).bind fun x2 => (if x2 < (6 : Int32) then ((zgR n f 3 a0 0).bind fun x3 => ((zck n f 9 x3).bind fun _ => ((fX9_advance N n f x3).bind fun f4 => ((zgR n f4 3 a0 1).bind fun x5 => ((zgR n f4 2 x5 6).bind fun x6 => ((zck n f4 3 a0).bind fun _ => (zbd (fX3_readNewName N n f4 a0) fun f8 x7 => ((fX11_putName N n f8 x6 x2 x7).bind fun f9 => ((zgR n f9 3 a0 1).bind fun x10 => ((zgR n f9 2 x10 10).bind fun x11 => ((zgR n f9 3 a0 0).bind fun x12 => ((zgR n f9 3 a0 1).bind fun x13 => ((zgR n f9 2 x13 5).bind fun x14 => ((zgR n f9 3 a0 1).bind fun x15 => ((zgI n f9 2 x15 2).bind fun x16 => ((zck n f9 9 x12).bind fun _ => (zbd (fX9_needNameOf N n f9 x12 x14 x16) fun f18 x17 => ((fX11_put N n f18 x11 x2 x17).bind fun f19 => ((zgR n f19 3 a0 2).bind fun x20 => ((zgR n f19 8 x20 2).bind fun x21 => ((zck n f19 3 a0).bind fun _ => (zbd (fX3_readCell N n f19 a0) fun f23 x22 => ((fX11_put N n f23 x21 x2 x22).bind fun f24 => ((zgR n f24 3 a0 2).bind fun x25 => ((zgR n f24 8 x25 3).bind fun x26 => ((zgR n f24 3 a0 0).bind fun x27 => ((zck n f24 9 x27).bind fun _ => (zbd (fX9_needSide N n f24 x27) fun f29 x28 => ((fX11_put N n f29 x26 x2 x28).bind fun f30 => ((zgR n f30 3 a0 1).bind fun x31 => ((zgR n f30 2 x31 11).bind fun x32 => ((zgR n f30 3 a0 0).bind fun x33 => ((zck n f30 9 x33).bind fun _ => (zbd (fX9_needNumber N n f30 x33 (1 : Int32) (9 : Int32)) fun f35 x34 => ((fX11_put N n f35 x32 x2 x34).bind fun f36 => ((zgR n f36 3 a0 1).bind fun x37 => ((zgI n f36 2 x37 3).bind fun x38 => ((zpI n f36 2 x37 3 (x38 + (1 : Int32))).bind fun f39 => some f39)))))))))))))))))))))))))))))))))))))) else ((zgR n f 3 a0 0).bind fun x40 => ((zck n f 9 x40).bind fun _ => ((fX9_fail N n f x40 (4 : Int32)).bind fun f41 => some f41))))))
set_option maxRecDepth 100000 in
set_option maxHeartbeats 4000000 in
theorem mX3_readFigure (l : Launch) (G : zG) {N n : Nat} {f : zF} {f9 : zF} {a0 : Nat} (h : fX3_readFigure N n f a0 = some f9) : zM l G yX3_readFigure cX3_readFigure 2 (none) 4 n f [zr G a0] (none) f9 := by
  refine zM.of (by decide) (Nat.le_of_ble_eq_true rfl) ?_
  intro p e s m args below meth c locs ls B hS hl
  have he := B.1
  have hb := B.2.1
  have hl : lv_has ls 2 [(0, zr G a0)] := hl
  unfold fX3_readFigure at h
  generalize s.heap = H at hS ⊢
  refine z_aload_n he hb dX3_readFigure_0 rfl (lv_at hl 0 rfl) (zref_r _ _) ?_
  obtain ⟨x1, hx, h⟩ := zob h
  refine z_getR (ci := 3) (T := TX3) (N := 6) (j := 1) B hS hx rfl zin_X3 (by decide) zk_324 dX3_readFigure_1 ?_
  obtain ⟨x2, hx, h⟩ := zob h
  refine z_getI (ci := 2) (T := TX2) (N := 15) (j := 3) B hS hx rfl zin_X2 (by decide) zk_166 dX3_readFigure_4 ?_
  refine lv_istore_n (lv' := [(1, _), (0, _)]) he hb dX3_readFigure_7 rfl hl (by decide) rfl (fun ls hl => ?_)
  refine lv_iload_n he hb dX3_readFigure_8 rfl (lv_at hl 0 rfl) ?_
  refine lv_bipush (v := (6 : Int32)) he hb dX3_readFigure_9 (by decide) ?_
  refine lv_icmp_lt (tgt := 23) he hb dX3_readFigure_11 (by decide) (fun hc => ?_) (fun hc => ?_)
  · rw [if_pos hc] at h
    refine z_aload_n he hb dX3_readFigure_23 rfl (lv_at hl 1 rfl) (zref_r _ _) ?_
    obtain ⟨x3, hx, h⟩ := zob h
    refine z_getR (ci := 3) (T := TX3) (N := 6) (j := 0) B hS hx rfl zin_X3 (by decide) zk_323 dX3_readFigure_24 ?_
    obtain ⟨_, hc, h⟩ := zob h
    obtain ⟨f4, hx, h⟩ := zob h
    refine z_callV (ci := 9) (T := TX9) (N := 12) (rest := []) B hS (mX9_advance l G hx) zy_X9_advance zk_624 (by decide) hc rfl rfl hl rfl (Nat.le_of_ble_eq_true rfl) dX3_readFigure_27 (kk := (fun H locs hS => ?_))
    refine z_aload_n he hb dX3_readFigure_30 rfl (lv_at hl 1 rfl) (zref_r _ _) ?_
    obtain ⟨x5, hx, h⟩ := zob h
    refine z_getR (ci := 3) (T := TX3) (N := 6) (j := 1) B hS hx rfl zin_X3 (by decide) zk_324 dX3_readFigure_31 ?_
    obtain ⟨x6, hx, h⟩ := zob h
    refine z_getR (ci := 2) (T := TX2) (N := 15) (j := 6) B hS hx rfl zin_X2 (by decide) zk_179 dX3_readFigure_34 ?_
    refine lv_iload_n he hb dX3_readFigure_37 rfl (lv_at hl 0 rfl) ?_
    refine z_aload_n he hb dX3_readFigure_38 rfl (lv_at hl 1 rfl) (zref_r _ _) ?_
    obtain ⟨_, hc, h⟩ := zob h
    obtain ⟨f8, x7, hx, h⟩ := zbd_i h
    refine z_callV (ci := 3) (T := TX3) (N := 6) (rest := [_, _]) B hS (mX3_readNewName l G hx) zy_X3_readNewName zk_661 (by decide) hc rfl rfl hl rfl (Nat.le_of_ble_eq_true rfl) dX3_readFigure_39 (kk := (fun H locs hS => ?_))
    obtain ⟨f9, hx, h⟩ := zob h
    refine z_callN (rest := []) B hS (mX11_putName l G hx) zy_X11_putName zkn_670 (by decide) rfl hl rfl (Nat.le_of_ble_eq_true rfl) dX3_readFigure_42 (kk := (fun H locs hS => ?_))
    refine z_aload_n he hb dX3_readFigure_45 rfl (lv_at hl 1 rfl) (zref_r _ _) ?_
    obtain ⟨x10, hx, h⟩ := zob h
    refine z_getR (ci := 3) (T := TX3) (N := 6) (j := 1) B hS hx rfl zin_X3 (by decide) zk_324 dX3_readFigure_46 ?_
    obtain ⟨x11, hx, h⟩ := zob h
    refine z_getR (ci := 2) (T := TX2) (N := 15) (j := 10) B hS hx rfl zin_X2 (by decide) zk_195 dX3_readFigure_49 ?_
    refine lv_iload_n he hb dX3_readFigure_52 rfl (lv_at hl 0 rfl) ?_
    refine z_aload_n he hb dX3_readFigure_53 rfl (lv_at hl 1 rfl) (zref_r _ _) ?_
    obtain ⟨x12, hx, h⟩ := zob h
    refine z_getR (ci := 3) (T := TX3) (N := 6) (j := 0) B hS hx rfl zin_X3 (by decide) zk_323 dX3_readFigure_54 ?_
    refine z_aload_n he hb dX3_readFigure_57 rfl (lv_at hl 1 rfl) (zref_r _ _) ?_
    obtain ⟨x13, hx, h⟩ := zob h
    refine z_getR (ci := 3) (T := TX3) (N := 6) (j := 1) B hS hx rfl zin_X3 (by decide) zk_324 dX3_readFigure_58 ?_
    obtain ⟨x14, hx, h⟩ := zob h
    refine z_getR (ci := 2) (T := TX2) (N := 15) (j := 5) B hS hx rfl zin_X2 (by decide) zk_176 dX3_readFigure_61 ?_
    refine z_aload_n he hb dX3_readFigure_64 rfl (lv_at hl 1 rfl) (zref_r _ _) ?_
    obtain ⟨x15, hx, h⟩ := zob h
    refine z_getR (ci := 3) (T := TX3) (N := 6) (j := 1) B hS hx rfl zin_X3 (by decide) zk_324 dX3_readFigure_65 ?_
    obtain ⟨x16, hx, h⟩ := zob h
    refine z_getI (ci := 2) (T := TX2) (N := 15) (j := 2) B hS hx rfl zin_X2 (by decide) zk_161 dX3_readFigure_68 ?_
    obtain ⟨_, hc, h⟩ := zob h
    obtain ⟨f18, x17, hx, h⟩ := zbd_i h
    refine z_callV (ci := 9) (T := TX9) (N := 12) (rest := [_, _]) B hS (mX9_needNameOf l G hx) zy_X9_needNameOf zk_675 (by decide) hc rfl rfl hl rfl (Nat.le_of_ble_eq_true rfl) dX3_readFigure_71 (kk := (fun H locs hS => ?_))
    obtain ⟨f19, hx, h⟩ := zob h
    refine z_callN (rest := []) B hS (mX11_put l G hx) zy_X11_put zkn_654 (by decide) rfl hl rfl (Nat.le_of_ble_eq_true rfl) dX3_readFigure_74 (kk := (fun H locs hS => ?_))
    refine z_aload_n he hb dX3_readFigure_77 rfl (lv_at hl 1 rfl) (zref_r _ _) ?_
    obtain ⟨x20, hx, h⟩ := zob h
    refine z_getR (ci := 3) (T := TX3) (N := 6) (j := 2) B hS hx rfl zin_X3 (by decide) zk_326 dX3_readFigure_78 ?_
    obtain ⟨x21, hx, h⟩ := zob h
    refine z_getR (ci := 8) (T := TX8) (N := 9) (j := 2) B hS hx rfl zin_X8 (by decide) zk_257 dX3_readFigure_81 ?_
    refine lv_iload_n he hb dX3_readFigure_84 rfl (lv_at hl 0 rfl) ?_
    refine z_aload_n he hb dX3_readFigure_85 rfl (lv_at hl 1 rfl) (zref_r _ _) ?_
    obtain ⟨_, hc, h⟩ := zob h
    obtain ⟨f23, x22, hx, h⟩ := zbd_i h
    refine z_callV (ci := 3) (T := TX3) (N := 6) (rest := [_, _]) B hS (mX3_readCell l G hx) zy_X3_readCell zk_633 (by decide) hc rfl rfl hl rfl (Nat.le_of_ble_eq_true rfl) dX3_readFigure_86 (kk := (fun H locs hS => ?_))
    obtain ⟨f24, hx, h⟩ := zob h
    refine z_callN (rest := []) B hS (mX11_put l G hx) zy_X11_put zkn_654 (by decide) rfl hl rfl (Nat.le_of_ble_eq_true rfl) dX3_readFigure_89 (kk := (fun H locs hS => ?_))
    refine z_aload_n he hb dX3_readFigure_92 rfl (lv_at hl 1 rfl) (zref_r _ _) ?_
    obtain ⟨x25, hx, h⟩ := zob h
    refine z_getR (ci := 3) (T := TX3) (N := 6) (j := 2) B hS hx rfl zin_X3 (by decide) zk_326 dX3_readFigure_93 ?_
    obtain ⟨x26, hx, h⟩ := zob h
    refine z_getR (ci := 8) (T := TX8) (N := 9) (j := 3) B hS hx rfl zin_X8 (by decide) zk_260 dX3_readFigure_96 ?_
    refine lv_iload_n he hb dX3_readFigure_99 rfl (lv_at hl 0 rfl) ?_
    refine z_aload_n he hb dX3_readFigure_100 rfl (lv_at hl 1 rfl) (zref_r _ _) ?_
    obtain ⟨x27, hx, h⟩ := zob h
    refine z_getR (ci := 3) (T := TX3) (N := 6) (j := 0) B hS hx rfl zin_X3 (by decide) zk_323 dX3_readFigure_101 ?_
    obtain ⟨_, hc, h⟩ := zob h
    obtain ⟨f29, x28, hx, h⟩ := zbd_i h
    refine z_callV (ci := 9) (T := TX9) (N := 12) (rest := [_, _]) B hS (mX9_needSide l G hx) zy_X9_needSide zk_686 (by decide) hc rfl rfl hl rfl (Nat.le_of_ble_eq_true rfl) dX3_readFigure_104 (kk := (fun H locs hS => ?_))
    obtain ⟨f30, hx, h⟩ := zob h
    refine z_callN (rest := []) B hS (mX11_put l G hx) zy_X11_put zkn_654 (by decide) rfl hl rfl (Nat.le_of_ble_eq_true rfl) dX3_readFigure_107 (kk := (fun H locs hS => ?_))
    refine z_aload_n he hb dX3_readFigure_110 rfl (lv_at hl 1 rfl) (zref_r _ _) ?_
    obtain ⟨x31, hx, h⟩ := zob h
    refine z_getR (ci := 3) (T := TX3) (N := 6) (j := 1) B hS hx rfl zin_X3 (by decide) zk_324 dX3_readFigure_111 ?_
    obtain ⟨x32, hx, h⟩ := zob h
    refine z_getR (ci := 2) (T := TX2) (N := 15) (j := 11) B hS hx rfl zin_X2 (by decide) zk_199 dX3_readFigure_114 ?_
    refine lv_iload_n he hb dX3_readFigure_117 rfl (lv_at hl 0 rfl) ?_
    refine z_aload_n he hb dX3_readFigure_118 rfl (lv_at hl 1 rfl) (zref_r _ _) ?_
    obtain ⟨x33, hx, h⟩ := zob h
    refine z_getR (ci := 3) (T := TX3) (N := 6) (j := 0) B hS hx rfl zin_X3 (by decide) zk_323 dX3_readFigure_119 ?_
    refine lv_iconst (v := (1 : Int32)) he hb dX3_readFigure_122 (by decide) ?_
    refine lv_bipush (v := (9 : Int32)) he hb dX3_readFigure_123 (by decide) ?_
    obtain ⟨_, hc, h⟩ := zob h
    obtain ⟨f35, x34, hx, h⟩ := zbd_i h
    refine z_callV (ci := 9) (T := TX9) (N := 12) (rest := [_, _]) B hS (mX9_needNumber l G hx) zy_X9_needNumber zk_625 (by decide) hc rfl rfl hl rfl (Nat.le_of_ble_eq_true rfl) dX3_readFigure_125 (kk := (fun H locs hS => ?_))
    obtain ⟨f36, hx, h⟩ := zob h
    refine z_callN (rest := []) B hS (mX11_put l G hx) zy_X11_put zkn_654 (by decide) rfl hl rfl (Nat.le_of_ble_eq_true rfl) dX3_readFigure_128 (kk := (fun H locs hS => ?_))
    refine z_aload_n he hb dX3_readFigure_131 rfl (lv_at hl 1 rfl) (zref_r _ _) ?_
    obtain ⟨x37, hx, h⟩ := zob h
    refine z_getR (ci := 3) (T := TX3) (N := 6) (j := 1) B hS hx rfl zin_X3 (by decide) zk_324 dX3_readFigure_132 ?_
    refine lv_dup he hb dX3_readFigure_135 rfl ?_
    obtain ⟨x38, hx, h⟩ := zob h
    refine z_getI (ci := 2) (T := TX2) (N := 15) (j := 3) B hS hx rfl zin_X2 (by decide) zk_166 dX3_readFigure_136 ?_
    refine lv_iconst (v := (1 : Int32)) he hb dX3_readFigure_139 (by decide) ?_
    refine lv_iadd he hb dX3_readFigure_140 ?_
    obtain ⟨f39, hx, h⟩ := zob h
    refine z_putI (ci := 2) (T := TX2) (N := 15) (j := 3) B hS hx rfl zin_X2 tyX2 tyX2_ok nmX2 (by decide) zk_166 rfl rfl dX3_readFigure_141 (fun H locs hS => ?_)
    obtain rfl := Option.some.inj h
    exact z_vret B hS dX3_readFigure_144
  · rw [if_neg hc] at h
    refine z_aload_n he hb dX3_readFigure_14 rfl (lv_at hl 1 rfl) (zref_r _ _) ?_
    obtain ⟨x40, hx, h⟩ := zob h
    refine z_getR (ci := 3) (T := TX3) (N := 6) (j := 0) B hS hx rfl zin_X3 (by decide) zk_323 dX3_readFigure_15 ?_
    refine lv_iconst (v := (4 : Int32)) he hb dX3_readFigure_18 (by decide) ?_
    obtain ⟨_, hc, h⟩ := zob h
    obtain ⟨f41, hx, h⟩ := zob h
    refine z_callV (ci := 9) (T := TX9) (N := 12) (rest := []) B hS (mX9_fail l G hx) zy_X9_fail zk_623 (by decide) hc rfl rfl hl rfl (Nat.le_of_ble_eq_true rfl) dX3_readFigure_19 (kk := (fun H locs hS => ?_))
    obtain rfl := Option.some.inj h
    exact z_vret B hS dX3_readFigure_22
theorem dX3_readLooker_0 : decode cX3_readLooker 0 = .ok (.aload_n 0, 1) := by decide +kernel
theorem dX3_readLooker_1 : decode cX3_readLooker 1 = .ok (.getfield 12, 3) := by decide +kernel
theorem dX3_readLooker_4 : decode cX3_readLooker 4 = .ok (.getfield 187, 3) := by decide +kernel
theorem dX3_readLooker_7 : decode cX3_readLooker 7 = .ok (.istore_n 1, 1) := by decide +kernel
theorem dX3_readLooker_8 : decode cX3_readLooker 8 = .ok (.iload_n 1, 1) := by decide +kernel
theorem dX3_readLooker_9 : decode cX3_readLooker 9 = .ok (.iconst 5, 1) := by decide +kernel
theorem dX3_readLooker_10 : decode cX3_readLooker 10 = .ok (.if_icmp .lt 12, 3) := by decide +kernel
theorem dX3_readLooker_13 : decode cX3_readLooker 13 = .ok (.aload_n 0, 1) := by decide +kernel
theorem dX3_readLooker_14 : decode cX3_readLooker 14 = .ok (.getfield 31, 3) := by decide +kernel
theorem dX3_readLooker_17 : decode cX3_readLooker 17 = .ok (.iconst 4, 1) := by decide +kernel
theorem dX3_readLooker_18 : decode cX3_readLooker 18 = .ok (.invokevirtual 84, 3) := by decide +kernel
theorem dX3_readLooker_21 : decode cX3_readLooker 21 = .ok (.return_, 1) := by decide +kernel
theorem dX3_readLooker_22 : decode cX3_readLooker 22 = .ok (.aload_n 0, 1) := by decide +kernel
theorem dX3_readLooker_23 : decode cX3_readLooker 23 = .ok (.getfield 31, 3) := by decide +kernel
theorem dX3_readLooker_26 : decode cX3_readLooker 26 = .ok (.invokevirtual 97, 3) := by decide +kernel
theorem dX3_readLooker_29 : decode cX3_readLooker 29 = .ok (.aload_n 0, 1) := by decide +kernel
theorem dX3_readLooker_30 : decode cX3_readLooker 30 = .ok (.getfield 12, 3) := by decide +kernel
theorem dX3_readLooker_33 : decode cX3_readLooker 33 = .ok (.getfield 190, 3) := by decide +kernel
theorem dX3_readLooker_36 : decode cX3_readLooker 36 = .ok (.iload_n 1, 1) := by decide +kernel
theorem dX3_readLooker_37 : decode cX3_readLooker 37 = .ok (.aload_n 0, 1) := by decide +kernel
theorem dX3_readLooker_38 : decode cX3_readLooker 38 = .ok (.invokevirtual 150, 3) := by decide +kernel
theorem dX3_readLooker_41 : decode cX3_readLooker 41 = .ok (.invokestatic 154, 3) := by decide +kernel
theorem dX3_readLooker_44 : decode cX3_readLooker 44 = .ok (.aload_n 0, 1) := by decide +kernel
theorem dX3_readLooker_45 : decode cX3_readLooker 45 = .ok (.getfield 23, 3) := by decide +kernel
theorem dX3_readLooker_48 : decode cX3_readLooker 48 = .ok (.getfield 193, 3) := by decide +kernel
theorem dX3_readLooker_51 : decode cX3_readLooker 51 = .ok (.iload_n 1, 1) := by decide +kernel
theorem dX3_readLooker_52 : decode cX3_readLooker 52 = .ok (.aload_n 0, 1) := by decide +kernel
theorem dX3_readLooker_53 : decode cX3_readLooker 53 = .ok (.invokevirtual 113, 3) := by decide +kernel
theorem dX3_readLooker_56 : decode cX3_readLooker 56 = .ok (.invokestatic 117, 3) := by decide +kernel
theorem dX3_readLooker_59 : decode cX3_readLooker 59 = .ok (.aload_n 0, 1) := by decide +kernel
theorem dX3_readLooker_60 : decode cX3_readLooker 60 = .ok (.getfield 23, 3) := by decide +kernel
theorem dX3_readLooker_63 : decode cX3_readLooker 63 = .ok (.getfield 196, 3) := by decide +kernel
theorem dX3_readLooker_66 : decode cX3_readLooker 66 = .ok (.iload_n 1, 1) := by decide +kernel
theorem dX3_readLooker_67 : decode cX3_readLooker 67 = .ok (.aload_n 0, 1) := by decide +kernel
theorem dX3_readLooker_68 : decode cX3_readLooker 68 = .ok (.getfield 31, 3) := by decide +kernel
theorem dX3_readLooker_71 : decode cX3_readLooker 71 = .ok (.invokevirtual 181, 3) := by decide +kernel
theorem dX3_readLooker_74 : decode cX3_readLooker 74 = .ok (.invokestatic 117, 3) := by decide +kernel
theorem dX3_readLooker_77 : decode cX3_readLooker 77 = .ok (.aload_n 0, 1) := by decide +kernel
theorem dX3_readLooker_78 : decode cX3_readLooker 78 = .ok (.getfield 31, 3) := by decide +kernel
theorem dX3_readLooker_81 : decode cX3_readLooker 81 = .ok (.getfield 59, 3) := by decide +kernel
theorem dX3_readLooker_84 : decode cX3_readLooker 84 = .ok (.iconst 4, 1) := by decide +kernel
theorem dX3_readLooker_85 : decode cX3_readLooker 85 = .ok (.if_icmp .ne 7, 3) := by decide +kernel
theorem dX3_readLooker_88 : decode cX3_readLooker 88 = .ok (.iconst 1, 1) := by decide +kernel
theorem dX3_readLooker_89 : decode cX3_readLooker 89 = .ok (.goto 4, 3) := by decide +kernel
theorem dX3_readLooker_92 : decode cX3_readLooker 92 = .ok (.iconst 0, 1) := by decide +kernel
theorem dX3_readLooker_93 : decode cX3_readLooker 93 = .ok (.istore_n 2, 1) := by decide +kernel
theorem dX3_readLooker_94 : decode cX3_readLooker 94 = .ok (.aload_n 0, 1) := by decide +kernel
theorem dX3_readLooker_95 : decode cX3_readLooker 95 = .ok (.getfield 12, 3) := by decide +kernel
theorem dX3_readLooker_98 : decode cX3_readLooker 98 = .ok (.getfield 199, 3) := by decide +kernel
theorem dX3_readLooker_101 : decode cX3_readLooker 101 = .ok (.iload_n 1, 1) := by decide +kernel
theorem dX3_readLooker_102 : decode cX3_readLooker 102 = .ok (.iload_n 2, 1) := by decide +kernel
theorem dX3_readLooker_103 : decode cX3_readLooker 103 = .ok (.ifCond .eq 16, 3) := by decide +kernel
theorem dX3_readLooker_106 : decode cX3_readLooker 106 = .ok (.aload_n 0, 1) := by decide +kernel
theorem dX3_readLooker_107 : decode cX3_readLooker 107 = .ok (.getfield 31, 3) := by decide +kernel
theorem dX3_readLooker_110 : decode cX3_readLooker 110 = .ok (.iconst 0, 1) := by decide +kernel
theorem dX3_readLooker_111 : decode cX3_readLooker 111 = .ok (.bipush 23, 2) := by decide +kernel
theorem dX3_readLooker_113 : decode cX3_readLooker 113 = .ok (.invokevirtual 100, 3) := by decide +kernel
theorem dX3_readLooker_116 : decode cX3_readLooker 116 = .ok (.goto 4, 3) := by decide +kernel
theorem dX3_readLooker_119 : decode cX3_readLooker 119 = .ok (.iconst 0, 1) := by decide +kernel
theorem dX3_readLooker_120 : decode cX3_readLooker 120 = .ok (.invokestatic 117, 3) := by decide +kernel
theorem dX3_readLooker_123 : decode cX3_readLooker 123 = .ok (.aload_n 0, 1) := by decide +kernel
theorem dX3_readLooker_124 : decode cX3_readLooker 124 = .ok (.getfield 12, 3) := by decide +kernel
theorem dX3_readLooker_127 : decode cX3_readLooker 127 = .ok (.getfield 202, 3) := by decide +kernel
theorem dX3_readLooker_130 : decode cX3_readLooker 130 = .ok (.iload_n 1, 1) := by decide +kernel
theorem dX3_readLooker_131 : decode cX3_readLooker 131 = .ok (.iload_n 2, 1) := by decide +kernel
theorem dX3_readLooker_132 : decode cX3_readLooker 132 = .ok (.ifCond .eq 16, 3) := by decide +kernel
theorem dX3_readLooker_135 : decode cX3_readLooker 135 = .ok (.aload_n 0, 1) := by decide +kernel
theorem dX3_readLooker_136 : decode cX3_readLooker 136 = .ok (.getfield 31, 3) := by decide +kernel
theorem dX3_readLooker_139 : decode cX3_readLooker 139 = .ok (.iconst 1, 1) := by decide +kernel
theorem dX3_readLooker_140 : decode cX3_readLooker 140 = .ok (.bipush 24, 2) := by decide +kernel
theorem dX3_readLooker_142 : decode cX3_readLooker 142 = .ok (.invokevirtual 100, 3) := by decide +kernel
theorem dX3_readLooker_145 : decode cX3_readLooker 145 = .ok (.goto 5, 3) := by decide +kernel
theorem dX3_readLooker_148 : decode cX3_readLooker 148 = .ok (.bipush 24, 2) := by decide +kernel
theorem dX3_readLooker_150 : decode cX3_readLooker 150 = .ok (.invokestatic 117, 3) := by decide +kernel
theorem dX3_readLooker_153 : decode cX3_readLooker 153 = .ok (.aload_n 0, 1) := by decide +kernel
theorem dX3_readLooker_154 : decode cX3_readLooker 154 = .ok (.getfield 12, 3) := by decide +kernel
theorem dX3_readLooker_157 : decode cX3_readLooker 157 = .ok (.dup, 1) := by decide +kernel
theorem dX3_readLooker_158 : decode cX3_readLooker 158 = .ok (.getfield 187, 3) := by decide +kernel
theorem dX3_readLooker_161 : decode cX3_readLooker 161 = .ok (.iconst 1, 1) := by decide +kernel
theorem dX3_readLooker_162 : decode cX3_readLooker 162 = .ok (.iadd, 1) := by decide +kernel
theorem dX3_readLooker_163 : decode cX3_readLooker 163 = .ok (.putfield 187, 3) := by decide +kernel
theorem dX3_readLooker_166 : decode cX3_readLooker 166 = .ok (.return_, 1) := by decide +kernel
def fX3_readLooker_150 (N n : Nat) (f : zF) (a0 : Nat) (t0 : Nat) (t1 : Int32) (t2 : Int32) : Option zF :=
    ((fX11_put N n f t0 t1 t2).bind fun f28 => ((zgR n f28 3 a0 1).bind fun x29 => ((zgI n f28 2 x29 4).bind fun x30 => ((zpI n f28 2 x29 4 (x30 + (1 : Int32))).bind fun f31 => some f31))))
set_option maxRecDepth 100000 in
set_option maxHeartbeats 4000000 in
theorem gX3_readLooker_150 (l : Launch) {G : zG} {p : Program} {e : Env} {s : State} {m : MethodId} {args : Array Value} {below : List Frame} {meth : Method} {c : Code} {N n : Nat} {f9 : zF} (B : zB G p s m args meth c RX3 cX3_readLooker 3 (none)) : ∀ (f : zF) (a0 : Nat) (t0 : Nat) (t1 : Int32) (t2 : Int32) (H : Heap) (locs : List Loc) (ls : Array Slot), fX3_readLooker_150 N n f a0 t0 t1 t2 = some f9 → zS G n f H locs → lv_has ls 3 [(0, zr G a0)] → W p l e (zrm 4) s m args below meth c H locs 0 0 (MQ below (zQc G n f9 (none)) args s 0 0 (zA G)) (F0 m 150 ls [.int t2, .int t1, zr G t0]) := by
  have he := B.1
  have hb := B.2.1
  intro f a0 t0 t1 t2 H locs ls h hS hl
  unfold fX3_readLooker_150 at h
  obtain ⟨f28, hx, h⟩ := zob h
  refine z_callN (rest := []) B hS (mX11_put l G hx) zy_X11_put zkn_654 (by decide) rfl hl rfl (Nat.le_of_ble_eq_true rfl) dX3_readLooker_150 (kk := (fun H locs hS => ?_))
  refine z_aload_n he hb dX3_readLooker_153 rfl (lv_at hl 0 rfl) (zref_r _ _) ?_
  obtain ⟨x29, hx, h⟩ := zob h
  refine z_getR (ci := 3) (T := TX3) (N := 6) (j := 1) B hS hx rfl zin_X3 (by decide) zk_324 dX3_readLooker_154 ?_
  refine lv_dup he hb dX3_readLooker_157 rfl ?_
  obtain ⟨x30, hx, h⟩ := zob h
  refine z_getI (ci := 2) (T := TX2) (N := 15) (j := 4) B hS hx rfl zin_X2 (by decide) zk_172 dX3_readLooker_158 ?_
  refine lv_iconst (v := (1 : Int32)) he hb dX3_readLooker_161 (by decide) ?_
  refine lv_iadd he hb dX3_readLooker_162 ?_
  obtain ⟨f31, hx, h⟩ := zob h
  refine z_putI (ci := 2) (T := TX2) (N := 15) (j := 4) B hS hx rfl zin_X2 tyX2 tyX2_ok nmX2 (by decide) zk_172 rfl rfl dX3_readLooker_163 (fun H locs hS => ?_)
  obtain rfl := Option.some.inj h
  exact z_vret B hS dX3_readLooker_166
def fX3_readLooker_120 (N n : Nat) (f : zF) (a0 : Nat) (a1 : Int32) (a2 : Int32) (t0 : Nat) (t1 : Int32) (t2 : Int32) : Option zF :=
    ((fX11_put N n f t0 t1 t2).bind fun f25 => ((zgR n f25 3 a0 1).bind fun x26 => ((zgR n f25 2 x26 14).bind fun x27 => (if a2 = 0 then (fX3_readLooker_150 N n f25 a0 x27 a1 (24 : Int32)) else ((zgR n f25 3 a0 0).bind fun x32 => ((zck n f25 9 x32).bind fun _ => (zbd (fX9_needNumber N n f25 x32 (1 : Int32) (24 : Int32)) fun f34 x33 => (fX3_readLooker_150 N n f34 a0 x27 a1 x33))))))))
set_option maxRecDepth 100000 in
set_option maxHeartbeats 4000000 in
theorem gX3_readLooker_120 (l : Launch) {G : zG} {p : Program} {e : Env} {s : State} {m : MethodId} {args : Array Value} {below : List Frame} {meth : Method} {c : Code} {N n : Nat} {f9 : zF} (B : zB G p s m args meth c RX3 cX3_readLooker 3 (none)) : ∀ (f : zF) (a0 : Nat) (a1 : Int32) (a2 : Int32) (t0 : Nat) (t1 : Int32) (t2 : Int32) (H : Heap) (locs : List Loc) (ls : Array Slot), fX3_readLooker_120 N n f a0 a1 a2 t0 t1 t2 = some f9 → zS G n f H locs → lv_has ls 3 [(0, zr G a0), (1, .int a1), (2, .int a2)] → W p l e (zrm 4) s m args below meth c H locs 0 0 (MQ below (zQc G n f9 (none)) args s 0 0 (zA G)) (F0 m 120 ls [.int t2, .int t1, zr G t0]) := by
  have he := B.1
  have hb := B.2.1
  intro f a0 a1 a2 t0 t1 t2 H locs ls h hS hl
  unfold fX3_readLooker_120 at h
  obtain ⟨f25, hx, h⟩ := zob h
  refine z_callN (rest := []) B hS (mX11_put l G hx) zy_X11_put zkn_654 (by decide) rfl hl rfl (Nat.le_of_ble_eq_true rfl) dX3_readLooker_120 (kk := (fun H locs hS => ?_))
  refine z_aload_n he hb dX3_readLooker_123 rfl (lv_at hl 0 rfl) (zref_r _ _) ?_
  obtain ⟨x26, hx, h⟩ := zob h
  refine z_getR (ci := 3) (T := TX3) (N := 6) (j := 1) B hS hx rfl zin_X3 (by decide) zk_324 dX3_readLooker_124 ?_
  obtain ⟨x27, hx, h⟩ := zob h
  refine z_getR (ci := 2) (T := TX2) (N := 15) (j := 14) B hS hx rfl zin_X2 (by decide) zk_209 dX3_readLooker_127 ?_
  refine lv_iload_n he hb dX3_readLooker_130 rfl (lv_at hl 1 rfl) ?_
  refine lv_iload_n he hb dX3_readLooker_131 rfl (lv_at hl 2 rfl) ?_
  refine lv_if_eq (tgt := 148) he hb dX3_readLooker_132 (by decide) (fun hc => ?_) (fun hc => ?_)
  · rw [if_pos hc] at h
    refine lv_bipush (v := (24 : Int32)) he hb dX3_readLooker_148 (by decide) ?_
    exact gX3_readLooker_150 l B _ _ _ _ _ _ _ _ h hS (lv_sub hl [0] rfl)
  · rw [if_neg hc] at h
    refine z_aload_n he hb dX3_readLooker_135 rfl (lv_at hl 0 rfl) (zref_r _ _) ?_
    obtain ⟨x32, hx, h⟩ := zob h
    refine z_getR (ci := 3) (T := TX3) (N := 6) (j := 0) B hS hx rfl zin_X3 (by decide) zk_323 dX3_readLooker_136 ?_
    refine lv_iconst (v := (1 : Int32)) he hb dX3_readLooker_139 (by decide) ?_
    refine lv_bipush (v := (24 : Int32)) he hb dX3_readLooker_140 (by decide) ?_
    obtain ⟨_, hc, h⟩ := zob h
    obtain ⟨f34, x33, hx, h⟩ := zbd_i h
    refine z_callV (ci := 9) (T := TX9) (N := 12) (rest := [_, _]) B hS (mX9_needNumber l G hx) zy_X9_needNumber zk_625 (by decide) hc rfl rfl hl rfl (Nat.le_of_ble_eq_true rfl) dX3_readLooker_142 (kk := (fun H locs hS => ?_))
    refine lv_goto (tgt := 150) he hb dX3_readLooker_145 (by decide) ?_
    exact gX3_readLooker_150 l B _ _ _ _ _ _ _ _ h hS (lv_sub hl [0] rfl)
def fX3_readLooker_93 (N n : Nat) (f : zF) (a0 : Nat) (a1 : Int32) (t0 : Int32) : Option zF :=
    ((zgR n f 3 a0 1).bind fun x23 => ((zgR n f 2 x23 13).bind fun x24 => (if t0 = 0 then (fX3_readLooker_120 N n f a0 a1 t0 x24 a1 (0 : Int32)) else ((zgR n f 3 a0 0).bind fun x35 => ((zck n f 9 x35).bind fun _ => (zbd (fX9_needNumber N n f x35 (0 : Int32) (23 : Int32)) fun f37 x36 => (fX3_readLooker_120 N n f37 a0 a1 t0 x24 a1 x36)))))))
set_option maxRecDepth 100000 in
set_option maxHeartbeats 4000000 in
theorem gX3_readLooker_93 (l : Launch) {G : zG} {p : Program} {e : Env} {s : State} {m : MethodId} {args : Array Value} {below : List Frame} {meth : Method} {c : Code} {N n : Nat} {f9 : zF} (B : zB G p s m args meth c RX3 cX3_readLooker 3 (none)) : ∀ (f : zF) (a0 : Nat) (a1 : Int32) (t0 : Int32) (H : Heap) (locs : List Loc) (ls : Array Slot), fX3_readLooker_93 N n f a0 a1 t0 = some f9 → zS G n f H locs → lv_has ls 3 [(0, zr G a0), (1, .int a1)] → W p l e (zrm 4) s m args below meth c H locs 0 0 (MQ below (zQc G n f9 (none)) args s 0 0 (zA G)) (F0 m 93 ls [.int t0]) := by
  have he := B.1
  have hb := B.2.1
  intro f a0 a1 t0 H locs ls h hS hl
  unfold fX3_readLooker_93 at h
  refine lv_istore_n (lv' := [(2, _), (0, _), (1, _)]) he hb dX3_readLooker_93 rfl hl (by decide) rfl (fun ls hl => ?_)
  refine z_aload_n he hb dX3_readLooker_94 rfl (lv_at hl 1 rfl) (zref_r _ _) ?_
  obtain ⟨x23, hx, h⟩ := zob h
  refine z_getR (ci := 3) (T := TX3) (N := 6) (j := 1) B hS hx rfl zin_X3 (by decide) zk_324 dX3_readLooker_95 ?_
  obtain ⟨x24, hx, h⟩ := zob h
  refine z_getR (ci := 2) (T := TX2) (N := 15) (j := 13) B hS hx rfl zin_X2 (by decide) zk_206 dX3_readLooker_98 ?_
  refine lv_iload_n he hb dX3_readLooker_101 rfl (lv_at hl 2 rfl) ?_
  refine lv_iload_n he hb dX3_readLooker_102 rfl (lv_at hl 0 rfl) ?_
  refine lv_if_eq (tgt := 119) he hb dX3_readLooker_103 (by decide) (fun hc => ?_) (fun hc => ?_)
  · rw [if_pos hc] at h
    refine lv_iconst (v := (0 : Int32)) he hb dX3_readLooker_119 (by decide) ?_
    exact gX3_readLooker_120 l B _ _ _ _ _ _ _ _ _ _ h hS (lv_sub hl [1, 2, 0] rfl)
  · rw [if_neg hc] at h
    refine z_aload_n he hb dX3_readLooker_106 rfl (lv_at hl 1 rfl) (zref_r _ _) ?_
    obtain ⟨x35, hx, h⟩ := zob h
    refine z_getR (ci := 3) (T := TX3) (N := 6) (j := 0) B hS hx rfl zin_X3 (by decide) zk_323 dX3_readLooker_107 ?_
    refine lv_iconst (v := (0 : Int32)) he hb dX3_readLooker_110 (by decide) ?_
    refine lv_bipush (v := (23 : Int32)) he hb dX3_readLooker_111 (by decide) ?_
    obtain ⟨_, hc, h⟩ := zob h
    obtain ⟨f37, x36, hx, h⟩ := zbd_i h
    refine z_callV (ci := 9) (T := TX9) (N := 12) (rest := [_, _]) B hS (mX9_needNumber l G hx) zy_X9_needNumber zk_625 (by decide) hc rfl rfl hl rfl (Nat.le_of_ble_eq_true rfl) dX3_readLooker_113 (kk := (fun H locs hS => ?_))
    refine lv_goto (tgt := 120) he hb dX3_readLooker_116 (by decide) ?_
    exact gX3_readLooker_120 l B _ _ _ _ _ _ _ _ _ _ h hS (lv_sub hl [1, 2, 0] rfl)
def fX3_readLooker (N n : Nat) (f : zF) (a0 : Nat) : Option zF :=
    ((zgR n f 3 a0 1).bind fun x1 => ((zgI n f 2 x1 4).bind fun x2 => (if x2 < (5 : Int32) then ((zgR n f 3 a0 0).bind fun x3 => ((zck n f 9 x3).bind fun _ => ((fX9_advance N n f x3).bind fun f4 => ((zgR n f4 3 a0 1).bind fun x5 => ((zgR n f4 2 x5 7).bind fun x6 => ((zck n f4 3 a0).bind fun _ => (zbd (fX3_readNewName N n f4 a0) fun f8 x7 => ((fX11_putName N n f8 x6 x2 x7).bind fun f9 => ((zgR n f9 3 a0 2).bind fun x10 => ((zgR n f9 8 x10 5).bind fun x11 => ((zck n f9 3 a0).bind fun _ => (zbd (fX3_readCell N n f9 a0) fun f13 x12 => ((fX11_put N n f13 x11 x2 x12).bind fun f14 => ((zgR n f14 3 a0 2).bind fun x15 => ((zgR n f14 8 x15 6).bind fun x16 => ((zgR n f14 3 a0 0).bind fun x17 => ((zck n f14 9 x17).bind fun _ => (zbd (fX9_needSide N n f14 x17) fun f19 x18 => ((fX11_put N n f19 x16 x2 x18).bind fun f20 => ((zgR n f20 3 a0 0).bind fun x21 => ((zgI n f20 9 x21 5).bind fun x22 => (if x22 = (4 : Int32) then (fX3_readLooker_93 N n f20 a0 x2 (1 : Int32)) else (fX3_readLooker_93 N n f20 a0 x2 (0 : Int32)))))))))))))))))))))))) else ((zgR n f 3 a0 0).bind fun x38 => ((zck n f 9 x38).bind fun _ => ((fX9_fail N n f x38 (4 : Int32)).bind fun f39 => some f39))))))
set_option maxRecDepth 100000 in
set_option maxHeartbeats 4000000 in
theorem mX3_readLooker (l : Launch) (G : zG) {N n : Nat} {f : zF} {f9 : zF} {a0 : Nat} (h : fX3_readLooker N n f a0 = some f9) : zM l G yX3_readLooker cX3_readLooker 3 (none) 4 n f [zr G a0] (none) f9 := by
  refine zM.of (by decide) (Nat.le_of_ble_eq_true rfl) ?_
  intro p e s m args below meth c locs ls B hS hl
  have he := B.1
  have hb := B.2.1
  have hl : lv_has ls 3 [(0, zr G a0)] := hl
  unfold fX3_readLooker at h
  generalize s.heap = H at hS ⊢
  refine z_aload_n he hb dX3_readLooker_0 rfl (lv_at hl 0 rfl) (zref_r _ _) ?_
  obtain ⟨x1, hx, h⟩ := zob h
  refine z_getR (ci := 3) (T := TX3) (N := 6) (j := 1) B hS hx rfl zin_X3 (by decide) zk_324 dX3_readLooker_1 ?_
  obtain ⟨x2, hx, h⟩ := zob h
  refine z_getI (ci := 2) (T := TX2) (N := 15) (j := 4) B hS hx rfl zin_X2 (by decide) zk_172 dX3_readLooker_4 ?_
  refine lv_istore_n (lv' := [(1, _), (0, _)]) he hb dX3_readLooker_7 rfl hl (by decide) rfl (fun ls hl => ?_)
  refine lv_iload_n he hb dX3_readLooker_8 rfl (lv_at hl 0 rfl) ?_
  refine lv_iconst (v := (5 : Int32)) he hb dX3_readLooker_9 (by decide) ?_
  refine lv_icmp_lt (tgt := 22) he hb dX3_readLooker_10 (by decide) (fun hc => ?_) (fun hc => ?_)
  · rw [if_pos hc] at h
    refine z_aload_n he hb dX3_readLooker_22 rfl (lv_at hl 1 rfl) (zref_r _ _) ?_
    obtain ⟨x3, hx, h⟩ := zob h
    refine z_getR (ci := 3) (T := TX3) (N := 6) (j := 0) B hS hx rfl zin_X3 (by decide) zk_323 dX3_readLooker_23 ?_
    obtain ⟨_, hc, h⟩ := zob h
    obtain ⟨f4, hx, h⟩ := zob h
    refine z_callV (ci := 9) (T := TX9) (N := 12) (rest := []) B hS (mX9_advance l G hx) zy_X9_advance zk_624 (by decide) hc rfl rfl hl rfl (Nat.le_of_ble_eq_true rfl) dX3_readLooker_26 (kk := (fun H locs hS => ?_))
    refine z_aload_n he hb dX3_readLooker_29 rfl (lv_at hl 1 rfl) (zref_r _ _) ?_
    obtain ⟨x5, hx, h⟩ := zob h
    refine z_getR (ci := 3) (T := TX3) (N := 6) (j := 1) B hS hx rfl zin_X3 (by decide) zk_324 dX3_readLooker_30 ?_
    obtain ⟨x6, hx, h⟩ := zob h
    refine z_getR (ci := 2) (T := TX2) (N := 15) (j := 7) B hS hx rfl zin_X2 (by decide) zk_184 dX3_readLooker_33 ?_
    refine lv_iload_n he hb dX3_readLooker_36 rfl (lv_at hl 0 rfl) ?_
    refine z_aload_n he hb dX3_readLooker_37 rfl (lv_at hl 1 rfl) (zref_r _ _) ?_
    obtain ⟨_, hc, h⟩ := zob h
    obtain ⟨f8, x7, hx, h⟩ := zbd_i h
    refine z_callV (ci := 3) (T := TX3) (N := 6) (rest := [_, _]) B hS (mX3_readNewName l G hx) zy_X3_readNewName zk_661 (by decide) hc rfl rfl hl rfl (Nat.le_of_ble_eq_true rfl) dX3_readLooker_38 (kk := (fun H locs hS => ?_))
    obtain ⟨f9, hx, h⟩ := zob h
    refine z_callN (rest := []) B hS (mX11_putName l G hx) zy_X11_putName zkn_670 (by decide) rfl hl rfl (Nat.le_of_ble_eq_true rfl) dX3_readLooker_41 (kk := (fun H locs hS => ?_))
    refine z_aload_n he hb dX3_readLooker_44 rfl (lv_at hl 1 rfl) (zref_r _ _) ?_
    obtain ⟨x10, hx, h⟩ := zob h
    refine z_getR (ci := 3) (T := TX3) (N := 6) (j := 2) B hS hx rfl zin_X3 (by decide) zk_326 dX3_readLooker_45 ?_
    obtain ⟨x11, hx, h⟩ := zob h
    refine z_getR (ci := 8) (T := TX8) (N := 9) (j := 5) B hS hx rfl zin_X8 (by decide) zk_266 dX3_readLooker_48 ?_
    refine lv_iload_n he hb dX3_readLooker_51 rfl (lv_at hl 0 rfl) ?_
    refine z_aload_n he hb dX3_readLooker_52 rfl (lv_at hl 1 rfl) (zref_r _ _) ?_
    obtain ⟨_, hc, h⟩ := zob h
    obtain ⟨f13, x12, hx, h⟩ := zbd_i h
    refine z_callV (ci := 3) (T := TX3) (N := 6) (rest := [_, _]) B hS (mX3_readCell l G hx) zy_X3_readCell zk_633 (by decide) hc rfl rfl hl rfl (Nat.le_of_ble_eq_true rfl) dX3_readLooker_53 (kk := (fun H locs hS => ?_))
    obtain ⟨f14, hx, h⟩ := zob h
    refine z_callN (rest := []) B hS (mX11_put l G hx) zy_X11_put zkn_654 (by decide) rfl hl rfl (Nat.le_of_ble_eq_true rfl) dX3_readLooker_56 (kk := (fun H locs hS => ?_))
    refine z_aload_n he hb dX3_readLooker_59 rfl (lv_at hl 1 rfl) (zref_r _ _) ?_
    obtain ⟨x15, hx, h⟩ := zob h
    refine z_getR (ci := 3) (T := TX3) (N := 6) (j := 2) B hS hx rfl zin_X3 (by decide) zk_326 dX3_readLooker_60 ?_
    obtain ⟨x16, hx, h⟩ := zob h
    refine z_getR (ci := 8) (T := TX8) (N := 9) (j := 6) B hS hx rfl zin_X8 (by decide) zk_269 dX3_readLooker_63 ?_
    refine lv_iload_n he hb dX3_readLooker_66 rfl (lv_at hl 0 rfl) ?_
    refine z_aload_n he hb dX3_readLooker_67 rfl (lv_at hl 1 rfl) (zref_r _ _) ?_
    obtain ⟨x17, hx, h⟩ := zob h
    refine z_getR (ci := 3) (T := TX3) (N := 6) (j := 0) B hS hx rfl zin_X3 (by decide) zk_323 dX3_readLooker_68 ?_
    obtain ⟨_, hc, h⟩ := zob h
    obtain ⟨f19, x18, hx, h⟩ := zbd_i h
    refine z_callV (ci := 9) (T := TX9) (N := 12) (rest := [_, _]) B hS (mX9_needSide l G hx) zy_X9_needSide zk_686 (by decide) hc rfl rfl hl rfl (Nat.le_of_ble_eq_true rfl) dX3_readLooker_71 (kk := (fun H locs hS => ?_))
    obtain ⟨f20, hx, h⟩ := zob h
    refine z_callN (rest := []) B hS (mX11_put l G hx) zy_X11_put zkn_654 (by decide) rfl hl rfl (Nat.le_of_ble_eq_true rfl) dX3_readLooker_74 (kk := (fun H locs hS => ?_))
    refine z_aload_n he hb dX3_readLooker_77 rfl (lv_at hl 1 rfl) (zref_r _ _) ?_
    obtain ⟨x21, hx, h⟩ := zob h
    refine z_getR (ci := 3) (T := TX3) (N := 6) (j := 0) B hS hx rfl zin_X3 (by decide) zk_323 dX3_readLooker_78 ?_
    obtain ⟨x22, hx, h⟩ := zob h
    refine z_getI (ci := 9) (T := TX9) (N := 12) (j := 5) B hS hx rfl zin_X9 (by decide) zk_99 dX3_readLooker_81 ?_
    refine lv_iconst (v := (4 : Int32)) he hb dX3_readLooker_84 (by decide) ?_
    refine lv_icmp_ne (tgt := 92) he hb dX3_readLooker_85 (by decide) (fun hc => ?_) (fun hc => ?_)
    · rw [if_neg hc] at h
      refine lv_iconst (v := (0 : Int32)) he hb dX3_readLooker_92 (by decide) ?_
      exact gX3_readLooker_93 l B _ _ _ _ _ _ _ h hS (lv_sub hl [1, 0] rfl)
    · rw [if_pos hc] at h
      refine lv_iconst (v := (1 : Int32)) he hb dX3_readLooker_88 (by decide) ?_
      refine lv_goto (tgt := 93) he hb dX3_readLooker_89 (by decide) ?_
      exact gX3_readLooker_93 l B _ _ _ _ _ _ _ h hS (lv_sub hl [1, 0] rfl)
  · rw [if_neg hc] at h
    refine z_aload_n he hb dX3_readLooker_13 rfl (lv_at hl 1 rfl) (zref_r _ _) ?_
    obtain ⟨x38, hx, h⟩ := zob h
    refine z_getR (ci := 3) (T := TX3) (N := 6) (j := 0) B hS hx rfl zin_X3 (by decide) zk_323 dX3_readLooker_14 ?_
    refine lv_iconst (v := (4 : Int32)) he hb dX3_readLooker_17 (by decide) ?_
    obtain ⟨_, hc, h⟩ := zob h
    obtain ⟨f39, hx, h⟩ := zob h
    refine z_callV (ci := 9) (T := TX9) (N := 12) (rest := []) B hS (mX9_fail l G hx) zy_X9_fail zk_623 (by decide) hc rfl rfl hl rfl (Nat.le_of_ble_eq_true rfl) dX3_readLooker_18 (kk := (fun H locs hS => ?_))
    obtain rfl := Option.some.inj h
    exact z_vret B hS dX3_readLooker_21
theorem dX3_read_0 : decode cX3_read 0 = .ok (.iconst 0, 1) := by decide +kernel
theorem dX3_read_1 : decode cX3_read 1 = .ok (.istore_n 1, 1) := by decide +kernel
theorem dX3_read_2 : decode cX3_read 2 = .ok (.aload_n 0, 1) := by decide +kernel
theorem dX3_read_3 : decode cX3_read 3 = .ok (.getfield 12, 3) := by decide +kernel
theorem dX3_read_6 : decode cX3_read 6 = .ok (.invokevirtual 35, 3) := by decide +kernel
theorem dX3_read_9 : decode cX3_read 9 = .ok (.aload_n 0, 1) := by decide +kernel
theorem dX3_read_10 : decode cX3_read 10 = .ok (.getfield 27, 3) := by decide +kernel
theorem dX3_read_13 : decode cX3_read 13 = .ok (.iconst (-1), 1) := by decide +kernel
theorem dX3_read_14 : decode cX3_read 14 = .ok (.invokestatic 38, 3) := by decide +kernel
theorem dX3_read_17 : decode cX3_read 17 = .ok (.aload_n 0, 1) := by decide +kernel
theorem dX3_read_18 : decode cX3_read 18 = .ok (.iconst 0, 1) := by decide +kernel
theorem dX3_read_19 : decode cX3_read 19 = .ok (.putfield 42, 3) := by decide +kernel
theorem dX3_read_22 : decode cX3_read 22 = .ok (.aload_n 0, 1) := by decide +kernel
theorem dX3_read_23 : decode cX3_read 23 = .ok (.iconst 0, 1) := by decide +kernel
theorem dX3_read_24 : decode cX3_read 24 = .ok (.putfield 46, 3) := by decide +kernel
theorem dX3_read_27 : decode cX3_read 27 = .ok (.aload_n 0, 1) := by decide +kernel
theorem dX3_read_28 : decode cX3_read 28 = .ok (.getfield 31, 3) := by decide +kernel
theorem dX3_read_31 : decode cX3_read 31 = .ok (.sipush 900, 3) := by decide +kernel
theorem dX3_read_34 : decode cX3_read 34 = .ok (.invokevirtual 49, 3) := by decide +kernel
theorem dX3_read_37 : decode cX3_read 37 = .ok (.iconst 0, 1) := by decide +kernel
theorem dX3_read_38 : decode cX3_read 38 = .ok (.istore_n 2, 1) := by decide +kernel
theorem dX3_read_39 : decode cX3_read 39 = .ok (.iload_n 2, 1) := by decide +kernel
theorem dX3_read_40 : decode cX3_read 40 = .ok (.sipush 900, 3) := by decide +kernel
theorem dX3_read_43 : decode cX3_read 43 = .ok (.if_icmp .ge 141, 3) := by decide +kernel
theorem dX3_read_46 : decode cX3_read 46 = .ok (.aload_n 0, 1) := by decide +kernel
theorem dX3_read_47 : decode cX3_read 47 = .ok (.getfield 31, 3) := by decide +kernel
theorem dX3_read_50 : decode cX3_read 50 = .ok (.invokevirtual 55, 3) := by decide +kernel
theorem dX3_read_53 : decode cX3_read 53 = .ok (.ifCond .eq 131, 3) := by decide +kernel
theorem dX3_read_56 : decode cX3_read 56 = .ok (.aload_n 0, 1) := by decide +kernel
theorem dX3_read_57 : decode cX3_read 57 = .ok (.getfield 31, 3) := by decide +kernel
theorem dX3_read_60 : decode cX3_read 60 = .ok (.getfield 59, 3) := by decide +kernel
theorem dX3_read_63 : decode cX3_read 63 = .ok (.iconst 2, 1) := by decide +kernel
theorem dX3_read_64 : decode cX3_read 64 = .ok (.if_icmp .ne 13, 3) := by decide +kernel
theorem dX3_read_67 : decode cX3_read 67 = .ok (.aload_n 0, 1) := by decide +kernel
theorem dX3_read_68 : decode cX3_read 68 = .ok (.getfield 31, 3) := by decide +kernel
theorem dX3_read_71 : decode cX3_read 71 = .ok (.getfield 63, 3) := by decide +kernel
theorem dX3_read_74 : decode cX3_read 74 = .ok (.goto 4, 3) := by decide +kernel
theorem dX3_read_77 : decode cX3_read 77 = .ok (.iconst (-1), 1) := by decide +kernel
theorem dX3_read_78 : decode cX3_read 78 = .ok (.tableswitch 80 4 9 #[38, 45, 52, 59, 66, 73], 38) := by decide +kernel
theorem dX3_read_116 : decode cX3_read 116 = .ok (.aload_n 0, 1) := by decide +kernel
theorem dX3_read_117 : decode cX3_read 117 = .ok (.invokevirtual 66, 3) := by decide +kernel
theorem dX3_read_120 : decode cX3_read 120 = .ok (.goto 46, 3) := by decide +kernel
theorem dX3_read_123 : decode cX3_read 123 = .ok (.aload_n 0, 1) := by decide +kernel
theorem dX3_read_124 : decode cX3_read 124 = .ok (.invokevirtual 69, 3) := by decide +kernel
theorem dX3_read_127 : decode cX3_read 127 = .ok (.goto 39, 3) := by decide +kernel
theorem dX3_read_130 : decode cX3_read 130 = .ok (.aload_n 0, 1) := by decide +kernel
theorem dX3_read_131 : decode cX3_read 131 = .ok (.invokevirtual 72, 3) := by decide +kernel
theorem dX3_read_134 : decode cX3_read 134 = .ok (.goto 32, 3) := by decide +kernel
theorem dX3_read_137 : decode cX3_read 137 = .ok (.aload_n 0, 1) := by decide +kernel
theorem dX3_read_138 : decode cX3_read 138 = .ok (.invokevirtual 75, 3) := by decide +kernel
theorem dX3_read_141 : decode cX3_read 141 = .ok (.goto 25, 3) := by decide +kernel
theorem dX3_read_144 : decode cX3_read 144 = .ok (.aload_n 0, 1) := by decide +kernel
theorem dX3_read_145 : decode cX3_read 145 = .ok (.invokevirtual 78, 3) := by decide +kernel
theorem dX3_read_148 : decode cX3_read 148 = .ok (.goto 18, 3) := by decide +kernel
theorem dX3_read_151 : decode cX3_read 151 = .ok (.aload_n 0, 1) := by decide +kernel
theorem dX3_read_152 : decode cX3_read 152 = .ok (.invokevirtual 81, 3) := by decide +kernel
theorem dX3_read_155 : decode cX3_read 155 = .ok (.goto 11, 3) := by decide +kernel
theorem dX3_read_158 : decode cX3_read 158 = .ok (.aload_n 0, 1) := by decide +kernel
theorem dX3_read_159 : decode cX3_read 159 = .ok (.getfield 31, 3) := by decide +kernel
theorem dX3_read_162 : decode cX3_read 162 = .ok (.iconst 1, 1) := by decide +kernel
theorem dX3_read_163 : decode cX3_read 163 = .ok (.invokevirtual 84, 3) := by decide +kernel
theorem dX3_read_166 : decode cX3_read 166 = .ok (.aload_n 0, 1) := by decide +kernel
theorem dX3_read_167 : decode cX3_read 167 = .ok (.getfield 31, 3) := by decide +kernel
theorem dX3_read_170 : decode cX3_read 170 = .ok (.bipush 59, 2) := by decide +kernel
theorem dX3_read_172 : decode cX3_read 172 = .ok (.invokevirtual 87, 3) := by decide +kernel
theorem dX3_read_175 : decode cX3_read 175 = .ok (.iinc 1 1, 3) := by decide +kernel
theorem dX3_read_178 : decode cX3_read 178 = .ok (.iinc 2 1, 3) := by decide +kernel
theorem dX3_read_181 : decode cX3_read 181 = .ok (.goto (-142), 3) := by decide +kernel
theorem dX3_read_184 : decode cX3_read 184 = .ok (.aload_n 0, 1) := by decide +kernel
theorem dX3_read_185 : decode cX3_read 185 = .ok (.getfield 31, 3) := by decide +kernel
theorem dX3_read_188 : decode cX3_read 188 = .ok (.getfield 90, 3) := by decide +kernel
theorem dX3_read_191 : decode cX3_read 191 = .ok (.ifCond .ne 14, 3) := by decide +kernel
theorem dX3_read_194 : decode cX3_read 194 = .ok (.aload_n 0, 1) := by decide +kernel
theorem dX3_read_195 : decode cX3_read 195 = .ok (.getfield 23, 3) := by decide +kernel
theorem dX3_read_198 : decode cX3_read 198 = .ok (.aload_n 0, 1) := by decide +kernel
theorem dX3_read_199 : decode cX3_read 199 = .ok (.getfield 27, 3) := by decide +kernel
theorem dX3_read_202 : decode cX3_read 202 = .ok (.invokevirtual 93, 3) := by decide +kernel
theorem dX3_read_205 : decode cX3_read 205 = .ok (.iload_n 1, 1) := by decide +kernel
theorem dX3_read_206 : decode cX3_read 206 = .ok (.ireturn, 1) := by decide +kernel
def fX3_read_184 (N n : Nat) (f : zF) (a0 : Nat) (a1 : Int32) : Option (zF × Int32) :=
    ((zgR n f 3 a0 0).bind fun x9 => ((zgI n f 9 x9 10).bind fun x10 => (if x10 = 0 then ((zgR n f 3 a0 2).bind fun x11 => ((zgR n f 3 a0 3).bind fun x12 => ((zck n f 8 x11).bind fun _ => ((fX8_begin N n f x11 x12).bind fun f13 => some (f13, a1))))) else some (f, a1))))
set_option maxRecDepth 100000 in
set_option maxHeartbeats 4000000 in
theorem gX3_read_184 (l : Launch) {G : zG} {p : Program} {e : Env} {s : State} {m : MethodId} {args : Array Value} {below : List Frame} {meth : Method} {c : Code} {N n : Nat} {f9 : zF} {r : Int32} (B : zB G p s m args meth c RX3 cX3_read 3 (some .int)) : ∀ (f : zF) (a0 : Nat) (a1 : Int32) (H : Heap) (locs : List Loc) (ls : Array Slot), fX3_read_184 N n f a0 a1 = some (f9, r) → zS G n f H locs → lv_has ls 3 [(0, zr G a0), (1, .int a1)] → W p l e (zrm 5) s m args below meth c H locs 0 0 (MQ below (zQc G n f9 (some (.int r))) args s 0 0 (zA G)) (F0 m 184 ls []) := by
  have he := B.1
  have hb := B.2.1
  intro f a0 a1 H locs ls h hS hl
  unfold fX3_read_184 at h
  refine z_aload_n he hb dX3_read_184 rfl (lv_at hl 0 rfl) (zref_r _ _) ?_
  obtain ⟨x9, hx, h⟩ := zob h
  refine z_getR (ci := 3) (T := TX3) (N := 6) (j := 0) B hS hx rfl zin_X3 (by decide) zk_323 dX3_read_185 ?_
  obtain ⟨x10, hx, h⟩ := zob h
  refine z_getI (ci := 9) (T := TX9) (N := 12) (j := 10) B hS hx rfl zin_X9 (by decide) zk_112 dX3_read_188 ?_
  refine lv_if_ne (tgt := 205) he hb dX3_read_191 (by decide) (fun hc => ?_) (fun hc => ?_)
  · rw [if_neg hc] at h
    refine lv_iload_n he hb dX3_read_205 rfl (lv_at hl 1 rfl) ?_
    obtain ⟨rfl, rfl⟩ := Prod.mk.inj (Option.some.inj h)
    exact z_iret B hS dX3_read_206
  · rw [if_pos hc] at h
    refine z_aload_n he hb dX3_read_194 rfl (lv_at hl 0 rfl) (zref_r _ _) ?_
    obtain ⟨x11, hx, h⟩ := zob h
    refine z_getR (ci := 3) (T := TX3) (N := 6) (j := 2) B hS hx rfl zin_X3 (by decide) zk_326 dX3_read_195 ?_
    refine z_aload_n he hb dX3_read_198 rfl (lv_at hl 0 rfl) (zref_r _ _) ?_
    obtain ⟨x12, hx, h⟩ := zob h
    refine z_getR (ci := 3) (T := TX3) (N := 6) (j := 3) B hS hx rfl zin_X3 (by decide) zk_328 dX3_read_199 ?_
    obtain ⟨_, hc, h⟩ := zob h
    obtain ⟨f13, hx, h⟩ := zob h
    refine z_callV (ci := 8) (T := TX8) (N := 9) (rest := []) B hS (mX8_begin l G hx) zy_X8_begin zk_705 (by decide) hc rfl rfl hl rfl (Nat.le_of_ble_eq_true rfl) dX3_read_202 (kk := (fun H locs hS => ?_))
    refine lv_iload_n he hb dX3_read_205 rfl (lv_at hl 1 rfl) ?_
    obtain ⟨rfl, rfl⟩ := Prod.mk.inj (Option.some.inj h)
    exact z_iret B hS dX3_read_206
def fX3_read_166 (r39 : zF → Nat → Int32 → Int32 → Option (zF × Int32)) (N n : Nat) (f : zF) (a0 : Nat) (a1 : Int32) (a2 : Int32) : Option (zF × Int32) :=
    ((zgR n f 3 a0 0).bind fun x20 => ((zck n f 9 x20).bind fun _ => ((fX9_needSign N n f x20 (59 : Int32)).bind fun f21 => (r39 f21 a0 (a1 + 1) (a2 + 1)))))
set_option maxRecDepth 100000 in
set_option maxHeartbeats 4000000 in
theorem gX3_read_166 (l : Launch) {G : zG} {p : Program} {e : Env} {s : State} {m : MethodId} {args : Array Value} {below : List Frame} {meth : Method} {c : Code} {N n : Nat} {f9 : zF} {r : Int32} {r39 : zF → Nat → Int32 → Int32 → Option (zF × Int32)} (B : zB G p s m args meth c RX3 cX3_read 3 (some .int)) (hr39 : ∀ (f : zF) (a0 : Nat) (a1 : Int32) (a2 : Int32) (H : Heap) (locs : List Loc) (ls : Array Slot), r39 f a0 a1 a2 = some (f9, r) → zS G n f H locs → lv_has ls 3 [(0, zr G a0), (1, .int a1), (2, .int a2)] → W p l e (zrm 5) s m args below meth c H locs 0 0 (MQ below (zQc G n f9 (some (.int r))) args s 0 0 (zA G)) (F0 m 39 ls [])) : ∀ (f : zF) (a0 : Nat) (a1 : Int32) (a2 : Int32) (H : Heap) (locs : List Loc) (ls : Array Slot), fX3_read_166 r39 N n f a0 a1 a2 = some (f9, r) → zS G n f H locs → lv_has ls 3 [(0, zr G a0), (1, .int a1), (2, .int a2)] → W p l e (zrm 5) s m args below meth c H locs 0 0 (MQ below (zQc G n f9 (some (.int r))) args s 0 0 (zA G)) (F0 m 166 ls []) := by
  have he := B.1
  have hb := B.2.1
  intro f a0 a1 a2 H locs ls h hS hl
  unfold fX3_read_166 at h
  refine z_aload_n he hb dX3_read_166 rfl (lv_at hl 0 rfl) (zref_r _ _) ?_
  obtain ⟨x20, hx, h⟩ := zob h
  refine z_getR (ci := 3) (T := TX3) (N := 6) (j := 0) B hS hx rfl zin_X3 (by decide) zk_323 dX3_read_167 ?_
  refine lv_bipush (v := (59 : Int32)) he hb dX3_read_170 (by decide) ?_
  obtain ⟨_, hc, h⟩ := zob h
  obtain ⟨f21, hx, h⟩ := zob h
  refine z_callV (ci := 9) (T := TX9) (N := 12) (rest := []) B hS (mX9_needSign l G hx) zy_X9_needSign zk_697 (by decide) hc rfl rfl hl rfl (Nat.le_of_ble_eq_true rfl) dX3_read_172 (kk := (fun H locs hS => ?_))
  refine lv_iinc (v := (a1 + 1)) (lv' := [(1, _), (0, _), (2, _)]) he hb dX3_read_175 hl (k := 1) rfl rfl (by decide) rfl (fun ls hl => ?_)
  refine lv_iinc (v := (a2 + 1)) (lv' := [(2, _), (1, _), (0, _)]) he hb dX3_read_178 hl (k := 2) rfl rfl (by decide) rfl (fun ls hl => ?_)
  refine lv_goto (tgt := 39) he hb dX3_read_181 (by decide) ?_
  exact hr39 _ _ _ _ _ _ _ h hS (lv_sub hl [2, 1, 0] rfl)
def fX3_read_78 (r39 : zF → Nat → Int32 → Int32 → Option (zF × Int32)) (N n : Nat) (f : zF) (a0 : Nat) (a1 : Int32) (a2 : Int32) (t0 : Int32) : Option (zF × Int32) :=
    (if t0 = (4 : Int32) then ((zck n f 3 a0).bind fun _ => ((fX3_readSize N n f a0).bind fun f19 => (fX3_read_166 r39 N n f19 a0 a1 a2))) else (if t0 = (5 : Int32) then ((zck n f 3 a0).bind fun _ => ((fX3_readHedge N n f a0).bind fun f22 => (fX3_read_166 r39 N n f22 a0 a1 a2))) else (if t0 = (6 : Int32) then ((zck n f 3 a0).bind fun _ => ((fX3_readOwner N n f a0).bind fun f23 => (fX3_read_166 r39 N n f23 a0 a1 a2))) else (if t0 = (7 : Int32) then ((zck n f 3 a0).bind fun _ => ((fX3_readLand N n f a0).bind fun f24 => (fX3_read_166 r39 N n f24 a0 a1 a2))) else (if t0 = (8 : Int32) then ((zck n f 3 a0).bind fun _ => ((fX3_readFigure N n f a0).bind fun f25 => (fX3_read_166 r39 N n f25 a0 a1 a2))) else (if t0 = (9 : Int32) then ((zck n f 3 a0).bind fun _ => ((fX3_readLooker N n f a0).bind fun f26 => (fX3_read_166 r39 N n f26 a0 a1 a2))) else ((zgR n f 3 a0 0).bind fun x27 => ((zck n f 9 x27).bind fun _ => ((fX9_fail N n f x27 (1 : Int32)).bind fun f28 => (fX3_read_166 r39 N n f28 a0 a1 a2))))))))))
set_option maxRecDepth 100000 in
set_option maxHeartbeats 4000000 in
theorem gX3_read_78 (l : Launch) {G : zG} {p : Program} {e : Env} {s : State} {m : MethodId} {args : Array Value} {below : List Frame} {meth : Method} {c : Code} {N n : Nat} {f9 : zF} {r : Int32} {r39 : zF → Nat → Int32 → Int32 → Option (zF × Int32)} (B : zB G p s m args meth c RX3 cX3_read 3 (some .int)) (hr39 : ∀ (f : zF) (a0 : Nat) (a1 : Int32) (a2 : Int32) (H : Heap) (locs : List Loc) (ls : Array Slot), r39 f a0 a1 a2 = some (f9, r) → zS G n f H locs → lv_has ls 3 [(0, zr G a0), (1, .int a1), (2, .int a2)] → W p l e (zrm 5) s m args below meth c H locs 0 0 (MQ below (zQc G n f9 (some (.int r))) args s 0 0 (zA G)) (F0 m 39 ls [])) : ∀ (f : zF) (a0 : Nat) (a1 : Int32) (a2 : Int32) (t0 : Int32) (H : Heap) (locs : List Loc) (ls : Array Slot), fX3_read_78 r39 N n f a0 a1 a2 t0 = some (f9, r) → zS G n f H locs → lv_has ls 3 [(0, zr G a0), (1, .int a1), (2, .int a2)] → W p l e (zrm 5) s m args below meth c H locs 0 0 (MQ below (zQc G n f9 (some (.int r))) args s 0 0 (zA G)) (F0 m 78 ls [.int t0]) := by
  have he := B.1
  have hb := B.2.1
  intro f a0 a1 a2 t0 H locs ls h hS hl
  unfold fX3_read_78 at h
  by_cases hc0 : t0 = (4 : Int32)
  · rw [if_pos hc0] at h
    refine lv_tableIn (tgt := 116) he hb dX3_read_78 (by rw [hc0]; decide) (by rw [hc0]; decide) (by rw [hc0]; rfl) (by decide) ?_
    refine z_aload_n he hb dX3_read_116 rfl (lv_at hl 0 rfl) (zref_r _ _) ?_
    obtain ⟨_, hc, h⟩ := zob h
    obtain ⟨f19, hx, h⟩ := zob h
    refine z_callV (ci := 3) (T := TX3) (N := 6) (rest := []) B hS (mX3_readSize l G hx) zy_X3_readSize zk_619 (by decide) hc rfl rfl hl rfl (Nat.le_of_ble_eq_true rfl) dX3_read_117 (kk := (fun H locs hS => ?_))
    refine lv_goto (tgt := 166) he hb dX3_read_120 (by decide) ?_
    exact gX3_read_166 l B hr39 _ _ _ _ _ _ _ h hS (lv_sub hl [0, 1, 2] rfl)
  rw [if_neg hc0] at h
  by_cases hc1 : t0 = (5 : Int32)
  · rw [if_pos hc1] at h
    refine lv_tableIn (tgt := 123) he hb dX3_read_78 (by rw [hc1]; decide) (by rw [hc1]; decide) (by rw [hc1]; rfl) (by decide) ?_
    refine z_aload_n he hb dX3_read_123 rfl (lv_at hl 0 rfl) (zref_r _ _) ?_
    obtain ⟨_, hc, h⟩ := zob h
    obtain ⟨f22, hx, h⟩ := zob h
    refine z_callV (ci := 3) (T := TX3) (N := 6) (rest := []) B hS (mX3_readHedge l G hx) zy_X3_readHedge zk_629 (by decide) hc rfl rfl hl rfl (Nat.le_of_ble_eq_true rfl) dX3_read_124 (kk := (fun H locs hS => ?_))
    refine lv_goto (tgt := 166) he hb dX3_read_127 (by decide) ?_
    exact gX3_read_166 l B hr39 _ _ _ _ _ _ _ h hS (lv_sub hl [0, 1, 2] rfl)
  rw [if_neg hc1] at h
  by_cases hc2 : t0 = (6 : Int32)
  · rw [if_pos hc2] at h
    refine lv_tableIn (tgt := 130) he hb dX3_read_78 (by rw [hc2]; decide) (by rw [hc2]; decide) (by rw [hc2]; rfl) (by decide) ?_
    refine z_aload_n he hb dX3_read_130 rfl (lv_at hl 0 rfl) (zref_r _ _) ?_
    obtain ⟨_, hc, h⟩ := zob h
    obtain ⟨f23, hx, h⟩ := zob h
    refine z_callV (ci := 3) (T := TX3) (N := 6) (rest := []) B hS (mX3_readOwner l G hx) zy_X3_readOwner zk_657 (by decide) hc rfl rfl hl rfl (Nat.le_of_ble_eq_true rfl) dX3_read_131 (kk := (fun H locs hS => ?_))
    refine lv_goto (tgt := 166) he hb dX3_read_134 (by decide) ?_
    exact gX3_read_166 l B hr39 _ _ _ _ _ _ _ h hS (lv_sub hl [0, 1, 2] rfl)
  rw [if_neg hc2] at h
  by_cases hc3 : t0 = (7 : Int32)
  · rw [if_pos hc3] at h
    refine lv_tableIn (tgt := 137) he hb dX3_read_78 (by rw [hc3]; decide) (by rw [hc3]; decide) (by rw [hc3]; rfl) (by decide) ?_
    refine z_aload_n he hb dX3_read_137 rfl (lv_at hl 0 rfl) (zref_r _ _) ?_
    obtain ⟨_, hc, h⟩ := zob h
    obtain ⟨f24, hx, h⟩ := zob h
    refine z_callV (ci := 3) (T := TX3) (N := 6) (rest := []) B hS (mX3_readLand l G hx) zy_X3_readLand zk_671 (by decide) hc rfl rfl hl rfl (Nat.le_of_ble_eq_true rfl) dX3_read_138 (kk := (fun H locs hS => ?_))
    refine lv_goto (tgt := 166) he hb dX3_read_141 (by decide) ?_
    exact gX3_read_166 l B hr39 _ _ _ _ _ _ _ h hS (lv_sub hl [0, 1, 2] rfl)
  rw [if_neg hc3] at h
  by_cases hc4 : t0 = (8 : Int32)
  · rw [if_pos hc4] at h
    refine lv_tableIn (tgt := 144) he hb dX3_read_78 (by rw [hc4]; decide) (by rw [hc4]; decide) (by rw [hc4]; rfl) (by decide) ?_
    refine z_aload_n he hb dX3_read_144 rfl (lv_at hl 0 rfl) (zref_r _ _) ?_
    obtain ⟨_, hc, h⟩ := zob h
    obtain ⟨f25, hx, h⟩ := zob h
    refine z_callV (ci := 3) (T := TX3) (N := 6) (rest := []) B hS (mX3_readFigure l G hx) zy_X3_readFigure zk_682 (by decide) hc rfl rfl hl rfl (Nat.le_of_ble_eq_true rfl) dX3_read_145 (kk := (fun H locs hS => ?_))
    refine lv_goto (tgt := 166) he hb dX3_read_148 (by decide) ?_
    exact gX3_read_166 l B hr39 _ _ _ _ _ _ _ h hS (lv_sub hl [0, 1, 2] rfl)
  rw [if_neg hc4] at h
  by_cases hc5 : t0 = (9 : Int32)
  · rw [if_pos hc5] at h
    refine lv_tableIn (tgt := 151) he hb dX3_read_78 (by rw [hc5]; decide) (by rw [hc5]; decide) (by rw [hc5]; rfl) (by decide) ?_
    refine z_aload_n he hb dX3_read_151 rfl (lv_at hl 0 rfl) (zref_r _ _) ?_
    obtain ⟨_, hc, h⟩ := zob h
    obtain ⟨f26, hx, h⟩ := zob h
    refine z_callV (ci := 3) (T := TX3) (N := 6) (rest := []) B hS (mX3_readLooker l G hx) zy_X3_readLooker zk_693 (by decide) hc rfl rfl hl rfl (Nat.le_of_ble_eq_true rfl) dX3_read_152 (kk := (fun H locs hS => ?_))
    refine lv_goto (tgt := 166) he hb dX3_read_155 (by decide) ?_
    exact gX3_read_166 l B hr39 _ _ _ _ _ _ _ h hS (lv_sub hl [0, 1, 2] rfl)
  rw [if_neg hc5] at h
  refine lv_tableOut (tgt := 158) he hb dX3_read_78 ?_ (by decide) ?_
  · have h0 := lv_neT hc0 (a := 4) rfl; have h1 := lv_neT hc1 (a := 5) rfl; have h2 := lv_neT hc2 (a := 6) rfl; have h3 := lv_neT hc3 (a := 7) rfl; have h4 := lv_neT hc4 (a := 8) rfl; have h5 := lv_neT hc5 (a := 9) rfl; omega
  · skip
    refine z_aload_n he hb dX3_read_158 rfl (lv_at hl 0 rfl) (zref_r _ _) ?_
    obtain ⟨x27, hx, h⟩ := zob h
    refine z_getR (ci := 3) (T := TX3) (N := 6) (j := 0) B hS hx rfl zin_X3 (by decide) zk_323 dX3_read_159 ?_
    refine lv_iconst (v := (1 : Int32)) he hb dX3_read_162 (by decide) ?_
    obtain ⟨_, hc, h⟩ := zob h
    obtain ⟨f28, hx, h⟩ := zob h
    refine z_callV (ci := 9) (T := TX9) (N := 12) (rest := []) B hS (mX9_fail l G hx) zy_X9_fail zk_623 (by decide) hc rfl rfl hl rfl (Nat.le_of_ble_eq_true rfl) dX3_read_163 (kk := (fun H locs hS => ?_))
    exact gX3_read_166 l B hr39 _ _ _ _ _ _ _ h hS (lv_sub hl [0, 1, 2] rfl)
def fX3_read_39 (N n : Nat) : Nat → zF → Nat → Int32 → Int32 → Option (zF × Int32)
  | 0, _, _, _, _ => none
  | k + 1, f, a0, a1, a2 =>
    (if (900 : Int32) ≤ a2 then (fX3_read_184 N n f a0 a1) else ((zgR n f 3 a0 0).bind fun x14 => ((zck n f 9 x14).bind fun _ => (zbd (fX9_goesOn N n f x14) fun f16 x15 => (if x15 = 0 then (fX3_read_184 N n f16 a0 a1) else ((zgR n f16 3 a0 0).bind fun x17 => ((zgI n f16 9 x17 5).bind fun x18 => (if x18 = (2 : Int32) then ((zgR n f16 3 a0 0).bind fun x29 => ((zgI n f16 9 x29 8).bind fun x30 => (fX3_read_78 (fX3_read_39 N n k) N n f16 a0 a1 a2 x30))) else (fX3_read_78 (fX3_read_39 N n k) N n f16 a0 a1 a2 (-1 : Int32))))))))))
set_option maxRecDepth 100000 in
set_option maxHeartbeats 4000000 in
theorem gX3_read_39 (l : Launch) {G : zG} {p : Program} {e : Env} {s : State} {m : MethodId} {args : Array Value} {below : List Frame} {meth : Method} {c : Code} {N n : Nat} {f9 : zF} {r : Int32} (B : zB G p s m args meth c RX3 cX3_read 3 (some .int)) : ∀ (k : Nat), ∀ (f : zF) (a0 : Nat) (a1 : Int32) (a2 : Int32) (H : Heap) (locs : List Loc) (ls : Array Slot), fX3_read_39 N n k f a0 a1 a2 = some (f9, r) → zS G n f H locs → lv_has ls 3 [(0, zr G a0), (1, .int a1), (2, .int a2)] → W p l e (zrm 5) s m args below meth c H locs 0 0 (MQ below (zQc G n f9 (some (.int r))) args s 0 0 (zA G)) (F0 m 39 ls []) := by
  have he := B.1
  have hb := B.2.1
  intro k
  induction k with
  | zero =>
    intro f a0 a1 a2 H locs ls h
    unfold fX3_read_39 at h
    cases h
  | succ k ih =>
    intro f a0 a1 a2 H locs ls h hS hl
    unfold fX3_read_39 at h
    refine lv_iload_n he hb dX3_read_39 rfl (lv_at hl 2 rfl) ?_
    refine lv_sipush (v := (900 : Int32)) he hb dX3_read_40 (by decide) ?_
    refine lv_icmp_ge (tgt := 184) he hb dX3_read_43 (by decide) (fun hc => ?_) (fun hc => ?_)
    · rw [if_pos hc] at h
      exact gX3_read_184 l B _ _ _ _ _ _ h hS (lv_sub hl [0, 1] rfl)
    · rw [if_neg hc] at h
      refine z_aload_n he hb dX3_read_46 rfl (lv_at hl 0 rfl) (zref_r _ _) ?_
      obtain ⟨x14, hx, h⟩ := zob h
      refine z_getR (ci := 3) (T := TX3) (N := 6) (j := 0) B hS hx rfl zin_X3 (by decide) zk_323 dX3_read_47 ?_
      obtain ⟨_, hc, h⟩ := zob h
      obtain ⟨f16, x15, hx, h⟩ := zbd_i h
      refine z_callV (ci := 9) (T := TX9) (N := 12) (rest := []) B hS (mX9_goesOn l G hx) zy_X9_goesOn zk_607 (by decide) hc rfl rfl hl rfl (Nat.le_of_ble_eq_true rfl) dX3_read_50 (kk := (fun H locs hS => ?_))
      refine lv_if_eq (tgt := 184) he hb dX3_read_53 (by decide) (fun hc => ?_) (fun hc => ?_)
      · rw [if_pos hc] at h
        exact gX3_read_184 l B _ _ _ _ _ _ h hS (lv_sub hl [0, 1] rfl)
      · rw [if_neg hc] at h
        refine z_aload_n he hb dX3_read_56 rfl (lv_at hl 0 rfl) (zref_r _ _) ?_
        obtain ⟨x17, hx, h⟩ := zob h
        refine z_getR (ci := 3) (T := TX3) (N := 6) (j := 0) B hS hx rfl zin_X3 (by decide) zk_323 dX3_read_57 ?_
        obtain ⟨x18, hx, h⟩ := zob h
        refine z_getI (ci := 9) (T := TX9) (N := 12) (j := 5) B hS hx rfl zin_X9 (by decide) zk_99 dX3_read_60 ?_
        refine lv_iconst (v := (2 : Int32)) he hb dX3_read_63 (by decide) ?_
        refine lv_icmp_ne (tgt := 77) he hb dX3_read_64 (by decide) (fun hc => ?_) (fun hc => ?_)
        · rw [if_neg hc] at h
          refine lv_iconst (v := (-1 : Int32)) he hb dX3_read_77 (by decide) ?_
          exact gX3_read_78 l B ih _ _ _ _ _ _ _ _ h hS (lv_sub hl [0, 1, 2] rfl)
        · rw [if_pos hc] at h
          refine z_aload_n he hb dX3_read_67 rfl (lv_at hl 0 rfl) (zref_r _ _) ?_
          obtain ⟨x29, hx, h⟩ := zob h
          refine z_getR (ci := 3) (T := TX3) (N := 6) (j := 0) B hS hx rfl zin_X3 (by decide) zk_323 dX3_read_68 ?_
          obtain ⟨x30, hx, h⟩ := zob h
          refine z_getI (ci := 9) (T := TX9) (N := 12) (j := 8) B hS hx rfl zin_X9 (by decide) zk_106 dX3_read_71 ?_
          refine lv_goto (tgt := 78) he hb dX3_read_74 (by decide) ?_
          exact gX3_read_78 l B ih _ _ _ _ _ _ _ _ h hS (lv_sub hl [0, 1, 2] rfl)
def fX3_read (N n : Nat) (f : zF) (a0 : Nat) : Option (zF × Int32) :=
    ((zgR n f 3 a0 1).bind fun x1 => ((zck n f 2 x1).bind fun _ => ((fX2_clear N n f x1).bind fun f2 => ((zgR n f2 3 a0 3).bind fun x3 => ((fX11_fill N n f2 x3 (-1 : Int32)).bind fun f4 => ((zpZ n f4 3 a0 4 (0 : Int32)).bind fun f5 => ((zpZ n f5 3 a0 5 (0 : Int32)).bind fun f6 => ((zgR n f6 3 a0 0).bind fun x7 => ((zck n f6 9 x7).bind fun _ => ((fX9_start N n f6 x7 (900 : Int32)).bind fun f8 => (fX3_read_39 N n N f8 a0 (0 : Int32) (0 : Int32))))))))))))
set_option maxRecDepth 100000 in
set_option maxHeartbeats 4000000 in
theorem mX3_read (l : Launch) (G : zG) {N n : Nat} {f : zF} {f9 : zF} {r : Int32} {a0 : Nat} (h : fX3_read N n f a0 = some (f9, r)) : zM l G yX3_read cX3_read 3 (some .int) 5 n f [zr G a0] (some (.int r)) f9 := by
  refine zM.of (by decide) (Nat.le_of_ble_eq_true rfl) ?_
  intro p e s m args below meth c locs ls B hS hl
  have he := B.1
  have hb := B.2.1
  have hl : lv_has ls 3 [(0, zr G a0)] := hl
  unfold fX3_read at h
  generalize s.heap = H at hS ⊢
  refine lv_iconst (v := (0 : Int32)) he hb dX3_read_0 (by decide) ?_
  refine lv_istore_n (lv' := [(1, _), (0, _)]) he hb dX3_read_1 rfl hl (by decide) rfl (fun ls hl => ?_)
  refine z_aload_n he hb dX3_read_2 rfl (lv_at hl 1 rfl) (zref_r _ _) ?_
  obtain ⟨x1, hx, h⟩ := zob h
  refine z_getR (ci := 3) (T := TX3) (N := 6) (j := 1) B hS hx rfl zin_X3 (by decide) zk_324 dX3_read_3 ?_
  obtain ⟨_, hc, h⟩ := zob h
  obtain ⟨f2, hx, h⟩ := zob h
  refine z_callV (ci := 2) (T := TX2) (N := 15) (rest := []) B hS (mX2_clear l G hx) zy_X2_clear zk_571 (by decide) hc rfl rfl hl rfl (Nat.le_of_ble_eq_true rfl) dX3_read_6 (kk := (fun H locs hS => ?_))
  refine z_aload_n he hb dX3_read_9 rfl (lv_at hl 1 rfl) (zref_r _ _) ?_
  obtain ⟨x3, hx, h⟩ := zob h
  refine z_getR (ci := 3) (T := TX3) (N := 6) (j := 3) B hS hx rfl zin_X3 (by decide) zk_328 dX3_read_10 ?_
  refine lv_iconst (v := (-1 : Int32)) he hb dX3_read_13 (by decide) ?_
  obtain ⟨f4, hx, h⟩ := zob h
  refine z_callN (rest := []) B hS (mX11_fill l G hx) zy_X11_fill zkn_578 (by decide) rfl hl rfl (Nat.le_of_ble_eq_true rfl) dX3_read_14 (kk := (fun H locs hS => ?_))
  refine z_aload_n he hb dX3_read_17 rfl (lv_at hl 1 rfl) (zref_r _ _) ?_
  refine lv_iconst (v := (0 : Int32)) he hb dX3_read_18 (by decide) ?_
  obtain ⟨f5, hx, h⟩ := zob h
  refine z_putZ (ci := 3) (T := TX3) (N := 6) (j := 4) B hS hx rfl zin_X3 tyX3 tyX3_ok nmX3 (by decide) zk_329 rfl rfl dX3_read_19 (fun H locs hS => ?_)
  refine z_aload_n he hb dX3_read_22 rfl (lv_at hl 1 rfl) (zref_r _ _) ?_
  refine lv_iconst (v := (0 : Int32)) he hb dX3_read_23 (by decide) ?_
  obtain ⟨f6, hx, h⟩ := zob h
  refine z_putZ (ci := 3) (T := TX3) (N := 6) (j := 5) B hS hx rfl zin_X3 tyX3 tyX3_ok nmX3 (by decide) zk_330 rfl rfl dX3_read_24 (fun H locs hS => ?_)
  refine z_aload_n he hb dX3_read_27 rfl (lv_at hl 1 rfl) (zref_r _ _) ?_
  obtain ⟨x7, hx, h⟩ := zob h
  refine z_getR (ci := 3) (T := TX3) (N := 6) (j := 0) B hS hx rfl zin_X3 (by decide) zk_323 dX3_read_28 ?_
  refine lv_sipush (v := (900 : Int32)) he hb dX3_read_31 (by decide) ?_
  obtain ⟨_, hc, h⟩ := zob h
  obtain ⟨f8, hx, h⟩ := zob h
  refine z_callV (ci := 9) (T := TX9) (N := 12) (rest := []) B hS (mX9_start l G hx) zy_X9_start zk_579 (by decide) hc rfl rfl hl rfl (Nat.le_of_ble_eq_true rfl) dX3_read_34 (kk := (fun H locs hS => ?_))
  refine lv_iconst (v := (0 : Int32)) he hb dX3_read_37 (by decide) ?_
  refine lv_istore_n (lv' := [(2, _), (1, _), (0, _)]) he hb dX3_read_38 rfl hl (by decide) rfl (fun ls hl => ?_)
  exact gX3_read_39 l B N _ _ _ _ _ _ _ h hS (lv_sub hl [2, 1, 0] rfl)
theorem dX4_readCells_0 : decode cX4_readCells 0 = .ok (.aload_n 0, 1) := by decide +kernel
theorem dX4_readCells_1 : decode cX4_readCells 1 = .ok (.aload_n 1, 1) := by decide +kernel
theorem dX4_readCells_2 : decode cX4_readCells 2 = .ok (.getfield 25, 3) := by decide +kernel
theorem dX4_readCells_5 : decode cX4_readCells 5 = .ok (.iconst 2, 1) := by decide +kernel
theorem dX4_readCells_6 : decode cX4_readCells 6 = .ok (.idiv, 1) := by decide +kernel
theorem dX4_readCells_7 : decode cX4_readCells 7 = .ok (.putfield 30, 3) := by decide +kernel
theorem dX4_readCells_10 : decode cX4_readCells 10 = .ok (.aload_n 1, 1) := by decide +kernel
theorem dX4_readCells_11 : decode cX4_readCells 11 = .ok (.getfield 25, 3) := by decide +kernel
theorem dX4_readCells_14 : decode cX4_readCells 14 = .ok (.iconst 2, 1) := by decide +kernel
theorem dX4_readCells_15 : decode cX4_readCells 15 = .ok (.irem, 1) := by decide +kernel
theorem dX4_readCells_16 : decode cX4_readCells 16 = .ok (.ifCond .ne 20, 3) := by decide +kernel
theorem dX4_readCells_19 : decode cX4_readCells 19 = .ok (.aload_n 0, 1) := by decide +kernel
theorem dX4_readCells_20 : decode cX4_readCells 20 = .ok (.getfield 30, 3) := by decide +kernel
theorem dX4_readCells_23 : decode cX4_readCells 23 = .ok (.iconst 2, 1) := by decide +kernel
theorem dX4_readCells_24 : decode cX4_readCells 24 = .ok (.if_icmp .lt 12, 3) := by decide +kernel
theorem dX4_readCells_27 : decode cX4_readCells 27 = .ok (.aload_n 0, 1) := by decide +kernel
theorem dX4_readCells_28 : decode cX4_readCells 28 = .ok (.getfield 30, 3) := by decide +kernel
theorem dX4_readCells_31 : decode cX4_readCells 31 = .ok (.bipush 8, 2) := by decide +kernel
theorem dX4_readCells_33 : decode cX4_readCells 33 = .ok (.if_icmp .le 5, 3) := by decide +kernel
theorem dX4_readCells_36 : decode cX4_readCells 36 = .ok (.iconst 0, 1) := by decide +kernel
theorem dX4_readCells_37 : decode cX4_readCells 37 = .ok (.ireturn, 1) := by decide +kernel
theorem dX4_readCells_38 : decode cX4_readCells 38 = .ok (.iconst 0, 1) := by decide +kernel
theorem dX4_readCells_39 : decode cX4_readCells 39 = .ok (.istore_n 3, 1) := by decide +kernel
theorem dX4_readCells_40 : decode cX4_readCells 40 = .ok (.iload_n 3, 1) := by decide +kernel
theorem dX4_readCells_41 : decode cX4_readCells 41 = .ok (.aload_n 0, 1) := by decide +kernel
theorem dX4_readCells_42 : decode cX4_readCells 42 = .ok (.getfield 30, 3) := by decide +kernel
theorem dX4_readCells_45 : decode cX4_readCells 45 = .ok (.if_icmp .ge 73, 3) := by decide +kernel
theorem dX4_readCells_48 : decode cX4_readCells 48 = .ok (.aload_n 1, 1) := by decide +kernel
theorem dX4_readCells_49 : decode cX4_readCells 49 = .ok (.iconst 2, 1) := by decide +kernel
theorem dX4_readCells_50 : decode cX4_readCells 50 = .ok (.iload_n 3, 1) := by decide +kernel
theorem dX4_readCells_51 : decode cX4_readCells 51 = .ok (.imul, 1) := by decide +kernel
theorem dX4_readCells_52 : decode cX4_readCells 52 = .ok (.invokevirtual 33, 3) := by decide +kernel
theorem dX4_readCells_55 : decode cX4_readCells 55 = .ok (.istore 4, 2) := by decide +kernel
theorem dX4_readCells_57 : decode cX4_readCells 57 = .ok (.aload_n 1, 1) := by decide +kernel
theorem dX4_readCells_58 : decode cX4_readCells 58 = .ok (.iconst 2, 1) := by decide +kernel
theorem dX4_readCells_59 : decode cX4_readCells 59 = .ok (.iload_n 3, 1) := by decide +kernel
theorem dX4_readCells_60 : decode cX4_readCells 60 = .ok (.imul, 1) := by decide +kernel
theorem dX4_readCells_61 : decode cX4_readCells 61 = .ok (.iconst 1, 1) := by decide +kernel
theorem dX4_readCells_62 : decode cX4_readCells 62 = .ok (.iadd, 1) := by decide +kernel
theorem dX4_readCells_63 : decode cX4_readCells 63 = .ok (.invokevirtual 33, 3) := by decide +kernel
theorem dX4_readCells_66 : decode cX4_readCells 66 = .ok (.istore 5, 2) := by decide +kernel
theorem dX4_readCells_68 : decode cX4_readCells 68 = .ok (.aload_n 2, 1) := by decide +kernel
theorem dX4_readCells_69 : decode cX4_readCells 69 = .ok (.iload 4, 2) := by decide +kernel
theorem dX4_readCells_71 : decode cX4_readCells 71 = .ok (.iload 5, 2) := by decide +kernel
theorem dX4_readCells_73 : decode cX4_readCells 73 = .ok (.invokevirtual 37, 3) := by decide +kernel
theorem dX4_readCells_76 : decode cX4_readCells 76 = .ok (.ifCond .eq 18, 3) := by decide +kernel
theorem dX4_readCells_79 : decode cX4_readCells 79 = .ok (.aload_n 2, 1) := by decide +kernel
theorem dX4_readCells_80 : decode cX4_readCells 80 = .ok (.bipush 9, 2) := by decide +kernel
theorem dX4_readCells_82 : decode cX4_readCells 82 = .ok (.iload 5, 2) := by decide +kernel
theorem dX4_readCells_84 : decode cX4_readCells 84 = .ok (.imul, 1) := by decide +kernel
theorem dX4_readCells_85 : decode cX4_readCells 85 = .ok (.iload 4, 2) := by decide +kernel
theorem dX4_readCells_87 : decode cX4_readCells 87 = .ok (.iadd, 1) := by decide +kernel
theorem dX4_readCells_88 : decode cX4_readCells 88 = .ok (.invokevirtual 43, 3) := by decide +kernel
theorem dX4_readCells_91 : decode cX4_readCells 91 = .ok (.ifCond .eq 5, 3) := by decide +kernel
theorem dX4_readCells_94 : decode cX4_readCells 94 = .ok (.iconst 0, 1) := by decide +kernel
theorem dX4_readCells_95 : decode cX4_readCells 95 = .ok (.ireturn, 1) := by decide +kernel
theorem dX4_readCells_96 : decode cX4_readCells 96 = .ok (.aload_n 0, 1) := by decide +kernel
theorem dX4_readCells_97 : decode cX4_readCells 97 = .ok (.getfield 19, 3) := by decide +kernel
theorem dX4_readCells_100 : decode cX4_readCells 100 = .ok (.iload_n 3, 1) := by decide +kernel
theorem dX4_readCells_101 : decode cX4_readCells 101 = .ok (.bipush 9, 2) := by decide +kernel
theorem dX4_readCells_103 : decode cX4_readCells 103 = .ok (.iload 5, 2) := by decide +kernel
theorem dX4_readCells_105 : decode cX4_readCells 105 = .ok (.imul, 1) := by decide +kernel
theorem dX4_readCells_106 : decode cX4_readCells 106 = .ok (.iload 4, 2) := by decide +kernel
theorem dX4_readCells_108 : decode cX4_readCells 108 = .ok (.iadd, 1) := by decide +kernel
theorem dX4_readCells_109 : decode cX4_readCells 109 = .ok (.invokestatic 47, 3) := by decide +kernel
theorem dX4_readCells_112 : decode cX4_readCells 112 = .ok (.iinc 3 1, 3) := by decide +kernel
theorem dX4_readCells_115 : decode cX4_readCells 115 = .ok (.goto (-75), 3) := by decide +kernel
theorem dX4_readCells_118 : decode cX4_readCells 118 = .ok (.iconst 1, 1) := by decide +kernel
theorem dX4_readCells_119 : decode cX4_readCells 119 = .ok (.ireturn, 1) := by decide +kernel
def fX4_readCells_40 (N n : Nat) : Nat → zF → Nat → Nat → Nat → Int32 → Option (zF × Int32)
  | 0, _, _, _, _, _ => none
  | k + 1, f, a0, a1, a2, a3 =>
    ((zgI n f 4 a0 4).bind fun x6 => (if x6 ≤ a3 then ((zbl (1 : Int32)).bind fun y => some (f, y)) else ((zck n f 9 a1).bind fun _ => ((fX9_signAt N n f a1 ((2 : Int32) * a3)).bind fun x7 => ((zck n f 9 a1).bind fun _ => ((fX9_signAt N n f a1 (((2 : Int32) * a3) + (1 : Int32))).bind fun x8 => ((zck n f 2 a2).bind fun _ => ((fX2_hasCell N n f a2 x7 x8).bind fun x9 => (if x9 = 0 then ((zbl (0 : Int32)).bind fun y => some (f, y)) else ((zck n f 2 a2).bind fun _ => ((fX2_hasHedge N n f a2 (((9 : Int32) * x8) + x7)).bind fun x10 => (if x10 = 0 then ((zgR n f 4 a0 3).bind fun x11 => ((fX11_put N n f x11 a3 (((9 : Int32) * x8) + x7)).bind fun f12 => (fX4_readCells_40 N n k f12 a0 a1 a2 (a3 + 1)))) else ((zbl (0 : Int32)).bind fun y => some (f, y))))))))))))))
set_option maxRecDepth 100000 in
set_option maxHeartbeats 4000000 in
theorem gX4_readCells_40 (l : Launch) {G : zG} {p : Program} {e : Env} {s : State} {m : MethodId} {args : Array Value} {below : List Frame} {meth : Method} {c : Code} {N n : Nat} {f9 : zF} {r : Int32} (B : zB G p s m args meth c RX4 cX4_readCells 6 (some .boolean)) : ∀ (k : Nat), ∀ (f : zF) (a0 : Nat) (a1 : Nat) (a2 : Nat) (a3 : Int32) (H : Heap) (locs : List Loc) (ls : Array Slot), fX4_readCells_40 N n k f a0 a1 a2 a3 = some (f9, r) → zS G n f H locs → lv_has ls 6 [(0, zr G a0), (1, zr G a1), (2, zr G a2), (3, .int a3)] → W p l e (zrm 1) s m args below meth c H locs 0 0 (MQ below (zQc G n f9 (some (.int r))) args s 0 0 (zA G)) (F0 m 40 ls []) := by
  have he := B.1
  have hb := B.2.1
  intro k
  induction k with
  | zero =>
    intro f a0 a1 a2 a3 H locs ls h
    unfold fX4_readCells_40 at h
    cases h
  | succ k ih =>
    intro f a0 a1 a2 a3 H locs ls h hS hl
    unfold fX4_readCells_40 at h
    refine lv_iload_n he hb dX4_readCells_40 rfl (lv_at hl 3 rfl) ?_
    refine z_aload_n he hb dX4_readCells_41 rfl (lv_at hl 0 rfl) (zref_r _ _) ?_
    obtain ⟨x6, hx, h⟩ := zob h
    refine z_getI (ci := 4) (T := TX4) (N := 6) (j := 4) B hS hx rfl zin_X4 (by decide) zk_452 dX4_readCells_42 ?_
    refine lv_icmp_ge (tgt := 118) he hb dX4_readCells_45 (by decide) (fun hc => ?_) (fun hc => ?_)
    · rw [if_pos hc] at h
      refine lv_iconst (v := (1 : Int32)) he hb dX4_readCells_118 (by decide) ?_
      obtain ⟨y, hx, h⟩ := zob h
      obtain ⟨hz, rfl⟩ := zbl_i hx
      obtain ⟨rfl, rfl⟩ := Prod.mk.inj (Option.some.inj h)
      exact z_zret B hS hz dX4_readCells_119
    · rw [if_neg hc] at h
      refine z_aload_n he hb dX4_readCells_48 rfl (lv_at hl 1 rfl) (zref_r _ _) ?_
      refine lv_iconst (v := (2 : Int32)) he hb dX4_readCells_49 (by decide) ?_
      refine lv_iload_n he hb dX4_readCells_50 rfl (lv_at hl 3 rfl) ?_
      refine lv_imul he hb dX4_readCells_51 ?_
      obtain ⟨_, hc, h⟩ := zob h
      obtain ⟨x7, hx, h⟩ := zob h
      refine z_callV (ci := 9) (T := TX9) (N := 12) (rest := []) B hS (mX9_signAt l G hx) zy_X9_signAt zk_976 (by decide) hc rfl rfl hl rfl (Nat.le_of_ble_eq_true rfl) dX4_readCells_52 (kk := (fun H locs hS => ?_))
      refine lv_istore (lv' := [(4, _), (0, _), (1, _), (2, _), (3, _)]) he hb dX4_readCells_55 hl (by decide) rfl (fun ls hl => ?_)
      refine z_aload_n he hb dX4_readCells_57 rfl (lv_at hl 2 rfl) (zref_r _ _) ?_
      refine lv_iconst (v := (2 : Int32)) he hb dX4_readCells_58 (by decide) ?_
      refine lv_iload_n he hb dX4_readCells_59 rfl (lv_at hl 4 rfl) ?_
      refine lv_imul he hb dX4_readCells_60 ?_
      refine lv_iconst (v := (1 : Int32)) he hb dX4_readCells_61 (by decide) ?_
      refine lv_iadd he hb dX4_readCells_62 ?_
      obtain ⟨_, hc, h⟩ := zob h
      obtain ⟨x8, hx, h⟩ := zob h
      refine z_callV (ci := 9) (T := TX9) (N := 12) (rest := []) B hS (mX9_signAt l G hx) zy_X9_signAt zk_976 (by decide) hc rfl rfl hl rfl (Nat.le_of_ble_eq_true rfl) dX4_readCells_63 (kk := (fun H locs hS => ?_))
      refine lv_istore (lv' := [(5, _), (4, _), (0, _), (1, _), (2, _), (3, _)]) he hb dX4_readCells_66 hl (by decide) rfl (fun ls hl => ?_)
      refine z_aload_n he hb dX4_readCells_68 rfl (lv_at hl 4 rfl) (zref_r _ _) ?_
      refine lv_iload he hb dX4_readCells_69 (lv_at hl 1 rfl) ?_
      refine lv_iload he hb dX4_readCells_71 (lv_at hl 0 rfl) ?_
      obtain ⟨_, hc, h⟩ := zob h
      obtain ⟨x9, hx, h⟩ := zob h
      refine z_callV (ci := 2) (T := TX2) (N := 15) (rest := []) B hS (mX2_hasCell l G hx) zy_X2_hasCell zk_977 (by decide) hc rfl rfl hl rfl (Nat.le_of_ble_eq_true rfl) dX4_readCells_73 (kk := (fun H locs hS => ?_))
      refine lv_if_eq (tgt := 94) he hb dX4_readCells_76 (by decide) (fun hc => ?_) (fun hc => ?_)
      · rw [if_pos hc] at h
        refine lv_iconst (v := (0 : Int32)) he hb dX4_readCells_94 (by decide) ?_
        obtain ⟨y, hx, h⟩ := zob h
        obtain ⟨hz, rfl⟩ := zbl_i hx
        obtain ⟨rfl, rfl⟩ := Prod.mk.inj (Option.some.inj h)
        exact z_zret B hS hz dX4_readCells_95
      · rw [if_neg hc] at h
        refine z_aload_n he hb dX4_readCells_79 rfl (lv_at hl 4 rfl) (zref_r _ _) ?_
        refine lv_bipush (v := (9 : Int32)) he hb dX4_readCells_80 (by decide) ?_
        refine lv_iload he hb dX4_readCells_82 (lv_at hl 0 rfl) ?_
        refine lv_imul he hb dX4_readCells_84 ?_
        refine lv_iload he hb dX4_readCells_85 (lv_at hl 1 rfl) ?_
        refine lv_iadd he hb dX4_readCells_87 ?_
        obtain ⟨_, hc, h⟩ := zob h
        obtain ⟨x10, hx, h⟩ := zob h
        refine z_callV (ci := 2) (T := TX2) (N := 15) (rest := []) B hS (mX2_hasHedge l G hx) zy_X2_hasHedge zk_978 (by decide) hc rfl rfl hl rfl (Nat.le_of_ble_eq_true rfl) dX4_readCells_88 (kk := (fun H locs hS => ?_))
        refine lv_if_eq (tgt := 96) he hb dX4_readCells_91 (by decide) (fun hc => ?_) (fun hc => ?_)
        · rw [if_pos hc] at h
          refine z_aload_n he hb dX4_readCells_96 rfl (lv_at hl 2 rfl) (zref_r _ _) ?_
          obtain ⟨x11, hx, h⟩ := zob h
          refine z_getR (ci := 4) (T := TX4) (N := 6) (j := 3) B hS hx rfl zin_X4 (by decide) zk_451 dX4_readCells_97 ?_
          refine lv_iload_n he hb dX4_readCells_100 rfl (lv_at hl 5 rfl) ?_
          refine lv_bipush (v := (9 : Int32)) he hb dX4_readCells_101 (by decide) ?_
          refine lv_iload he hb dX4_readCells_103 (lv_at hl 0 rfl) ?_
          refine lv_imul he hb dX4_readCells_105 ?_
          refine lv_iload he hb dX4_readCells_106 (lv_at hl 1 rfl) ?_
          refine lv_iadd he hb dX4_readCells_108 ?_
          obtain ⟨f12, hx, h⟩ := zob h
          refine z_callN (rest := []) B hS (mX11_put l G hx) zy_X11_put zkn_979 (by decide) rfl hl rfl (Nat.le_of_ble_eq_true rfl) dX4_readCells_109 (kk := (fun H locs hS => ?_))
          refine lv_iinc (v := (a3 + 1)) (lv' := [(3, _), (5, _), (4, _), (0, _), (1, _), (2, _)]) he hb dX4_readCells_112 hl (k := 5) rfl rfl (by decide) rfl (fun ls hl => ?_)
          refine lv_goto (tgt := 40) he hb dX4_readCells_115 (by decide) ?_
          exact ih _ _ _ _ _ _ _ _ h hS (lv_sub hl [3, 4, 5, 0] rfl)
        · rw [if_neg hc] at h
          refine lv_iconst (v := (0 : Int32)) he hb dX4_readCells_94 (by decide) ?_
          obtain ⟨y, hx, h⟩ := zob h
          obtain ⟨hz, rfl⟩ := zbl_i hx
          obtain ⟨rfl, rfl⟩ := Prod.mk.inj (Option.some.inj h)
          exact z_zret B hS hz dX4_readCells_95
def fX4_readCells (N n : Nat) (f : zF) (a0 : Nat) (a1 : Nat) (a2 : Nat) : Option (zF × Int32) :=
    ((zgI n f 9 a1 2).bind fun x1 => ((zpI n f 4 a0 4 (x1 / (2 : Int32))).bind fun f2 => ((zgI n f2 9 a1 2).bind fun x3 => (if (zrem x3 (2 : Int32)) = 0 then ((zgI n f2 4 a0 4).bind fun x4 => (if x4 < (2 : Int32) then ((zbl (0 : Int32)).bind fun y => some (f2, y)) else ((zgI n f2 4 a0 4).bind fun x5 => (if x5 ≤ (8 : Int32) then (fX4_readCells_40 N n N f2 a0 a1 a2 (0 : Int32)) else ((zbl (0 : Int32)).bind fun y => some (f2, y)))))) else ((zbl (0 : Int32)).bind fun y => some (f2, y))))))
set_option maxRecDepth 100000 in
set_option maxHeartbeats 4000000 in
theorem mX4_readCells (l : Launch) (G : zG) {N n : Nat} {f : zF} {f9 : zF} {r : Int32} {a0 : Nat} {a1 : Nat} {a2 : Nat} (h : fX4_readCells N n f a0 a1 a2 = some (f9, r)) : zM l G yX4_readCells cX4_readCells 6 (some .boolean) 1 n f [zr G a0, zr G a1, zr G a2] (some (.int r)) f9 := by
  refine zM.of (by decide) (Nat.le_of_ble_eq_true rfl) ?_
  intro p e s m args below meth c locs ls B hS hl
  have he := B.1
  have hb := B.2.1
  have hl : lv_has ls 6 [(0, zr G a0), (1, zr G a1), (2, zr G a2)] := hl
  unfold fX4_readCells at h
  generalize s.heap = H at hS ⊢
  refine z_aload_n he hb dX4_readCells_0 rfl (lv_at hl 0 rfl) (zref_r _ _) ?_
  refine z_aload_n he hb dX4_readCells_1 rfl (lv_at hl 1 rfl) (zref_r _ _) ?_
  obtain ⟨x1, hx, h⟩ := zob h
  refine z_getI (ci := 9) (T := TX9) (N := 12) (j := 2) B hS hx rfl zin_X9 (by decide) zk_94 dX4_readCells_2 ?_
  refine lv_iconst (v := (2 : Int32)) he hb dX4_readCells_5 (by decide) ?_
  refine lv_idiv he hb dX4_readCells_6 (by decide) ?_
  obtain ⟨f2, hx, h⟩ := zob h
  refine z_putI (ci := 4) (T := TX4) (N := 6) (j := 4) B hS hx rfl zin_X4 tyX4 tyX4_ok nmX4 (by decide) zk_452 rfl rfl dX4_readCells_7 (fun H locs hS => ?_)
  refine z_aload_n he hb dX4_readCells_10 rfl (lv_at hl 1 rfl) (zref_r _ _) ?_
  obtain ⟨x3, hx, h⟩ := zob h
  refine z_getI (ci := 9) (T := TX9) (N := 12) (j := 2) B hS hx rfl zin_X9 (by decide) zk_94 dX4_readCells_11 ?_
  refine lv_iconst (v := (2 : Int32)) he hb dX4_readCells_14 (by decide) ?_
  refine z_irem he hb dX4_readCells_15 (by decide) ?_
  refine lv_if_ne (tgt := 36) he hb dX4_readCells_16 (by decide) (fun hc => ?_) (fun hc => ?_)
  · rw [if_neg hc] at h
    refine lv_iconst (v := (0 : Int32)) he hb dX4_readCells_36 (by decide) ?_
    obtain ⟨y, hx, h⟩ := zob h
    obtain ⟨hz, rfl⟩ := zbl_i hx
    obtain ⟨rfl, rfl⟩ := Prod.mk.inj (Option.some.inj h)
    exact z_zret B hS hz dX4_readCells_37
  · rw [if_pos hc] at h
    refine z_aload_n he hb dX4_readCells_19 rfl (lv_at hl 0 rfl) (zref_r _ _) ?_
    obtain ⟨x4, hx, h⟩ := zob h
    refine z_getI (ci := 4) (T := TX4) (N := 6) (j := 4) B hS hx rfl zin_X4 (by decide) zk_452 dX4_readCells_20 ?_
    refine lv_iconst (v := (2 : Int32)) he hb dX4_readCells_23 (by decide) ?_
    refine lv_icmp_lt (tgt := 36) he hb dX4_readCells_24 (by decide) (fun hc => ?_) (fun hc => ?_)
    · rw [if_pos hc] at h
      refine lv_iconst (v := (0 : Int32)) he hb dX4_readCells_36 (by decide) ?_
      obtain ⟨y, hx, h⟩ := zob h
      obtain ⟨hz, rfl⟩ := zbl_i hx
      obtain ⟨rfl, rfl⟩ := Prod.mk.inj (Option.some.inj h)
      exact z_zret B hS hz dX4_readCells_37
    · rw [if_neg hc] at h
      refine z_aload_n he hb dX4_readCells_27 rfl (lv_at hl 0 rfl) (zref_r _ _) ?_
      obtain ⟨x5, hx, h⟩ := zob h
      refine z_getI (ci := 4) (T := TX4) (N := 6) (j := 4) B hS hx rfl zin_X4 (by decide) zk_452 dX4_readCells_28 ?_
      refine lv_bipush (v := (8 : Int32)) he hb dX4_readCells_31 (by decide) ?_
      refine lv_icmp_le (tgt := 38) he hb dX4_readCells_33 (by decide) (fun hc => ?_) (fun hc => ?_)
      · rw [if_pos hc] at h
        refine lv_iconst (v := (0 : Int32)) he hb dX4_readCells_38 (by decide) ?_
        refine lv_istore_n (lv' := [(3, _), (0, _), (1, _), (2, _)]) he hb dX4_readCells_39 rfl hl (by decide) rfl (fun ls hl => ?_)
        exact gX4_readCells_40 l B N _ _ _ _ _ _ _ _ h hS (lv_sub hl [1, 2, 3, 0] rfl)
      · rw [if_neg hc] at h
        refine lv_iconst (v := (0 : Int32)) he hb dX4_readCells_36 (by decide) ?_
        obtain ⟨y, hx, h⟩ := zob h
        obtain ⟨hz, rfl⟩ := zbl_i hx
        obtain ⟨rfl, rfl⟩ := Prod.mk.inj (Option.some.inj h)
        exact z_zret B hS hz dX4_readCells_37
theorem dX4_goAlone_0 : decode cX4_goAlone 0 = .ok (.aload_n 0, 1) := by decide +kernel
theorem dX4_goAlone_1 : decode cX4_goAlone 1 = .ok (.getfield 19, 3) := by decide +kernel
theorem dX4_goAlone_4 : decode cX4_goAlone 4 = .ok (.iconst 0, 1) := by decide +kernel
theorem dX4_goAlone_5 : decode cX4_goAlone 5 = .ok (.invokestatic 63, 3) := by decide +kernel
theorem dX4_goAlone_8 : decode cX4_goAlone 8 = .ok (.istore_n 3, 1) := by decide +kernel
theorem dX4_goAlone_9 : decode cX4_goAlone 9 = .ok (.iload_n 2, 1) := by decide +kernel
theorem dX4_goAlone_10 : decode cX4_goAlone 10 = .ok (.bipush 9, 2) := by decide +kernel
theorem dX4_goAlone_12 : decode cX4_goAlone 12 = .ok (.idiv, 1) := by decide +kernel
theorem dX4_goAlone_13 : decode cX4_goAlone 13 = .ok (.istore 4, 2) := by decide +kernel
theorem dX4_goAlone_15 : decode cX4_goAlone 15 = .ok (.iload_n 2, 1) := by decide +kernel
theorem dX4_goAlone_16 : decode cX4_goAlone 16 = .ok (.bipush 9, 2) := by decide +kernel
theorem dX4_goAlone_18 : decode cX4_goAlone 18 = .ok (.irem, 1) := by decide +kernel
theorem dX4_goAlone_19 : decode cX4_goAlone 19 = .ok (.iconst 1, 1) := by decide +kernel
theorem dX4_goAlone_20 : decode cX4_goAlone 20 = .ok (.iadd, 1) := by decide +kernel
theorem dX4_goAlone_21 : decode cX4_goAlone 21 = .ok (.istore 5, 2) := by decide +kernel
theorem dX4_goAlone_23 : decode cX4_goAlone 23 = .ok (.iconst 0, 1) := by decide +kernel
theorem dX4_goAlone_24 : decode cX4_goAlone 24 = .ok (.istore 6, 2) := by decide +kernel
theorem dX4_goAlone_26 : decode cX4_goAlone 26 = .ok (.iload 6, 2) := by decide +kernel
theorem dX4_goAlone_28 : decode cX4_goAlone 28 = .ok (.bipush 13, 2) := by decide +kernel
theorem dX4_goAlone_30 : decode cX4_goAlone 30 = .ok (.if_icmp .ge 74, 3) := by decide +kernel
theorem dX4_goAlone_33 : decode cX4_goAlone 33 = .ok (.aload_n 0, 1) := by decide +kernel
theorem dX4_goAlone_34 : decode cX4_goAlone 34 = .ok (.getfield 22, 3) := by decide +kernel
theorem dX4_goAlone_37 : decode cX4_goAlone 37 = .ok (.bipush 13, 2) := by decide +kernel
theorem dX4_goAlone_39 : decode cX4_goAlone 39 = .ok (.iload_n 2, 1) := by decide +kernel
theorem dX4_goAlone_40 : decode cX4_goAlone 40 = .ok (.imul, 1) := by decide +kernel
theorem dX4_goAlone_41 : decode cX4_goAlone 41 = .ok (.iload 6, 2) := by decide +kernel
theorem dX4_goAlone_43 : decode cX4_goAlone 43 = .ok (.iadd, 1) := by decide +kernel
theorem dX4_goAlone_44 : decode cX4_goAlone 44 = .ok (.iload_n 3, 1) := by decide +kernel
theorem dX4_goAlone_45 : decode cX4_goAlone 45 = .ok (.invokestatic 47, 3) := by decide +kernel
theorem dX4_goAlone_48 : decode cX4_goAlone 48 = .ok (.iload 5, 2) := by decide +kernel
theorem dX4_goAlone_50 : decode cX4_goAlone 50 = .ok (.iload 6, 2) := by decide +kernel
theorem dX4_goAlone_52 : decode cX4_goAlone 52 = .ok (.iconst 1, 1) := by decide +kernel
theorem dX4_goAlone_53 : decode cX4_goAlone 53 = .ok (.iadd, 1) := by decide +kernel
theorem dX4_goAlone_54 : decode cX4_goAlone 54 = .ok (.invokestatic 67, 3) := by decide +kernel
theorem dX4_goAlone_57 : decode cX4_goAlone 57 = .ok (.ifCond .eq 41, 3) := by decide +kernel
theorem dX4_goAlone_60 : decode cX4_goAlone 60 = .ok (.aload_n 1, 1) := by decide +kernel
theorem dX4_goAlone_61 : decode cX4_goAlone 61 = .ok (.iload_n 3, 1) := by decide +kernel
theorem dX4_goAlone_62 : decode cX4_goAlone 62 = .ok (.iload 4, 2) := by decide +kernel
theorem dX4_goAlone_64 : decode cX4_goAlone 64 = .ok (.invokevirtual 70, 3) := by decide +kernel
theorem dX4_goAlone_67 : decode cX4_goAlone 67 = .ok (.istore 7, 2) := by decide +kernel
theorem dX4_goAlone_69 : decode cX4_goAlone 69 = .ok (.iload 7, 2) := by decide +kernel
theorem dX4_goAlone_71 : decode cX4_goAlone 71 = .ok (.iconst (-1), 1) := by decide +kernel
theorem dX4_goAlone_72 : decode cX4_goAlone 72 = .ok (.if_icmp .eq 12, 3) := by decide +kernel
theorem dX4_goAlone_75 : decode cX4_goAlone 75 = .ok (.aload_n 1, 1) := by decide +kernel
theorem dX4_goAlone_76 : decode cX4_goAlone 76 = .ok (.iload 7, 2) := by decide +kernel
theorem dX4_goAlone_78 : decode cX4_goAlone 78 = .ok (.invokevirtual 43, 3) := by decide +kernel
theorem dX4_goAlone_81 : decode cX4_goAlone 81 = .ok (.ifCond .eq 14, 3) := by decide +kernel
theorem dX4_goAlone_84 : decode cX4_goAlone 84 = .ok (.iload 4, 2) := by decide +kernel
theorem dX4_goAlone_86 : decode cX4_goAlone 86 = .ok (.iconst 1, 1) := by decide +kernel
theorem dX4_goAlone_87 : decode cX4_goAlone 87 = .ok (.iadd, 1) := by decide +kernel
theorem dX4_goAlone_88 : decode cX4_goAlone 88 = .ok (.iconst 3, 1) := by decide +kernel
theorem dX4_goAlone_89 : decode cX4_goAlone 89 = .ok (.iand, 1) := by decide +kernel
theorem dX4_goAlone_90 : decode cX4_goAlone 90 = .ok (.istore 4, 2) := by decide +kernel
theorem dX4_goAlone_92 : decode cX4_goAlone 92 = .ok (.goto 6, 3) := by decide +kernel
theorem dX4_goAlone_95 : decode cX4_goAlone 95 = .ok (.iload 7, 2) := by decide +kernel
theorem dX4_goAlone_97 : decode cX4_goAlone 97 = .ok (.istore_n 3, 1) := by decide +kernel
theorem dX4_goAlone_98 : decode cX4_goAlone 98 = .ok (.iinc 6 1, 3) := by decide +kernel
theorem dX4_goAlone_101 : decode cX4_goAlone 101 = .ok (.goto (-75), 3) := by decide +kernel
theorem dX4_goAlone_104 : decode cX4_goAlone 104 = .ok (.return_, 1) := by decide +kernel
def fX4_goAlone_98 (r26 : zF → Nat → Nat → Int32 → Int32 → Int32 → Int32 → Int32 → Option zF) (N n : Nat) (f : zF) (a0 : Nat) (a1 : Nat) (a2 : Int32) (a3 : Int32) (a4 : Int32) (a5 : Int32) (a6 : Int32) : Option zF :=
    (r26 f a0 a1 a2 a3 a4 a5 (a6 + 1))
set_option maxRecDepth 100000 in
set_option maxHeartbeats 4000000 in
theorem gX4_goAlone_98 (l : Launch) {G : zG} {p : Program} {e : Env} {s : State} {m : MethodId} {args : Array Value} {below : List Frame} {meth : Method} {c : Code} {N n : Nat} {f9 : zF} {r26 : zF → Nat → Nat → Int32 → Int32 → Int32 → Int32 → Int32 → Option zF} (B : zB G p s m args meth c RX4 cX4_goAlone 8 (none)) (hr26 : ∀ (f : zF) (a0 : Nat) (a1 : Nat) (a2 : Int32) (a3 : Int32) (a4 : Int32) (a5 : Int32) (a6 : Int32) (H : Heap) (locs : List Loc) (ls : Array Slot), r26 f a0 a1 a2 a3 a4 a5 a6 = some f9 → zS G n f H locs → lv_has ls 8 [(0, zr G a0), (1, zr G a1), (2, .int a2), (3, .int a3), (4, .int a4), (5, .int a5), (6, .int a6)] → W p l e (zrm 1) s m args below meth c H locs 0 0 (MQ below (zQc G n f9 (none)) args s 0 0 (zA G)) (F0 m 26 ls [])) : ∀ (f : zF) (a0 : Nat) (a1 : Nat) (a2 : Int32) (a3 : Int32) (a4 : Int32) (a5 : Int32) (a6 : Int32) (H : Heap) (locs : List Loc) (ls : Array Slot), fX4_goAlone_98 r26 N n f a0 a1 a2 a3 a4 a5 a6 = some f9 → zS G n f H locs → lv_has ls 8 [(0, zr G a0), (1, zr G a1), (2, .int a2), (3, .int a3), (4, .int a4), (5, .int a5), (6, .int a6)] → W p l e (zrm 1) s m args below meth c H locs 0 0 (MQ below (zQc G n f9 (none)) args s 0 0 (zA G)) (F0 m 98 ls []) := by
  have he := B.1
  have hb := B.2.1
  intro f a0 a1 a2 a3 a4 a5 a6 H locs ls h hS hl
  unfold fX4_goAlone_98 at h
  refine lv_iinc (v := (a6 + 1)) (lv' := [(6, _), (0, _), (1, _), (2, _), (3, _), (4, _), (5, _)]) he hb dX4_goAlone_98 hl (k := 6) rfl rfl (by decide) rfl (fun ls hl => ?_)
  refine lv_goto (tgt := 26) he hb dX4_goAlone_101 (by decide) ?_
  exact hr26 _ _ _ _ _ _ _ _ _ _ _ h hS (lv_sub hl [1, 2, 3, 4, 5, 6, 0] rfl)
def fX4_goAlone_84 (r26 : zF → Nat → Nat → Int32 → Int32 → Int32 → Int32 → Int32 → Option zF) (N n : Nat) (f : zF) (a0 : Nat) (a1 : Nat) (a2 : Int32) (a3 : Int32) (a4 : Int32) (a5 : Int32) (a6 : Int32) : Option zF :=
    (fX4_goAlone_98 r26 N n f a0 a1 a2 a3 ((a4 + (1 : Int32)) &&& (3 : Int32)) a5 a6)
set_option maxRecDepth 100000 in
set_option maxHeartbeats 4000000 in
theorem gX4_goAlone_84 (l : Launch) {G : zG} {p : Program} {e : Env} {s : State} {m : MethodId} {args : Array Value} {below : List Frame} {meth : Method} {c : Code} {N n : Nat} {f9 : zF} {r26 : zF → Nat → Nat → Int32 → Int32 → Int32 → Int32 → Int32 → Option zF} (B : zB G p s m args meth c RX4 cX4_goAlone 8 (none)) (hr26 : ∀ (f : zF) (a0 : Nat) (a1 : Nat) (a2 : Int32) (a3 : Int32) (a4 : Int32) (a5 : Int32) (a6 : Int32) (H : Heap) (locs : List Loc) (ls : Array Slot), r26 f a0 a1 a2 a3 a4 a5 a6 = some f9 → zS G n f H locs → lv_has ls 8 [(0, zr G a0), (1, zr G a1), (2, .int a2), (3, .int a3), (4, .int a4), (5, .int a5), (6, .int a6)] → W p l e (zrm 1) s m args below meth c H locs 0 0 (MQ below (zQc G n f9 (none)) args s 0 0 (zA G)) (F0 m 26 ls [])) : ∀ (f : zF) (a0 : Nat) (a1 : Nat) (a2 : Int32) (a3 : Int32) (a4 : Int32) (a5 : Int32) (a6 : Int32) (H : Heap) (locs : List Loc) (ls : Array Slot), fX4_goAlone_84 r26 N n f a0 a1 a2 a3 a4 a5 a6 = some f9 → zS G n f H locs → lv_has ls 8 [(0, zr G a0), (1, zr G a1), (2, .int a2), (3, .int a3), (4, .int a4), (5, .int a5), (6, .int a6)] → W p l e (zrm 1) s m args below meth c H locs 0 0 (MQ below (zQc G n f9 (none)) args s 0 0 (zA G)) (F0 m 84 ls []) := by
  have he := B.1
  have hb := B.2.1
  intro f a0 a1 a2 a3 a4 a5 a6 H locs ls h hS hl
  unfold fX4_goAlone_84 at h
  refine lv_iload he hb dX4_goAlone_84 (lv_at hl 4 rfl) ?_
  refine lv_iconst (v := (1 : Int32)) he hb dX4_goAlone_86 (by decide) ?_
  refine lv_iadd he hb dX4_goAlone_87 ?_
  refine lv_iconst (v := (3 : Int32)) he hb dX4_goAlone_88 (by decide) ?_
  refine lv_iand he hb dX4_goAlone_89 ?_
  refine lv_istore (lv' := [(4, _), (0, _), (1, _), (2, _), (3, _), (5, _), (6, _)]) he hb dX4_goAlone_90 hl (by decide) rfl (fun ls hl => ?_)
  refine lv_goto (tgt := 98) he hb dX4_goAlone_92 (by decide) ?_
  exact gX4_goAlone_98 l B hr26 _ _ _ _ _ _ _ _ _ _ _ h hS (lv_sub hl [1, 2, 3, 4, 0, 5, 6] rfl)
def fX4_goAlone_26 (N n : Nat) : Nat → zF → Nat → Nat → Int32 → Int32 → Int32 → Int32 → Int32 → Option zF
  | 0, _, _, _, _, _, _, _, _ => none
  | k + 1, f, a0, a1, a2, a3, a4, a5, a6 =>
    (if (13 : Int32) ≤ a6 then some f else ((zgR n f 4 a0 5).bind fun x3 => ((fX11_put N n f x3 (((13 : Int32) * a2) + a6) a3).bind fun f4 => ((fX11_divides N n f4 a5 (a6 + (1 : Int32))).bind fun x5 => (if x5 = 0 then (fX4_goAlone_98 (fX4_goAlone_26 N n k) N n f4 a0 a1 a2 a3 a4 a5 a6) else ((zck n f4 2 a1).bind fun _ => ((fX2_beside N n f4 a1 a3 a4).bind fun x6 => (if x6 = (-1 : Int32) then (fX4_goAlone_84 (fX4_goAlone_26 N n k) N n f4 a0 a1 a2 a3 a4 a5 a6) else ((zck n f4 2 a1).bind fun _ => ((fX2_hasHedge N n f4 a1 x6).bind fun x7 => (if x7 = 0 then (fX4_goAlone_98 (fX4_goAlone_26 N n k) N n f4 a0 a1 a2 x6 a4 a5 a6) else (fX4_goAlone_84 (fX4_goAlone_26 N n k) N n f4 a0 a1 a2 a3 a4 a5 a6))))))))))))
set_option maxRecDepth 100000 in
set_option maxHeartbeats 4000000 in
theorem gX4_goAlone_26 (l : Launch) {G : zG} {p : Program} {e : Env} {s : State} {m : MethodId} {args : Array Value} {below : List Frame} {meth : Method} {c : Code} {N n : Nat} {f9 : zF} (B : zB G p s m args meth c RX4 cX4_goAlone 8 (none)) : ∀ (k : Nat), ∀ (f : zF) (a0 : Nat) (a1 : Nat) (a2 : Int32) (a3 : Int32) (a4 : Int32) (a5 : Int32) (a6 : Int32) (H : Heap) (locs : List Loc) (ls : Array Slot), fX4_goAlone_26 N n k f a0 a1 a2 a3 a4 a5 a6 = some f9 → zS G n f H locs → lv_has ls 8 [(0, zr G a0), (1, zr G a1), (2, .int a2), (3, .int a3), (4, .int a4), (5, .int a5), (6, .int a6)] → W p l e (zrm 1) s m args below meth c H locs 0 0 (MQ below (zQc G n f9 (none)) args s 0 0 (zA G)) (F0 m 26 ls []) := by
  have he := B.1
  have hb := B.2.1
  intro k
  induction k with
  | zero =>
    intro f a0 a1 a2 a3 a4 a5 a6 H locs ls h
    unfold fX4_goAlone_26 at h
    cases h
  | succ k ih =>
    intro f a0 a1 a2 a3 a4 a5 a6 H locs ls h hS hl
    unfold fX4_goAlone_26 at h
    refine lv_iload he hb dX4_goAlone_26 (lv_at hl 6 rfl) ?_
    refine lv_bipush (v := (13 : Int32)) he hb dX4_goAlone_28 (by decide) ?_
    refine lv_icmp_ge (tgt := 104) he hb dX4_goAlone_30 (by decide) (fun hc => ?_) (fun hc => ?_)
    · rw [if_pos hc] at h
      obtain rfl := Option.some.inj h
      exact z_vret B hS dX4_goAlone_104
    · rw [if_neg hc] at h
      refine z_aload_n he hb dX4_goAlone_33 rfl (lv_at hl 0 rfl) (zref_r _ _) ?_
      obtain ⟨x3, hx, h⟩ := zob h
      refine z_getR (ci := 4) (T := TX4) (N := 6) (j := 5) B hS hx rfl zin_X4 (by decide) zk_453 dX4_goAlone_34 ?_
      refine lv_bipush (v := (13 : Int32)) he hb dX4_goAlone_37 (by decide) ?_
      refine lv_iload_n he hb dX4_goAlone_39 rfl (lv_at hl 2 rfl) ?_
      refine lv_imul he hb dX4_goAlone_40 ?_
      refine lv_iload he hb dX4_goAlone_41 (lv_at hl 6 rfl) ?_
      refine lv_iadd he hb dX4_goAlone_43 ?_
      refine lv_iload_n he hb dX4_goAlone_44 rfl (lv_at hl 3 rfl) ?_
      obtain ⟨f4, hx, h⟩ := zob h
      refine z_callN (rest := []) B hS (mX11_put l G hx) zy_X11_put zkn_979 (by decide) rfl hl rfl (Nat.le_of_ble_eq_true rfl) dX4_goAlone_45 (kk := (fun H locs hS => ?_))
      refine lv_iload he hb dX4_goAlone_48 (lv_at hl 5 rfl) ?_
      refine lv_iload he hb dX4_goAlone_50 (lv_at hl 6 rfl) ?_
      refine lv_iconst (v := (1 : Int32)) he hb dX4_goAlone_52 (by decide) ?_
      refine lv_iadd he hb dX4_goAlone_53 ?_
      obtain ⟨x5, hx, h⟩ := zob h
      refine z_callN (rest := []) B hS (mX11_divides l G hx) zy_X11_divides zkn_989 (by decide) rfl hl rfl (Nat.le_of_ble_eq_true rfl) dX4_goAlone_54 (kk := (fun H locs hS => ?_))
      refine lv_if_eq (tgt := 98) he hb dX4_goAlone_57 (by decide) (fun hc => ?_) (fun hc => ?_)
      · rw [if_pos hc] at h
        exact gX4_goAlone_98 l B ih _ _ _ _ _ _ _ _ _ _ _ h hS (lv_sub hl [0, 1, 2, 3, 4, 5, 6] rfl)
      · rw [if_neg hc] at h
        refine z_aload_n he hb dX4_goAlone_60 rfl (lv_at hl 1 rfl) (zref_r _ _) ?_
        refine lv_iload_n he hb dX4_goAlone_61 rfl (lv_at hl 3 rfl) ?_
        refine lv_iload he hb dX4_goAlone_62 (lv_at hl 4 rfl) ?_
        obtain ⟨_, hc, h⟩ := zob h
        obtain ⟨x6, hx, h⟩ := zob h
        refine z_callV (ci := 2) (T := TX2) (N := 15) (rest := []) B hS (mX2_beside l G hx) zy_X2_beside zk_990 (by decide) hc rfl rfl hl rfl (Nat.le_of_ble_eq_true rfl) dX4_goAlone_64 (kk := (fun H locs hS => ?_))
        refine lv_istore (lv' := [(7, _), (0, _), (1, _), (2, _), (3, _), (4, _), (5, _), (6, _)]) he hb dX4_goAlone_67 hl (by decide) rfl (fun ls hl => ?_)
        refine lv_iload he hb dX4_goAlone_69 (lv_at hl 0 rfl) ?_
        refine lv_iconst (v := (-1 : Int32)) he hb dX4_goAlone_71 (by decide) ?_
        refine lv_icmp_eq (tgt := 84) he hb dX4_goAlone_72 (by decide) (fun hc => ?_) (fun hc => ?_)
        · rw [if_pos hc] at h
          exact gX4_goAlone_84 l B ih _ _ _ _ _ _ _ _ _ _ _ h hS (lv_sub hl [1, 2, 3, 4, 5, 6, 7] rfl)
        · rw [if_neg hc] at h
          refine z_aload_n he hb dX4_goAlone_75 rfl (lv_at hl 2 rfl) (zref_r _ _) ?_
          refine lv_iload he hb dX4_goAlone_76 (lv_at hl 0 rfl) ?_
          obtain ⟨_, hc, h⟩ := zob h
          obtain ⟨x7, hx, h⟩ := zob h
          refine z_callV (ci := 2) (T := TX2) (N := 15) (rest := []) B hS (mX2_hasHedge l G hx) zy_X2_hasHedge zk_978 (by decide) hc rfl rfl hl rfl (Nat.le_of_ble_eq_true rfl) dX4_goAlone_78 (kk := (fun H locs hS => ?_))
          refine lv_if_eq (tgt := 95) he hb dX4_goAlone_81 (by decide) (fun hc => ?_) (fun hc => ?_)
          · rw [if_pos hc] at h
            refine lv_iload he hb dX4_goAlone_95 (lv_at hl 0 rfl) ?_
            refine lv_istore_n (lv' := [(3, _), (7, _), (0, _), (1, _), (2, _), (4, _), (5, _), (6, _)]) he hb dX4_goAlone_97 rfl hl (by decide) rfl (fun ls hl => ?_)
            exact gX4_goAlone_98 l B ih _ _ _ _ _ _ _ _ _ _ _ h hS (lv_sub hl [2, 3, 4, 0, 5, 6, 7] rfl)
          · rw [if_neg hc] at h
            exact gX4_goAlone_84 l B ih _ _ _ _ _ _ _ _ _ _ _ h hS (lv_sub hl [1, 2, 3, 4, 5, 6, 7] rfl)
def fX4_goAlone (N n : Nat) (f : zF) (a0 : Nat) (a1 : Nat) (a2 : Int32) : Option zF :=
    ((zgR n f 4 a0 3).bind fun x1 => ((fX11_at N n f x1 (0 : Int32)).bind fun x2 => (fX4_goAlone_26 N n N f a0 a1 a2 x2 (a2 / (9 : Int32)) ((zrem a2 (9 : Int32)) + (1 : Int32)) (0 : Int32))))
set_option maxRecDepth 100000 in
set_option maxHeartbeats 4000000 in
theorem mX4_goAlone (l : Launch) (G : zG) {N n : Nat} {f : zF} {f9 : zF} {a0 : Nat} {a1 : Nat} {a2 : Int32} (h : fX4_goAlone N n f a0 a1 a2 = some f9) : zM l G yX4_goAlone cX4_goAlone 8 (none) 1 n f [zr G a0, zr G a1, .int a2] (none) f9 := by
  refine zM.of (by decide) (Nat.le_of_ble_eq_true rfl) ?_
  intro p e s m args below meth c locs ls B hS hl
  have he := B.1
  have hb := B.2.1
  have hl : lv_has ls 8 [(0, zr G a0), (1, zr G a1), (2, .int a2)] := hl
  unfold fX4_goAlone at h
  generalize s.heap = H at hS ⊢
  refine z_aload_n he hb dX4_goAlone_0 rfl (lv_at hl 0 rfl) (zref_r _ _) ?_
  obtain ⟨x1, hx, h⟩ := zob h
  refine z_getR (ci := 4) (T := TX4) (N := 6) (j := 3) B hS hx rfl zin_X4 (by decide) zk_451 dX4_goAlone_1 ?_
  refine lv_iconst (v := (0 : Int32)) he hb dX4_goAlone_4 (by decide) ?_
  obtain ⟨x2, hx, h⟩ := zob h
  refine z_callN (rest := []) B hS (mX11_at l G hx) zy_X11_at zkn_988 (by decide) rfl hl rfl (Nat.le_of_ble_eq_true rfl) dX4_goAlone_5 (kk := (fun H locs hS => ?_))
  refine lv_istore_n (lv' := [(3, _), (0, _), (1, _), (2, _)]) he hb dX4_goAlone_8 rfl hl (by decide) rfl (fun ls hl => ?_)
  refine lv_iload_n he hb dX4_goAlone_9 rfl (lv_at hl 3 rfl) ?_
  refine lv_bipush (v := (9 : Int32)) he hb dX4_goAlone_10 (by decide) ?_
  refine lv_idiv he hb dX4_goAlone_12 (by decide) ?_
  refine lv_istore (lv' := [(4, _), (3, _), (0, _), (1, _), (2, _)]) he hb dX4_goAlone_13 hl (by decide) rfl (fun ls hl => ?_)
  refine lv_iload_n he hb dX4_goAlone_15 rfl (lv_at hl 4 rfl) ?_
  refine lv_bipush (v := (9 : Int32)) he hb dX4_goAlone_16 (by decide) ?_
  refine z_irem he hb dX4_goAlone_18 (by decide) ?_
  refine lv_iconst (v := (1 : Int32)) he hb dX4_goAlone_19 (by decide) ?_
  refine lv_iadd he hb dX4_goAlone_20 ?_
  refine lv_istore (lv' := [(5, _), (4, _), (3, _), (0, _), (1, _), (2, _)]) he hb dX4_goAlone_21 hl (by decide) rfl (fun ls hl => ?_)
  refine lv_iconst (v := (0 : Int32)) he hb dX4_goAlone_23 (by decide) ?_
  refine lv_istore (lv' := [(6, _), (5, _), (4, _), (3, _), (0, _), (1, _), (2, _)]) he hb dX4_goAlone_24 hl (by decide) rfl (fun ls hl => ?_)
  exact gX4_goAlone_26 l B N _ _ _ _ _ _ _ _ _ _ _ h hS (lv_sub hl [4, 5, 6, 3, 2, 1, 0] rfl)
theorem dX4_isAsShown_0 : decode cX4_isAsShown 0 = .ok (.iconst 0, 1) := by decide +kernel
theorem dX4_isAsShown_1 : decode cX4_isAsShown 1 = .ok (.istore_n 2, 1) := by decide +kernel
theorem dX4_isAsShown_2 : decode cX4_isAsShown 2 = .ok (.iload_n 2, 1) := by decide +kernel
theorem dX4_isAsShown_3 : decode cX4_isAsShown 3 = .ok (.aload_n 0, 1) := by decide +kernel
theorem dX4_isAsShown_4 : decode cX4_isAsShown 4 = .ok (.getfield 30, 3) := by decide +kernel
theorem dX4_isAsShown_7 : decode cX4_isAsShown 7 = .ok (.if_icmp .ge 35, 3) := by decide +kernel
theorem dX4_isAsShown_10 : decode cX4_isAsShown 10 = .ok (.aload_n 0, 1) := by decide +kernel
theorem dX4_isAsShown_11 : decode cX4_isAsShown 11 = .ok (.getfield 22, 3) := by decide +kernel
theorem dX4_isAsShown_14 : decode cX4_isAsShown 14 = .ok (.bipush 13, 2) := by decide +kernel
theorem dX4_isAsShown_16 : decode cX4_isAsShown 16 = .ok (.iload_n 1, 1) := by decide +kernel
theorem dX4_isAsShown_17 : decode cX4_isAsShown 17 = .ok (.imul, 1) := by decide +kernel
theorem dX4_isAsShown_18 : decode cX4_isAsShown 18 = .ok (.iload_n 2, 1) := by decide +kernel
theorem dX4_isAsShown_19 : decode cX4_isAsShown 19 = .ok (.iadd, 1) := by decide +kernel
theorem dX4_isAsShown_20 : decode cX4_isAsShown 20 = .ok (.invokestatic 63, 3) := by decide +kernel
theorem dX4_isAsShown_23 : decode cX4_isAsShown 23 = .ok (.aload_n 0, 1) := by decide +kernel
theorem dX4_isAsShown_24 : decode cX4_isAsShown 24 = .ok (.getfield 19, 3) := by decide +kernel
theorem dX4_isAsShown_27 : decode cX4_isAsShown 27 = .ok (.iload_n 2, 1) := by decide +kernel
theorem dX4_isAsShown_28 : decode cX4_isAsShown 28 = .ok (.invokestatic 63, 3) := by decide +kernel
theorem dX4_isAsShown_31 : decode cX4_isAsShown 31 = .ok (.if_icmp .eq 5, 3) := by decide +kernel
theorem dX4_isAsShown_34 : decode cX4_isAsShown 34 = .ok (.iconst 0, 1) := by decide +kernel
theorem dX4_isAsShown_35 : decode cX4_isAsShown 35 = .ok (.ireturn, 1) := by decide +kernel
theorem dX4_isAsShown_36 : decode cX4_isAsShown 36 = .ok (.iinc 2 1, 3) := by decide +kernel
theorem dX4_isAsShown_39 : decode cX4_isAsShown 39 = .ok (.goto (-37), 3) := by decide +kernel
theorem dX4_isAsShown_42 : decode cX4_isAsShown 42 = .ok (.iconst 1, 1) := by decide +kernel
theorem dX4_isAsShown_43 : decode cX4_isAsShown 43 = .ok (.ireturn, 1) := by decide +kernel
def fX4_isAsShown_2 (N n : Nat) (f : zF) : Nat → Nat → Int32 → Int32 → Option Int32
  | 0, _, _, _ => none
  | k + 1, a0, a1, a2 =>
    ((zgI n f 4 a0 4).bind fun x1 => (if x1 ≤ a2 then zbl (1 : Int32) else ((zgR n f 4 a0 5).bind fun x2 => ((fX11_at N n f x2 (((13 : Int32) * a1) + a2)).bind fun x3 => ((zgR n f 4 a0 3).bind fun x4 => ((fX11_at N n f x4 a2).bind fun x5 => (if x3 = x5 then (fX4_isAsShown_2 N n f k a0 a1 (a2 + 1)) else zbl (0 : Int32))))))))
set_option maxRecDepth 100000 in
set_option maxHeartbeats 4000000 in
theorem gX4_isAsShown_2 (l : Launch) {G : zG} {p : Program} {e : Env} {s : State} {m : MethodId} {args : Array Value} {below : List Frame} {meth : Method} {c : Code} {f : zF} {N n : Nat} {r : Int32} (B : zB G p s m args meth c RX4 cX4_isAsShown 3 (some .boolean)) : ∀ (k : Nat), ∀ (a0 : Nat) (a1 : Int32) (a2 : Int32) (H : Heap) (locs : List Loc) (ls : Array Slot), fX4_isAsShown_2 N n f k a0 a1 a2 = some r → zS G n f H locs → lv_has ls 3 [(0, zr G a0), (1, .int a1), (2, .int a2)] → W p l e (zrm 1) s m args below meth c H locs 0 0 (MQ below (zQc G n f (some (.int r))) args s 0 0 (zA G)) (F0 m 2 ls []) := by
  have he := B.1
  have hb := B.2.1
  intro k
  induction k with
  | zero =>
    intro a0 a1 a2 H locs ls h
    unfold fX4_isAsShown_2 at h
    cases h
  | succ k ih =>
    intro a0 a1 a2 H locs ls h hS hl
    unfold fX4_isAsShown_2 at h
    refine lv_iload_n he hb dX4_isAsShown_2 rfl (lv_at hl 2 rfl) ?_
    refine z_aload_n he hb dX4_isAsShown_3 rfl (lv_at hl 0 rfl) (zref_r _ _) ?_
    obtain ⟨x1, hx, h⟩ := zob h
    refine z_getI (ci := 4) (T := TX4) (N := 6) (j := 4) B hS hx rfl zin_X4 (by decide) zk_452 dX4_isAsShown_4 ?_
    refine lv_icmp_ge (tgt := 42) he hb dX4_isAsShown_7 (by decide) (fun hc => ?_) (fun hc => ?_)
    · rw [if_pos hc] at h
      refine lv_iconst (v := (1 : Int32)) he hb dX4_isAsShown_42 (by decide) ?_
      obtain ⟨hz, rfl⟩ := zbl_i h
      exact z_zret B hS hz dX4_isAsShown_43
    · rw [if_neg hc] at h
      refine z_aload_n he hb dX4_isAsShown_10 rfl (lv_at hl 0 rfl) (zref_r _ _) ?_
      obtain ⟨x2, hx, h⟩ := zob h
      refine z_getR (ci := 4) (T := TX4) (N := 6) (j := 5) B hS hx rfl zin_X4 (by decide) zk_453 dX4_isAsShown_11 ?_
      refine lv_bipush (v := (13 : Int32)) he hb dX4_isAsShown_14 (by decide) ?_
      refine lv_iload_n he hb dX4_isAsShown_16 rfl (lv_at hl 1 rfl) ?_
      refine lv_imul he hb dX4_isAsShown_17 ?_
      refine lv_iload_n he hb dX4_isAsShown_18 rfl (lv_at hl 2 rfl) ?_
      refine lv_iadd he hb dX4_isAsShown_19 ?_
      obtain ⟨x3, hx, h⟩ := zob h
      refine z_callN (rest := []) B hS (mX11_at l G hx) zy_X11_at zkn_988 (by decide) rfl hl rfl (Nat.le_of_ble_eq_true rfl) dX4_isAsShown_20 (kk := (fun H locs hS => ?_))
      refine z_aload_n he hb dX4_isAsShown_23 rfl (lv_at hl 0 rfl) (zref_r _ _) ?_
      obtain ⟨x4, hx, h⟩ := zob h
      refine z_getR (ci := 4) (T := TX4) (N := 6) (j := 3) B hS hx rfl zin_X4 (by decide) zk_451 dX4_isAsShown_24 ?_
      refine lv_iload_n he hb dX4_isAsShown_27 rfl (lv_at hl 2 rfl) ?_
      obtain ⟨x5, hx, h⟩ := zob h
      refine z_callN (rest := [_]) B hS (mX11_at l G hx) zy_X11_at zkn_988 (by decide) rfl hl rfl (Nat.le_of_ble_eq_true rfl) dX4_isAsShown_28 (kk := (fun H locs hS => ?_))
      refine lv_icmp_eq (tgt := 36) he hb dX4_isAsShown_31 (by decide) (fun hc => ?_) (fun hc => ?_)
      · rw [if_pos hc] at h
        refine lv_iinc (v := (a2 + 1)) (lv' := [(2, _), (0, _), (1, _)]) he hb dX4_isAsShown_36 hl (k := 2) rfl rfl (by decide) rfl (fun ls hl => ?_)
        refine lv_goto (tgt := 2) he hb dX4_isAsShown_39 (by decide) ?_
        exact ih _ _ _ _ _ _ h hS (lv_sub hl [1, 2, 0] rfl)
      · rw [if_neg hc] at h
        refine lv_iconst (v := (0 : Int32)) he hb dX4_isAsShown_34 (by decide) ?_
        obtain ⟨hz, rfl⟩ := zbl_i h
        exact z_zret B hS hz dX4_isAsShown_35
def fX4_isAsShown (N n : Nat) (f : zF) (a0 : Nat) (a1 : Int32) : Option Int32 :=
    (fX4_isAsShown_2 N n f N a0 a1 (0 : Int32))
set_option maxRecDepth 100000 in
set_option maxHeartbeats 4000000 in
theorem mX4_isAsShown (l : Launch) (G : zG) {N n : Nat} {f : zF} {r : Int32} {a0 : Nat} {a1 : Int32} (h : fX4_isAsShown N n f a0 a1 = some r) : zM l G yX4_isAsShown cX4_isAsShown 3 (some .boolean) 1 n f [zr G a0, .int a1] (some (.int r)) f := by
  refine zM.of (by decide) (Nat.le_of_ble_eq_true rfl) ?_
  intro p e s m args below meth c locs ls B hS hl
  have he := B.1
  have hb := B.2.1
  have hl : lv_has ls 3 [(0, zr G a0), (1, .int a1)] := hl
  unfold fX4_isAsShown at h
  generalize s.heap = H at hS ⊢
  refine lv_iconst (v := (0 : Int32)) he hb dX4_isAsShown_0 (by decide) ?_
  refine lv_istore_n (lv' := [(2, _), (0, _), (1, _)]) he hb dX4_isAsShown_1 rfl hl (by decide) rfl (fun ls hl => ?_)
  exact gX4_isAsShown_2 l B N _ _ _ _ _ _ h hS (lv_sub hl [1, 2, 0] rfl)
theorem dX4_mostLeft_0 : decode cX4_mostLeft 0 = .ok (.iconst 0, 1) := by decide +kernel
theorem dX4_mostLeft_1 : decode cX4_mostLeft 1 = .ok (.istore_n 2, 1) := by decide +kernel
theorem dX4_mostLeft_2 : decode cX4_mostLeft 2 = .ok (.iconst 0, 1) := by decide +kernel
theorem dX4_mostLeft_3 : decode cX4_mostLeft 3 = .ok (.istore_n 3, 1) := by decide +kernel
theorem dX4_mostLeft_4 : decode cX4_mostLeft 4 = .ok (.iload_n 3, 1) := by decide +kernel
theorem dX4_mostLeft_5 : decode cX4_mostLeft 5 = .ok (.aload_n 0, 1) := by decide +kernel
theorem dX4_mostLeft_6 : decode cX4_mostLeft 6 = .ok (.getfield 58, 3) := by decide +kernel
theorem dX4_mostLeft_9 : decode cX4_mostLeft 9 = .ok (.if_icmp .ge 88, 3) := by decide +kernel
theorem dX4_mostLeft_12 : decode cX4_mostLeft 12 = .ok (.aload_n 0, 1) := by decide +kernel
theorem dX4_mostLeft_13 : decode cX4_mostLeft 13 = .ok (.getfield 22, 3) := by decide +kernel
theorem dX4_mostLeft_16 : decode cX4_mostLeft 16 = .ok (.bipush 13, 2) := by decide +kernel
theorem dX4_mostLeft_18 : decode cX4_mostLeft 18 = .ok (.aload_n 0, 1) := by decide +kernel
theorem dX4_mostLeft_19 : decode cX4_mostLeft 19 = .ok (.getfield 9, 3) := by decide +kernel
theorem dX4_mostLeft_22 : decode cX4_mostLeft 22 = .ok (.iload_n 3, 1) := by decide +kernel
theorem dX4_mostLeft_23 : decode cX4_mostLeft 23 = .ok (.invokestatic 63, 3) := by decide +kernel
theorem dX4_mostLeft_26 : decode cX4_mostLeft 26 = .ok (.imul, 1) := by decide +kernel
theorem dX4_mostLeft_27 : decode cX4_mostLeft 27 = .ok (.iload_n 1, 1) := by decide +kernel
theorem dX4_mostLeft_28 : decode cX4_mostLeft 28 = .ok (.iadd, 1) := by decide +kernel
theorem dX4_mostLeft_29 : decode cX4_mostLeft 29 = .ok (.invokestatic 63, 3) := by decide +kernel
theorem dX4_mostLeft_32 : decode cX4_mostLeft 32 = .ok (.istore 4, 2) := by decide +kernel
theorem dX4_mostLeft_34 : decode cX4_mostLeft 34 = .ok (.iconst 0, 1) := by decide +kernel
theorem dX4_mostLeft_35 : decode cX4_mostLeft 35 = .ok (.istore 5, 2) := by decide +kernel
theorem dX4_mostLeft_37 : decode cX4_mostLeft 37 = .ok (.iconst 0, 1) := by decide +kernel
theorem dX4_mostLeft_38 : decode cX4_mostLeft 38 = .ok (.istore 6, 2) := by decide +kernel
theorem dX4_mostLeft_40 : decode cX4_mostLeft 40 = .ok (.iload 6, 2) := by decide +kernel
theorem dX4_mostLeft_42 : decode cX4_mostLeft 42 = .ok (.aload_n 0, 1) := by decide +kernel
theorem dX4_mostLeft_43 : decode cX4_mostLeft 43 = .ok (.getfield 58, 3) := by decide +kernel
theorem dX4_mostLeft_46 : decode cX4_mostLeft 46 = .ok (.if_icmp .ge 38, 3) := by decide +kernel
theorem dX4_mostLeft_49 : decode cX4_mostLeft 49 = .ok (.aload_n 0, 1) := by decide +kernel
theorem dX4_mostLeft_50 : decode cX4_mostLeft 50 = .ok (.getfield 22, 3) := by decide +kernel
theorem dX4_mostLeft_53 : decode cX4_mostLeft 53 = .ok (.bipush 13, 2) := by decide +kernel
theorem dX4_mostLeft_55 : decode cX4_mostLeft 55 = .ok (.aload_n 0, 1) := by decide +kernel
theorem dX4_mostLeft_56 : decode cX4_mostLeft 56 = .ok (.getfield 9, 3) := by decide +kernel
theorem dX4_mostLeft_59 : decode cX4_mostLeft 59 = .ok (.iload 6, 2) := by decide +kernel
theorem dX4_mostLeft_61 : decode cX4_mostLeft 61 = .ok (.invokestatic 63, 3) := by decide +kernel
theorem dX4_mostLeft_64 : decode cX4_mostLeft 64 = .ok (.imul, 1) := by decide +kernel
theorem dX4_mostLeft_65 : decode cX4_mostLeft 65 = .ok (.iload_n 1, 1) := by decide +kernel
theorem dX4_mostLeft_66 : decode cX4_mostLeft 66 = .ok (.iadd, 1) := by decide +kernel
theorem dX4_mostLeft_67 : decode cX4_mostLeft 67 = .ok (.invokestatic 63, 3) := by decide +kernel
theorem dX4_mostLeft_70 : decode cX4_mostLeft 70 = .ok (.iload 4, 2) := by decide +kernel
theorem dX4_mostLeft_72 : decode cX4_mostLeft 72 = .ok (.if_icmp .ne 6, 3) := by decide +kernel
theorem dX4_mostLeft_75 : decode cX4_mostLeft 75 = .ok (.iinc 5 1, 3) := by decide +kernel
theorem dX4_mostLeft_78 : decode cX4_mostLeft 78 = .ok (.iinc 6 1, 3) := by decide +kernel
theorem dX4_mostLeft_81 : decode cX4_mostLeft 81 = .ok (.goto (-41), 3) := by decide +kernel
theorem dX4_mostLeft_84 : decode cX4_mostLeft 84 = .ok (.iload_n 2, 1) := by decide +kernel
theorem dX4_mostLeft_85 : decode cX4_mostLeft 85 = .ok (.iload 5, 2) := by decide +kernel
theorem dX4_mostLeft_87 : decode cX4_mostLeft 87 = .ok (.invokestatic 77, 3) := by decide +kernel
theorem dX4_mostLeft_90 : decode cX4_mostLeft 90 = .ok (.istore_n 2, 1) := by decide +kernel
theorem dX4_mostLeft_91 : decode cX4_mostLeft 91 = .ok (.iinc 3 1, 3) := by decide +kernel
theorem dX4_mostLeft_94 : decode cX4_mostLeft 94 = .ok (.goto (-90), 3) := by decide +kernel
theorem dX4_mostLeft_97 : decode cX4_mostLeft 97 = .ok (.iload_n 2, 1) := by decide +kernel
theorem dX4_mostLeft_98 : decode cX4_mostLeft 98 = .ok (.ireturn, 1) := by decide +kernel
def fX4_mostLeft_78 (r4 : Nat → Int32 → Int32 → Int32 → Option Int32) (r40 : Nat → Int32 → Int32 → Int32 → Int32 → Int32 → Int32 → Option Int32) (N n : Nat) (f : zF) (a0 : Nat) (a1 : Int32) (a2 : Int32) (a3 : Int32) (a4 : Int32) (a5 : Int32) (a6 : Int32) : Option Int32 :=
    (r40 a0 a1 a2 a3 a4 a5 (a6 + 1))
set_option maxRecDepth 100000 in
set_option maxHeartbeats 4000000 in
theorem gX4_mostLeft_78 (l : Launch) {G : zG} {p : Program} {e : Env} {s : State} {m : MethodId} {args : Array Value} {below : List Frame} {meth : Method} {c : Code} {f : zF} {N n : Nat} {r : Int32} {r4 : Nat → Int32 → Int32 → Int32 → Option Int32} {r40 : Nat → Int32 → Int32 → Int32 → Int32 → Int32 → Int32 → Option Int32} (B : zB G p s m args meth c RX4 cX4_mostLeft 7 (some .int)) (hr4 : ∀ (a0 : Nat) (a1 : Int32) (a2 : Int32) (a3 : Int32) (H : Heap) (locs : List Loc) (ls : Array Slot), r4 a0 a1 a2 a3 = some r → zS G n f H locs → lv_has ls 7 [(0, zr G a0), (1, .int a1), (2, .int a2), (3, .int a3)] → W p l e (zrm 1) s m args below meth c H locs 0 0 (MQ below (zQc G n f (some (.int r))) args s 0 0 (zA G)) (F0 m 4 ls [])) (hr40 : ∀ (a0 : Nat) (a1 : Int32) (a2 : Int32) (a3 : Int32) (a4 : Int32) (a5 : Int32) (a6 : Int32) (H : Heap) (locs : List Loc) (ls : Array Slot), r40 a0 a1 a2 a3 a4 a5 a6 = some r → zS G n f H locs → lv_has ls 7 [(0, zr G a0), (1, .int a1), (2, .int a2), (3, .int a3), (4, .int a4), (5, .int a5), (6, .int a6)] → W p l e (zrm 1) s m args below meth c H locs 0 0 (MQ below (zQc G n f (some (.int r))) args s 0 0 (zA G)) (F0 m 40 ls [])) : ∀ (a0 : Nat) (a1 : Int32) (a2 : Int32) (a3 : Int32) (a4 : Int32) (a5 : Int32) (a6 : Int32) (H : Heap) (locs : List Loc) (ls : Array Slot), fX4_mostLeft_78 r4 r40 N n f a0 a1 a2 a3 a4 a5 a6 = some r → zS G n f H locs → lv_has ls 7 [(0, zr G a0), (1, .int a1), (2, .int a2), (3, .int a3), (4, .int a4), (5, .int a5), (6, .int a6)] → W p l e (zrm 1) s m args below meth c H locs 0 0 (MQ below (zQc G n f (some (.int r))) args s 0 0 (zA G)) (F0 m 78 ls []) := by
  have he := B.1
  have hb := B.2.1
  intro a0 a1 a2 a3 a4 a5 a6 H locs ls h hS hl
  unfold fX4_mostLeft_78 at h
  refine lv_iinc (v := (a6 + 1)) (lv' := [(6, _), (0, _), (1, _), (2, _), (3, _), (4, _), (5, _)]) he hb dX4_mostLeft_78 hl (k := 6) rfl rfl (by decide) rfl (fun ls hl => ?_)
  refine lv_goto (tgt := 40) he hb dX4_mostLeft_81 (by decide) ?_
  exact hr40 _ _ _ _ _ _ _ _ _ _ h hS (lv_sub hl [1, 2, 3, 4, 5, 6, 0] rfl)
def fX4_mostLeft_40 (r4 : Nat → Int32 → Int32 → Int32 → Option Int32) (N n : Nat) (f : zF) : Nat → Nat → Int32 → Int32 → Int32 → Int32 → Int32 → Int32 → Option Int32
  | 0, _, _, _, _, _, _, _ => none
  | k + 1, a0, a1, a2, a3, a4, a5, a6 =>
    ((zgI n f 4 a0 1).bind fun x6 => (if x6 ≤ a6 then ((fJ9_max_7cf53 N n f a2 a5).bind fun x7 => (r4 a0 a1 x7 (a3 + 1))) else ((zgR n f 4 a0 5).bind fun x8 => ((zgR n f 4 a0 0).bind fun x9 => ((fX11_at N n f x9 a6).bind fun x10 => ((fX11_at N n f x8 (((13 : Int32) * x10) + a1)).bind fun x11 => (if x11 = a4 then (fX4_mostLeft_78 r4 (fX4_mostLeft_40 r4 N n f k) N n f a0 a1 a2 a3 a4 (a5 + 1) a6) else (fX4_mostLeft_78 r4 (fX4_mostLeft_40 r4 N n f k) N n f a0 a1 a2 a3 a4 a5 a6))))))))
set_option maxRecDepth 100000 in
set_option maxHeartbeats 4000000 in
theorem gX4_mostLeft_40 (l : Launch) {G : zG} {p : Program} {e : Env} {s : State} {m : MethodId} {args : Array Value} {below : List Frame} {meth : Method} {c : Code} {f : zF} {N n : Nat} {r : Int32} {r4 : Nat → Int32 → Int32 → Int32 → Option Int32} (B : zB G p s m args meth c RX4 cX4_mostLeft 7 (some .int)) (hr4 : ∀ (a0 : Nat) (a1 : Int32) (a2 : Int32) (a3 : Int32) (H : Heap) (locs : List Loc) (ls : Array Slot), r4 a0 a1 a2 a3 = some r → zS G n f H locs → lv_has ls 7 [(0, zr G a0), (1, .int a1), (2, .int a2), (3, .int a3)] → W p l e (zrm 1) s m args below meth c H locs 0 0 (MQ below (zQc G n f (some (.int r))) args s 0 0 (zA G)) (F0 m 4 ls [])) : ∀ (k : Nat), ∀ (a0 : Nat) (a1 : Int32) (a2 : Int32) (a3 : Int32) (a4 : Int32) (a5 : Int32) (a6 : Int32) (H : Heap) (locs : List Loc) (ls : Array Slot), fX4_mostLeft_40 r4 N n f k a0 a1 a2 a3 a4 a5 a6 = some r → zS G n f H locs → lv_has ls 7 [(0, zr G a0), (1, .int a1), (2, .int a2), (3, .int a3), (4, .int a4), (5, .int a5), (6, .int a6)] → W p l e (zrm 1) s m args below meth c H locs 0 0 (MQ below (zQc G n f (some (.int r))) args s 0 0 (zA G)) (F0 m 40 ls []) := by
  have he := B.1
  have hb := B.2.1
  intro k
  induction k with
  | zero =>
    intro a0 a1 a2 a3 a4 a5 a6 H locs ls h
    unfold fX4_mostLeft_40 at h
    cases h
  | succ k ih =>
    intro a0 a1 a2 a3 a4 a5 a6 H locs ls h hS hl
    unfold fX4_mostLeft_40 at h
    refine lv_iload he hb dX4_mostLeft_40 (lv_at hl 6 rfl) ?_
    refine z_aload_n he hb dX4_mostLeft_42 rfl (lv_at hl 0 rfl) (zref_r _ _) ?_
    obtain ⟨x6, hx, h⟩ := zob h
    refine z_getI (ci := 4) (T := TX4) (N := 6) (j := 1) B hS hx rfl zin_X4 (by decide) zk_447 dX4_mostLeft_43 ?_
    refine lv_icmp_ge (tgt := 84) he hb dX4_mostLeft_46 (by decide) (fun hc => ?_) (fun hc => ?_)
    · rw [if_pos hc] at h
      refine lv_iload_n he hb dX4_mostLeft_84 rfl (lv_at hl 2 rfl) ?_
      refine lv_iload he hb dX4_mostLeft_85 (lv_at hl 5 rfl) ?_
      obtain ⟨x7, hx, h⟩ := zob h
      refine z_callT (rest := []) B hS (mJ9_max_7cf53 l G hx) zy_J9_max_7cf53 zk_1003 (by decide) rfl hl rfl (Nat.le_of_ble_eq_true rfl) dX4_mostLeft_87 (kk := (fun H locs hS => ?_))
      refine lv_istore_n (lv' := [(2, _), (0, _), (1, _), (3, _), (4, _), (5, _), (6, _)]) he hb dX4_mostLeft_90 rfl hl (by decide) rfl (fun ls hl => ?_)
      refine lv_iinc (v := (a3 + 1)) (lv' := [(3, _), (2, _), (0, _), (1, _), (4, _), (5, _), (6, _)]) he hb dX4_mostLeft_91 hl (k := 3) rfl rfl (by decide) rfl (fun ls hl => ?_)
      refine lv_goto (tgt := 4) he hb dX4_mostLeft_94 (by decide) ?_
      exact hr4 _ _ _ _ _ _ _ h hS (lv_sub hl [2, 3, 1, 0] rfl)
    · rw [if_neg hc] at h
      refine z_aload_n he hb dX4_mostLeft_49 rfl (lv_at hl 0 rfl) (zref_r _ _) ?_
      obtain ⟨x8, hx, h⟩ := zob h
      refine z_getR (ci := 4) (T := TX4) (N := 6) (j := 5) B hS hx rfl zin_X4 (by decide) zk_453 dX4_mostLeft_50 ?_
      refine lv_bipush (v := (13 : Int32)) he hb dX4_mostLeft_53 (by decide) ?_
      refine z_aload_n he hb dX4_mostLeft_55 rfl (lv_at hl 0 rfl) (zref_r _ _) ?_
      obtain ⟨x9, hx, h⟩ := zob h
      refine z_getR (ci := 4) (T := TX4) (N := 6) (j := 0) B hS hx rfl zin_X4 (by decide) zk_445 dX4_mostLeft_56 ?_
      refine lv_iload he hb dX4_mostLeft_59 (lv_at hl 6 rfl) ?_
      obtain ⟨x10, hx, h⟩ := zob h
      refine z_callN (rest := [_, _]) B hS (mX11_at l G hx) zy_X11_at zkn_988 (by decide) rfl hl rfl (Nat.le_of_ble_eq_true rfl) dX4_mostLeft_61 (kk := (fun H locs hS => ?_))
      refine lv_imul he hb dX4_mostLeft_64 ?_
      refine lv_iload_n he hb dX4_mostLeft_65 rfl (lv_at hl 1 rfl) ?_
      refine lv_iadd he hb dX4_mostLeft_66 ?_
      obtain ⟨x11, hx, h⟩ := zob h
      refine z_callN (rest := []) B hS (mX11_at l G hx) zy_X11_at zkn_988 (by decide) rfl hl rfl (Nat.le_of_ble_eq_true rfl) dX4_mostLeft_67 (kk := (fun H locs hS => ?_))
      refine lv_iload he hb dX4_mostLeft_70 (lv_at hl 4 rfl) ?_
      refine lv_icmp_ne (tgt := 78) he hb dX4_mostLeft_72 (by decide) (fun hc => ?_) (fun hc => ?_)
      · rw [if_neg hc] at h
        exact gX4_mostLeft_78 l B hr4 ih _ _ _ _ _ _ _ _ _ _ h hS (lv_sub hl [0, 1, 2, 3, 4, 5, 6] rfl)
      · rw [if_pos hc] at h
        refine lv_iinc (v := (a5 + 1)) (lv' := [(5, _), (0, _), (1, _), (2, _), (3, _), (4, _), (6, _)]) he hb dX4_mostLeft_75 hl (k := 5) rfl rfl (by decide) rfl (fun ls hl => ?_)
        exact gX4_mostLeft_78 l B hr4 ih _ _ _ _ _ _ _ _ _ _ h hS (lv_sub hl [1, 2, 3, 4, 5, 0, 6] rfl)
def fX4_mostLeft_4 (N n : Nat) (f : zF) : Nat → Nat → Int32 → Int32 → Int32 → Option Int32
  | 0, _, _, _, _ => none
  | k + 1, a0, a1, a2, a3 =>
    ((zgI n f 4 a0 1).bind fun x1 => (if x1 ≤ a3 then some a2 else ((zgR n f 4 a0 5).bind fun x2 => ((zgR n f 4 a0 0).bind fun x3 => ((fX11_at N n f x3 a3).bind fun x4 => ((fX11_at N n f x2 (((13 : Int32) * x4) + a1)).bind fun x5 => (fX4_mostLeft_40 (fX4_mostLeft_4 N n f k) N n f N a0 a1 a2 a3 x5 (0 : Int32) (0 : Int32))))))))
set_option maxRecDepth 100000 in
set_option maxHeartbeats 4000000 in
theorem gX4_mostLeft_4 (l : Launch) {G : zG} {p : Program} {e : Env} {s : State} {m : MethodId} {args : Array Value} {below : List Frame} {meth : Method} {c : Code} {f : zF} {N n : Nat} {r : Int32} (B : zB G p s m args meth c RX4 cX4_mostLeft 7 (some .int)) : ∀ (k : Nat), ∀ (a0 : Nat) (a1 : Int32) (a2 : Int32) (a3 : Int32) (H : Heap) (locs : List Loc) (ls : Array Slot), fX4_mostLeft_4 N n f k a0 a1 a2 a3 = some r → zS G n f H locs → lv_has ls 7 [(0, zr G a0), (1, .int a1), (2, .int a2), (3, .int a3)] → W p l e (zrm 1) s m args below meth c H locs 0 0 (MQ below (zQc G n f (some (.int r))) args s 0 0 (zA G)) (F0 m 4 ls []) := by
  have he := B.1
  have hb := B.2.1
  intro k
  induction k with
  | zero =>
    intro a0 a1 a2 a3 H locs ls h
    unfold fX4_mostLeft_4 at h
    cases h
  | succ k ih =>
    intro a0 a1 a2 a3 H locs ls h hS hl
    unfold fX4_mostLeft_4 at h
    refine lv_iload_n he hb dX4_mostLeft_4 rfl (lv_at hl 3 rfl) ?_
    refine z_aload_n he hb dX4_mostLeft_5 rfl (lv_at hl 0 rfl) (zref_r _ _) ?_
    obtain ⟨x1, hx, h⟩ := zob h
    refine z_getI (ci := 4) (T := TX4) (N := 6) (j := 1) B hS hx rfl zin_X4 (by decide) zk_447 dX4_mostLeft_6 ?_
    refine lv_icmp_ge (tgt := 97) he hb dX4_mostLeft_9 (by decide) (fun hc => ?_) (fun hc => ?_)
    · rw [if_pos hc] at h
      refine lv_iload_n he hb dX4_mostLeft_97 rfl (lv_at hl 2 rfl) ?_
      obtain rfl := Option.some.inj h
      exact z_iret B hS dX4_mostLeft_98
    · rw [if_neg hc] at h
      refine z_aload_n he hb dX4_mostLeft_12 rfl (lv_at hl 0 rfl) (zref_r _ _) ?_
      obtain ⟨x2, hx, h⟩ := zob h
      refine z_getR (ci := 4) (T := TX4) (N := 6) (j := 5) B hS hx rfl zin_X4 (by decide) zk_453 dX4_mostLeft_13 ?_
      refine lv_bipush (v := (13 : Int32)) he hb dX4_mostLeft_16 (by decide) ?_
      refine z_aload_n he hb dX4_mostLeft_18 rfl (lv_at hl 0 rfl) (zref_r _ _) ?_
      obtain ⟨x3, hx, h⟩ := zob h
      refine z_getR (ci := 4) (T := TX4) (N := 6) (j := 0) B hS hx rfl zin_X4 (by decide) zk_445 dX4_mostLeft_19 ?_
      refine lv_iload_n he hb dX4_mostLeft_22 rfl (lv_at hl 3 rfl) ?_
      obtain ⟨x4, hx, h⟩ := zob h
      refine z_callN (rest := [_, _]) B hS (mX11_at l G hx) zy_X11_at zkn_988 (by decide) rfl hl rfl (Nat.le_of_ble_eq_true rfl) dX4_mostLeft_23 (kk := (fun H locs hS => ?_))
      refine lv_imul he hb dX4_mostLeft_26 ?_
      refine lv_iload_n he hb dX4_mostLeft_27 rfl (lv_at hl 1 rfl) ?_
      refine lv_iadd he hb dX4_mostLeft_28 ?_
      obtain ⟨x5, hx, h⟩ := zob h
      refine z_callN (rest := []) B hS (mX11_at l G hx) zy_X11_at zkn_988 (by decide) rfl hl rfl (Nat.le_of_ble_eq_true rfl) dX4_mostLeft_29 (kk := (fun H locs hS => ?_))
      refine lv_istore (lv' := [(4, _), (0, _), (1, _), (2, _), (3, _)]) he hb dX4_mostLeft_32 hl (by decide) rfl (fun ls hl => ?_)
      refine lv_iconst (v := (0 : Int32)) he hb dX4_mostLeft_34 (by decide) ?_
      refine lv_istore (lv' := [(5, _), (4, _), (0, _), (1, _), (2, _), (3, _)]) he hb dX4_mostLeft_35 hl (by decide) rfl (fun ls hl => ?_)
      refine lv_iconst (v := (0 : Int32)) he hb dX4_mostLeft_37 (by decide) ?_
      refine lv_istore (lv' := [(6, _), (5, _), (4, _), (0, _), (1, _), (2, _), (3, _)]) he hb dX4_mostLeft_38 hl (by decide) rfl (fun ls hl => ?_)
      exact gX4_mostLeft_40 l B ih N _ _ _ _ _ _ _ _ _ _ h hS (lv_sub hl [3, 4, 5, 6, 2, 1, 0] rfl)
def fX4_mostLeft (N n : Nat) (f : zF) (a0 : Nat) (a1 : Int32) : Option Int32 :=
    (fX4_mostLeft_4 N n f N a0 a1 (0 : Int32) (0 : Int32))
set_option maxRecDepth 100000 in
set_option maxHeartbeats 4000000 in
theorem mX4_mostLeft (l : Launch) (G : zG) {N n : Nat} {f : zF} {r : Int32} {a0 : Nat} {a1 : Int32} (h : fX4_mostLeft N n f a0 a1 = some r) : zM l G yX4_mostLeft cX4_mostLeft 7 (some .int) 1 n f [zr G a0, .int a1] (some (.int r)) f := by
  refine zM.of (by decide) (Nat.le_of_ble_eq_true rfl) ?_
  intro p e s m args below meth c locs ls B hS hl
  have he := B.1
  have hb := B.2.1
  have hl : lv_has ls 7 [(0, zr G a0), (1, .int a1)] := hl
  unfold fX4_mostLeft at h
  generalize s.heap = H at hS ⊢
  refine lv_iconst (v := (0 : Int32)) he hb dX4_mostLeft_0 (by decide) ?_
  refine lv_istore_n (lv' := [(2, _), (0, _), (1, _)]) he hb dX4_mostLeft_1 rfl hl (by decide) rfl (fun ls hl => ?_)
  refine lv_iconst (v := (0 : Int32)) he hb dX4_mostLeft_2 (by decide) ?_
  refine lv_istore_n (lv' := [(3, _), (2, _), (0, _), (1, _)]) he hb dX4_mostLeft_3 rfl hl (by decide) rfl (fun ls hl => ?_)
  exact gX4_mostLeft_4 l B N _ _ _ _ _ _ _ h hS (lv_sub hl [2, 3, 1, 0] rfl)
theorem dX4_bestHour_0 : decode cX4_bestHour 0 = .ok (.iconst 1, 1) := by decide +kernel
theorem dX4_bestHour_1 : decode cX4_bestHour 1 = .ok (.istore_n 1, 1) := by decide +kernel
theorem dX4_bestHour_2 : decode cX4_bestHour 2 = .ok (.iconst 2, 1) := by decide +kernel
theorem dX4_bestHour_3 : decode cX4_bestHour 3 = .ok (.istore_n 2, 1) := by decide +kernel
theorem dX4_bestHour_4 : decode cX4_bestHour 4 = .ok (.iload_n 2, 1) := by decide +kernel
theorem dX4_bestHour_5 : decode cX4_bestHour 5 = .ok (.bipush 12, 2) := by decide +kernel
theorem dX4_bestHour_7 : decode cX4_bestHour 7 = .ok (.if_icmp .gt 24, 3) := by decide +kernel
theorem dX4_bestHour_10 : decode cX4_bestHour 10 = .ok (.aload_n 0, 1) := by decide +kernel
theorem dX4_bestHour_11 : decode cX4_bestHour 11 = .ok (.iload_n 2, 1) := by decide +kernel
theorem dX4_bestHour_12 : decode cX4_bestHour 12 = .ok (.invokevirtual 74, 3) := by decide +kernel
theorem dX4_bestHour_15 : decode cX4_bestHour 15 = .ok (.aload_n 0, 1) := by decide +kernel
theorem dX4_bestHour_16 : decode cX4_bestHour 16 = .ok (.iload_n 1, 1) := by decide +kernel
theorem dX4_bestHour_17 : decode cX4_bestHour 17 = .ok (.invokevirtual 74, 3) := by decide +kernel
theorem dX4_bestHour_20 : decode cX4_bestHour 20 = .ok (.if_icmp .ge 5, 3) := by decide +kernel
theorem dX4_bestHour_23 : decode cX4_bestHour 23 = .ok (.iload_n 2, 1) := by decide +kernel
theorem dX4_bestHour_24 : decode cX4_bestHour 24 = .ok (.istore_n 1, 1) := by decide +kernel
theorem dX4_bestHour_25 : decode cX4_bestHour 25 = .ok (.iinc 2 1, 3) := by decide +kernel
theorem dX4_bestHour_28 : decode cX4_bestHour 28 = .ok (.goto (-24), 3) := by decide +kernel
theorem dX4_bestHour_31 : decode cX4_bestHour 31 = .ok (.iload_n 1, 1) := by decide +kernel
theorem dX4_bestHour_32 : decode cX4_bestHour 32 = .ok (.ireturn, 1) := by decide +kernel
def fX4_bestHour_25 (r4 : Nat → Int32 → Int32 → Option Int32) (N n : Nat) (f : zF) (a0 : Nat) (a1 : Int32) (a2 : Int32) : Option Int32 :=
    (r4 a0 a1 (a2 + 1))
set_option maxRecDepth 100000 in
set_option maxHeartbeats 4000000 in
theorem gX4_bestHour_25 (l : Launch) {G : zG} {p : Program} {e : Env} {s : State} {m : MethodId} {args : Array Value} {below : List Frame} {meth : Method} {c : Code} {f : zF} {N n : Nat} {r : Int32} {r4 : Nat → Int32 → Int32 → Option Int32} (B : zB G p s m args meth c RX4 cX4_bestHour 3 (some .int)) (hr4 : ∀ (a0 : Nat) (a1 : Int32) (a2 : Int32) (H : Heap) (locs : List Loc) (ls : Array Slot), r4 a0 a1 a2 = some r → zS G n f H locs → lv_has ls 3 [(0, zr G a0), (1, .int a1), (2, .int a2)] → W p l e (zrm 2) s m args below meth c H locs 0 0 (MQ below (zQc G n f (some (.int r))) args s 0 0 (zA G)) (F0 m 4 ls [])) : ∀ (a0 : Nat) (a1 : Int32) (a2 : Int32) (H : Heap) (locs : List Loc) (ls : Array Slot), fX4_bestHour_25 r4 N n f a0 a1 a2 = some r → zS G n f H locs → lv_has ls 3 [(0, zr G a0), (1, .int a1), (2, .int a2)] → W p l e (zrm 2) s m args below meth c H locs 0 0 (MQ below (zQc G n f (some (.int r))) args s 0 0 (zA G)) (F0 m 25 ls []) := by
  have he := B.1
  have hb := B.2.1
  intro a0 a1 a2 H locs ls h hS hl
  unfold fX4_bestHour_25 at h
  refine lv_iinc (v := (a2 + 1)) (lv' := [(2, _), (0, _), (1, _)]) he hb dX4_bestHour_25 hl (k := 2) rfl rfl (by decide) rfl (fun ls hl => ?_)
  refine lv_goto (tgt := 4) he hb dX4_bestHour_28 (by decide) ?_
  exact hr4 _ _ _ _ _ _ h hS (lv_sub hl [1, 2, 0] rfl)
def fX4_bestHour_4 (N n : Nat) (f : zF) : Nat → Nat → Int32 → Int32 → Option Int32
  | 0, _, _, _ => none
  | k + 1, a0, a1, a2 =>
    (if (12 : Int32) < a2 then some a1 else ((zck n f 4 a0).bind fun _ => ((fX4_mostLeft N n f a0 a2).bind fun x1 => ((zck n f 4 a0).bind fun _ => ((fX4_mostLeft N n f a0 a1).bind fun x2 => (if x2 ≤ x1 then (fX4_bestHour_25 (fX4_bestHour_4 N n f k) N n f a0 a1 a2) else (fX4_bestHour_25 (fX4_bestHour_4 N n f k) N n f a0 a2 a2)))))))
set_option maxRecDepth 100000 in
set_option maxHeartbeats 4000000 in
theorem gX4_bestHour_4 (l : Launch) {G : zG} {p : Program} {e : Env} {s : State} {m : MethodId} {args : Array Value} {below : List Frame} {meth : Method} {c : Code} {f : zF} {N n : Nat} {r : Int32} (B : zB G p s m args meth c RX4 cX4_bestHour 3 (some .int)) : ∀ (k : Nat), ∀ (a0 : Nat) (a1 : Int32) (a2 : Int32) (H : Heap) (locs : List Loc) (ls : Array Slot), fX4_bestHour_4 N n f k a0 a1 a2 = some r → zS G n f H locs → lv_has ls 3 [(0, zr G a0), (1, .int a1), (2, .int a2)] → W p l e (zrm 2) s m args below meth c H locs 0 0 (MQ below (zQc G n f (some (.int r))) args s 0 0 (zA G)) (F0 m 4 ls []) := by
  have he := B.1
  have hb := B.2.1
  intro k
  induction k with
  | zero =>
    intro a0 a1 a2 H locs ls h
    unfold fX4_bestHour_4 at h
    cases h
  | succ k ih =>
    intro a0 a1 a2 H locs ls h hS hl
    unfold fX4_bestHour_4 at h
    refine lv_iload_n he hb dX4_bestHour_4 rfl (lv_at hl 2 rfl) ?_
    refine lv_bipush (v := (12 : Int32)) he hb dX4_bestHour_5 (by decide) ?_
    refine lv_icmp_gt (tgt := 31) he hb dX4_bestHour_7 (by decide) (fun hc => ?_) (fun hc => ?_)
    · rw [if_pos hc] at h
      refine lv_iload_n he hb dX4_bestHour_31 rfl (lv_at hl 1 rfl) ?_
      obtain rfl := Option.some.inj h
      exact z_iret B hS dX4_bestHour_32
    · rw [if_neg hc] at h
      refine z_aload_n he hb dX4_bestHour_10 rfl (lv_at hl 0 rfl) (zref_r _ _) ?_
      refine lv_iload_n he hb dX4_bestHour_11 rfl (lv_at hl 2 rfl) ?_
      obtain ⟨_, hc, h⟩ := zob h
      obtain ⟨x1, hx, h⟩ := zob h
      refine z_callV (ci := 4) (T := TX4) (N := 6) (rest := []) B hS (mX4_mostLeft l G hx) zy_X4_mostLeft zk_999 (by decide) hc rfl rfl hl rfl (Nat.le_of_ble_eq_true rfl) dX4_bestHour_12 (kk := (fun H locs hS => ?_))
      refine z_aload_n he hb dX4_bestHour_15 rfl (lv_at hl 0 rfl) (zref_r _ _) ?_
      refine lv_iload_n he hb dX4_bestHour_16 rfl (lv_at hl 1 rfl) ?_
      obtain ⟨_, hc, h⟩ := zob h
      obtain ⟨x2, hx, h⟩ := zob h
      refine z_callV (ci := 4) (T := TX4) (N := 6) (rest := [_]) B hS (mX4_mostLeft l G hx) zy_X4_mostLeft zk_999 (by decide) hc rfl rfl hl rfl (Nat.le_of_ble_eq_true rfl) dX4_bestHour_17 (kk := (fun H locs hS => ?_))
      refine lv_icmp_ge (tgt := 25) he hb dX4_bestHour_20 (by decide) (fun hc => ?_) (fun hc => ?_)
      · rw [if_pos hc] at h
        exact gX4_bestHour_25 l B ih _ _ _ _ _ _ h hS (lv_sub hl [0, 1, 2] rfl)
      · rw [if_neg hc] at h
        refine lv_iload_n he hb dX4_bestHour_23 rfl (lv_at hl 2 rfl) ?_
        refine lv_istore_n (lv' := [(1, _), (0, _), (2, _)]) he hb dX4_bestHour_24 rfl hl (by decide) rfl (fun ls hl => ?_)
        exact gX4_bestHour_25 l B ih _ _ _ _ _ _ h hS (lv_sub hl [1, 0, 2] rfl)
def fX4_bestHour (N n : Nat) (f : zF) (a0 : Nat) : Option Int32 :=
    (fX4_bestHour_4 N n f N a0 (1 : Int32) (2 : Int32))
set_option maxRecDepth 100000 in
set_option maxHeartbeats 4000000 in
theorem mX4_bestHour (l : Launch) (G : zG) {N n : Nat} {f : zF} {r : Int32} {a0 : Nat} (h : fX4_bestHour N n f a0 = some r) : zM l G yX4_bestHour cX4_bestHour 3 (some .int) 2 n f [zr G a0] (some (.int r)) f := by
  refine zM.of (by decide) (Nat.le_of_ble_eq_true rfl) ?_
  intro p e s m args below meth c locs ls B hS hl
  have he := B.1
  have hb := B.2.1
  have hl : lv_has ls 3 [(0, zr G a0)] := hl
  unfold fX4_bestHour at h
  generalize s.heap = H at hS ⊢
  refine lv_iconst (v := (1 : Int32)) he hb dX4_bestHour_0 (by decide) ?_
  refine lv_istore_n (lv' := [(1, _), (0, _)]) he hb dX4_bestHour_1 rfl hl (by decide) rfl (fun ls hl => ?_)
  refine lv_iconst (v := (2 : Int32)) he hb dX4_bestHour_2 (by decide) ?_
  refine lv_istore_n (lv' := [(2, _), (1, _), (0, _)]) he hb dX4_bestHour_3 rfl hl (by decide) rfl (fun ls hl => ?_)
  exact gX4_bestHour_4 l B N _ _ _ _ _ _ h hS (lv_sub hl [2, 1, 0] rfl)
theorem dX4_find_0 : decode cX4_find 0 = .ok (.iconst 0, 1) := by decide +kernel
theorem dX4_find_1 : decode cX4_find 1 = .ok (.istore_n 2, 1) := by decide +kernel
theorem dX4_find_2 : decode cX4_find 2 = .ok (.iconst 0, 1) := by decide +kernel
theorem dX4_find_3 : decode cX4_find 3 = .ok (.istore_n 3, 1) := by decide +kernel
theorem dX4_find_4 : decode cX4_find 4 = .ok (.iload_n 3, 1) := by decide +kernel
theorem dX4_find_5 : decode cX4_find 5 = .ok (.bipush 36, 2) := by decide +kernel
theorem dX4_find_7 : decode cX4_find 7 = .ok (.if_icmp .ge 35, 3) := by decide +kernel
theorem dX4_find_10 : decode cX4_find 10 = .ok (.aload_n 0, 1) := by decide +kernel
theorem dX4_find_11 : decode cX4_find 11 = .ok (.aload_n 1, 1) := by decide +kernel
theorem dX4_find_12 : decode cX4_find 12 = .ok (.iload_n 3, 1) := by decide +kernel
theorem dX4_find_13 : decode cX4_find 13 = .ok (.invokevirtual 51, 3) := by decide +kernel
theorem dX4_find_16 : decode cX4_find 16 = .ok (.aload_n 0, 1) := by decide +kernel
theorem dX4_find_17 : decode cX4_find 17 = .ok (.iload_n 3, 1) := by decide +kernel
theorem dX4_find_18 : decode cX4_find 18 = .ok (.invokevirtual 55, 3) := by decide +kernel
theorem dX4_find_21 : decode cX4_find 21 = .ok (.ifCond .eq 15, 3) := by decide +kernel
theorem dX4_find_24 : decode cX4_find 24 = .ok (.aload_n 0, 1) := by decide +kernel
theorem dX4_find_25 : decode cX4_find 25 = .ok (.getfield 9, 3) := by decide +kernel
theorem dX4_find_28 : decode cX4_find 28 = .ok (.iload_n 2, 1) := by decide +kernel
theorem dX4_find_29 : decode cX4_find 29 = .ok (.iload_n 3, 1) := by decide +kernel
theorem dX4_find_30 : decode cX4_find 30 = .ok (.invokestatic 47, 3) := by decide +kernel
theorem dX4_find_33 : decode cX4_find 33 = .ok (.iinc 2 1, 3) := by decide +kernel
theorem dX4_find_36 : decode cX4_find 36 = .ok (.iinc 3 1, 3) := by decide +kernel
theorem dX4_find_39 : decode cX4_find 39 = .ok (.goto (-35), 3) := by decide +kernel
theorem dX4_find_42 : decode cX4_find 42 = .ok (.iload_n 2, 1) := by decide +kernel
theorem dX4_find_43 : decode cX4_find 43 = .ok (.ifCond .le 16, 3) := by decide +kernel
theorem dX4_find_46 : decode cX4_find 46 = .ok (.aload_n 0, 1) := by decide +kernel
theorem dX4_find_47 : decode cX4_find 47 = .ok (.iload_n 2, 1) := by decide +kernel
theorem dX4_find_48 : decode cX4_find 48 = .ok (.putfield 58, 3) := by decide +kernel
theorem dX4_find_51 : decode cX4_find 51 = .ok (.aload_n 0, 1) := by decide +kernel
theorem dX4_find_52 : decode cX4_find 52 = .ok (.aload_n 0, 1) := by decide +kernel
theorem dX4_find_53 : decode cX4_find 53 = .ok (.invokevirtual 59, 3) := by decide +kernel
theorem dX4_find_56 : decode cX4_find 56 = .ok (.putfield 15, 3) := by decide +kernel
theorem dX4_find_59 : decode cX4_find 59 = .ok (.iload_n 2, 1) := by decide +kernel
theorem dX4_find_60 : decode cX4_find 60 = .ok (.ireturn, 1) := by decide +kernel
def fX4_find_36 (r4 : zF → Nat → Nat → Int32 → Int32 → Option (zF × Int32)) (N n : Nat) (f : zF) (a0 : Nat) (a1 : Nat) (a2 : Int32) (a3 : Int32) : Option (zF × Int32) :=
    (r4 f a0 a1 a2 (a3 + 1))
set_option maxRecDepth 100000 in
set_option maxHeartbeats 4000000 in
theorem gX4_find_36 (l : Launch) {G : zG} {p : Program} {e : Env} {s : State} {m : MethodId} {args : Array Value} {below : List Frame} {meth : Method} {c : Code} {N n : Nat} {f9 : zF} {r : Int32} {r4 : zF → Nat → Nat → Int32 → Int32 → Option (zF × Int32)} (B : zB G p s m args meth c RX4 cX4_find 4 (some .int)) (hr4 : ∀ (f : zF) (a0 : Nat) (a1 : Nat) (a2 : Int32) (a3 : Int32) (H : Heap) (locs : List Loc) (ls : Array Slot), r4 f a0 a1 a2 a3 = some (f9, r) → zS G n f H locs → lv_has ls 4 [(0, zr G a0), (1, zr G a1), (2, .int a2), (3, .int a3)] → W p l e (zrm 3) s m args below meth c H locs 0 0 (MQ below (zQc G n f9 (some (.int r))) args s 0 0 (zA G)) (F0 m 4 ls [])) : ∀ (f : zF) (a0 : Nat) (a1 : Nat) (a2 : Int32) (a3 : Int32) (H : Heap) (locs : List Loc) (ls : Array Slot), fX4_find_36 r4 N n f a0 a1 a2 a3 = some (f9, r) → zS G n f H locs → lv_has ls 4 [(0, zr G a0), (1, zr G a1), (2, .int a2), (3, .int a3)] → W p l e (zrm 3) s m args below meth c H locs 0 0 (MQ below (zQc G n f9 (some (.int r))) args s 0 0 (zA G)) (F0 m 36 ls []) := by
  have he := B.1
  have hb := B.2.1
  intro f a0 a1 a2 a3 H locs ls h hS hl
  unfold fX4_find_36 at h
  refine lv_iinc (v := (a3 + 1)) (lv' := [(3, _), (0, _), (1, _), (2, _)]) he hb dX4_find_36 hl (k := 3) rfl rfl (by decide) rfl (fun ls hl => ?_)
  refine lv_goto (tgt := 4) he hb dX4_find_39 (by decide) ?_
  exact hr4 _ _ _ _ _ _ _ _ h hS (lv_sub hl [1, 2, 3, 0] rfl)
def fX4_find_4 (N n : Nat) : Nat → zF → Nat → Nat → Int32 → Int32 → Option (zF × Int32)
  | 0, _, _, _, _, _ => none
  | k + 1, f, a0, a1, a2, a3 =>
    (if (36 : Int32) ≤ a3 then (if a2 ≤ 0 then some (f, a2) else ((zpI n f 4 a0 1 a2).bind fun f1 => ((zck n f1 4 a0).bind fun _ => ((fX4_bestHour N n f1 a0).bind fun x2 => ((zpI n f1 4 a0 2 x2).bind fun f3 => some (f3, a2)))))) else ((zck n f 4 a0).bind fun _ => ((fX4_goAlone N n f a0 a1 a3).bind fun f4 => ((zck n f4 4 a0).bind fun _ => ((fX4_isAsShown N n f4 a0 a3).bind fun x5 => (if x5 = 0 then (fX4_find_36 (fX4_find_4 N n k) N n f4 a0 a1 a2 a3) else ((zgR n f4 4 a0 0).bind fun x6 => ((fX11_put N n f4 x6 a2 a3).bind fun f7 => (fX4_find_36 (fX4_find_4 N n k) N n f7 a0 a1 (a2 + 1) a3)))))))))
set_option maxRecDepth 100000 in
set_option maxHeartbeats 4000000 in
theorem gX4_find_4 (l : Launch) {G : zG} {p : Program} {e : Env} {s : State} {m : MethodId} {args : Array Value} {below : List Frame} {meth : Method} {c : Code} {N n : Nat} {f9 : zF} {r : Int32} (B : zB G p s m args meth c RX4 cX4_find 4 (some .int)) : ∀ (k : Nat), ∀ (f : zF) (a0 : Nat) (a1 : Nat) (a2 : Int32) (a3 : Int32) (H : Heap) (locs : List Loc) (ls : Array Slot), fX4_find_4 N n k f a0 a1 a2 a3 = some (f9, r) → zS G n f H locs → lv_has ls 4 [(0, zr G a0), (1, zr G a1), (2, .int a2), (3, .int a3)] → W p l e (zrm 3) s m args below meth c H locs 0 0 (MQ below (zQc G n f9 (some (.int r))) args s 0 0 (zA G)) (F0 m 4 ls []) := by
  have he := B.1
  have hb := B.2.1
  intro k
  induction k with
  | zero =>
    intro f a0 a1 a2 a3 H locs ls h
    unfold fX4_find_4 at h
    cases h
  | succ k ih =>
    intro f a0 a1 a2 a3 H locs ls h hS hl
    unfold fX4_find_4 at h
    refine lv_iload_n he hb dX4_find_4 rfl (lv_at hl 3 rfl) ?_
    refine lv_bipush (v := (36 : Int32)) he hb dX4_find_5 (by decide) ?_
    refine lv_icmp_ge (tgt := 42) he hb dX4_find_7 (by decide) (fun hc => ?_) (fun hc => ?_)
    · rw [if_pos hc] at h
      refine lv_iload_n he hb dX4_find_42 rfl (lv_at hl 2 rfl) ?_
      refine lv_if_le (tgt := 59) he hb dX4_find_43 (by decide) (fun hc => ?_) (fun hc => ?_)
      · rw [if_pos hc] at h
        refine lv_iload_n he hb dX4_find_59 rfl (lv_at hl 2 rfl) ?_
        obtain ⟨rfl, rfl⟩ := Prod.mk.inj (Option.some.inj h)
        exact z_iret B hS dX4_find_60
      · rw [if_neg hc] at h
        refine z_aload_n he hb dX4_find_46 rfl (lv_at hl 0 rfl) (zref_r _ _) ?_
        refine lv_iload_n he hb dX4_find_47 rfl (lv_at hl 2 rfl) ?_
        obtain ⟨f1, hx, h⟩ := zob h
        refine z_putI (ci := 4) (T := TX4) (N := 6) (j := 1) B hS hx rfl zin_X4 tyX4 tyX4_ok nmX4 (by decide) zk_447 rfl rfl dX4_find_48 (fun H locs hS => ?_)
        refine z_aload_n he hb dX4_find_51 rfl (lv_at hl 0 rfl) (zref_r _ _) ?_
        refine z_aload_n he hb dX4_find_52 rfl (lv_at hl 0 rfl) (zref_r _ _) ?_
        obtain ⟨_, hc, h⟩ := zob h
        obtain ⟨x2, hx, h⟩ := zob h
        refine z_callV (ci := 4) (T := TX4) (N := 6) (rest := [_]) B hS (mX4_bestHour l G hx) zy_X4_bestHour zk_995 (by decide) hc rfl rfl hl rfl (Nat.le_of_ble_eq_true rfl) dX4_find_53 (kk := (fun H locs hS => ?_))
        obtain ⟨f3, hx, h⟩ := zob h
        refine z_putI (ci := 4) (T := TX4) (N := 6) (j := 2) B hS hx rfl zin_X4 tyX4 tyX4_ok nmX4 (by decide) zk_449 rfl rfl dX4_find_56 (fun H locs hS => ?_)
        refine lv_iload_n he hb dX4_find_59 rfl (lv_at hl 2 rfl) ?_
        obtain ⟨rfl, rfl⟩ := Prod.mk.inj (Option.some.inj h)
        exact z_iret B hS dX4_find_60
    · rw [if_neg hc] at h
      refine z_aload_n he hb dX4_find_10 rfl (lv_at hl 0 rfl) (zref_r _ _) ?_
      refine z_aload_n he hb dX4_find_11 rfl (lv_at hl 1 rfl) (zref_r _ _) ?_
      refine lv_iload_n he hb dX4_find_12 rfl (lv_at hl 3 rfl) ?_
      obtain ⟨_, hc, h⟩ := zob h
      obtain ⟨f4, hx, h⟩ := zob h
      refine z_callV (ci := 4) (T := TX4) (N := 6) (rest := []) B hS (mX4_goAlone l G hx) zy_X4_goAlone zk_984 (by decide) hc rfl rfl hl rfl (Nat.le_of_ble_eq_true rfl) dX4_find_13 (kk := (fun H locs hS => ?_))
      refine z_aload_n he hb dX4_find_16 rfl (lv_at hl 0 rfl) (zref_r _ _) ?_
      refine lv_iload_n he hb dX4_find_17 rfl (lv_at hl 3 rfl) ?_
      obtain ⟨_, hc, h⟩ := zob h
      obtain ⟨x5, hx, h⟩ := zob h
      refine z_callV (ci := 4) (T := TX4) (N := 6) (rest := []) B hS (mX4_isAsShown l G hx) zy_X4_isAsShown zk_991 (by decide) hc rfl rfl hl rfl (Nat.le_of_ble_eq_true rfl) dX4_find_18 (kk := (fun H locs hS => ?_))
      refine lv_if_eq (tgt := 36) he hb dX4_find_21 (by decide) (fun hc => ?_) (fun hc => ?_)
      · rw [if_pos hc] at h
        exact gX4_find_36 l B ih _ _ _ _ _ _ _ _ h hS (lv_sub hl [0, 1, 2, 3] rfl)
      · rw [if_neg hc] at h
        refine z_aload_n he hb dX4_find_24 rfl (lv_at hl 0 rfl) (zref_r _ _) ?_
        obtain ⟨x6, hx, h⟩ := zob h
        refine z_getR (ci := 4) (T := TX4) (N := 6) (j := 0) B hS hx rfl zin_X4 (by decide) zk_445 dX4_find_25 ?_
        refine lv_iload_n he hb dX4_find_28 rfl (lv_at hl 2 rfl) ?_
        refine lv_iload_n he hb dX4_find_29 rfl (lv_at hl 3 rfl) ?_
        obtain ⟨f7, hx, h⟩ := zob h
        refine z_callN (rest := []) B hS (mX11_put l G hx) zy_X11_put zkn_979 (by decide) rfl hl rfl (Nat.le_of_ble_eq_true rfl) dX4_find_30 (kk := (fun H locs hS => ?_))
        refine lv_iinc (v := (a2 + 1)) (lv' := [(2, _), (0, _), (1, _), (3, _)]) he hb dX4_find_33 hl (k := 2) rfl rfl (by decide) rfl (fun ls hl => ?_)
        exact gX4_find_36 l B ih _ _ _ _ _ _ _ _ h hS (lv_sub hl [1, 2, 0, 3] rfl)
def fX4_find (N n : Nat) (f : zF) (a0 : Nat) (a1 : Nat) : Option (zF × Int32) :=
    (fX4_find_4 N n N f a0 a1 (0 : Int32) (0 : Int32))
set_option maxRecDepth 100000 in
set_option maxHeartbeats 4000000 in
theorem mX4_find (l : Launch) (G : zG) {N n : Nat} {f : zF} {f9 : zF} {r : Int32} {a0 : Nat} {a1 : Nat} (h : fX4_find N n f a0 a1 = some (f9, r)) : zM l G yX4_find cX4_find 4 (some .int) 3 n f [zr G a0, zr G a1] (some (.int r)) f9 := by
  refine zM.of (by decide) (Nat.le_of_ble_eq_true rfl) ?_
  intro p e s m args below meth c locs ls B hS hl
  have he := B.1
  have hb := B.2.1
  have hl : lv_has ls 4 [(0, zr G a0), (1, zr G a1)] := hl
  unfold fX4_find at h
  generalize s.heap = H at hS ⊢
  refine lv_iconst (v := (0 : Int32)) he hb dX4_find_0 (by decide) ?_
  refine lv_istore_n (lv' := [(2, _), (0, _), (1, _)]) he hb dX4_find_1 rfl hl (by decide) rfl (fun ls hl => ?_)
  refine lv_iconst (v := (0 : Int32)) he hb dX4_find_2 (by decide) ?_
  refine lv_istore_n (lv' := [(3, _), (2, _), (0, _), (1, _)]) he hb dX4_find_3 rfl hl (by decide) rfl (fun ls hl => ?_)
  exact gX4_find_4 l B N _ _ _ _ _ _ _ _ h hS (lv_sub hl [2, 3, 1, 0] rfl)
theorem dX6_clear_0 : decode cX6_clear 0 = .ok (.aload_n 0, 1) := by decide +kernel
theorem dX6_clear_1 : decode cX6_clear 1 = .ok (.iconst 0, 1) := by decide +kernel
theorem dX6_clear_2 : decode cX6_clear 2 = .ok (.putfield 21, 3) := by decide +kernel
theorem dX6_clear_5 : decode cX6_clear 5 = .ok (.return_, 1) := by decide +kernel
def fX6_clear (N n : Nat) (f : zF) (a0 : Nat) : Option zF :=
    ((zpI n f 6 a0 0 (0 : Int32)).bind fun f1 => some f1)
set_option maxRecDepth 100000 in
set_option maxHeartbeats 4000000 in
theorem mX6_clear (l : Launch) (G : zG) {N n : Nat} {f : zF} {f9 : zF} {a0 : Nat} (h : fX6_clear N n f a0 = some f9) : zM l G yX6_clear cX6_clear 1 (none) 0 n f [zr G a0] (none) f9 := by
  refine zM.of (by decide) (Nat.le_of_ble_eq_true rfl) ?_
  intro p e s m args below meth c locs ls B hS hl
  have he := B.1
  have hb := B.2.1
  have hl : lv_has ls 1 [(0, zr G a0)] := hl
  unfold fX6_clear at h
  generalize s.heap = H at hS ⊢
  refine z_aload_n he hb dX6_clear_0 rfl (lv_at hl 0 rfl) (zref_r _ _) ?_
  refine lv_iconst (v := (0 : Int32)) he hb dX6_clear_1 (by decide) ?_
  obtain ⟨f1, hx, h⟩ := zob h
  refine z_putI (ci := 6) (T := TX6) (N := 4) (j := 0) B hS hx rfl zin_X6 tyX6 tyX6_ok nmX6 (by decide) zk_299 rfl rfl dX6_clear_2 (fun H locs hS => ?_)
  obtain rfl := Option.some.inj h
  exact z_vret B hS dX6_clear_5
theorem dX6_copyFrom_0 : decode cX6_copyFrom 0 = .ok (.aload_n 0, 1) := by decide +kernel
theorem dX6_copyFrom_1 : decode cX6_copyFrom 1 = .ok (.aload_n 1, 1) := by decide +kernel
theorem dX6_copyFrom_2 : decode cX6_copyFrom 2 = .ok (.getfield 21, 3) := by decide +kernel
theorem dX6_copyFrom_5 : decode cX6_copyFrom 5 = .ok (.putfield 21, 3) := by decide +kernel
theorem dX6_copyFrom_8 : decode cX6_copyFrom 8 = .ok (.aload_n 1, 1) := by decide +kernel
theorem dX6_copyFrom_9 : decode cX6_copyFrom 9 = .ok (.getfield 9, 3) := by decide +kernel
theorem dX6_copyFrom_12 : decode cX6_copyFrom 12 = .ok (.aload_n 0, 1) := by decide +kernel
theorem dX6_copyFrom_13 : decode cX6_copyFrom 13 = .ok (.getfield 9, 3) := by decide +kernel
theorem dX6_copyFrom_16 : decode cX6_copyFrom 16 = .ok (.invokestatic 25, 3) := by decide +kernel
theorem dX6_copyFrom_19 : decode cX6_copyFrom 19 = .ok (.aload_n 1, 1) := by decide +kernel
theorem dX6_copyFrom_20 : decode cX6_copyFrom 20 = .ok (.getfield 15, 3) := by decide +kernel
theorem dX6_copyFrom_23 : decode cX6_copyFrom 23 = .ok (.aload_n 0, 1) := by decide +kernel
theorem dX6_copyFrom_24 : decode cX6_copyFrom 24 = .ok (.getfield 15, 3) := by decide +kernel
theorem dX6_copyFrom_27 : decode cX6_copyFrom 27 = .ok (.invokestatic 25, 3) := by decide +kernel
theorem dX6_copyFrom_30 : decode cX6_copyFrom 30 = .ok (.aload_n 1, 1) := by decide +kernel
theorem dX6_copyFrom_31 : decode cX6_copyFrom 31 = .ok (.getfield 18, 3) := by decide +kernel
theorem dX6_copyFrom_34 : decode cX6_copyFrom 34 = .ok (.aload_n 0, 1) := by decide +kernel
theorem dX6_copyFrom_35 : decode cX6_copyFrom 35 = .ok (.getfield 18, 3) := by decide +kernel
theorem dX6_copyFrom_38 : decode cX6_copyFrom 38 = .ok (.invokestatic 25, 3) := by decide +kernel
theorem dX6_copyFrom_41 : decode cX6_copyFrom 41 = .ok (.return_, 1) := by decide +kernel
def fX6_copyFrom (N n : Nat) (f : zF) (a0 : Nat) (a1 : Nat) : Option zF :=
    ((zgI n f 6 a1 0).bind fun x1 => ((zpI n f 6 a0 0 x1).bind fun f2 => ((zgR n f2 6 a1 1).bind fun x3 => ((zgR n f2 6 a0 1).bind fun x4 => ((fX11_copy N n f2 x3 x4).bind fun f5 => ((zgR n f5 6 a1 2).bind fun x6 => ((zgR n f5 6 a0 2).bind fun x7 => ((fX11_copy N n f5 x6 x7).bind fun f8 => ((zgR n f8 6 a1 3).bind fun x9 => ((zgR n f8 6 a0 3).bind fun x10 => ((fX11_copy N n f8 x9 x10).bind fun f11 => some f11)))))))))))
set_option maxRecDepth 100000 in
set_option maxHeartbeats 4000000 in
theorem mX6_copyFrom (l : Launch) (G : zG) {N n : Nat} {f : zF} {f9 : zF} {a0 : Nat} {a1 : Nat} (h : fX6_copyFrom N n f a0 a1 = some f9) : zM l G yX6_copyFrom cX6_copyFrom 2 (none) 2 n f [zr G a0, zr G a1] (none) f9 := by
  refine zM.of (by decide) (Nat.le_of_ble_eq_true rfl) ?_
  intro p e s m args below meth c locs ls B hS hl
  have he := B.1
  have hb := B.2.1
  have hl : lv_has ls 2 [(0, zr G a0), (1, zr G a1)] := hl
  unfold fX6_copyFrom at h
  generalize s.heap = H at hS ⊢
  refine z_aload_n he hb dX6_copyFrom_0 rfl (lv_at hl 0 rfl) (zref_r _ _) ?_
  refine z_aload_n he hb dX6_copyFrom_1 rfl (lv_at hl 1 rfl) (zref_r _ _) ?_
  obtain ⟨x1, hx, h⟩ := zob h
  refine z_getI (ci := 6) (T := TX6) (N := 4) (j := 0) B hS hx rfl zin_X6 (by decide) zk_299 dX6_copyFrom_2 ?_
  obtain ⟨f2, hx, h⟩ := zob h
  refine z_putI (ci := 6) (T := TX6) (N := 4) (j := 0) B hS hx rfl zin_X6 tyX6 tyX6_ok nmX6 (by decide) zk_299 rfl rfl dX6_copyFrom_5 (fun H locs hS => ?_)
  refine z_aload_n he hb dX6_copyFrom_8 rfl (lv_at hl 1 rfl) (zref_r _ _) ?_
  obtain ⟨x3, hx, h⟩ := zob h
  refine z_getR (ci := 6) (T := TX6) (N := 4) (j := 1) B hS hx rfl zin_X6 (by decide) zk_301 dX6_copyFrom_9 ?_
  refine z_aload_n he hb dX6_copyFrom_12 rfl (lv_at hl 0 rfl) (zref_r _ _) ?_
  obtain ⟨x4, hx, h⟩ := zob h
  refine z_getR (ci := 6) (T := TX6) (N := 4) (j := 1) B hS hx rfl zin_X6 (by decide) zk_301 dX6_copyFrom_13 ?_
  obtain ⟨f5, hx, h⟩ := zob h
  refine z_callN (rest := []) B hS (mX11_copy l G hx) zy_X11_copy zkn_1175 (by decide) rfl hl rfl (Nat.le_of_ble_eq_true rfl) dX6_copyFrom_16 (kk := (fun H locs hS => ?_))
  refine z_aload_n he hb dX6_copyFrom_19 rfl (lv_at hl 1 rfl) (zref_r _ _) ?_
  obtain ⟨x6, hx, h⟩ := zob h
  refine z_getR (ci := 6) (T := TX6) (N := 4) (j := 2) B hS hx rfl zin_X6 (by decide) zk_302 dX6_copyFrom_20 ?_
  refine z_aload_n he hb dX6_copyFrom_23 rfl (lv_at hl 0 rfl) (zref_r _ _) ?_
  obtain ⟨x7, hx, h⟩ := zob h
  refine z_getR (ci := 6) (T := TX6) (N := 4) (j := 2) B hS hx rfl zin_X6 (by decide) zk_302 dX6_copyFrom_24 ?_
  obtain ⟨f8, hx, h⟩ := zob h
  refine z_callN (rest := []) B hS (mX11_copy l G hx) zy_X11_copy zkn_1175 (by decide) rfl hl rfl (Nat.le_of_ble_eq_true rfl) dX6_copyFrom_27 (kk := (fun H locs hS => ?_))
  refine z_aload_n he hb dX6_copyFrom_30 rfl (lv_at hl 1 rfl) (zref_r _ _) ?_
  obtain ⟨x9, hx, h⟩ := zob h
  refine z_getR (ci := 6) (T := TX6) (N := 4) (j := 3) B hS hx rfl zin_X6 (by decide) zk_303 dX6_copyFrom_31 ?_
  refine z_aload_n he hb dX6_copyFrom_34 rfl (lv_at hl 0 rfl) (zref_r _ _) ?_
  obtain ⟨x10, hx, h⟩ := zob h
  refine z_getR (ci := 6) (T := TX6) (N := 4) (j := 3) B hS hx rfl zin_X6 (by decide) zk_303 dX6_copyFrom_35 ?_
  obtain ⟨f11, hx, h⟩ := zob h
  refine z_callN (rest := []) B hS (mX11_copy l G hx) zy_X11_copy zkn_1175 (by decide) rfl hl rfl (Nat.le_of_ble_eq_true rfl) dX6_copyFrom_38 (kk := (fun H locs hS => ?_))
  obtain rfl := Option.some.inj h
  exact z_vret B hS dX6_copyFrom_41
theorem dX6_add_0 : decode cX6_add 0 = .ok (.aload_n 0, 1) := by decide +kernel
theorem dX6_add_1 : decode cX6_add 1 = .ok (.getfield 21, 3) := by decide +kernel
theorem dX6_add_4 : decode cX6_add 4 = .ok (.aload_n 0, 1) := by decide +kernel
theorem dX6_add_5 : decode cX6_add 5 = .ok (.getfield 9, 3) := by decide +kernel
theorem dX6_add_8 : decode cX6_add 8 = .ok (.arraylength, 1) := by decide +kernel
theorem dX6_add_9 : decode cX6_add 9 = .ok (.if_icmp .ge 49, 3) := by decide +kernel
theorem dX6_add_12 : decode cX6_add 12 = .ok (.aload_n 0, 1) := by decide +kernel
theorem dX6_add_13 : decode cX6_add 13 = .ok (.getfield 9, 3) := by decide +kernel
theorem dX6_add_16 : decode cX6_add 16 = .ok (.aload_n 0, 1) := by decide +kernel
theorem dX6_add_17 : decode cX6_add 17 = .ok (.getfield 21, 3) := by decide +kernel
theorem dX6_add_20 : decode cX6_add 20 = .ok (.iload_n 1, 1) := by decide +kernel
theorem dX6_add_21 : decode cX6_add 21 = .ok (.invokestatic 29, 3) := by decide +kernel
theorem dX6_add_24 : decode cX6_add 24 = .ok (.aload_n 0, 1) := by decide +kernel
theorem dX6_add_25 : decode cX6_add 25 = .ok (.getfield 15, 3) := by decide +kernel
theorem dX6_add_28 : decode cX6_add 28 = .ok (.aload_n 0, 1) := by decide +kernel
theorem dX6_add_29 : decode cX6_add 29 = .ok (.getfield 21, 3) := by decide +kernel
theorem dX6_add_32 : decode cX6_add 32 = .ok (.iload_n 2, 1) := by decide +kernel
theorem dX6_add_33 : decode cX6_add 33 = .ok (.invokestatic 29, 3) := by decide +kernel
theorem dX6_add_36 : decode cX6_add 36 = .ok (.aload_n 0, 1) := by decide +kernel
theorem dX6_add_37 : decode cX6_add 37 = .ok (.getfield 18, 3) := by decide +kernel
theorem dX6_add_40 : decode cX6_add 40 = .ok (.aload_n 0, 1) := by decide +kernel
theorem dX6_add_41 : decode cX6_add 41 = .ok (.getfield 21, 3) := by decide +kernel
theorem dX6_add_44 : decode cX6_add 44 = .ok (.iload_n 3, 1) := by decide +kernel
theorem dX6_add_45 : decode cX6_add 45 = .ok (.invokestatic 29, 3) := by decide +kernel
theorem dX6_add_48 : decode cX6_add 48 = .ok (.aload_n 0, 1) := by decide +kernel
theorem dX6_add_49 : decode cX6_add 49 = .ok (.dup, 1) := by decide +kernel
theorem dX6_add_50 : decode cX6_add 50 = .ok (.getfield 21, 3) := by decide +kernel
theorem dX6_add_53 : decode cX6_add 53 = .ok (.iconst 1, 1) := by decide +kernel
theorem dX6_add_54 : decode cX6_add 54 = .ok (.iadd, 1) := by decide +kernel
theorem dX6_add_55 : decode cX6_add 55 = .ok (.putfield 21, 3) := by decide +kernel
theorem dX6_add_58 : decode cX6_add 58 = .ok (.return_, 1) := by decide +kernel
def fX6_add (N n : Nat) (f : zF) (a0 : Nat) (a1 : Int32) (a2 : Int32) (a3 : Int32) : Option zF :=
    ((zgI n f 6 a0 0).bind fun x1 => ((zgR n f 6 a0 1).bind fun x2 => ((zlen n f 0 x2).bind fun x3 => (if x3 ≤ x1 then some f else ((zgR n f 6 a0 1).bind fun x4 => ((zgI n f 6 a0 0).bind fun x5 => ((fX11_put N n f x4 x5 a1).bind fun f6 => ((zgR n f6 6 a0 2).bind fun x7 => ((zgI n f6 6 a0 0).bind fun x8 => ((fX11_put N n f6 x7 x8 a2).bind fun f9 => ((zgR n f9 6 a0 3).bind fun x10 => ((zgI n f9 6 a0 0).bind fun x11 => ((fX11_put N n f9 x10 x11 a3).bind fun f12 => ((zgI n f12 6 a0 0).bind fun x13 => ((zpI n f12 6 a0 0 (x13 + (1 : Int32))).bind fun f14 => some f14)))))))))))))))
set_option maxRecDepth 100000 in
set_option maxHeartbeats 4000000 in
theorem mX6_add (l : Launch) (G : zG) {N n : Nat} {f : zF} {f9 : zF} {a0 : Nat} {a1 : Int32} {a2 : Int32} {a3 : Int32} (h : fX6_add N n f a0 a1 a2 a3 = some f9) : zM l G yX6_add cX6_add 4 (none) 1 n f [zr G a0, .int a1, .int a2, .int a3] (none) f9 := by
  refine zM.of (by decide) (Nat.le_of_ble_eq_true rfl) ?_
  intro p e s m args below meth c locs ls B hS hl
  have he := B.1
  have hb := B.2.1
  have hl : lv_has ls 4 [(0, zr G a0), (1, .int a1), (2, .int a2), (3, .int a3)] := hl
  unfold fX6_add at h
  generalize s.heap = H at hS ⊢
  refine z_aload_n he hb dX6_add_0 rfl (lv_at hl 0 rfl) (zref_r _ _) ?_
  obtain ⟨x1, hx, h⟩ := zob h
  refine z_getI (ci := 6) (T := TX6) (N := 4) (j := 0) B hS hx rfl zin_X6 (by decide) zk_299 dX6_add_1 ?_
  refine z_aload_n he hb dX6_add_4 rfl (lv_at hl 0 rfl) (zref_r _ _) ?_
  obtain ⟨x2, hx, h⟩ := zob h
  refine z_getR (ci := 6) (T := TX6) (N := 4) (j := 1) B hS hx rfl zin_X6 (by decide) zk_301 dX6_add_5 ?_
  obtain ⟨x3, hx, h⟩ := zob h
  refine z_len B hS hx rfl dX6_add_8 ?_
  refine lv_icmp_ge (tgt := 58) he hb dX6_add_9 (by decide) (fun hc => ?_) (fun hc => ?_)
  · rw [if_pos hc] at h
    obtain rfl := Option.some.inj h
    exact z_vret B hS dX6_add_58
  · rw [if_neg hc] at h
    refine z_aload_n he hb dX6_add_12 rfl (lv_at hl 0 rfl) (zref_r _ _) ?_
    obtain ⟨x4, hx, h⟩ := zob h
    refine z_getR (ci := 6) (T := TX6) (N := 4) (j := 1) B hS hx rfl zin_X6 (by decide) zk_301 dX6_add_13 ?_
    refine z_aload_n he hb dX6_add_16 rfl (lv_at hl 0 rfl) (zref_r _ _) ?_
    obtain ⟨x5, hx, h⟩ := zob h
    refine z_getI (ci := 6) (T := TX6) (N := 4) (j := 0) B hS hx rfl zin_X6 (by decide) zk_299 dX6_add_17 ?_
    refine lv_iload_n he hb dX6_add_20 rfl (lv_at hl 1 rfl) ?_
    obtain ⟨f6, hx, h⟩ := zob h
    refine z_callN (rest := []) B hS (mX11_put l G hx) zy_X11_put zkn_1162 (by decide) rfl hl rfl (Nat.le_of_ble_eq_true rfl) dX6_add_21 (kk := (fun H locs hS => ?_))
    refine z_aload_n he hb dX6_add_24 rfl (lv_at hl 0 rfl) (zref_r _ _) ?_
    obtain ⟨x7, hx, h⟩ := zob h
    refine z_getR (ci := 6) (T := TX6) (N := 4) (j := 2) B hS hx rfl zin_X6 (by decide) zk_302 dX6_add_25 ?_
    refine z_aload_n he hb dX6_add_28 rfl (lv_at hl 0 rfl) (zref_r _ _) ?_
    obtain ⟨x8, hx, h⟩ := zob h
    refine z_getI (ci := 6) (T := TX6) (N := 4) (j := 0) B hS hx rfl zin_X6 (by decide) zk_299 dX6_add_29 ?_
    refine lv_iload_n he hb dX6_add_32 rfl (lv_at hl 2 rfl) ?_
    obtain ⟨f9, hx, h⟩ := zob h
    refine z_callN (rest := []) B hS (mX11_put l G hx) zy_X11_put zkn_1162 (by decide) rfl hl rfl (Nat.le_of_ble_eq_true rfl) dX6_add_33 (kk := (fun H locs hS => ?_))
    refine z_aload_n he hb dX6_add_36 rfl (lv_at hl 0 rfl) (zref_r _ _) ?_
    obtain ⟨x10, hx, h⟩ := zob h
    refine z_getR (ci := 6) (T := TX6) (N := 4) (j := 3) B hS hx rfl zin_X6 (by decide) zk_303 dX6_add_37 ?_
    refine z_aload_n he hb dX6_add_40 rfl (lv_at hl 0 rfl) (zref_r _ _) ?_
    obtain ⟨x11, hx, h⟩ := zob h
    refine z_getI (ci := 6) (T := TX6) (N := 4) (j := 0) B hS hx rfl zin_X6 (by decide) zk_299 dX6_add_41 ?_
    refine lv_iload_n he hb dX6_add_44 rfl (lv_at hl 3 rfl) ?_
    obtain ⟨f12, hx, h⟩ := zob h
    refine z_callN (rest := []) B hS (mX11_put l G hx) zy_X11_put zkn_1162 (by decide) rfl hl rfl (Nat.le_of_ble_eq_true rfl) dX6_add_45 (kk := (fun H locs hS => ?_))
    refine z_aload_n he hb dX6_add_48 rfl (lv_at hl 0 rfl) (zref_r _ _) ?_
    refine lv_dup he hb dX6_add_49 rfl ?_
    obtain ⟨x13, hx, h⟩ := zob h
    refine z_getI (ci := 6) (T := TX6) (N := 4) (j := 0) B hS hx rfl zin_X6 (by decide) zk_299 dX6_add_50 ?_
    refine lv_iconst (v := (1 : Int32)) he hb dX6_add_53 (by decide) ?_
    refine lv_iadd he hb dX6_add_54 ?_
    obtain ⟨f14, hx, h⟩ := zob h
    refine z_putI (ci := 6) (T := TX6) (N := 4) (j := 0) B hS hx rfl zin_X6 tyX6 tyX6_ok nmX6 (by decide) zk_299 rfl rfl dX6_add_55 (fun H locs hS => ?_)
    obtain rfl := Option.some.inj h
    exact z_vret B hS dX6_add_58
theorem dX6_compares_0 : decode cX6_compares 0 = .ok (.iload_n 1, 1) := by decide +kernel
theorem dX6_compares_1 : decode cX6_compares 1 = .ok (.bipush 60, 2) := by decide +kernel
theorem dX6_compares_3 : decode cX6_compares 3 = .ok (.if_icmp .ne 14, 3) := by decide +kernel
theorem dX6_compares_6 : decode cX6_compares 6 = .ok (.iload_n 0, 1) := by decide +kernel
theorem dX6_compares_7 : decode cX6_compares 7 = .ok (.iload_n 2, 1) := by decide +kernel
theorem dX6_compares_8 : decode cX6_compares 8 = .ok (.if_icmp .ge 7, 3) := by decide +kernel
theorem dX6_compares_11 : decode cX6_compares 11 = .ok (.iconst 1, 1) := by decide +kernel
theorem dX6_compares_12 : decode cX6_compares 12 = .ok (.goto 4, 3) := by decide +kernel
theorem dX6_compares_15 : decode cX6_compares 15 = .ok (.iconst 0, 1) := by decide +kernel
theorem dX6_compares_16 : decode cX6_compares 16 = .ok (.ireturn, 1) := by decide +kernel
theorem dX6_compares_17 : decode cX6_compares 17 = .ok (.iload_n 1, 1) := by decide +kernel
theorem dX6_compares_18 : decode cX6_compares 18 = .ok (.bipush 61, 2) := by decide +kernel
theorem dX6_compares_20 : decode cX6_compares 20 = .ok (.if_icmp .ne 16, 3) := by decide +kernel
theorem dX6_compares_23 : decode cX6_compares 23 = .ok (.iload_n 0, 1) := by decide +kernel
theorem dX6_compares_24 : decode cX6_compares 24 = .ok (.iload_n 2, 1) := by decide +kernel
theorem dX6_compares_25 : decode cX6_compares 25 = .ok (.if_icmp .ne 7, 3) := by decide +kernel
theorem dX6_compares_28 : decode cX6_compares 28 = .ok (.iconst 1, 1) := by decide +kernel
theorem dX6_compares_29 : decode cX6_compares 29 = .ok (.goto 17, 3) := by decide +kernel
theorem dX6_compares_32 : decode cX6_compares 32 = .ok (.iconst 0, 1) := by decide +kernel
theorem dX6_compares_33 : decode cX6_compares 33 = .ok (.goto 13, 3) := by decide +kernel
theorem dX6_compares_36 : decode cX6_compares 36 = .ok (.iload_n 0, 1) := by decide +kernel
theorem dX6_compares_37 : decode cX6_compares 37 = .ok (.iload_n 2, 1) := by decide +kernel
theorem dX6_compares_38 : decode cX6_compares 38 = .ok (.if_icmp .le 7, 3) := by decide +kernel
theorem dX6_compares_41 : decode cX6_compares 41 = .ok (.iconst 1, 1) := by decide +kernel
theorem dX6_compares_42 : decode cX6_compares 42 = .ok (.goto 4, 3) := by decide +kernel
theorem dX6_compares_45 : decode cX6_compares 45 = .ok (.iconst 0, 1) := by decide +kernel
theorem dX6_compares_46 : decode cX6_compares 46 = .ok (.ireturn, 1) := by decide +kernel
def fX6_compares (N n : Nat) (f : zF) (a0 : Int32) (a1 : Int32) (a2 : Int32) : Option Int32 :=
    (if a1 = (60 : Int32) then (if a2 ≤ a0 then zbl (0 : Int32) else zbl (1 : Int32)) else (if a1 = (61 : Int32) then (if a0 = a2 then zbl (1 : Int32) else zbl (0 : Int32)) else (if a0 ≤ a2 then zbl (0 : Int32) else zbl (1 : Int32))))
set_option maxRecDepth 100000 in
set_option maxHeartbeats 4000000 in
theorem mX6_compares (l : Launch) (G : zG) {N n : Nat} {f : zF} {r : Int32} {a0 : Int32} {a1 : Int32} {a2 : Int32} (h : fX6_compares N n f a0 a1 a2 = some r) : zM l G yX6_compares cX6_compares 3 (some .boolean) 0 n f [.int a0, .int a1, .int a2] (some (.int r)) f := by
  refine zM.of (by decide) (Nat.le_of_ble_eq_true rfl) ?_
  intro p e s m args below meth c locs ls B hS hl
  have he := B.1
  have hb := B.2.1
  have hl : lv_has ls 3 [(0, .int a0), (1, .int a1), (2, .int a2)] := hl
  unfold fX6_compares at h
  generalize s.heap = H at hS ⊢
  refine lv_iload_n he hb dX6_compares_0 rfl (lv_at hl 1 rfl) ?_
  refine lv_bipush (v := (60 : Int32)) he hb dX6_compares_1 (by decide) ?_
  refine lv_icmp_ne (tgt := 17) he hb dX6_compares_3 (by decide) (fun hc => ?_) (fun hc => ?_)
  · rw [if_neg hc] at h
    refine lv_iload_n he hb dX6_compares_17 rfl (lv_at hl 1 rfl) ?_
    refine lv_bipush (v := (61 : Int32)) he hb dX6_compares_18 (by decide) ?_
    refine lv_icmp_ne (tgt := 36) he hb dX6_compares_20 (by decide) (fun hc => ?_) (fun hc => ?_)
    · rw [if_neg hc] at h
      refine lv_iload_n he hb dX6_compares_36 rfl (lv_at hl 0 rfl) ?_
      refine lv_iload_n he hb dX6_compares_37 rfl (lv_at hl 2 rfl) ?_
      refine lv_icmp_le (tgt := 45) he hb dX6_compares_38 (by decide) (fun hc => ?_) (fun hc => ?_)
      · rw [if_pos hc] at h
        refine lv_iconst (v := (0 : Int32)) he hb dX6_compares_45 (by decide) ?_
        obtain ⟨hz, rfl⟩ := zbl_i h
        exact z_zret B hS hz dX6_compares_46
      · rw [if_neg hc] at h
        refine lv_iconst (v := (1 : Int32)) he hb dX6_compares_41 (by decide) ?_
        refine lv_goto (tgt := 46) he hb dX6_compares_42 (by decide) ?_
        obtain ⟨hz, rfl⟩ := zbl_i h
        exact z_zret B hS hz dX6_compares_46
    · rw [if_pos hc] at h
      refine lv_iload_n he hb dX6_compares_23 rfl (lv_at hl 0 rfl) ?_
      refine lv_iload_n he hb dX6_compares_24 rfl (lv_at hl 2 rfl) ?_
      refine lv_icmp_ne (tgt := 32) he hb dX6_compares_25 (by decide) (fun hc => ?_) (fun hc => ?_)
      · rw [if_neg hc] at h
        refine lv_iconst (v := (0 : Int32)) he hb dX6_compares_32 (by decide) ?_
        refine lv_goto (tgt := 46) he hb dX6_compares_33 (by decide) ?_
        obtain ⟨hz, rfl⟩ := zbl_i h
        exact z_zret B hS hz dX6_compares_46
      · rw [if_pos hc] at h
        refine lv_iconst (v := (1 : Int32)) he hb dX6_compares_28 (by decide) ?_
        refine lv_goto (tgt := 46) he hb dX6_compares_29 (by decide) ?_
        obtain ⟨hz, rfl⟩ := zbl_i h
        exact z_zret B hS hz dX6_compares_46
  · rw [if_pos hc] at h
    refine lv_iload_n he hb dX6_compares_6 rfl (lv_at hl 0 rfl) ?_
    refine lv_iload_n he hb dX6_compares_7 rfl (lv_at hl 2 rfl) ?_
    refine lv_icmp_ge (tgt := 15) he hb dX6_compares_8 (by decide) (fun hc => ?_) (fun hc => ?_)
    · rw [if_pos hc] at h
      refine lv_iconst (v := (0 : Int32)) he hb dX6_compares_15 (by decide) ?_
      obtain ⟨hz, rfl⟩ := zbl_i h
      exact z_zret B hS hz dX6_compares_16
    · rw [if_neg hc] at h
      refine lv_iconst (v := (1 : Int32)) he hb dX6_compares_11 (by decide) ?_
      refine lv_goto (tgt := 16) he hb dX6_compares_12 (by decide) ?_
      obtain ⟨hz, rfl⟩ := zbl_i h
      exact z_zret B hS hz dX6_compares_16
theorem dX6_isSo_0 : decode cX6_isSo 0 = .ok (.aload_n 0, 1) := by decide +kernel
theorem dX6_isSo_1 : decode cX6_isSo 1 = .ok (.getfield 15, 3) := by decide +kernel
theorem dX6_isSo_4 : decode cX6_isSo 4 = .ok (.iload_n 3, 1) := by decide +kernel
theorem dX6_isSo_5 : decode cX6_isSo 5 = .ok (.invokestatic 33, 3) := by decide +kernel
theorem dX6_isSo_8 : decode cX6_isSo 8 = .ok (.istore 4, 2) := by decide +kernel
theorem dX6_isSo_10 : decode cX6_isSo 10 = .ok (.aload_n 0, 1) := by decide +kernel
theorem dX6_isSo_11 : decode cX6_isSo 11 = .ok (.getfield 18, 3) := by decide +kernel
theorem dX6_isSo_14 : decode cX6_isSo 14 = .ok (.iload_n 3, 1) := by decide +kernel
theorem dX6_isSo_15 : decode cX6_isSo 15 = .ok (.invokestatic 33, 3) := by decide +kernel
theorem dX6_isSo_18 : decode cX6_isSo 18 = .ok (.istore 5, 2) := by decide +kernel
theorem dX6_isSo_20 : decode cX6_isSo 20 = .ok (.aload_n 0, 1) := by decide +kernel
theorem dX6_isSo_21 : decode cX6_isSo 21 = .ok (.getfield 9, 3) := by decide +kernel
theorem dX6_isSo_24 : decode cX6_isSo 24 = .ok (.iload_n 3, 1) := by decide +kernel
theorem dX6_isSo_25 : decode cX6_isSo 25 = .ok (.invokestatic 33, 3) := by decide +kernel
theorem dX6_isSo_28 : decode cX6_isSo 28 = .ok (.tableswitch 177 19 25 #[44, 58, 72, 100, 122, 142, 158], 44) := by decide +kernel
theorem dX6_isSo_72 : decode cX6_isSo 72 = .ok (.aload_n 1, 1) := by decide +kernel
theorem dX6_isSo_73 : decode cX6_isSo 73 = .ok (.iload_n 2, 1) := by decide +kernel
theorem dX6_isSo_74 : decode cX6_isSo 74 = .ok (.invokevirtual 41, 3) := by decide +kernel
theorem dX6_isSo_77 : decode cX6_isSo 77 = .ok (.ifCond .eq 7, 3) := by decide +kernel
theorem dX6_isSo_80 : decode cX6_isSo 80 = .ok (.iconst 1, 1) := by decide +kernel
theorem dX6_isSo_81 : decode cX6_isSo 81 = .ok (.goto 4, 3) := by decide +kernel
theorem dX6_isSo_84 : decode cX6_isSo 84 = .ok (.iconst 0, 1) := by decide +kernel
theorem dX6_isSo_85 : decode cX6_isSo 85 = .ok (.ireturn, 1) := by decide +kernel
theorem dX6_isSo_86 : decode cX6_isSo 86 = .ok (.aload_n 1, 1) := by decide +kernel
theorem dX6_isSo_87 : decode cX6_isSo 87 = .ok (.iload_n 2, 1) := by decide +kernel
theorem dX6_isSo_88 : decode cX6_isSo 88 = .ok (.invokevirtual 47, 3) := by decide +kernel
theorem dX6_isSo_91 : decode cX6_isSo 91 = .ok (.ifCond .ne 7, 3) := by decide +kernel
theorem dX6_isSo_94 : decode cX6_isSo 94 = .ok (.iconst 1, 1) := by decide +kernel
theorem dX6_isSo_95 : decode cX6_isSo 95 = .ok (.goto 4, 3) := by decide +kernel
theorem dX6_isSo_98 : decode cX6_isSo 98 = .ok (.iconst 0, 1) := by decide +kernel
theorem dX6_isSo_99 : decode cX6_isSo 99 = .ok (.ireturn, 1) := by decide +kernel
theorem dX6_isSo_100 : decode cX6_isSo 100 = .ok (.aload_n 1, 1) := by decide +kernel
theorem dX6_isSo_101 : decode cX6_isSo 101 = .ok (.getfield 51, 3) := by decide +kernel
theorem dX6_isSo_104 : decode cX6_isSo 104 = .ok (.iload_n 2, 1) := by decide +kernel
theorem dX6_isSo_105 : decode cX6_isSo 105 = .ok (.invokestatic 33, 3) := by decide +kernel
theorem dX6_isSo_108 : decode cX6_isSo 108 = .ok (.aload_n 1, 1) := by decide +kernel
theorem dX6_isSo_109 : decode cX6_isSo 109 = .ok (.getfield 54, 3) := by decide +kernel
theorem dX6_isSo_112 : decode cX6_isSo 112 = .ok (.getfield 58, 3) := by decide +kernel
theorem dX6_isSo_115 : decode cX6_isSo 115 = .ok (.iload_n 2, 1) := by decide +kernel
theorem dX6_isSo_116 : decode cX6_isSo 116 = .ok (.invokestatic 33, 3) := by decide +kernel
theorem dX6_isSo_119 : decode cX6_isSo 119 = .ok (.if_icmp .eq 7, 3) := by decide +kernel
theorem dX6_isSo_122 : decode cX6_isSo 122 = .ok (.iconst 1, 1) := by decide +kernel
theorem dX6_isSo_123 : decode cX6_isSo 123 = .ok (.goto 4, 3) := by decide +kernel
theorem dX6_isSo_126 : decode cX6_isSo 126 = .ok (.iconst 0, 1) := by decide +kernel
theorem dX6_isSo_127 : decode cX6_isSo 127 = .ok (.ireturn, 1) := by decide +kernel
theorem dX6_isSo_128 : decode cX6_isSo 128 = .ok (.aload_n 1, 1) := by decide +kernel
theorem dX6_isSo_129 : decode cX6_isSo 129 = .ok (.getfield 54, 3) := by decide +kernel
theorem dX6_isSo_132 : decode cX6_isSo 132 = .ok (.getfield 63, 3) := by decide +kernel
theorem dX6_isSo_135 : decode cX6_isSo 135 = .ok (.iload_n 2, 1) := by decide +kernel
theorem dX6_isSo_136 : decode cX6_isSo 136 = .ok (.invokestatic 33, 3) := by decide +kernel
theorem dX6_isSo_139 : decode cX6_isSo 139 = .ok (.iload 5, 2) := by decide +kernel
theorem dX6_isSo_141 : decode cX6_isSo 141 = .ok (.if_icmp .ne 7, 3) := by decide +kernel
theorem dX6_isSo_144 : decode cX6_isSo 144 = .ok (.iconst 1, 1) := by decide +kernel
theorem dX6_isSo_145 : decode cX6_isSo 145 = .ok (.goto 4, 3) := by decide +kernel
theorem dX6_isSo_148 : decode cX6_isSo 148 = .ok (.iconst 0, 1) := by decide +kernel
theorem dX6_isSo_149 : decode cX6_isSo 149 = .ok (.ireturn, 1) := by decide +kernel
theorem dX6_isSo_150 : decode cX6_isSo 150 = .ok (.aload_n 1, 1) := by decide +kernel
theorem dX6_isSo_151 : decode cX6_isSo 151 = .ok (.iload_n 2, 1) := by decide +kernel
theorem dX6_isSo_152 : decode cX6_isSo 152 = .ok (.invokevirtual 41, 3) := by decide +kernel
theorem dX6_isSo_155 : decode cX6_isSo 155 = .ok (.iload 5, 2) := by decide +kernel
theorem dX6_isSo_157 : decode cX6_isSo 157 = .ok (.ishr, 1) := by decide +kernel
theorem dX6_isSo_158 : decode cX6_isSo 158 = .ok (.iconst 1, 1) := by decide +kernel
theorem dX6_isSo_159 : decode cX6_isSo 159 = .ok (.iand, 1) := by decide +kernel
theorem dX6_isSo_160 : decode cX6_isSo 160 = .ok (.iconst 1, 1) := by decide +kernel
theorem dX6_isSo_161 : decode cX6_isSo 161 = .ok (.if_icmp .ne 7, 3) := by decide +kernel
theorem dX6_isSo_164 : decode cX6_isSo 164 = .ok (.iconst 1, 1) := by decide +kernel
theorem dX6_isSo_165 : decode cX6_isSo 165 = .ok (.goto 4, 3) := by decide +kernel
theorem dX6_isSo_168 : decode cX6_isSo 168 = .ok (.iconst 0, 1) := by decide +kernel
theorem dX6_isSo_169 : decode cX6_isSo 169 = .ok (.ireturn, 1) := by decide +kernel
theorem dX6_isSo_170 : decode cX6_isSo 170 = .ok (.aload_n 1, 1) := by decide +kernel
theorem dX6_isSo_171 : decode cX6_isSo 171 = .ok (.getfield 66, 3) := by decide +kernel
theorem dX6_isSo_174 : decode cX6_isSo 174 = .ok (.iload_n 2, 1) := by decide +kernel
theorem dX6_isSo_175 : decode cX6_isSo 175 = .ok (.invokestatic 33, 3) := by decide +kernel
theorem dX6_isSo_178 : decode cX6_isSo 178 = .ok (.iload 4, 2) := by decide +kernel
theorem dX6_isSo_180 : decode cX6_isSo 180 = .ok (.iload 5, 2) := by decide +kernel
theorem dX6_isSo_182 : decode cX6_isSo 182 = .ok (.invokestatic 69, 3) := by decide +kernel
theorem dX6_isSo_185 : decode cX6_isSo 185 = .ok (.ireturn, 1) := by decide +kernel
theorem dX6_isSo_186 : decode cX6_isSo 186 = .ok (.aload_n 1, 1) := by decide +kernel
theorem dX6_isSo_187 : decode cX6_isSo 187 = .ok (.getfield 54, 3) := by decide +kernel
theorem dX6_isSo_190 : decode cX6_isSo 190 = .ok (.getfield 73, 3) := by decide +kernel
theorem dX6_isSo_193 : decode cX6_isSo 193 = .ok (.iload_n 2, 1) := by decide +kernel
theorem dX6_isSo_194 : decode cX6_isSo 194 = .ok (.invokestatic 33, 3) := by decide +kernel
theorem dX6_isSo_197 : decode cX6_isSo 197 = .ok (.iload 4, 2) := by decide +kernel
theorem dX6_isSo_199 : decode cX6_isSo 199 = .ok (.iload 5, 2) := by decide +kernel
theorem dX6_isSo_201 : decode cX6_isSo 201 = .ok (.invokestatic 69, 3) := by decide +kernel
theorem dX6_isSo_204 : decode cX6_isSo 204 = .ok (.ireturn, 1) := by decide +kernel
theorem dX6_isSo_205 : decode cX6_isSo 205 = .ok (.iload_n 2, 1) := by decide +kernel
theorem dX6_isSo_206 : decode cX6_isSo 206 = .ok (.iload 4, 2) := by decide +kernel
theorem dX6_isSo_208 : decode cX6_isSo 208 = .ok (.iload 5, 2) := by decide +kernel
theorem dX6_isSo_210 : decode cX6_isSo 210 = .ok (.invokestatic 69, 3) := by decide +kernel
theorem dX6_isSo_213 : decode cX6_isSo 213 = .ok (.ireturn, 1) := by decide +kernel
def fX6_isSo (N n : Nat) (f : zF) (a0 : Nat) (a1 : Nat) (a2 : Int32) (a3 : Int32) : Option Int32 :=
    ((zgR n f 6 a0 2).bind fun x1 => ((fX11_at N n f x1 a3).bind fun x2 => ((zgR n f 6 a0 3).bind fun x3 => ((fX11_at N n f x3 a3).bind fun x4 => ((zgR n f 6 a0 1).bind fun x5 => ((fX11_at N n f x5 a3).bind fun x6 => (if x6 = (19 : Int32) then ((zck n f 8 a1).bind fun _ => ((fX8_seers N n f a1 a2).bind fun x7 => (if x7 = 0 then zbl (0 : Int32) else zbl (1 : Int32)))) else (if x6 = (20 : Int32) then ((zck n f 8 a1).bind fun _ => ((fX8_canGo N n f a1 a2).bind fun x8 => (if x8 = 0 then zbl (1 : Int32) else zbl (0 : Int32)))) else (if x6 = (21 : Int32) then ((zgR n f 8 a1 2).bind fun x9 => ((fX11_at N n f x9 a2).bind fun x10 => ((zgR n f 8 a1 0).bind fun x11 => ((zgR n f 2 x11 12).bind fun x12 => ((fX11_at N n f x12 a2).bind fun x13 => (if x10 = x13 then zbl (0 : Int32) else zbl (1 : Int32))))))) else (if x6 = (22 : Int32) then ((zgR n f 8 a1 0).bind fun x14 => ((zgR n f 2 x14 10).bind fun x15 => ((fX11_at N n f x15 a2).bind fun x16 => (if x16 = x4 then zbl (1 : Int32) else zbl (0 : Int32))))) else (if x6 = (23 : Int32) then ((zck n f 8 a1).bind fun _ => ((fX8_seers N n f a1 a2).bind fun x17 => (if ((zishr x17 x4) &&& (1 : Int32)) = (1 : Int32) then zbl (1 : Int32) else zbl (0 : Int32)))) else (if x6 = (24 : Int32) then ((zgR n f 8 a1 4).bind fun x18 => ((fX11_at N n f x18 a2).bind fun x19 => ((fX6_compares N n f x19 x2 x4).bind fun x20 => zbl x20))) else (if x6 = (25 : Int32) then ((zgR n f 8 a1 0).bind fun x21 => ((zgR n f 2 x21 11).bind fun x22 => ((fX11_at N n f x22 a2).bind fun x23 => ((fX6_compares N n f x23 x2 x4).bind fun x24 => zbl x24)))) else ((fX6_compares N n f a2 x2 x4).bind fun x25 => zbl x25))))))))))))))
set_option maxRecDepth 100000 in
set_option maxHeartbeats 4000000 in
theorem mX6_isSo (l : Launch) (G : zG) {N n : Nat} {f : zF} {r : Int32} {a0 : Nat} {a1 : Nat} {a2 : Int32} {a3 : Int32} (h : fX6_isSo N n f a0 a1 a2 a3 = some r) : zM l G yX6_isSo cX6_isSo 6 (some .boolean) 3 n f [zr G a0, zr G a1, .int a2, .int a3] (some (.int r)) f := by
  refine zM.of (by decide) (Nat.le_of_ble_eq_true rfl) ?_
  intro p e s m args below meth c locs ls B hS hl
  have he := B.1
  have hb := B.2.1
  have hl : lv_has ls 6 [(0, zr G a0), (1, zr G a1), (2, .int a2), (3, .int a3)] := hl
  unfold fX6_isSo at h
  generalize s.heap = H at hS ⊢
  refine z_aload_n he hb dX6_isSo_0 rfl (lv_at hl 0 rfl) (zref_r _ _) ?_
  obtain ⟨x1, hx, h⟩ := zob h
  refine z_getR (ci := 6) (T := TX6) (N := 4) (j := 2) B hS hx rfl zin_X6 (by decide) zk_302 dX6_isSo_1 ?_
  refine lv_iload_n he hb dX6_isSo_4 rfl (lv_at hl 3 rfl) ?_
  obtain ⟨x2, hx, h⟩ := zob h
  refine z_callN (rest := []) B hS (mX11_at l G hx) zy_X11_at zkn_1184 (by decide) rfl hl rfl (Nat.le_of_ble_eq_true rfl) dX6_isSo_5 (kk := (fun H locs hS => ?_))
  refine lv_istore (lv' := [(4, _), (0, _), (1, _), (2, _), (3, _)]) he hb dX6_isSo_8 hl (by decide) rfl (fun ls hl => ?_)
  refine z_aload_n he hb dX6_isSo_10 rfl (lv_at hl 1 rfl) (zref_r _ _) ?_
  obtain ⟨x3, hx, h⟩ := zob h
  refine z_getR (ci := 6) (T := TX6) (N := 4) (j := 3) B hS hx rfl zin_X6 (by decide) zk_303 dX6_isSo_11 ?_
  refine lv_iload_n he hb dX6_isSo_14 rfl (lv_at hl 4 rfl) ?_
  obtain ⟨x4, hx, h⟩ := zob h
  refine z_callN (rest := []) B hS (mX11_at l G hx) zy_X11_at zkn_1184 (by decide) rfl hl rfl (Nat.le_of_ble_eq_true rfl) dX6_isSo_15 (kk := (fun H locs hS => ?_))
  refine lv_istore (lv' := [(5, _), (4, _), (0, _), (1, _), (2, _), (3, _)]) he hb dX6_isSo_18 hl (by decide) rfl (fun ls hl => ?_)
  refine z_aload_n he hb dX6_isSo_20 rfl (lv_at hl 2 rfl) (zref_r _ _) ?_
  obtain ⟨x5, hx, h⟩ := zob h
  refine z_getR (ci := 6) (T := TX6) (N := 4) (j := 1) B hS hx rfl zin_X6 (by decide) zk_301 dX6_isSo_21 ?_
  refine lv_iload_n he hb dX6_isSo_24 rfl (lv_at hl 5 rfl) ?_
  obtain ⟨x6, hx, h⟩ := zob h
  refine z_callN (rest := []) B hS (mX11_at l G hx) zy_X11_at zkn_1184 (by decide) rfl hl rfl (Nat.le_of_ble_eq_true rfl) dX6_isSo_25 (kk := (fun H locs hS => ?_))
  by_cases hc0 : x6 = (19 : Int32)
  · rw [if_pos hc0] at h
    refine lv_tableIn (tgt := 72) he hb dX6_isSo_28 (by rw [hc0]; decide) (by rw [hc0]; decide) (by rw [hc0]; rfl) (by decide) ?_
    refine z_aload_n he hb dX6_isSo_72 rfl (lv_at hl 3 rfl) (zref_r _ _) ?_
    refine lv_iload_n he hb dX6_isSo_73 rfl (lv_at hl 4 rfl) ?_
    obtain ⟨_, hc, h⟩ := zob h
    obtain ⟨x7, hx, h⟩ := zob h
    refine z_callV (ci := 8) (T := TX8) (N := 9) (rest := []) B hS (mX8_seers l G hx) zy_X8_seers zk_1189 (by decide) hc rfl rfl hl rfl (Nat.le_of_ble_eq_true rfl) dX6_isSo_74 (kk := (fun H locs hS => ?_))
    refine lv_if_eq (tgt := 84) he hb dX6_isSo_77 (by decide) (fun hc => ?_) (fun hc => ?_)
    · rw [if_pos hc] at h
      refine lv_iconst (v := (0 : Int32)) he hb dX6_isSo_84 (by decide) ?_
      obtain ⟨hz, rfl⟩ := zbl_i h
      exact z_zret B hS hz dX6_isSo_85
    · rw [if_neg hc] at h
      refine lv_iconst (v := (1 : Int32)) he hb dX6_isSo_80 (by decide) ?_
      refine lv_goto (tgt := 85) he hb dX6_isSo_81 (by decide) ?_
      obtain ⟨hz, rfl⟩ := zbl_i h
      exact z_zret B hS hz dX6_isSo_85
  rw [if_neg hc0] at h
  by_cases hc1 : x6 = (20 : Int32)
  · rw [if_pos hc1] at h
    refine lv_tableIn (tgt := 86) he hb dX6_isSo_28 (by rw [hc1]; decide) (by rw [hc1]; decide) (by rw [hc1]; rfl) (by decide) ?_
    refine z_aload_n he hb dX6_isSo_86 rfl (lv_at hl 3 rfl) (zref_r _ _) ?_
    refine lv_iload_n he hb dX6_isSo_87 rfl (lv_at hl 4 rfl) ?_
    obtain ⟨_, hc, h⟩ := zob h
    obtain ⟨x8, hx, h⟩ := zob h
    refine z_callV (ci := 8) (T := TX8) (N := 9) (rest := []) B hS (mX8_canGo l G hx) zy_X8_canGo zk_1190 (by decide) hc rfl rfl hl rfl (Nat.le_of_ble_eq_true rfl) dX6_isSo_88 (kk := (fun H locs hS => ?_))
    refine lv_if_ne (tgt := 98) he hb dX6_isSo_91 (by decide) (fun hc => ?_) (fun hc => ?_)
    · rw [if_neg hc] at h
      refine lv_iconst (v := (0 : Int32)) he hb dX6_isSo_98 (by decide) ?_
      obtain ⟨hz, rfl⟩ := zbl_i h
      exact z_zret B hS hz dX6_isSo_99
    · rw [if_pos hc] at h
      refine lv_iconst (v := (1 : Int32)) he hb dX6_isSo_94 (by decide) ?_
      refine lv_goto (tgt := 99) he hb dX6_isSo_95 (by decide) ?_
      obtain ⟨hz, rfl⟩ := zbl_i h
      exact z_zret B hS hz dX6_isSo_99
  rw [if_neg hc1] at h
  by_cases hc2 : x6 = (21 : Int32)
  · rw [if_pos hc2] at h
    refine lv_tableIn (tgt := 100) he hb dX6_isSo_28 (by rw [hc2]; decide) (by rw [hc2]; decide) (by rw [hc2]; rfl) (by decide) ?_
    refine z_aload_n he hb dX6_isSo_100 rfl (lv_at hl 3 rfl) (zref_r _ _) ?_
    obtain ⟨x9, hx, h⟩ := zob h
    refine z_getR (ci := 8) (T := TX8) (N := 9) (j := 2) B hS hx rfl zin_X8 (by decide) zk_256 dX6_isSo_101 ?_
    refine lv_iload_n he hb dX6_isSo_104 rfl (lv_at hl 4 rfl) ?_
    obtain ⟨x10, hx, h⟩ := zob h
    refine z_callN (rest := []) B hS (mX11_at l G hx) zy_X11_at zkn_1184 (by decide) rfl hl rfl (Nat.le_of_ble_eq_true rfl) dX6_isSo_105 (kk := (fun H locs hS => ?_))
    refine z_aload_n he hb dX6_isSo_108 rfl (lv_at hl 3 rfl) (zref_r _ _) ?_
    obtain ⟨x11, hx, h⟩ := zob h
    refine z_getR (ci := 8) (T := TX8) (N := 9) (j := 0) B hS hx rfl zin_X8 (by decide) zk_249 dX6_isSo_109 ?_
    obtain ⟨x12, hx, h⟩ := zob h
    refine z_getR (ci := 2) (T := TX2) (N := 15) (j := 12) B hS hx rfl zin_X2 (by decide) zk_203 dX6_isSo_112 ?_
    refine lv_iload_n he hb dX6_isSo_115 rfl (lv_at hl 4 rfl) ?_
    obtain ⟨x13, hx, h⟩ := zob h
    refine z_callN (rest := [_]) B hS (mX11_at l G hx) zy_X11_at zkn_1184 (by decide) rfl hl rfl (Nat.le_of_ble_eq_true rfl) dX6_isSo_116 (kk := (fun H locs hS => ?_))
    refine lv_icmp_eq (tgt := 126) he hb dX6_isSo_119 (by decide) (fun hc => ?_) (fun hc => ?_)
    · rw [if_pos hc] at h
      refine lv_iconst (v := (0 : Int32)) he hb dX6_isSo_126 (by decide) ?_
      obtain ⟨hz, rfl⟩ := zbl_i h
      exact z_zret B hS hz dX6_isSo_127
    · rw [if_neg hc] at h
      refine lv_iconst (v := (1 : Int32)) he hb dX6_isSo_122 (by decide) ?_
      refine lv_goto (tgt := 127) he hb dX6_isSo_123 (by decide) ?_
      obtain ⟨hz, rfl⟩ := zbl_i h
      exact z_zret B hS hz dX6_isSo_127
  rw [if_neg hc2] at h
  by_cases hc3 : x6 = (22 : Int32)
  · rw [if_pos hc3] at h
    refine lv_tableIn (tgt := 128) he hb dX6_isSo_28 (by rw [hc3]; decide) (by rw [hc3]; decide) (by rw [hc3]; rfl) (by decide) ?_
    refine z_aload_n he hb dX6_isSo_128 rfl (lv_at hl 3 rfl) (zref_r _ _) ?_
    obtain ⟨x14, hx, h⟩ := zob h
    refine z_getR (ci := 8) (T := TX8) (N := 9) (j := 0) B hS hx rfl zin_X8 (by decide) zk_249 dX6_isSo_129 ?_
    obtain ⟨x15, hx, h⟩ := zob h
    refine z_getR (ci := 2) (T := TX2) (N := 15) (j := 10) B hS hx rfl zin_X2 (by decide) zk_194 dX6_isSo_132 ?_
    refine lv_iload_n he hb dX6_isSo_135 rfl (lv_at hl 4 rfl) ?_
    obtain ⟨x16, hx, h⟩ := zob h
    refine z_callN (rest := []) B hS (mX11_at l G hx) zy_X11_at zkn_1184 (by decide) rfl hl rfl (Nat.le_of_ble_eq_true rfl) dX6_isSo_136 (kk := (fun H locs hS => ?_))
    refine lv_iload he hb dX6_isSo_139 (lv_at hl 0 rfl) ?_
    refine lv_icmp_ne (tgt := 148) he hb dX6_isSo_141 (by decide) (fun hc => ?_) (fun hc => ?_)
    · rw [if_neg hc] at h
      refine lv_iconst (v := (0 : Int32)) he hb dX6_isSo_148 (by decide) ?_
      obtain ⟨hz, rfl⟩ := zbl_i h
      exact z_zret B hS hz dX6_isSo_149
    · rw [if_pos hc] at h
      refine lv_iconst (v := (1 : Int32)) he hb dX6_isSo_144 (by decide) ?_
      refine lv_goto (tgt := 149) he hb dX6_isSo_145 (by decide) ?_
      obtain ⟨hz, rfl⟩ := zbl_i h
      exact z_zret B hS hz dX6_isSo_149
  rw [if_neg hc3] at h
  by_cases hc4 : x6 = (23 : Int32)
  · rw [if_pos hc4] at h
    refine lv_tableIn (tgt := 150) he hb dX6_isSo_28 (by rw [hc4]; decide) (by rw [hc4]; decide) (by rw [hc4]; rfl) (by decide) ?_
    refine z_aload_n he hb dX6_isSo_150 rfl (lv_at hl 3 rfl) (zref_r _ _) ?_
    refine lv_iload_n he hb dX6_isSo_151 rfl (lv_at hl 4 rfl) ?_
    obtain ⟨_, hc, h⟩ := zob h
    obtain ⟨x17, hx, h⟩ := zob h
    refine z_callV (ci := 8) (T := TX8) (N := 9) (rest := []) B hS (mX8_seers l G hx) zy_X8_seers zk_1189 (by decide) hc rfl rfl hl rfl (Nat.le_of_ble_eq_true rfl) dX6_isSo_152 (kk := (fun H locs hS => ?_))
    refine lv_iload he hb dX6_isSo_155 (lv_at hl 0 rfl) ?_
    refine z_ishr he hb dX6_isSo_157 ?_
    refine lv_iconst (v := (1 : Int32)) he hb dX6_isSo_158 (by decide) ?_
    refine lv_iand he hb dX6_isSo_159 ?_
    refine lv_iconst (v := (1 : Int32)) he hb dX6_isSo_160 (by decide) ?_
    refine lv_icmp_ne (tgt := 168) he hb dX6_isSo_161 (by decide) (fun hc => ?_) (fun hc => ?_)
    · rw [if_neg hc] at h
      refine lv_iconst (v := (0 : Int32)) he hb dX6_isSo_168 (by decide) ?_
      obtain ⟨hz, rfl⟩ := zbl_i h
      exact z_zret B hS hz dX6_isSo_169
    · rw [if_pos hc] at h
      refine lv_iconst (v := (1 : Int32)) he hb dX6_isSo_164 (by decide) ?_
      refine lv_goto (tgt := 169) he hb dX6_isSo_165 (by decide) ?_
      obtain ⟨hz, rfl⟩ := zbl_i h
      exact z_zret B hS hz dX6_isSo_169
  rw [if_neg hc4] at h
  by_cases hc5 : x6 = (24 : Int32)
  · rw [if_pos hc5] at h
    refine lv_tableIn (tgt := 170) he hb dX6_isSo_28 (by rw [hc5]; decide) (by rw [hc5]; decide) (by rw [hc5]; rfl) (by decide) ?_
    refine z_aload_n he hb dX6_isSo_170 rfl (lv_at hl 3 rfl) (zref_r _ _) ?_
    obtain ⟨x18, hx, h⟩ := zob h
    refine z_getR (ci := 8) (T := TX8) (N := 9) (j := 4) B hS hx rfl zin_X8 (by decide) zk_263 dX6_isSo_171 ?_
    refine lv_iload_n he hb dX6_isSo_174 rfl (lv_at hl 4 rfl) ?_
    obtain ⟨x19, hx, h⟩ := zob h
    refine z_callN (rest := []) B hS (mX11_at l G hx) zy_X11_at zkn_1184 (by decide) rfl hl rfl (Nat.le_of_ble_eq_true rfl) dX6_isSo_175 (kk := (fun H locs hS => ?_))
    refine lv_iload he hb dX6_isSo_178 (lv_at hl 1 rfl) ?_
    refine lv_iload he hb dX6_isSo_180 (lv_at hl 0 rfl) ?_
    obtain ⟨x20, hx, h⟩ := zob h
    refine z_callS (rest := []) B hS (mX6_compares l G hx) zy_X6_compares zk_1191 (by decide) rfl hl rfl (Nat.le_of_ble_eq_true rfl) dX6_isSo_182 (kk := (fun H locs hS => ?_))
    obtain ⟨hz, rfl⟩ := zbl_i h
    exact z_zret B hS hz dX6_isSo_185
  rw [if_neg hc5] at h
  by_cases hc6 : x6 = (25 : Int32)
  · rw [if_pos hc6] at h
    refine lv_tableIn (tgt := 186) he hb dX6_isSo_28 (by rw [hc6]; decide) (by rw [hc6]; decide) (by rw [hc6]; rfl) (by decide) ?_
    refine z_aload_n he hb dX6_isSo_186 rfl (lv_at hl 3 rfl) (zref_r _ _) ?_
    obtain ⟨x21, hx, h⟩ := zob h
    refine z_getR (ci := 8) (T := TX8) (N := 9) (j := 0) B hS hx rfl zin_X8 (by decide) zk_249 dX6_isSo_187 ?_
    obtain ⟨x22, hx, h⟩ := zob h
    refine z_getR (ci := 2) (T := TX2) (N := 15) (j := 11) B hS hx rfl zin_X2 (by decide) zk_198 dX6_isSo_190 ?_
    refine lv_iload_n he hb dX6_isSo_193 rfl (lv_at hl 4 rfl) ?_
    obtain ⟨x23, hx, h⟩ := zob h
    refine z_callN (rest := []) B hS (mX11_at l G hx) zy_X11_at zkn_1184 (by decide) rfl hl rfl (Nat.le_of_ble_eq_true rfl) dX6_isSo_194 (kk := (fun H locs hS => ?_))
    refine lv_iload he hb dX6_isSo_197 (lv_at hl 1 rfl) ?_
    refine lv_iload he hb dX6_isSo_199 (lv_at hl 0 rfl) ?_
    obtain ⟨x24, hx, h⟩ := zob h
    refine z_callS (rest := []) B hS (mX6_compares l G hx) zy_X6_compares zk_1191 (by decide) rfl hl rfl (Nat.le_of_ble_eq_true rfl) dX6_isSo_201 (kk := (fun H locs hS => ?_))
    obtain ⟨hz, rfl⟩ := zbl_i h
    exact z_zret B hS hz dX6_isSo_204
  rw [if_neg hc6] at h
  refine lv_tableOut (tgt := 205) he hb dX6_isSo_28 ?_ (by decide) ?_
  · have h0 := lv_neT hc0 (a := 19) rfl; have h1 := lv_neT hc1 (a := 20) rfl; have h2 := lv_neT hc2 (a := 21) rfl; have h3 := lv_neT hc3 (a := 22) rfl; have h4 := lv_neT hc4 (a := 23) rfl; have h5 := lv_neT hc5 (a := 24) rfl; have h6 := lv_neT hc6 (a := 25) rfl; omega
  · skip
    refine lv_iload_n he hb dX6_isSo_205 rfl (lv_at hl 4 rfl) ?_
    refine lv_iload he hb dX6_isSo_206 (lv_at hl 1 rfl) ?_
    refine lv_iload he hb dX6_isSo_208 (lv_at hl 0 rfl) ?_
    obtain ⟨x25, hx, h⟩ := zob h
    refine z_callS (rest := []) B hS (mX6_compares l G hx) zy_X6_compares zk_1191 (by decide) rfl hl rfl (Nat.le_of_ble_eq_true rfl) dX6_isSo_210 (kk := (fun H locs hS => ?_))
    obtain ⟨hz, rfl⟩ := zbl_i h
    exact z_zret B hS hz dX6_isSo_213
theorem dX6_holds_0 : decode cX6_holds 0 = .ok (.iconst 0, 1) := by decide +kernel
theorem dX6_holds_1 : decode cX6_holds 1 = .ok (.istore_n 3, 1) := by decide +kernel
theorem dX6_holds_2 : decode cX6_holds 2 = .ok (.iconst 0, 1) := by decide +kernel
theorem dX6_holds_3 : decode cX6_holds 3 = .ok (.istore 4, 2) := by decide +kernel
theorem dX6_holds_5 : decode cX6_holds 5 = .ok (.iload 4, 2) := by decide +kernel
theorem dX6_holds_7 : decode cX6_holds 7 = .ok (.aload_n 0, 1) := by decide +kernel
theorem dX6_holds_8 : decode cX6_holds 8 = .ok (.getfield 21, 3) := by decide +kernel
theorem dX6_holds_11 : decode cX6_holds 11 = .ok (.if_icmp .ge 95, 3) := by decide +kernel
theorem dX6_holds_14 : decode cX6_holds 14 = .ok (.aload_n 0, 1) := by decide +kernel
theorem dX6_holds_15 : decode cX6_holds 15 = .ok (.getfield 9, 3) := by decide +kernel
theorem dX6_holds_18 : decode cX6_holds 18 = .ok (.iload 4, 2) := by decide +kernel
theorem dX6_holds_20 : decode cX6_holds 20 = .ok (.invokestatic 33, 3) := by decide +kernel
theorem dX6_holds_23 : decode cX6_holds 23 = .ok (.istore 5, 2) := by decide +kernel
theorem dX6_holds_25 : decode cX6_holds 25 = .ok (.iload_n 3, 1) := by decide +kernel
theorem dX6_holds_26 : decode cX6_holds 26 = .ok (.iconst 1, 1) := by decide +kernel
theorem dX6_holds_27 : decode cX6_holds 27 = .ok (.ishr, 1) := by decide +kernel
theorem dX6_holds_28 : decode cX6_holds 28 = .ok (.istore 6, 2) := by decide +kernel
theorem dX6_holds_30 : decode cX6_holds 30 = .ok (.iload 5, 2) := by decide +kernel
theorem dX6_holds_32 : decode cX6_holds 32 = .ok (.bipush 18, 2) := by decide +kernel
theorem dX6_holds_34 : decode cX6_holds 34 = .ok (.if_icmp .ne 10, 3) := by decide +kernel
theorem dX6_holds_37 : decode cX6_holds 37 = .ok (.iload_n 3, 1) := by decide +kernel
theorem dX6_holds_38 : decode cX6_holds 38 = .ok (.iconst 1, 1) := by decide +kernel
theorem dX6_holds_39 : decode cX6_holds 39 = .ok (.ixor, 1) := by decide +kernel
theorem dX6_holds_40 : decode cX6_holds 40 = .ok (.istore_n 3, 1) := by decide +kernel
theorem dX6_holds_41 : decode cX6_holds 41 = .ok (.goto 59, 3) := by decide +kernel
theorem dX6_holds_44 : decode cX6_holds 44 = .ok (.iload 5, 2) := by decide +kernel
theorem dX6_holds_46 : decode cX6_holds 46 = .ok (.bipush 17, 2) := by decide +kernel
theorem dX6_holds_48 : decode cX6_holds 48 = .ok (.if_icmp .ne 14, 3) := by decide +kernel
theorem dX6_holds_51 : decode cX6_holds 51 = .ok (.iload 6, 2) := by decide +kernel
theorem dX6_holds_53 : decode cX6_holds 53 = .ok (.iload_n 3, 1) := by decide +kernel
theorem dX6_holds_54 : decode cX6_holds 54 = .ok (.bipush (-2), 2) := by decide +kernel
theorem dX6_holds_56 : decode cX6_holds 56 = .ok (.ior, 1) := by decide +kernel
theorem dX6_holds_57 : decode cX6_holds 57 = .ok (.iand, 1) := by decide +kernel
theorem dX6_holds_58 : decode cX6_holds 58 = .ok (.istore_n 3, 1) := by decide +kernel
theorem dX6_holds_59 : decode cX6_holds 59 = .ok (.goto 41, 3) := by decide +kernel
theorem dX6_holds_62 : decode cX6_holds 62 = .ok (.iload 5, 2) := by decide +kernel
theorem dX6_holds_64 : decode cX6_holds 64 = .ok (.bipush 16, 2) := by decide +kernel
theorem dX6_holds_66 : decode cX6_holds 66 = .ok (.if_icmp .ne 13, 3) := by decide +kernel
theorem dX6_holds_69 : decode cX6_holds 69 = .ok (.iload 6, 2) := by decide +kernel
theorem dX6_holds_71 : decode cX6_holds 71 = .ok (.iload_n 3, 1) := by decide +kernel
theorem dX6_holds_72 : decode cX6_holds 72 = .ok (.iconst 1, 1) := by decide +kernel
theorem dX6_holds_73 : decode cX6_holds 73 = .ok (.iand, 1) := by decide +kernel
theorem dX6_holds_74 : decode cX6_holds 74 = .ok (.ior, 1) := by decide +kernel
theorem dX6_holds_75 : decode cX6_holds 75 = .ok (.istore_n 3, 1) := by decide +kernel
theorem dX6_holds_76 : decode cX6_holds 76 = .ok (.goto 24, 3) := by decide +kernel
theorem dX6_holds_79 : decode cX6_holds 79 = .ok (.iload_n 3, 1) := by decide +kernel
theorem dX6_holds_80 : decode cX6_holds 80 = .ok (.iconst 1, 1) := by decide +kernel
theorem dX6_holds_81 : decode cX6_holds 81 = .ok (.ishl, 1) := by decide +kernel
theorem dX6_holds_82 : decode cX6_holds 82 = .ok (.aload_n 0, 1) := by decide +kernel
theorem dX6_holds_83 : decode cX6_holds 83 = .ok (.aload_n 1, 1) := by decide +kernel
theorem dX6_holds_84 : decode cX6_holds 84 = .ok (.iload_n 2, 1) := by decide +kernel
theorem dX6_holds_85 : decode cX6_holds 85 = .ok (.iload 4, 2) := by decide +kernel
theorem dX6_holds_87 : decode cX6_holds 87 = .ok (.invokevirtual 37, 3) := by decide +kernel
theorem dX6_holds_90 : decode cX6_holds 90 = .ok (.ifCond .eq 7, 3) := by decide +kernel
theorem dX6_holds_93 : decode cX6_holds 93 = .ok (.iconst 1, 1) := by decide +kernel
theorem dX6_holds_94 : decode cX6_holds 94 = .ok (.goto 4, 3) := by decide +kernel
theorem dX6_holds_97 : decode cX6_holds 97 = .ok (.iconst 0, 1) := by decide +kernel
theorem dX6_holds_98 : decode cX6_holds 98 = .ok (.ior, 1) := by decide +kernel
theorem dX6_holds_99 : decode cX6_holds 99 = .ok (.istore_n 3, 1) := by decide +kernel
theorem dX6_holds_100 : decode cX6_holds 100 = .ok (.iinc 4 1, 3) := by decide +kernel
theorem dX6_holds_103 : decode cX6_holds 103 = .ok (.goto (-98), 3) := by decide +kernel
theorem dX6_holds_106 : decode cX6_holds 106 = .ok (.iload_n 3, 1) := by decide +kernel
theorem dX6_holds_107 : decode cX6_holds 107 = .ok (.iconst 1, 1) := by decide +kernel
theorem dX6_holds_108 : decode cX6_holds 108 = .ok (.iand, 1) := by decide +kernel
theorem dX6_holds_109 : decode cX6_holds 109 = .ok (.iconst 1, 1) := by decide +kernel
theorem dX6_holds_110 : decode cX6_holds 110 = .ok (.if_icmp .ne 7, 3) := by decide +kernel
theorem dX6_holds_113 : decode cX6_holds 113 = .ok (.iconst 1, 1) := by decide +kernel
theorem dX6_holds_114 : decode cX6_holds 114 = .ok (.goto 4, 3) := by decide +kernel
theorem dX6_holds_117 : decode cX6_holds 117 = .ok (.iconst 0, 1) := by decide +kernel
theorem dX6_holds_118 : decode cX6_holds 118 = .ok (.ireturn, 1) := by decide +kernel
def fX6_holds_100 (r5 : Nat → Nat → Int32 → Int32 → Int32 → Option Int32) (N n : Nat) (f : zF) (a0 : Nat) (a1 : Nat) (a2 : Int32) (a3 : Int32) (a4 : Int32) : Option Int32 :=
    (r5 a0 a1 a2 a3 (a4 + 1))
set_option maxRecDepth 100000 in
set_option maxHeartbeats 4000000 in
theorem gX6_holds_100 (l : Launch) {G : zG} {p : Program} {e : Env} {s : State} {m : MethodId} {args : Array Value} {below : List Frame} {meth : Method} {c : Code} {f : zF} {N n : Nat} {r : Int32} {r5 : Nat → Nat → Int32 → Int32 → Int32 → Option Int32} (B : zB G p s m args meth c RX6 cX6_holds 7 (some .boolean)) (hr5 : ∀ (a0 : Nat) (a1 : Nat) (a2 : Int32) (a3 : Int32) (a4 : Int32) (H : Heap) (locs : List Loc) (ls : Array Slot), r5 a0 a1 a2 a3 a4 = some r → zS G n f H locs → lv_has ls 7 [(0, zr G a0), (1, zr G a1), (2, .int a2), (3, .int a3), (4, .int a4)] → W p l e (zrm 4) s m args below meth c H locs 0 0 (MQ below (zQc G n f (some (.int r))) args s 0 0 (zA G)) (F0 m 5 ls [])) : ∀ (a0 : Nat) (a1 : Nat) (a2 : Int32) (a3 : Int32) (a4 : Int32) (H : Heap) (locs : List Loc) (ls : Array Slot), fX6_holds_100 r5 N n f a0 a1 a2 a3 a4 = some r → zS G n f H locs → lv_has ls 7 [(0, zr G a0), (1, zr G a1), (2, .int a2), (3, .int a3), (4, .int a4)] → W p l e (zrm 4) s m args below meth c H locs 0 0 (MQ below (zQc G n f (some (.int r))) args s 0 0 (zA G)) (F0 m 100 ls []) := by
  have he := B.1
  have hb := B.2.1
  intro a0 a1 a2 a3 a4 H locs ls h hS hl
  unfold fX6_holds_100 at h
  refine lv_iinc (v := (a4 + 1)) (lv' := [(4, _), (0, _), (1, _), (2, _), (3, _)]) he hb dX6_holds_100 hl (k := 4) rfl rfl (by decide) rfl (fun ls hl => ?_)
  refine lv_goto (tgt := 5) he hb dX6_holds_103 (by decide) ?_
  exact hr5 _ _ _ _ _ _ _ _ h hS (lv_sub hl [1, 2, 3, 4, 0] rfl)
def fX6_holds_98 (r5 : Nat → Nat → Int32 → Int32 → Int32 → Option Int32) (N n : Nat) (f : zF) (a0 : Nat) (a1 : Nat) (a2 : Int32) (a4 : Int32) (t0 : Int32) (t1 : Int32) : Option Int32 :=
    (fX6_holds_100 r5 N n f a0 a1 a2 (t0 ||| t1) a4)
set_option maxRecDepth 100000 in
set_option maxHeartbeats 4000000 in
theorem gX6_holds_98 (l : Launch) {G : zG} {p : Program} {e : Env} {s : State} {m : MethodId} {args : Array Value} {below : List Frame} {meth : Method} {c : Code} {f : zF} {N n : Nat} {r : Int32} {r5 : Nat → Nat → Int32 → Int32 → Int32 → Option Int32} (B : zB G p s m args meth c RX6 cX6_holds 7 (some .boolean)) (hr5 : ∀ (a0 : Nat) (a1 : Nat) (a2 : Int32) (a3 : Int32) (a4 : Int32) (H : Heap) (locs : List Loc) (ls : Array Slot), r5 a0 a1 a2 a3 a4 = some r → zS G n f H locs → lv_has ls 7 [(0, zr G a0), (1, zr G a1), (2, .int a2), (3, .int a3), (4, .int a4)] → W p l e (zrm 4) s m args below meth c H locs 0 0 (MQ below (zQc G n f (some (.int r))) args s 0 0 (zA G)) (F0 m 5 ls [])) : ∀ (a0 : Nat) (a1 : Nat) (a2 : Int32) (a4 : Int32) (t0 : Int32) (t1 : Int32) (H : Heap) (locs : List Loc) (ls : Array Slot), fX6_holds_98 r5 N n f a0 a1 a2 a4 t0 t1 = some r → zS G n f H locs → lv_has ls 7 [(0, zr G a0), (1, zr G a1), (2, .int a2), (4, .int a4)] → W p l e (zrm 4) s m args below meth c H locs 0 0 (MQ below (zQc G n f (some (.int r))) args s 0 0 (zA G)) (F0 m 98 ls [.int t1, .int t0]) := by
  have he := B.1
  have hb := B.2.1
  intro a0 a1 a2 a4 t0 t1 H locs ls h hS hl
  unfold fX6_holds_98 at h
  refine lv_ior he hb dX6_holds_98 ?_
  refine lv_istore_n (lv' := [(3, _), (0, _), (1, _), (2, _), (4, _)]) he hb dX6_holds_99 rfl hl (by decide) rfl (fun ls hl => ?_)
  exact gX6_holds_100 l B hr5 _ _ _ _ _ _ _ _ h hS (lv_sub hl [1, 2, 3, 0, 4] rfl)
def fX6_holds_5 (N n : Nat) (f : zF) : Nat → Nat → Nat → Int32 → Int32 → Int32 → Option Int32
  | 0, _, _, _, _, _ => none
  | k + 1, a0, a1, a2, a3, a4 =>
    ((zgI n f 6 a0 0).bind fun x1 => (if x1 ≤ a4 then (if (a3 &&& (1 : Int32)) = (1 : Int32) then zbl (1 : Int32) else zbl (0 : Int32)) else ((zgR n f 6 a0 1).bind fun x2 => ((fX11_at N n f x2 a4).bind fun x3 => (if x3 = (18 : Int32) then (fX6_holds_100 (fX6_holds_5 N n f k) N n f a0 a1 a2 (a3 ^^^ (1 : Int32)) a4) else (if x3 = (17 : Int32) then (fX6_holds_100 (fX6_holds_5 N n f k) N n f a0 a1 a2 ((zishr a3 (1 : Int32)) &&& (a3 ||| (-2 : Int32))) a4) else (if x3 = (16 : Int32) then (fX6_holds_100 (fX6_holds_5 N n f k) N n f a0 a1 a2 ((zishr a3 (1 : Int32)) ||| (a3 &&& (1 : Int32))) a4) else ((zck n f 6 a0).bind fun _ => ((fX6_isSo N n f a0 a1 a2 a4).bind fun x4 => (if x4 = 0 then (fX6_holds_98 (fX6_holds_5 N n f k) N n f a0 a1 a2 a4 (zishl a3 (1 : Int32)) (0 : Int32)) else (fX6_holds_98 (fX6_holds_5 N n f k) N n f a0 a1 a2 a4 (zishl a3 (1 : Int32)) (1 : Int32))))))))))))
set_option maxRecDepth 100000 in
set_option maxHeartbeats 4000000 in
theorem gX6_holds_5 (l : Launch) {G : zG} {p : Program} {e : Env} {s : State} {m : MethodId} {args : Array Value} {below : List Frame} {meth : Method} {c : Code} {f : zF} {N n : Nat} {r : Int32} (B : zB G p s m args meth c RX6 cX6_holds 7 (some .boolean)) : ∀ (k : Nat), ∀ (a0 : Nat) (a1 : Nat) (a2 : Int32) (a3 : Int32) (a4 : Int32) (H : Heap) (locs : List Loc) (ls : Array Slot), fX6_holds_5 N n f k a0 a1 a2 a3 a4 = some r → zS G n f H locs → lv_has ls 7 [(0, zr G a0), (1, zr G a1), (2, .int a2), (3, .int a3), (4, .int a4)] → W p l e (zrm 4) s m args below meth c H locs 0 0 (MQ below (zQc G n f (some (.int r))) args s 0 0 (zA G)) (F0 m 5 ls []) := by
  have he := B.1
  have hb := B.2.1
  intro k
  induction k with
  | zero =>
    intro a0 a1 a2 a3 a4 H locs ls h
    unfold fX6_holds_5 at h
    cases h
  | succ k ih =>
    intro a0 a1 a2 a3 a4 H locs ls h hS hl
    unfold fX6_holds_5 at h
    refine lv_iload he hb dX6_holds_5 (lv_at hl 4 rfl) ?_
    refine z_aload_n he hb dX6_holds_7 rfl (lv_at hl 0 rfl) (zref_r _ _) ?_
    obtain ⟨x1, hx, h⟩ := zob h
    refine z_getI (ci := 6) (T := TX6) (N := 4) (j := 0) B hS hx rfl zin_X6 (by decide) zk_299 dX6_holds_8 ?_
    refine lv_icmp_ge (tgt := 106) he hb dX6_holds_11 (by decide) (fun hc => ?_) (fun hc => ?_)
    · rw [if_pos hc] at h
      refine lv_iload_n he hb dX6_holds_106 rfl (lv_at hl 3 rfl) ?_
      refine lv_iconst (v := (1 : Int32)) he hb dX6_holds_107 (by decide) ?_
      refine lv_iand he hb dX6_holds_108 ?_
      refine lv_iconst (v := (1 : Int32)) he hb dX6_holds_109 (by decide) ?_
      refine lv_icmp_ne (tgt := 117) he hb dX6_holds_110 (by decide) (fun hc => ?_) (fun hc => ?_)
      · rw [if_neg hc] at h
        refine lv_iconst (v := (0 : Int32)) he hb dX6_holds_117 (by decide) ?_
        obtain ⟨hz, rfl⟩ := zbl_i h
        exact z_zret B hS hz dX6_holds_118
      · rw [if_pos hc] at h
        refine lv_iconst (v := (1 : Int32)) he hb dX6_holds_113 (by decide) ?_
        refine lv_goto (tgt := 118) he hb dX6_holds_114 (by decide) ?_
        obtain ⟨hz, rfl⟩ := zbl_i h
        exact z_zret B hS hz dX6_holds_118
    · rw [if_neg hc] at h
      refine z_aload_n he hb dX6_holds_14 rfl (lv_at hl 0 rfl) (zref_r _ _) ?_
      obtain ⟨x2, hx, h⟩ := zob h
      refine z_getR (ci := 6) (T := TX6) (N := 4) (j := 1) B hS hx rfl zin_X6 (by decide) zk_301 dX6_holds_15 ?_
      refine lv_iload he hb dX6_holds_18 (lv_at hl 4 rfl) ?_
      obtain ⟨x3, hx, h⟩ := zob h
      refine z_callN (rest := []) B hS (mX11_at l G hx) zy_X11_at zkn_1184 (by decide) rfl hl rfl (Nat.le_of_ble_eq_true rfl) dX6_holds_20 (kk := (fun H locs hS => ?_))
      refine lv_istore (lv' := [(5, _), (0, _), (1, _), (2, _), (3, _), (4, _)]) he hb dX6_holds_23 hl (by decide) rfl (fun ls hl => ?_)
      refine lv_iload_n he hb dX6_holds_25 rfl (lv_at hl 4 rfl) ?_
      refine lv_iconst (v := (1 : Int32)) he hb dX6_holds_26 (by decide) ?_
      refine z_ishr he hb dX6_holds_27 ?_
      refine lv_istore (lv' := [(6, _), (5, _), (0, _), (1, _), (2, _), (3, _), (4, _)]) he hb dX6_holds_28 hl (by decide) rfl (fun ls hl => ?_)
      refine lv_iload he hb dX6_holds_30 (lv_at hl 1 rfl) ?_
      refine lv_bipush (v := (18 : Int32)) he hb dX6_holds_32 (by decide) ?_
      refine lv_icmp_ne (tgt := 44) he hb dX6_holds_34 (by decide) (fun hc => ?_) (fun hc => ?_)
      · rw [if_neg hc] at h
        refine lv_iload he hb dX6_holds_44 (lv_at hl 1 rfl) ?_
        refine lv_bipush (v := (17 : Int32)) he hb dX6_holds_46 (by decide) ?_
        refine lv_icmp_ne (tgt := 62) he hb dX6_holds_48 (by decide) (fun hc => ?_) (fun hc => ?_)
        · rw [if_neg hc] at h
          refine lv_iload he hb dX6_holds_62 (lv_at hl 1 rfl) ?_
          refine lv_bipush (v := (16 : Int32)) he hb dX6_holds_64 (by decide) ?_
          refine lv_icmp_ne (tgt := 79) he hb dX6_holds_66 (by decide) (fun hc => ?_) (fun hc => ?_)
          · rw [if_neg hc] at h
            refine lv_iload_n he hb dX6_holds_79 rfl (lv_at hl 5 rfl) ?_
            refine lv_iconst (v := (1 : Int32)) he hb dX6_holds_80 (by decide) ?_
            refine z_ishl he hb dX6_holds_81 ?_
            refine z_aload_n he hb dX6_holds_82 rfl (lv_at hl 2 rfl) (zref_r _ _) ?_
            refine z_aload_n he hb dX6_holds_83 rfl (lv_at hl 3 rfl) (zref_r _ _) ?_
            refine lv_iload_n he hb dX6_holds_84 rfl (lv_at hl 4 rfl) ?_
            refine lv_iload he hb dX6_holds_85 (lv_at hl 6 rfl) ?_
            obtain ⟨_, hc, h⟩ := zob h
            obtain ⟨x4, hx, h⟩ := zob h
            refine z_callV (ci := 6) (T := TX6) (N := 4) (rest := [_]) B hS (mX6_isSo l G hx) zy_X6_isSo zk_1185 (by decide) hc rfl rfl hl rfl (Nat.le_of_ble_eq_true rfl) dX6_holds_87 (kk := (fun H locs hS => ?_))
            refine lv_if_eq (tgt := 97) he hb dX6_holds_90 (by decide) (fun hc => ?_) (fun hc => ?_)
            · rw [if_pos hc] at h
              refine lv_iconst (v := (0 : Int32)) he hb dX6_holds_97 (by decide) ?_
              exact gX6_holds_98 l B ih _ _ _ _ _ _ _ _ _ h hS (lv_sub hl [2, 3, 4, 6] rfl)
            · rw [if_neg hc] at h
              refine lv_iconst (v := (1 : Int32)) he hb dX6_holds_93 (by decide) ?_
              refine lv_goto (tgt := 98) he hb dX6_holds_94 (by decide) ?_
              exact gX6_holds_98 l B ih _ _ _ _ _ _ _ _ _ h hS (lv_sub hl [2, 3, 4, 6] rfl)
          · rw [if_pos hc] at h
            refine lv_iload he hb dX6_holds_69 (lv_at hl 0 rfl) ?_
            refine lv_iload_n he hb dX6_holds_71 rfl (lv_at hl 5 rfl) ?_
            refine lv_iconst (v := (1 : Int32)) he hb dX6_holds_72 (by decide) ?_
            refine lv_iand he hb dX6_holds_73 ?_
            refine lv_ior he hb dX6_holds_74 ?_
            refine lv_istore_n (lv' := [(3, _), (6, _), (5, _), (0, _), (1, _), (2, _), (4, _)]) he hb dX6_holds_75 rfl hl (by decide) rfl (fun ls hl => ?_)
            refine lv_goto (tgt := 100) he hb dX6_holds_76 (by decide) ?_
            exact gX6_holds_100 l B ih _ _ _ _ _ _ _ _ h hS (lv_sub hl [3, 4, 5, 0, 6] rfl)
        · rw [if_pos hc] at h
          refine lv_iload he hb dX6_holds_51 (lv_at hl 0 rfl) ?_
          refine lv_iload_n he hb dX6_holds_53 rfl (lv_at hl 5 rfl) ?_
          refine lv_bipush (v := (-2 : Int32)) he hb dX6_holds_54 (by decide) ?_
          refine lv_ior he hb dX6_holds_56 ?_
          refine lv_iand he hb dX6_holds_57 ?_
          refine lv_istore_n (lv' := [(3, _), (6, _), (5, _), (0, _), (1, _), (2, _), (4, _)]) he hb dX6_holds_58 rfl hl (by decide) rfl (fun ls hl => ?_)
          refine lv_goto (tgt := 100) he hb dX6_holds_59 (by decide) ?_
          exact gX6_holds_100 l B ih _ _ _ _ _ _ _ _ h hS (lv_sub hl [3, 4, 5, 0, 6] rfl)
      · rw [if_pos hc] at h
        refine lv_iload_n he hb dX6_holds_37 rfl (lv_at hl 5 rfl) ?_
        refine lv_iconst (v := (1 : Int32)) he hb dX6_holds_38 (by decide) ?_
        refine lv_ixor he hb dX6_holds_39 ?_
        refine lv_istore_n (lv' := [(3, _), (6, _), (5, _), (0, _), (1, _), (2, _), (4, _)]) he hb dX6_holds_40 rfl hl (by decide) rfl (fun ls hl => ?_)
        refine lv_goto (tgt := 100) he hb dX6_holds_41 (by decide) ?_
        exact gX6_holds_100 l B ih _ _ _ _ _ _ _ _ h hS (lv_sub hl [3, 4, 5, 0, 6] rfl)
def fX6_holds (N n : Nat) (f : zF) (a0 : Nat) (a1 : Nat) (a2 : Int32) : Option Int32 :=
    (fX6_holds_5 N n f N a0 a1 a2 (0 : Int32) (0 : Int32))
set_option maxRecDepth 100000 in
set_option maxHeartbeats 4000000 in
theorem mX6_holds (l : Launch) (G : zG) {N n : Nat} {f : zF} {r : Int32} {a0 : Nat} {a1 : Nat} {a2 : Int32} (h : fX6_holds N n f a0 a1 a2 = some r) : zM l G yX6_holds cX6_holds 7 (some .boolean) 4 n f [zr G a0, zr G a1, .int a2] (some (.int r)) f := by
  refine zM.of (by decide) (Nat.le_of_ble_eq_true rfl) ?_
  intro p e s m args below meth c locs ls B hS hl
  have he := B.1
  have hb := B.2.1
  have hl : lv_has ls 7 [(0, zr G a0), (1, zr G a1), (2, .int a2)] := hl
  unfold fX6_holds at h
  generalize s.heap = H at hS ⊢
  refine lv_iconst (v := (0 : Int32)) he hb dX6_holds_0 (by decide) ?_
  refine lv_istore_n (lv' := [(3, _), (0, _), (1, _), (2, _)]) he hb dX6_holds_1 rfl hl (by decide) rfl (fun ls hl => ?_)
  refine lv_iconst (v := (0 : Int32)) he hb dX6_holds_2 (by decide) ?_
  refine lv_istore (lv' := [(4, _), (3, _), (0, _), (1, _), (2, _)]) he hb dX6_holds_3 hl (by decide) rfl (fun ls hl => ?_)
  exact gX6_holds_5 l B N _ _ _ _ _ _ _ _ h hS (lv_sub hl [2, 3, 4, 1, 0] rfl)
theorem dX7_readSign_0 : decode cX7_readSign 0 = .ok (.aload_n 0, 1) := by decide +kernel
theorem dX7_readSign_1 : decode cX7_readSign 1 = .ok (.getfield 18, 3) := by decide +kernel
theorem dX7_readSign_4 : decode cX7_readSign 4 = .ok (.getfield 66, 3) := by decide +kernel
theorem dX7_readSign_7 : decode cX7_readSign 7 = .ok (.istore_n 1, 1) := by decide +kernel
theorem dX7_readSign_8 : decode cX7_readSign 8 = .ok (.aload_n 0, 1) := by decide +kernel
theorem dX7_readSign_9 : decode cX7_readSign 9 = .ok (.getfield 18, 3) := by decide +kernel
theorem dX7_readSign_12 : decode cX7_readSign 12 = .ok (.bipush 60, 2) := by decide +kernel
theorem dX7_readSign_14 : decode cX7_readSign 14 = .ok (.invokevirtual 60, 3) := by decide +kernel
theorem dX7_readSign_17 : decode cX7_readSign 17 = .ok (.ifCond .ne 27, 3) := by decide +kernel
theorem dX7_readSign_20 : decode cX7_readSign 20 = .ok (.aload_n 0, 1) := by decide +kernel
theorem dX7_readSign_21 : decode cX7_readSign 21 = .ok (.getfield 18, 3) := by decide +kernel
theorem dX7_readSign_24 : decode cX7_readSign 24 = .ok (.bipush 61, 2) := by decide +kernel
theorem dX7_readSign_26 : decode cX7_readSign 26 = .ok (.invokevirtual 60, 3) := by decide +kernel
theorem dX7_readSign_29 : decode cX7_readSign 29 = .ok (.ifCond .ne 15, 3) := by decide +kernel
theorem dX7_readSign_32 : decode cX7_readSign 32 = .ok (.aload_n 0, 1) := by decide +kernel
theorem dX7_readSign_33 : decode cX7_readSign 33 = .ok (.getfield 18, 3) := by decide +kernel
theorem dX7_readSign_36 : decode cX7_readSign 36 = .ok (.bipush 62, 2) := by decide +kernel
theorem dX7_readSign_38 : decode cX7_readSign 38 = .ok (.invokevirtual 60, 3) := by decide +kernel
theorem dX7_readSign_41 : decode cX7_readSign 41 = .ok (.ifCond .eq 13, 3) := by decide +kernel
theorem dX7_readSign_44 : decode cX7_readSign 44 = .ok (.aload_n 0, 1) := by decide +kernel
theorem dX7_readSign_45 : decode cX7_readSign 45 = .ok (.getfield 18, 3) := by decide +kernel
theorem dX7_readSign_48 : decode cX7_readSign 48 = .ok (.invokevirtual 69, 3) := by decide +kernel
theorem dX7_readSign_51 : decode cX7_readSign 51 = .ok (.goto 11, 3) := by decide +kernel
theorem dX7_readSign_54 : decode cX7_readSign 54 = .ok (.aload_n 0, 1) := by decide +kernel
theorem dX7_readSign_55 : decode cX7_readSign 55 = .ok (.getfield 18, 3) := by decide +kernel
theorem dX7_readSign_58 : decode cX7_readSign 58 = .ok (.iconst 1, 1) := by decide +kernel
theorem dX7_readSign_59 : decode cX7_readSign 59 = .ok (.invokevirtual 46, 3) := by decide +kernel
theorem dX7_readSign_62 : decode cX7_readSign 62 = .ok (.iload_n 1, 1) := by decide +kernel
theorem dX7_readSign_63 : decode cX7_readSign 63 = .ok (.ireturn, 1) := by decide +kernel
def fX7_readSign_44 (N n : Nat) (f : zF) (a0 : Nat) (a1 : Int32) : Option (zF × Int32) :=
    ((zgR n f 7 a0 0).bind fun x5 => ((zck n f 9 x5).bind fun _ => ((fX9_advance N n f x5).bind fun f6 => some (f6, a1))))
set_option maxRecDepth 100000 in
set_option maxHeartbeats 4000000 in
theorem gX7_readSign_44 (l : Launch) {G : zG} {p : Program} {e : Env} {s : State} {m : MethodId} {args : Array Value} {below : List Frame} {meth : Method} {c : Code} {N n : Nat} {f9 : zF} {r : Int32} (B : zB G p s m args meth c RX7 cX7_readSign 2 (some .int)) : ∀ (f : zF) (a0 : Nat) (a1 : Int32) (H : Heap) (locs : List Loc) (ls : Array Slot), fX7_readSign_44 N n f a0 a1 = some (f9, r) → zS G n f H locs → lv_has ls 2 [(0, zr G a0), (1, .int a1)] → W p l e (zrm 2) s m args below meth c H locs 0 0 (MQ below (zQc G n f9 (some (.int r))) args s 0 0 (zA G)) (F0 m 44 ls []) := by
  have he := B.1
  have hb := B.2.1
  intro f a0 a1 H locs ls h hS hl
  unfold fX7_readSign_44 at h
  refine z_aload_n he hb dX7_readSign_44 rfl (lv_at hl 0 rfl) (zref_r _ _) ?_
  obtain ⟨x5, hx, h⟩ := zob h
  refine z_getR (ci := 7) (T := TX7) (N := 4) (j := 0) B hS hx rfl zin_X7 (by decide) zk_378 dX7_readSign_45 ?_
  obtain ⟨_, hc, h⟩ := zob h
  obtain ⟨f6, hx, h⟩ := zob h
  refine z_callV (ci := 9) (T := TX9) (N := 12) (rest := []) B hS (mX9_advance l G hx) zy_X9_advance zk_1156 (by decide) hc rfl rfl hl rfl (Nat.le_of_ble_eq_true rfl) dX7_readSign_48 (kk := (fun H locs hS => ?_))
  refine lv_goto (tgt := 62) he hb dX7_readSign_51 (by decide) ?_
  refine lv_iload_n he hb dX7_readSign_62 rfl (lv_at hl 1 rfl) ?_
  obtain ⟨rfl, rfl⟩ := Prod.mk.inj (Option.some.inj h)
  exact z_iret B hS dX7_readSign_63
def fX7_readSign (N n : Nat) (f : zF) (a0 : Nat) : Option (zF × Int32) :=
    ((zgR n f 7 a0 0).bind fun x1 => ((zgI n f 9 x1 8).bind fun x2 => ((zgR n f 7 a0 0).bind fun x3 => ((zck n f 9 x3).bind fun _ => ((fX9_isSign N n f x3 (60 : Int32)).bind fun x4 => (if x4 = 0 then ((zgR n f 7 a0 0).bind fun x7 => ((zck n f 9 x7).bind fun _ => ((fX9_isSign N n f x7 (61 : Int32)).bind fun x8 => (if x8 = 0 then ((zgR n f 7 a0 0).bind fun x9 => ((zck n f 9 x9).bind fun _ => ((fX9_isSign N n f x9 (62 : Int32)).bind fun x10 => (if x10 = 0 then ((zgR n f 7 a0 0).bind fun x11 => ((zck n f 9 x11).bind fun _ => ((fX9_fail N n f x11 (1 : Int32)).bind fun f12 => some (f12, x2)))) else (fX7_readSign_44 N n f a0 x2))))) else (fX7_readSign_44 N n f a0 x2))))) else (fX7_readSign_44 N n f a0 x2)))))))
set_option maxRecDepth 100000 in
set_option maxHeartbeats 4000000 in
theorem mX7_readSign (l : Launch) (G : zG) {N n : Nat} {f : zF} {f9 : zF} {r : Int32} {a0 : Nat} (h : fX7_readSign N n f a0 = some (f9, r)) : zM l G yX7_readSign cX7_readSign 2 (some .int) 2 n f [zr G a0] (some (.int r)) f9 := by
  refine zM.of (by decide) (Nat.le_of_ble_eq_true rfl) ?_
  intro p e s m args below meth c locs ls B hS hl
  have he := B.1
  have hb := B.2.1
  have hl : lv_has ls 2 [(0, zr G a0)] := hl
  unfold fX7_readSign at h
  generalize s.heap = H at hS ⊢
  refine z_aload_n he hb dX7_readSign_0 rfl (lv_at hl 0 rfl) (zref_r _ _) ?_
  obtain ⟨x1, hx, h⟩ := zob h
  refine z_getR (ci := 7) (T := TX7) (N := 4) (j := 0) B hS hx rfl zin_X7 (by decide) zk_378 dX7_readSign_1 ?_
  obtain ⟨x2, hx, h⟩ := zob h
  refine z_getI (ci := 9) (T := TX9) (N := 12) (j := 8) B hS hx rfl zin_X9 (by decide) zk_107 dX7_readSign_4 ?_
  refine lv_istore_n (lv' := [(1, _), (0, _)]) he hb dX7_readSign_7 rfl hl (by decide) rfl (fun ls hl => ?_)
  refine z_aload_n he hb dX7_readSign_8 rfl (lv_at hl 1 rfl) (zref_r _ _) ?_
  obtain ⟨x3, hx, h⟩ := zob h
  refine z_getR (ci := 7) (T := TX7) (N := 4) (j := 0) B hS hx rfl zin_X7 (by decide) zk_378 dX7_readSign_9 ?_
  refine lv_bipush (v := (60 : Int32)) he hb dX7_readSign_12 (by decide) ?_
  obtain ⟨_, hc, h⟩ := zob h
  obtain ⟨x4, hx, h⟩ := zob h
  refine z_callV (ci := 9) (T := TX9) (N := 12) (rest := []) B hS (mX9_isSign l G hx) zy_X9_isSign zk_1154 (by decide) hc rfl rfl hl rfl (Nat.le_of_ble_eq_true rfl) dX7_readSign_14 (kk := (fun H locs hS => ?_))
  refine lv_if_ne (tgt := 44) he hb dX7_readSign_17 (by decide) (fun hc => ?_) (fun hc => ?_)
  · rw [if_neg hc] at h
    exact gX7_readSign_44 l B _ _ _ _ _ _ h hS (lv_sub hl [1, 0] rfl)
  · rw [if_pos hc] at h
    refine z_aload_n he hb dX7_readSign_20 rfl (lv_at hl 1 rfl) (zref_r _ _) ?_
    obtain ⟨x7, hx, h⟩ := zob h
    refine z_getR (ci := 7) (T := TX7) (N := 4) (j := 0) B hS hx rfl zin_X7 (by decide) zk_378 dX7_readSign_21 ?_
    refine lv_bipush (v := (61 : Int32)) he hb dX7_readSign_24 (by decide) ?_
    obtain ⟨_, hc, h⟩ := zob h
    obtain ⟨x8, hx, h⟩ := zob h
    refine z_callV (ci := 9) (T := TX9) (N := 12) (rest := []) B hS (mX9_isSign l G hx) zy_X9_isSign zk_1154 (by decide) hc rfl rfl hl rfl (Nat.le_of_ble_eq_true rfl) dX7_readSign_26 (kk := (fun H locs hS => ?_))
    refine lv_if_ne (tgt := 44) he hb dX7_readSign_29 (by decide) (fun hc => ?_) (fun hc => ?_)
    · rw [if_neg hc] at h
      exact gX7_readSign_44 l B _ _ _ _ _ _ h hS (lv_sub hl [1, 0] rfl)
    · rw [if_pos hc] at h
      refine z_aload_n he hb dX7_readSign_32 rfl (lv_at hl 1 rfl) (zref_r _ _) ?_
      obtain ⟨x9, hx, h⟩ := zob h
      refine z_getR (ci := 7) (T := TX7) (N := 4) (j := 0) B hS hx rfl zin_X7 (by decide) zk_378 dX7_readSign_33 ?_
      refine lv_bipush (v := (62 : Int32)) he hb dX7_readSign_36 (by decide) ?_
      obtain ⟨_, hc, h⟩ := zob h
      obtain ⟨x10, hx, h⟩ := zob h
      refine z_callV (ci := 9) (T := TX9) (N := 12) (rest := []) B hS (mX9_isSign l G hx) zy_X9_isSign zk_1154 (by decide) hc rfl rfl hl rfl (Nat.le_of_ble_eq_true rfl) dX7_readSign_38 (kk := (fun H locs hS => ?_))
      refine lv_if_eq (tgt := 54) he hb dX7_readSign_41 (by decide) (fun hc => ?_) (fun hc => ?_)
      · rw [if_pos hc] at h
        refine z_aload_n he hb dX7_readSign_54 rfl (lv_at hl 1 rfl) (zref_r _ _) ?_
        obtain ⟨x11, hx, h⟩ := zob h
        refine z_getR (ci := 7) (T := TX7) (N := 4) (j := 0) B hS hx rfl zin_X7 (by decide) zk_378 dX7_readSign_55 ?_
        refine lv_iconst (v := (1 : Int32)) he hb dX7_readSign_58 (by decide) ?_
        obtain ⟨_, hc, h⟩ := zob h
        obtain ⟨f12, hx, h⟩ := zob h
        refine z_callV (ci := 9) (T := TX9) (N := 12) (rest := []) B hS (mX9_fail l G hx) zy_X9_fail zk_1155 (by decide) hc rfl rfl hl rfl (Nat.le_of_ble_eq_true rfl) dX7_readSign_59 (kk := (fun H locs hS => ?_))
        refine lv_iload_n he hb dX7_readSign_62 rfl (lv_at hl 0 rfl) ?_
        obtain ⟨rfl, rfl⟩ := Prod.mk.inj (Option.some.inj h)
        exact z_iret B hS dX7_readSign_63
      · rw [if_neg hc] at h
        exact gX7_readSign_44 l B _ _ _ _ _ _ h hS (lv_sub hl [1, 0] rfl)
theorem dX10_clear_0 : decode cX10_clear 0 = .ok (.aload_n 0, 1) := by decide +kernel
theorem dX10_clear_1 : decode cX10_clear 1 = .ok (.iconst 0, 1) := by decide +kernel
theorem dX10_clear_2 : decode cX10_clear 2 = .ok (.putfield 20, 3) := by decide +kernel
theorem dX10_clear_5 : decode cX10_clear 5 = .ok (.return_, 1) := by decide +kernel
def fX10_clear (N n : Nat) (f : zF) (a0 : Nat) : Option zF :=
    ((zpI n f 10 a0 1 (0 : Int32)).bind fun f1 => some f1)
set_option maxRecDepth 100000 in
set_option maxHeartbeats 4000000 in
theorem mX10_clear (l : Launch) (G : zG) {N n : Nat} {f : zF} {f9 : zF} {a0 : Nat} (h : fX10_clear N n f a0 = some f9) : zM l G yX10_clear cX10_clear 1 (none) 0 n f [zr G a0] (none) f9 := by
  refine zM.of (by decide) (Nat.le_of_ble_eq_true rfl) ?_
  intro p e s m args below meth c locs ls B hS hl
  have he := B.1
  have hb := B.2.1
  have hl : lv_has ls 1 [(0, zr G a0)] := hl
  unfold fX10_clear at h
  generalize s.heap = H at hS ⊢
  refine z_aload_n he hb dX10_clear_0 rfl (lv_at hl 0 rfl) (zref_r _ _) ?_
  refine lv_iconst (v := (0 : Int32)) he hb dX10_clear_1 (by decide) ?_
  obtain ⟨f1, hx, h⟩ := zob h
  refine z_putI (ci := 10) (T := TX10) (N := 3) (j := 1) B hS hx rfl zin_X10 tyX10 tyX10_ok nmX10 (by decide) zk_402 rfl rfl dX10_clear_2 (fun H locs hS => ?_)
  obtain rfl := Option.some.inj h
  exact z_vret B hS dX10_clear_5
theorem dX10_stateIn_0 : decode cX10_stateIn 0 = .ok (.iload_n 1, 1) := by decide +kernel
theorem dX10_stateIn_1 : decode cX10_stateIn 1 = .ok (.ifCond .lt 21, 3) := by decide +kernel
theorem dX10_stateIn_4 : decode cX10_stateIn 4 = .ok (.iload_n 1, 1) := by decide +kernel
theorem dX10_stateIn_5 : decode cX10_stateIn 5 = .ok (.aload_n 0, 1) := by decide +kernel
theorem dX10_stateIn_6 : decode cX10_stateIn 6 = .ok (.getfield 11, 3) := by decide +kernel
theorem dX10_stateIn_9 : decode cX10_stateIn 9 = .ok (.arraylength, 1) := by decide +kernel
theorem dX10_stateIn_10 : decode cX10_stateIn 10 = .ok (.if_icmp .ge 12, 3) := by decide +kernel
theorem dX10_stateIn_13 : decode cX10_stateIn 13 = .ok (.aload_n 0, 1) := by decide +kernel
theorem dX10_stateIn_14 : decode cX10_stateIn 14 = .ok (.getfield 11, 3) := by decide +kernel
theorem dX10_stateIn_17 : decode cX10_stateIn 17 = .ok (.iload_n 1, 1) := by decide +kernel
theorem dX10_stateIn_18 : decode cX10_stateIn 18 = .ok (.aaload, 1) := by decide +kernel
theorem dX10_stateIn_19 : decode cX10_stateIn 19 = .ok (.goto 4, 3) := by decide +kernel
theorem dX10_stateIn_22 : decode cX10_stateIn 22 = .ok (.aconst_null, 1) := by decide +kernel
theorem dX10_stateIn_23 : decode cX10_stateIn 23 = .ok (.areturn, 1) := by decide +kernel
def fX10_stateIn_22 (N n : Nat) (f : zF) : Option (Option Nat) :=
    some none
set_option maxRecDepth 100000 in
set_option maxHeartbeats 4000000 in
theorem gX10_stateIn_22 (l : Launch) {G : zG} {p : Program} {e : Env} {s : State} {m : MethodId} {args : Array Value} {below : List Frame} {meth : Method} {c : Code} {f : zF} {N n : Nat} {r : Option Nat} (B : zB G p s m args meth c RX10 cX10_stateIn 2 (some (.object "SeenToMove$State"))) : ∀ (H : Heap) (locs : List Loc) (ls : Array Slot), fX10_stateIn_22 N n f  = some r → zS G n f H locs → lv_has ls 2 [] → W p l e (zrm 0) s m args below meth c H locs 0 0 (MQ below (zQc G n f (some (zn G r))) args s 0 0 (zA G)) (F0 m 22 ls []) := by
  have he := B.1
  have hb := B.2.1
  intro  H locs ls h hS hl
  unfold fX10_stateIn_22 at h
  refine lv_null he hb dX10_stateIn_22 ?_
  obtain rfl := Option.some.inj h
  exact z_aret B hS dX10_stateIn_23
def fX10_stateIn (N n : Nat) (f : zF) (a0 : Nat) (a1 : Int32) : Option (Option Nat) :=
    (if a1 < 0 then (fX10_stateIn_22 N n f ) else ((zgR n f 10 a0 0).bind fun x1 => ((zlen n f 4 x1).bind fun x2 => (if x2 ≤ a1 then (fX10_stateIn_22 N n f ) else ((zgR n f 10 a0 0).bind fun x3 => ((zlQ n f 4 x3 a1).bind fun x4 => some x4))))))
set_option maxRecDepth 100000 in
set_option maxHeartbeats 4000000 in
theorem mX10_stateIn (l : Launch) (G : zG) {N n : Nat} {f : zF} {r : Option Nat} {a0 : Nat} {a1 : Int32} (h : fX10_stateIn N n f a0 a1 = some r) : zM l G yX10_stateIn cX10_stateIn 2 (some (.object "SeenToMove$State")) 0 n f [zr G a0, .int a1] (some (zn G r)) f := by
  refine zM.of (by decide) (Nat.le_of_ble_eq_true rfl) ?_
  intro p e s m args below meth c locs ls B hS hl
  have he := B.1
  have hb := B.2.1
  have hl : lv_has ls 2 [(0, zr G a0), (1, .int a1)] := hl
  unfold fX10_stateIn at h
  generalize s.heap = H at hS ⊢
  refine lv_iload_n he hb dX10_stateIn_0 rfl (lv_at hl 1 rfl) ?_
  refine lv_if_lt (tgt := 22) he hb dX10_stateIn_1 (by decide) (fun hc => ?_) (fun hc => ?_)
  · rw [if_pos hc] at h
    exact gX10_stateIn_22 l B  _ _ _ h hS (lv_sub hl [] rfl)
  · rw [if_neg hc] at h
    refine lv_iload_n he hb dX10_stateIn_4 rfl (lv_at hl 1 rfl) ?_
    refine z_aload_n he hb dX10_stateIn_5 rfl (lv_at hl 0 rfl) (zref_r _ _) ?_
    obtain ⟨x1, hx, h⟩ := zob h
    refine z_getR (ci := 10) (T := TX10) (N := 3) (j := 0) B hS hx rfl zin_X10 (by decide) zk_401 dX10_stateIn_6 ?_
    obtain ⟨x2, hx, h⟩ := zob h
    refine z_len B hS hx rfl dX10_stateIn_9 ?_
    refine lv_icmp_ge (tgt := 22) he hb dX10_stateIn_10 (by decide) (fun hc => ?_) (fun hc => ?_)
    · rw [if_pos hc] at h
      exact gX10_stateIn_22 l B  _ _ _ h hS (lv_sub hl [] rfl)
    · rw [if_neg hc] at h
      refine z_aload_n he hb dX10_stateIn_13 rfl (lv_at hl 0 rfl) (zref_r _ _) ?_
      obtain ⟨x3, hx, h⟩ := zob h
      refine z_getR (ci := 10) (T := TX10) (N := 3) (j := 0) B hS hx rfl zin_X10 (by decide) zk_401 dX10_stateIn_14 ?_
      refine lv_iload_n he hb dX10_stateIn_17 rfl (lv_at hl 1 rfl) ?_
      obtain ⟨x4, hx, h⟩ := zob h
      refine z_ildQ B hS hx dX10_stateIn_18 ?_
      refine lv_goto (tgt := 23) he hb dX10_stateIn_19 (by decide) ?_
      obtain rfl := Option.some.inj h
      exact z_aret B hS dX10_stateIn_23
theorem dX10_hold_0 : decode cX10_hold 0 = .ok (.aload_n 0, 1) := by decide +kernel
theorem dX10_hold_1 : decode cX10_hold 1 = .ok (.aload_n 0, 1) := by decide +kernel
theorem dX10_hold_2 : decode cX10_hold 2 = .ok (.getfield 24, 3) := by decide +kernel
theorem dX10_hold_5 : decode cX10_hold 5 = .ok (.invokevirtual 27, 3) := by decide +kernel
theorem dX10_hold_8 : decode cX10_hold 8 = .ok (.astore_n 2, 1) := by decide +kernel
theorem dX10_hold_9 : decode cX10_hold 9 = .ok (.aload_n 2, 1) := by decide +kernel
theorem dX10_hold_10 : decode cX10_hold 10 = .ok (.ifnull 8, 3) := by decide +kernel
theorem dX10_hold_13 : decode cX10_hold 13 = .ok (.aload_n 2, 1) := by decide +kernel
theorem dX10_hold_14 : decode cX10_hold 14 = .ok (.aload_n 1, 1) := by decide +kernel
theorem dX10_hold_15 : decode cX10_hold 15 = .ok (.invokevirtual 31, 3) := by decide +kernel
theorem dX10_hold_18 : decode cX10_hold 18 = .ok (.return_, 1) := by decide +kernel
def fX10_hold (N n : Nat) (f : zF) (a0 : Nat) (a1 : Nat) : Option zF :=
    ((zgI n f 10 a0 2).bind fun x1 => ((zck n f 10 a0).bind fun _ => ((fX10_stateIn N n f a0 x1).bind fun x2 => (match x2 with | none => some f | some x3 => ((zck n f 8 x3).bind fun _ => ((fX8_copyFrom N n f x3 a1).bind fun f4 => some f4))))))
set_option maxRecDepth 100000 in
set_option maxHeartbeats 4000000 in
theorem mX10_hold (l : Launch) (G : zG) {N n : Nat} {f : zF} {f9 : zF} {a0 : Nat} {a1 : Nat} (h : fX10_hold N n f a0 a1 = some f9) : zM l G yX10_hold cX10_hold 3 (none) 3 n f [zr G a0, zr G a1] (none) f9 := by
  refine zM.of (by decide) (Nat.le_of_ble_eq_true rfl) ?_
  intro p e s m args below meth c locs ls B hS hl
  have he := B.1
  have hb := B.2.1
  have hl : lv_has ls 3 [(0, zr G a0), (1, zr G a1)] := hl
  unfold fX10_hold at h
  generalize s.heap = H at hS ⊢
  refine z_aload_n he hb dX10_hold_0 rfl (lv_at hl 0 rfl) (zref_r _ _) ?_
  refine z_aload_n he hb dX10_hold_1 rfl (lv_at hl 0 rfl) (zref_r _ _) ?_
  obtain ⟨x1, hx, h⟩ := zob h
  refine z_getI (ci := 10) (T := TX10) (N := 3) (j := 2) B hS hx rfl zin_X10 (by decide) zk_403 dX10_hold_2 ?_
  obtain ⟨_, hc, h⟩ := zob h
  obtain ⟨x2, hx, h⟩ := zob h
  refine z_callV (ci := 10) (T := TX10) (N := 3) (rest := []) B hS (mX10_stateIn l G hx) zy_X10_stateIn zk_829 (by decide) hc rfl rfl hl rfl (Nat.le_of_ble_eq_true rfl) dX10_hold_5 (kk := (fun H locs hS => ?_))
  refine z_astore_n (lv' := [(2, _), (0, _), (1, _)]) he hb dX10_hold_8 rfl hl (by decide) (zref_n _ _) rfl (fun ls hl => ?_)
  refine z_aload_n he hb dX10_hold_9 rfl (lv_at hl 0 rfl) (zref_n _ _) ?_
  refine z_ifnull (tgt := 18) he hb dX10_hold_10 (by decide) (fun ho => ?_) (fun x3 ho => ?_)
  · subst ho
    dsimp only at h
    obtain rfl := Option.some.inj h
    exact z_vret B hS dX10_hold_18
  · subst ho
    dsimp only at h
    refine z_aload_n he hb dX10_hold_13 rfl (lv_at hl 0 rfl) (zref_r _ _) ?_
    refine z_aload_n he hb dX10_hold_14 rfl (lv_at hl 2 rfl) (zref_r _ _) ?_
    obtain ⟨_, hc, h⟩ := zob h
    obtain ⟨f4, hx, h⟩ := zob h
    refine z_callV (ci := 8) (T := TX8) (N := 9) (rest := []) B hS (mX8_copyFrom l G hx) zy_X8_copyFrom zk_833 (by decide) hc rfl rfl hl rfl (Nat.le_of_ble_eq_true rfl) dX10_hold_15 (kk := (fun H locs hS => ?_))
    obtain rfl := Option.some.inj h
    exact z_vret B hS dX10_hold_18
theorem dX10_keep_0 : decode cX10_keep 0 = .ok (.aload_n 0, 1) := by decide +kernel
theorem dX10_keep_1 : decode cX10_keep 1 = .ok (.aload_n 0, 1) := by decide +kernel
theorem dX10_keep_2 : decode cX10_keep 2 = .ok (.getfield 24, 3) := by decide +kernel
theorem dX10_keep_5 : decode cX10_keep 5 = .ok (.iconst 1, 1) := by decide +kernel
theorem dX10_keep_6 : decode cX10_keep 6 = .ok (.iadd, 1) := by decide +kernel
theorem dX10_keep_7 : decode cX10_keep 7 = .ok (.bipush 9, 2) := by decide +kernel
theorem dX10_keep_9 : decode cX10_keep 9 = .ok (.irem, 1) := by decide +kernel
theorem dX10_keep_10 : decode cX10_keep 10 = .ok (.putfield 24, 3) := by decide +kernel
theorem dX10_keep_13 : decode cX10_keep 13 = .ok (.aload_n 0, 1) := by decide +kernel
theorem dX10_keep_14 : decode cX10_keep 14 = .ok (.aload_n 0, 1) := by decide +kernel
theorem dX10_keep_15 : decode cX10_keep 15 = .ok (.getfield 20, 3) := by decide +kernel
theorem dX10_keep_18 : decode cX10_keep 18 = .ok (.iconst 1, 1) := by decide +kernel
theorem dX10_keep_19 : decode cX10_keep 19 = .ok (.iadd, 1) := by decide +kernel
theorem dX10_keep_20 : decode cX10_keep 20 = .ok (.bipush 8, 2) := by decide +kernel
theorem dX10_keep_22 : decode cX10_keep 22 = .ok (.invokestatic 35, 3) := by decide +kernel
theorem dX10_keep_25 : decode cX10_keep 25 = .ok (.putfield 20, 3) := by decide +kernel
theorem dX10_keep_28 : decode cX10_keep 28 = .ok (.return_, 1) := by decide +kernel
def fX10_keep (N n : Nat) (f : zF) (a0 : Nat) : Option zF :=
    ((zgI n f 10 a0 2).bind fun x1 => ((zpI n f 10 a0 2 (zrem (x1 + (1 : Int32)) (9 : Int32))).bind fun f2 => ((zgI n f2 10 a0 1).bind fun x3 => ((fJ9_min_7cf53 N n f2 (x3 + (1 : Int32)) (8 : Int32)).bind fun x4 => ((zpI n f2 10 a0 1 x4).bind fun f5 => some f5)))))
set_option maxRecDepth 100000 in
set_option maxHeartbeats 4000000 in
theorem mX10_keep (l : Launch) (G : zG) {N n : Nat} {f : zF} {f9 : zF} {a0 : Nat} (h : fX10_keep N n f a0 = some f9) : zM l G yX10_keep cX10_keep 1 (none) 1 n f [zr G a0] (none) f9 := by
  refine zM.of (by decide) (Nat.le_of_ble_eq_true rfl) ?_
  intro p e s m args below meth c locs ls B hS hl
  have he := B.1
  have hb := B.2.1
  have hl : lv_has ls 1 [(0, zr G a0)] := hl
  unfold fX10_keep at h
  generalize s.heap = H at hS ⊢
  refine z_aload_n he hb dX10_keep_0 rfl (lv_at hl 0 rfl) (zref_r _ _) ?_
  refine z_aload_n he hb dX10_keep_1 rfl (lv_at hl 0 rfl) (zref_r _ _) ?_
  obtain ⟨x1, hx, h⟩ := zob h
  refine z_getI (ci := 10) (T := TX10) (N := 3) (j := 2) B hS hx rfl zin_X10 (by decide) zk_403 dX10_keep_2 ?_
  refine lv_iconst (v := (1 : Int32)) he hb dX10_keep_5 (by decide) ?_
  refine lv_iadd he hb dX10_keep_6 ?_
  refine lv_bipush (v := (9 : Int32)) he hb dX10_keep_7 (by decide) ?_
  refine z_irem he hb dX10_keep_9 (by decide) ?_
  obtain ⟨f2, hx, h⟩ := zob h
  refine z_putI (ci := 10) (T := TX10) (N := 3) (j := 2) B hS hx rfl zin_X10 tyX10 tyX10_ok nmX10 (by decide) zk_403 rfl rfl dX10_keep_10 (fun H locs hS => ?_)
  refine z_aload_n he hb dX10_keep_13 rfl (lv_at hl 0 rfl) (zref_r _ _) ?_
  refine z_aload_n he hb dX10_keep_14 rfl (lv_at hl 0 rfl) (zref_r _ _) ?_
  obtain ⟨x3, hx, h⟩ := zob h
  refine z_getI (ci := 10) (T := TX10) (N := 3) (j := 1) B hS hx rfl zin_X10 (by decide) zk_402 dX10_keep_15 ?_
  refine lv_iconst (v := (1 : Int32)) he hb dX10_keep_18 (by decide) ?_
  refine lv_iadd he hb dX10_keep_19 ?_
  refine lv_bipush (v := (8 : Int32)) he hb dX10_keep_20 (by decide) ?_
  obtain ⟨x4, hx, h⟩ := zob h
  refine z_callT (rest := [_]) B hS (mJ9_min_7cf53 l G hx) zy_J9_min_7cf53 zk_846 (by decide) rfl hl rfl (Nat.le_of_ble_eq_true rfl) dX10_keep_22 (kk := (fun H locs hS => ?_))
  obtain ⟨f5, hx, h⟩ := zob h
  refine z_putI (ci := 10) (T := TX10) (N := 3) (j := 1) B hS hx rfl zin_X10 tyX10 tyX10_ok nmX10 (by decide) zk_402 rfl rfl dX10_keep_25 (fun H locs hS => ?_)
  obtain rfl := Option.some.inj h
  exact z_vret B hS dX10_keep_28
theorem dX10_giveBack_0 : decode cX10_giveBack 0 = .ok (.aload_n 0, 1) := by decide +kernel
theorem dX10_giveBack_1 : decode cX10_giveBack 1 = .ok (.getfield 24, 3) := by decide +kernel
theorem dX10_giveBack_4 : decode cX10_giveBack 4 = .ok (.bipush 8, 2) := by decide +kernel
theorem dX10_giveBack_6 : decode cX10_giveBack 6 = .ok (.iadd, 1) := by decide +kernel
theorem dX10_giveBack_7 : decode cX10_giveBack 7 = .ok (.bipush 9, 2) := by decide +kernel
theorem dX10_giveBack_9 : decode cX10_giveBack 9 = .ok (.irem, 1) := by decide +kernel
theorem dX10_giveBack_10 : decode cX10_giveBack 10 = .ok (.istore_n 2, 1) := by decide +kernel
theorem dX10_giveBack_11 : decode cX10_giveBack 11 = .ok (.aload_n 0, 1) := by decide +kernel
theorem dX10_giveBack_12 : decode cX10_giveBack 12 = .ok (.iload_n 2, 1) := by decide +kernel
theorem dX10_giveBack_13 : decode cX10_giveBack 13 = .ok (.invokevirtual 27, 3) := by decide +kernel
theorem dX10_giveBack_16 : decode cX10_giveBack 16 = .ok (.astore_n 3, 1) := by decide +kernel
theorem dX10_giveBack_17 : decode cX10_giveBack 17 = .ok (.aload_n 0, 1) := by decide +kernel
theorem dX10_giveBack_18 : decode cX10_giveBack 18 = .ok (.getfield 20, 3) := by decide +kernel
theorem dX10_giveBack_21 : decode cX10_giveBack 21 = .ok (.ifCond .eq 7, 3) := by decide +kernel
theorem dX10_giveBack_24 : decode cX10_giveBack 24 = .ok (.aload_n 3, 1) := by decide +kernel
theorem dX10_giveBack_25 : decode cX10_giveBack 25 = .ok (.ifnonnull 5, 3) := by decide +kernel
theorem dX10_giveBack_28 : decode cX10_giveBack 28 = .ok (.iconst (-1), 1) := by decide +kernel
theorem dX10_giveBack_29 : decode cX10_giveBack 29 = .ok (.ireturn, 1) := by decide +kernel
theorem dX10_giveBack_30 : decode cX10_giveBack 30 = .ok (.aload_n 1, 1) := by decide +kernel
theorem dX10_giveBack_31 : decode cX10_giveBack 31 = .ok (.aload_n 3, 1) := by decide +kernel
theorem dX10_giveBack_32 : decode cX10_giveBack 32 = .ok (.invokevirtual 31, 3) := by decide +kernel
theorem dX10_giveBack_35 : decode cX10_giveBack 35 = .ok (.aload_n 0, 1) := by decide +kernel
theorem dX10_giveBack_36 : decode cX10_giveBack 36 = .ok (.iload_n 2, 1) := by decide +kernel
theorem dX10_giveBack_37 : decode cX10_giveBack 37 = .ok (.putfield 24, 3) := by decide +kernel
theorem dX10_giveBack_40 : decode cX10_giveBack 40 = .ok (.aload_n 0, 1) := by decide +kernel
theorem dX10_giveBack_41 : decode cX10_giveBack 41 = .ok (.dup, 1) := by decide +kernel
theorem dX10_giveBack_42 : decode cX10_giveBack 42 = .ok (.getfield 20, 3) := by decide +kernel
theorem dX10_giveBack_45 : decode cX10_giveBack 45 = .ok (.iconst 1, 1) := by decide +kernel
theorem dX10_giveBack_46 : decode cX10_giveBack 46 = .ok (.isub, 1) := by decide +kernel
theorem dX10_giveBack_47 : decode cX10_giveBack 47 = .ok (.putfield 20, 3) := by decide +kernel
theorem dX10_giveBack_50 : decode cX10_giveBack 50 = .ok (.aload_n 0, 1) := by decide +kernel
theorem dX10_giveBack_51 : decode cX10_giveBack 51 = .ok (.getfield 20, 3) := by decide +kernel
theorem dX10_giveBack_54 : decode cX10_giveBack 54 = .ok (.ireturn, 1) := by decide +kernel
def fX10_giveBack (N n : Nat) (f : zF) (a0 : Nat) (a1 : Nat) : Option (zF × Int32) :=
    ((zgI n f 10 a0 2).bind fun x1 => ((zck n f 10 a0).bind fun _ => ((fX10_stateIn N n f a0 (zrem (x1 + (8 : Int32)) (9 : Int32))).bind fun x2 => ((zgI n f 10 a0 1).bind fun x3 => (if x3 = 0 then some (f, (-1 : Int32)) else (match x2 with | none => some (f, (-1 : Int32)) | some x4 => ((zck n f 8 a1).bind fun _ => ((fX8_copyFrom N n f a1 x4).bind fun f5 => ((zpI n f5 10 a0 2 (zrem (x1 + (8 : Int32)) (9 : Int32))).bind fun f6 => ((zgI n f6 10 a0 1).bind fun x7 => ((zpI n f6 10 a0 1 (x7 - (1 : Int32))).bind fun f8 => ((zgI n f8 10 a0 1).bind fun x9 => some (f8, x9)))))))))))))
set_option maxRecDepth 100000 in
set_option maxHeartbeats 4000000 in
theorem mX10_giveBack (l : Launch) (G : zG) {N n : Nat} {f : zF} {f9 : zF} {r : Int32} {a0 : Nat} {a1 : Nat} (h : fX10_giveBack N n f a0 a1 = some (f9, r)) : zM l G yX10_giveBack cX10_giveBack 4 (some .int) 3 n f [zr G a0, zr G a1] (some (.int r)) f9 := by
  refine zM.of (by decide) (Nat.le_of_ble_eq_true rfl) ?_
  intro p e s m args below meth c locs ls B hS hl
  have he := B.1
  have hb := B.2.1
  have hl : lv_has ls 4 [(0, zr G a0), (1, zr G a1)] := hl
  unfold fX10_giveBack at h
  generalize s.heap = H at hS ⊢
  refine z_aload_n he hb dX10_giveBack_0 rfl (lv_at hl 0 rfl) (zref_r _ _) ?_
  obtain ⟨x1, hx, h⟩ := zob h
  refine z_getI (ci := 10) (T := TX10) (N := 3) (j := 2) B hS hx rfl zin_X10 (by decide) zk_403 dX10_giveBack_1 ?_
  refine lv_bipush (v := (8 : Int32)) he hb dX10_giveBack_4 (by decide) ?_
  refine lv_iadd he hb dX10_giveBack_6 ?_
  refine lv_bipush (v := (9 : Int32)) he hb dX10_giveBack_7 (by decide) ?_
  refine z_irem he hb dX10_giveBack_9 (by decide) ?_
  refine lv_istore_n (lv' := [(2, _), (0, _), (1, _)]) he hb dX10_giveBack_10 rfl hl (by decide) rfl (fun ls hl => ?_)
  refine z_aload_n he hb dX10_giveBack_11 rfl (lv_at hl 1 rfl) (zref_r _ _) ?_
  refine lv_iload_n he hb dX10_giveBack_12 rfl (lv_at hl 0 rfl) ?_
  obtain ⟨_, hc, h⟩ := zob h
  obtain ⟨x2, hx, h⟩ := zob h
  refine z_callV (ci := 10) (T := TX10) (N := 3) (rest := []) B hS (mX10_stateIn l G hx) zy_X10_stateIn zk_829 (by decide) hc rfl rfl hl rfl (Nat.le_of_ble_eq_true rfl) dX10_giveBack_13 (kk := (fun H locs hS => ?_))
  refine z_astore_n (lv' := [(3, _), (2, _), (0, _), (1, _)]) he hb dX10_giveBack_16 rfl hl (by decide) (zref_n _ _) rfl (fun ls hl => ?_)
  refine z_aload_n he hb dX10_giveBack_17 rfl (lv_at hl 2 rfl) (zref_r _ _) ?_
  obtain ⟨x3, hx, h⟩ := zob h
  refine z_getI (ci := 10) (T := TX10) (N := 3) (j := 1) B hS hx rfl zin_X10 (by decide) zk_402 dX10_giveBack_18 ?_
  refine lv_if_eq (tgt := 28) he hb dX10_giveBack_21 (by decide) (fun hc => ?_) (fun hc => ?_)
  · rw [if_pos hc] at h
    refine lv_iconst (v := (-1 : Int32)) he hb dX10_giveBack_28 (by decide) ?_
    obtain ⟨rfl, rfl⟩ := Prod.mk.inj (Option.some.inj h)
    exact z_iret B hS dX10_giveBack_29
  · rw [if_neg hc] at h
    refine z_aload_n he hb dX10_giveBack_24 rfl (lv_at hl 0 rfl) (zref_n _ _) ?_
    refine z_ifnonnull (tgt := 30) he hb dX10_giveBack_25 (by decide) (fun x4 ho => ?_) (fun ho => ?_)
    · subst ho
      dsimp only at h
      refine z_aload_n he hb dX10_giveBack_30 rfl (lv_at hl 3 rfl) (zref_r _ _) ?_
      refine z_aload_n he hb dX10_giveBack_31 rfl (lv_at hl 0 rfl) (zref_r _ _) ?_
      obtain ⟨_, hc, h⟩ := zob h
      obtain ⟨f5, hx, h⟩ := zob h
      refine z_callV (ci := 8) (T := TX8) (N := 9) (rest := []) B hS (mX8_copyFrom l G hx) zy_X8_copyFrom zk_833 (by decide) hc rfl rfl hl rfl (Nat.le_of_ble_eq_true rfl) dX10_giveBack_32 (kk := (fun H locs hS => ?_))
      refine z_aload_n he hb dX10_giveBack_35 rfl (lv_at hl 2 rfl) (zref_r _ _) ?_
      refine lv_iload_n he hb dX10_giveBack_36 rfl (lv_at hl 1 rfl) ?_
      obtain ⟨f6, hx, h⟩ := zob h
      refine z_putI (ci := 10) (T := TX10) (N := 3) (j := 2) B hS hx rfl zin_X10 tyX10 tyX10_ok nmX10 (by decide) zk_403 rfl rfl dX10_giveBack_37 (fun H locs hS => ?_)
      refine z_aload_n he hb dX10_giveBack_40 rfl (lv_at hl 2 rfl) (zref_r _ _) ?_
      refine lv_dup he hb dX10_giveBack_41 rfl ?_
      obtain ⟨x7, hx, h⟩ := zob h
      refine z_getI (ci := 10) (T := TX10) (N := 3) (j := 1) B hS hx rfl zin_X10 (by decide) zk_402 dX10_giveBack_42 ?_
      refine lv_iconst (v := (1 : Int32)) he hb dX10_giveBack_45 (by decide) ?_
      refine lv_isub he hb dX10_giveBack_46 ?_
      obtain ⟨f8, hx, h⟩ := zob h
      refine z_putI (ci := 10) (T := TX10) (N := 3) (j := 1) B hS hx rfl zin_X10 tyX10 tyX10_ok nmX10 (by decide) zk_402 rfl rfl dX10_giveBack_47 (fun H locs hS => ?_)
      refine z_aload_n he hb dX10_giveBack_50 rfl (lv_at hl 2 rfl) (zref_r _ _) ?_
      obtain ⟨x9, hx, h⟩ := zob h
      refine z_getI (ci := 10) (T := TX10) (N := 3) (j := 1) B hS hx rfl zin_X10 (by decide) zk_402 dX10_giveBack_51 ?_
      obtain ⟨rfl, rfl⟩ := Prod.mk.inj (Option.some.inj h)
      exact z_iret B hS dX10_giveBack_54
    · subst ho
      dsimp only at h
      refine lv_iconst (v := (-1 : Int32)) he hb dX10_giveBack_28 (by decide) ?_
      obtain ⟨rfl, rfl⟩ := Prod.mk.inj (Option.some.inj h)
      exact z_iret B hS dX10_giveBack_29
