/-! methods: what they do to the small heap, and that their bytecode does it -/
theorem dX12_thrown_0 : decode cX12_thrown 0 = .ok (.aload_n 0, 1) := by decide +kernel
theorem dX12_thrown_1 : decode cX12_thrown 1 = .ok (.getfield 1, 3) := by decide +kernel
theorem dX12_thrown_4 : decode cX12_thrown 4 = .ok (.ireturn, 1) := by decide +kernel
def fX12_thrown (N n : Nat) (f : zF) (a0 : Nat) : Option Int32 :=
    ((zgI n f 12 a0 0).bind fun x1 => some x1)
set_option maxRecDepth 100000 in
set_option maxHeartbeats 4000000 in
theorem mX12_thrown (l : Launch) (G : zG) {N n : Nat} {f : zF} {r : Int32} {a0 : Nat} (h : fX12_thrown N n f a0 = some r) : zM l G yX12_thrown cX12_thrown 1 (some .int) 0 n f [zr G a0] (some (.int r)) f := by
  refine zM.of (by decide) (Nat.le_of_ble_eq_true rfl) ?_
  intro p e s m args below meth c locs ls B hS hl
  have he := B.1
  have hb := B.2.1
  have hl : lv_has ls 1 [(0, zr G a0)] := hl
  unfold fX12_thrown at h
  generalize s.heap = H at hS ⊢
  refine z_aload_n he hb dX12_thrown_0 rfl (lv_at hl 0 rfl) (zref_r _ _) ?_
  obtain ⟨x1, hx, h⟩ := zob h
  refine z_getI (ci := 12) (T := TX12) (N := 50) (j := 0) B hS hx rfl zin_X12 (by decide) zk_1347 dX12_thrown_1 ?_
  obtain rfl := Option.some.inj h
  exact z_iret B hS dX12_thrown_4
theorem dX12_throwsIf_0 : decode cX12_throwsIf 0 = .ok (.aload_n 0, 1) := by decide +kernel
theorem dX12_throwsIf_1 : decode cX12_throwsIf 1 = .ok (.iload_n 1, 1) := by decide +kernel
theorem dX12_throwsIf_2 : decode cX12_throwsIf 2 = .ok (.ifCond .eq 7, 3) := by decide +kernel
theorem dX12_throwsIf_5 : decode cX12_throwsIf 5 = .ok (.iconst 1, 1) := by decide +kernel
theorem dX12_throwsIf_6 : decode cX12_throwsIf 6 = .ok (.goto 4, 3) := by decide +kernel
theorem dX12_throwsIf_9 : decode cX12_throwsIf 9 = .ok (.iconst 0, 1) := by decide +kernel
theorem dX12_throwsIf_10 : decode cX12_throwsIf 10 = .ok (.putfield 1, 3) := by decide +kernel
theorem dX12_throwsIf_13 : decode cX12_throwsIf 13 = .ok (.iload_n 1, 1) := by decide +kernel
theorem dX12_throwsIf_14 : decode cX12_throwsIf 14 = .ok (.ireturn, 1) := by decide +kernel
def fX12_throwsIf_10 (N n : Nat) (f : zF) (a1 : Int32) (t0 : Nat) (t1 : Int32) : Option (zF × Int32) :=
    ((zpI n f 12 t0 0 t1).bind fun f1 => ((zbl a1).bind fun y => some (f1, y)))
set_option maxRecDepth 100000 in
set_option maxHeartbeats 4000000 in
theorem gX12_throwsIf_10 (l : Launch) {G : zG} {p : Program} {e : Env} {s : State} {m : MethodId} {args : Array Value} {below : List Frame} {meth : Method} {c : Code} {N n : Nat} {f9 : zF} {r : Int32} (B : zB G p s m args meth c RX12 cX12_throwsIf 2 (some .boolean)) : ∀ (f : zF) (a1 : Int32) (t0 : Nat) (t1 : Int32) (H : Heap) (locs : List Loc) (ls : Array Slot), fX12_throwsIf_10 N n f a1 t0 t1 = some (f9, r) → zS G n f H locs → lv_has ls 2 [(1, .int a1)] → W p l e (zrm 0) s m args below meth c H locs 0 0 (MQ below (zQc G n f9 (some (.int r))) args s 0 0 (zA G)) (F0 m 10 ls [.int t1, zr G t0]) := by
  have he := B.1
  have hb := B.2.1
  intro f a1 t0 t1 H locs ls h hS hl
  unfold fX12_throwsIf_10 at h
  obtain ⟨f1, hx, h⟩ := zob h
  refine z_putI (ci := 12) (T := TX12) (N := 50) (j := 0) B hS hx rfl zin_X12 tyX12 tyX12_ok nmX12 (by decide) zk_1347 rfl rfl dX12_throwsIf_10 (fun H locs hS => ?_)
  refine lv_iload_n he hb dX12_throwsIf_13 rfl (lv_at hl 0 rfl) ?_
  obtain ⟨y, hx, h⟩ := zob h
  obtain ⟨hz, rfl⟩ := zbl_i hx
  obtain ⟨rfl, rfl⟩ := Prod.mk.inj (Option.some.inj h)
  exact z_zret B hS hz dX12_throwsIf_14
def fX12_throwsIf (N n : Nat) (f : zF) (a0 : Nat) (a1 : Int32) : Option (zF × Int32) :=
    (if a1 = 0 then (fX12_throwsIf_10 N n f a1 a0 (0 : Int32)) else (fX12_throwsIf_10 N n f a1 a0 (1 : Int32)))
set_option maxRecDepth 100000 in
set_option maxHeartbeats 4000000 in
theorem mX12_throwsIf (l : Launch) (G : zG) {N n : Nat} {f : zF} {f9 : zF} {r : Int32} {a0 : Nat} {a1 : Int32} (h : fX12_throwsIf N n f a0 a1 = some (f9, r)) : zM l G yX12_throwsIf cX12_throwsIf 2 (some .boolean) 0 n f [zr G a0, .int a1] (some (.int r)) f9 := by
  refine zM.of (by decide) (Nat.le_of_ble_eq_true rfl) ?_
  intro p e s m args below meth c locs ls B hS hl
  have he := B.1
  have hb := B.2.1
  have hl : lv_has ls 2 [(0, zr G a0), (1, .int a1)] := hl
  unfold fX12_throwsIf at h
  generalize s.heap = H at hS ⊢
  refine z_aload_n he hb dX12_throwsIf_0 rfl (lv_at hl 0 rfl) (zref_r _ _) ?_
  refine lv_iload_n he hb dX12_throwsIf_1 rfl (lv_at hl 1 rfl) ?_
  refine lv_if_eq (tgt := 9) he hb dX12_throwsIf_2 (by decide) (fun hc => ?_) (fun hc => ?_)
  · rw [if_pos hc] at h
    refine lv_iconst (v := (0 : Int32)) he hb dX12_throwsIf_9 (by decide) ?_
    exact gX12_throwsIf_10 l B _ _ _ _ _ _ _ h hS (lv_sub hl [1] rfl)
  · rw [if_neg hc] at h
    refine lv_iconst (v := (1 : Int32)) he hb dX12_throwsIf_5 (by decide) ?_
    refine lv_goto (tgt := 10) he hb dX12_throwsIf_6 (by decide) ?_
    exact gX12_throwsIf_10 l B _ _ _ _ _ _ _ h hS (lv_sub hl [1] rfl)
theorem dX12_four_0 : decode cX12_four 0 = .ok (.bipush 24, 2) := by decide +kernel
theorem dX12_four_2 : decode cX12_four 2 = .ok (.istore_n 2, 1) := by decide +kernel
theorem dX12_four_3 : decode cX12_four 3 = .ok (.iload_n 2, 1) := by decide +kernel
theorem dX12_four_4 : decode cX12_four 4 = .ok (.ifCond .lt 32, 3) := by decide +kernel
theorem dX12_four_7 : decode cX12_four 7 = .ok (.aload_n 0, 1) := by decide +kernel
theorem dX12_four_8 : decode cX12_four 8 = .ok (.getfield 14, 3) := by decide +kernel
theorem dX12_four_11 : decode cX12_four 11 = .ok (.aload_n 0, 1) := by decide +kernel
theorem dX12_four_12 : decode cX12_four 12 = .ok (.getfield 7, 3) := by decide +kernel
theorem dX12_four_15 : decode cX12_four 15 = .ok (.iload_n 1, 1) := by decide +kernel
theorem dX12_four_16 : decode cX12_four 16 = .ok (.iload_n 2, 1) := by decide +kernel
theorem dX12_four_17 : decode cX12_four 17 = .ok (.ishr, 1) := by decide +kernel
theorem dX12_four_18 : decode cX12_four 18 = .ok (.i2b, 1) := by decide +kernel
theorem dX12_four_19 : decode cX12_four 19 = .ok (.bastore, 1) := by decide +kernel
theorem dX12_four_20 : decode cX12_four 20 = .ok (.aload_n 0, 1) := by decide +kernel
theorem dX12_four_21 : decode cX12_four 21 = .ok (.dup, 1) := by decide +kernel
theorem dX12_four_22 : decode cX12_four 22 = .ok (.getfield 7, 3) := by decide +kernel
theorem dX12_four_25 : decode cX12_four 25 = .ok (.iconst 1, 1) := by decide +kernel
theorem dX12_four_26 : decode cX12_four 26 = .ok (.iadd, 1) := by decide +kernel
theorem dX12_four_27 : decode cX12_four 27 = .ok (.putfield 7, 3) := by decide +kernel
theorem dX12_four_30 : decode cX12_four 30 = .ok (.iinc 2 (-8), 3) := by decide +kernel
theorem dX12_four_33 : decode cX12_four 33 = .ok (.goto (-30), 3) := by decide +kernel
theorem dX12_four_36 : decode cX12_four 36 = .ok (.return_, 1) := by decide +kernel
def fX12_four_3 (N n : Nat) : Nat → zF → Nat → Int32 → Int32 → Option zF
  | 0, _, _, _, _ => none
  | k + 1, f, a0, a1, a2 =>
    (if a2 < 0 then some f else ((zgR n f 12 a0 1).bind fun x1 => ((zgI n f 12 a0 2).bind fun x2 => ((zsB n f 2 x1 x2 ((zishr a1 a2).toInt8.toInt32)).bind fun f3 => ((zgI n f3 12 a0 2).bind fun x4 => ((zpI n f3 12 a0 2 (x4 + (1 : Int32))).bind fun f5 => (fX12_four_3 N n k f5 a0 a1 (a2 + (-8)))))))))
set_option maxRecDepth 100000 in
set_option maxHeartbeats 4000000 in
theorem gX12_four_3 (l : Launch) {G : zG} {p : Program} {e : Env} {s : State} {m : MethodId} {args : Array Value} {below : List Frame} {meth : Method} {c : Code} {N n : Nat} {f9 : zF} (B : zB G p s m args meth c RX12 cX12_four 3 (none)) : ∀ (k : Nat), ∀ (f : zF) (a0 : Nat) (a1 : Int32) (a2 : Int32) (H : Heap) (locs : List Loc) (ls : Array Slot), fX12_four_3 N n k f a0 a1 a2 = some f9 → zS G n f H locs → lv_has ls 3 [(0, zr G a0), (1, .int a1), (2, .int a2)] → W p l e (zrm 0) s m args below meth c H locs 0 0 (MQ below (zQc G n f9 (none)) args s 0 0 (zA G)) (F0 m 3 ls []) := by
  have he := B.1
  have hb := B.2.1
  intro k
  induction k with
  | zero =>
    intro f a0 a1 a2 H locs ls h
    unfold fX12_four_3 at h
    cases h
  | succ k ih =>
    intro f a0 a1 a2 H locs ls h hS hl
    unfold fX12_four_3 at h
    refine lv_iload_n he hb dX12_four_3 rfl (lv_at hl 2 rfl) ?_
    refine lv_if_lt (tgt := 36) he hb dX12_four_4 (by decide) (fun hc => ?_) (fun hc => ?_)
    · rw [if_pos hc] at h
      obtain rfl := Option.some.inj h
      exact z_vret B hS dX12_four_36
    · rw [if_neg hc] at h
      refine z_aload_n he hb dX12_four_7 rfl (lv_at hl 0 rfl) (zref_r _ _) ?_
      obtain ⟨x1, hx, h⟩ := zob h
      refine z_getR (ci := 12) (T := TX12) (N := 50) (j := 1) B hS hx rfl zin_X12 (by decide) zk_1348 dX12_four_8 ?_
      refine z_aload_n he hb dX12_four_11 rfl (lv_at hl 0 rfl) (zref_r _ _) ?_
      obtain ⟨x2, hx, h⟩ := zob h
      refine z_getI (ci := 12) (T := TX12) (N := 50) (j := 2) B hS hx rfl zin_X12 (by decide) zk_1349 dX12_four_12 ?_
      refine lv_iload_n he hb dX12_four_15 rfl (lv_at hl 1 rfl) ?_
      refine lv_iload_n he hb dX12_four_16 rfl (lv_at hl 2 rfl) ?_
      refine z_ishr he hb dX12_four_17 ?_
      refine lv_i2b (v := ((zishr a1 a2).toInt8.toInt32)) he hb dX12_four_18 rfl ?_
      obtain ⟨f3, hx, h⟩ := zob h
      refine z_istB B hS hx dX12_four_19 (fun H locs hS => ?_)
      refine z_aload_n he hb dX12_four_20 rfl (lv_at hl 0 rfl) (zref_r _ _) ?_
      refine lv_dup he hb dX12_four_21 rfl ?_
      obtain ⟨x4, hx, h⟩ := zob h
      refine z_getI (ci := 12) (T := TX12) (N := 50) (j := 2) B hS hx rfl zin_X12 (by decide) zk_1349 dX12_four_22 ?_
      refine lv_iconst (v := (1 : Int32)) he hb dX12_four_25 (by decide) ?_
      refine lv_iadd he hb dX12_four_26 ?_
      obtain ⟨f5, hx, h⟩ := zob h
      refine z_putI (ci := 12) (T := TX12) (N := 50) (j := 2) B hS hx rfl zin_X12 tyX12 tyX12_ok nmX12 (by decide) zk_1349 rfl rfl dX12_four_27 (fun H locs hS => ?_)
      refine lv_iinc (v := (a2 + (-8))) (lv' := [(2, _), (0, _), (1, _)]) he hb dX12_four_30 hl (k := 2) rfl rfl (by decide) rfl (fun ls hl => ?_)
      refine lv_goto (tgt := 3) he hb dX12_four_33 (by decide) ?_
      exact ih _ _ _ _ _ _ _ h hS (lv_sub hl [1, 2, 0] rfl)
def fX12_four (N n : Nat) (f : zF) (a0 : Nat) (a1 : Int32) : Option zF :=
    (fX12_four_3 N n N f a0 a1 (24 : Int32))
set_option maxRecDepth 100000 in
set_option maxHeartbeats 4000000 in
theorem mX12_four (l : Launch) (G : zG) {N n : Nat} {f : zF} {f9 : zF} {a0 : Nat} {a1 : Int32} (h : fX12_four N n f a0 a1 = some f9) : zM l G yX12_four cX12_four 3 (none) 0 n f [zr G a0, .int a1] (none) f9 := by
  refine zM.of (by decide) (Nat.le_of_ble_eq_true rfl) ?_
  intro p e s m args below meth c locs ls B hS hl
  have he := B.1
  have hb := B.2.1
  have hl : lv_has ls 3 [(0, zr G a0), (1, .int a1)] := hl
  unfold fX12_four at h
  generalize s.heap = H at hS ⊢
  refine lv_bipush (v := (24 : Int32)) he hb dX12_four_0 (by decide) ?_
  refine lv_istore_n (lv' := [(2, _), (0, _), (1, _)]) he hb dX12_four_2 rfl hl (by decide) rfl (fun ls hl => ?_)
  exact gX12_four_3 l B N _ _ _ _ _ _ _ h hS (lv_sub hl [1, 2, 0] rfl)
theorem dX12_feed_0 : decode cX12_feed 0 = .ok (.aload_n 0, 1) := by decide +kernel
theorem dX12_feed_1 : decode cX12_feed 1 = .ok (.iconst 0, 1) := by decide +kernel
theorem dX12_feed_2 : decode cX12_feed 2 = .ok (.putfield 1, 3) := by decide +kernel
theorem dX12_feed_5 : decode cX12_feed 5 = .ok (.aload_n 0, 1) := by decide +kernel
theorem dX12_feed_6 : decode cX12_feed 6 = .ok (.getfield 7, 3) := by decide +kernel
theorem dX12_feed_9 : decode cX12_feed 9 = .ok (.bipush 20, 2) := by decide +kernel
theorem dX12_feed_11 : decode cX12_feed 11 = .ok (.iadd, 1) := by decide +kernel
theorem dX12_feed_12 : decode cX12_feed 12 = .ok (.sipush 940, 3) := by decide +kernel
theorem dX12_feed_15 : decode cX12_feed 15 = .ok (.if_icmp .le 5, 3) := by decide +kernel
theorem dX12_feed_18 : decode cX12_feed 18 = .ok (.iconst (-1), 1) := by decide +kernel
theorem dX12_feed_19 : decode cX12_feed 19 = .ok (.ireturn, 1) := by decide +kernel
theorem dX12_feed_20 : decode cX12_feed 20 = .ok (.aload_n 0, 1) := by decide +kernel
theorem dX12_feed_21 : decode cX12_feed 21 = .ok (.iload_n 1, 1) := by decide +kernel
theorem dX12_feed_22 : decode cX12_feed 22 = .ok (.invokevirtual 10, 3) := by decide +kernel
theorem dX12_feed_25 : decode cX12_feed 25 = .ok (.aload_n 0, 1) := by decide +kernel
theorem dX12_feed_26 : decode cX12_feed 26 = .ok (.iload_n 2, 1) := by decide +kernel
theorem dX12_feed_27 : decode cX12_feed 27 = .ok (.invokevirtual 10, 3) := by decide +kernel
theorem dX12_feed_30 : decode cX12_feed 30 = .ok (.aload_n 0, 1) := by decide +kernel
theorem dX12_feed_31 : decode cX12_feed 31 = .ok (.iload_n 3, 1) := by decide +kernel
theorem dX12_feed_32 : decode cX12_feed 32 = .ok (.invokevirtual 10, 3) := by decide +kernel
theorem dX12_feed_35 : decode cX12_feed 35 = .ok (.aload_n 0, 1) := by decide +kernel
theorem dX12_feed_36 : decode cX12_feed 36 = .ok (.iload 4, 2) := by decide +kernel
theorem dX12_feed_38 : decode cX12_feed 38 = .ok (.invokevirtual 10, 3) := by decide +kernel
theorem dX12_feed_41 : decode cX12_feed 41 = .ok (.aload_n 0, 1) := by decide +kernel
theorem dX12_feed_42 : decode cX12_feed 42 = .ok (.iload 5, 2) := by decide +kernel
theorem dX12_feed_44 : decode cX12_feed 44 = .ok (.invokevirtual 10, 3) := by decide +kernel
theorem dX12_feed_47 : decode cX12_feed 47 = .ok (.aload_n 0, 1) := by decide +kernel
theorem dX12_feed_48 : decode cX12_feed 48 = .ok (.getfield 7, 3) := by decide +kernel
theorem dX12_feed_51 : decode cX12_feed 51 = .ok (.ireturn, 1) := by decide +kernel
def fX12_feed (N n : Nat) (f : zF) (a0 : Nat) (a1 : Int32) (a2 : Int32) (a3 : Int32) (a4 : Int32) (a5 : Int32) : Option (zF × Int32) :=
    ((zpI n f 12 a0 0 (0 : Int32)).bind fun f1 => ((zgI n f1 12 a0 2).bind fun x2 => (if (x2 + (20 : Int32)) ≤ (940 : Int32) then ((zck n f1 12 a0).bind fun _ => ((fX12_four N n f1 a0 a1).bind fun f3 => ((zck n f3 12 a0).bind fun _ => ((fX12_four N n f3 a0 a2).bind fun f4 => ((zck n f4 12 a0).bind fun _ => ((fX12_four N n f4 a0 a3).bind fun f5 => ((zck n f5 12 a0).bind fun _ => ((fX12_four N n f5 a0 a4).bind fun f6 => ((zck n f6 12 a0).bind fun _ => ((fX12_four N n f6 a0 a5).bind fun f7 => ((zgI n f7 12 a0 2).bind fun x8 => some (f7, x8)))))))))))) else some (f1, (-1 : Int32)))))
set_option maxRecDepth 100000 in
set_option maxHeartbeats 4000000 in
theorem mX12_feed (l : Launch) (G : zG) {N n : Nat} {f : zF} {f9 : zF} {r : Int32} {a0 : Nat} {a1 : Int32} {a2 : Int32} {a3 : Int32} {a4 : Int32} {a5 : Int32} (h : fX12_feed N n f a0 a1 a2 a3 a4 a5 = some (f9, r)) : zM l G yX12_feed cX12_feed 6 (some .int) 1 n f [zr G a0, .int a1, .int a2, .int a3, .int a4, .int a5] (some (.int r)) f9 := by
  refine zM.of (by decide) (Nat.le_of_ble_eq_true rfl) ?_
  intro p e s m args below meth c locs ls B hS hl
  have he := B.1
  have hb := B.2.1
  have hl : lv_has ls 6 [(0, zr G a0), (1, .int a1), (2, .int a2), (3, .int a3), (4, .int a4), (5, .int a5)] := hl
  unfold fX12_feed at h
  generalize s.heap = H at hS ⊢
  refine z_aload_n he hb dX12_feed_0 rfl (lv_at hl 0 rfl) (zref_r _ _) ?_
  refine lv_iconst (v := (0 : Int32)) he hb dX12_feed_1 (by decide) ?_
  obtain ⟨f1, hx, h⟩ := zob h
  refine z_putI (ci := 12) (T := TX12) (N := 50) (j := 0) B hS hx rfl zin_X12 tyX12 tyX12_ok nmX12 (by decide) zk_1347 rfl rfl dX12_feed_2 (fun H locs hS => ?_)
  refine z_aload_n he hb dX12_feed_5 rfl (lv_at hl 0 rfl) (zref_r _ _) ?_
  obtain ⟨x2, hx, h⟩ := zob h
  refine z_getI (ci := 12) (T := TX12) (N := 50) (j := 2) B hS hx rfl zin_X12 (by decide) zk_1349 dX12_feed_6 ?_
  refine lv_bipush (v := (20 : Int32)) he hb dX12_feed_9 (by decide) ?_
  refine lv_iadd he hb dX12_feed_11 ?_
  refine lv_sipush (v := (940 : Int32)) he hb dX12_feed_12 (by decide) ?_
  refine lv_icmp_le (tgt := 20) he hb dX12_feed_15 (by decide) (fun hc => ?_) (fun hc => ?_)
  · rw [if_pos hc] at h
    refine z_aload_n he hb dX12_feed_20 rfl (lv_at hl 0 rfl) (zref_r _ _) ?_
    refine lv_iload_n he hb dX12_feed_21 rfl (lv_at hl 1 rfl) ?_
    obtain ⟨_, hc, h⟩ := zob h
    obtain ⟨f3, hx, h⟩ := zob h
    refine z_callV (ci := 12) (T := TX12) (N := 50) (rest := []) B hS (mX12_four l G hx) zy_X12_four zk_1302 (by decide) hc rfl rfl hl rfl (Nat.le_of_ble_eq_true rfl) dX12_feed_22 (kk := (fun H locs hS => ?_))
    refine z_aload_n he hb dX12_feed_25 rfl (lv_at hl 0 rfl) (zref_r _ _) ?_
    refine lv_iload_n he hb dX12_feed_26 rfl (lv_at hl 2 rfl) ?_
    obtain ⟨_, hc, h⟩ := zob h
    obtain ⟨f4, hx, h⟩ := zob h
    refine z_callV (ci := 12) (T := TX12) (N := 50) (rest := []) B hS (mX12_four l G hx) zy_X12_four zk_1302 (by decide) hc rfl rfl hl rfl (Nat.le_of_ble_eq_true rfl) dX12_feed_27 (kk := (fun H locs hS => ?_))
    refine z_aload_n he hb dX12_feed_30 rfl (lv_at hl 0 rfl) (zref_r _ _) ?_
    refine lv_iload_n he hb dX12_feed_31 rfl (lv_at hl 3 rfl) ?_
    obtain ⟨_, hc, h⟩ := zob h
    obtain ⟨f5, hx, h⟩ := zob h
    refine z_callV (ci := 12) (T := TX12) (N := 50) (rest := []) B hS (mX12_four l G hx) zy_X12_four zk_1302 (by decide) hc rfl rfl hl rfl (Nat.le_of_ble_eq_true rfl) dX12_feed_32 (kk := (fun H locs hS => ?_))
    refine z_aload_n he hb dX12_feed_35 rfl (lv_at hl 0 rfl) (zref_r _ _) ?_
    refine lv_iload he hb dX12_feed_36 (lv_at hl 4 rfl) ?_
    obtain ⟨_, hc, h⟩ := zob h
    obtain ⟨f6, hx, h⟩ := zob h
    refine z_callV (ci := 12) (T := TX12) (N := 50) (rest := []) B hS (mX12_four l G hx) zy_X12_four zk_1302 (by decide) hc rfl rfl hl rfl (Nat.le_of_ble_eq_true rfl) dX12_feed_38 (kk := (fun H locs hS => ?_))
    refine z_aload_n he hb dX12_feed_41 rfl (lv_at hl 0 rfl) (zref_r _ _) ?_
    refine lv_iload he hb dX12_feed_42 (lv_at hl 5 rfl) ?_
    obtain ⟨_, hc, h⟩ := zob h
    obtain ⟨f7, hx, h⟩ := zob h
    refine z_callV (ci := 12) (T := TX12) (N := 50) (rest := []) B hS (mX12_four l G hx) zy_X12_four zk_1302 (by decide) hc rfl rfl hl rfl (Nat.le_of_ble_eq_true rfl) dX12_feed_44 (kk := (fun H locs hS => ?_))
    refine z_aload_n he hb dX12_feed_47 rfl (lv_at hl 0 rfl) (zref_r _ _) ?_
    obtain ⟨x8, hx, h⟩ := zob h
    refine z_getI (ci := 12) (T := TX12) (N := 50) (j := 2) B hS hx rfl zin_X12 (by decide) zk_1349 dX12_feed_48 ?_
    obtain ⟨rfl, rfl⟩ := Prod.mk.inj (Option.some.inj h)
    exact z_iret B hS dX12_feed_51
  · rw [if_neg hc] at h
    refine lv_iconst (v := (-1 : Int32)) he hb dX12_feed_18 (by decide) ?_
    obtain ⟨rfl, rfl⟩ := Prod.mk.inj (Option.some.inj h)
    exact z_iret B hS dX12_feed_19
theorem dX12_end_0 : decode cX12_end 0 = .ok (.aload_n 0, 1) := by decide +kernel
theorem dX12_end_1 : decode cX12_end 1 = .ok (.iconst 0, 1) := by decide +kernel
theorem dX12_end_2 : decode cX12_end 2 = .ok (.putfield 1, 3) := by decide +kernel
theorem dX12_end_5 : decode cX12_end 5 = .ok (.iload_n 1, 1) := by decide +kernel
theorem dX12_end_6 : decode cX12_end 6 = .ok (.ifCond .lt 11, 3) := by decide +kernel
theorem dX12_end_9 : decode cX12_end 9 = .ok (.iload_n 1, 1) := by decide +kernel
theorem dX12_end_10 : decode cX12_end 10 = .ok (.aload_n 0, 1) := by decide +kernel
theorem dX12_end_11 : decode cX12_end 11 = .ok (.getfield 7, 3) := by decide +kernel
theorem dX12_end_14 : decode cX12_end 14 = .ok (.if_icmp .le 5, 3) := by decide +kernel
theorem dX12_end_17 : decode cX12_end 17 = .ok (.iconst 0, 1) := by decide +kernel
theorem dX12_end_18 : decode cX12_end 18 = .ok (.ireturn, 1) := by decide +kernel
theorem dX12_end_19 : decode cX12_end 19 = .ok (.aload_n 0, 1) := by decide +kernel
theorem dX12_end_20 : decode cX12_end 20 = .ok (.iload_n 1, 1) := by decide +kernel
theorem dX12_end_21 : decode cX12_end 21 = .ok (.putfield 7, 3) := by decide +kernel
theorem dX12_end_24 : decode cX12_end 24 = .ok (.iconst 1, 1) := by decide +kernel
theorem dX12_end_25 : decode cX12_end 25 = .ok (.ireturn, 1) := by decide +kernel
def fX12_end (N n : Nat) (f : zF) (a0 : Nat) (a1 : Int32) : Option (zF × Int32) :=
    ((zpI n f 12 a0 0 (0 : Int32)).bind fun f1 => (if a1 < 0 then ((zbl (0 : Int32)).bind fun y => some (f1, y)) else ((zgI n f1 12 a0 2).bind fun x2 => (if a1 ≤ x2 then ((zpI n f1 12 a0 2 a1).bind fun f3 => ((zbl (1 : Int32)).bind fun y => some (f3, y))) else ((zbl (0 : Int32)).bind fun y => some (f1, y))))))
set_option maxRecDepth 100000 in
set_option maxHeartbeats 4000000 in
theorem mX12_end (l : Launch) (G : zG) {N n : Nat} {f : zF} {f9 : zF} {r : Int32} {a0 : Nat} {a1 : Int32} (h : fX12_end N n f a0 a1 = some (f9, r)) : zM l G yX12_end cX12_end 2 (some .boolean) 0 n f [zr G a0, .int a1] (some (.int r)) f9 := by
  refine zM.of (by decide) (Nat.le_of_ble_eq_true rfl) ?_
  intro p e s m args below meth c locs ls B hS hl
  have he := B.1
  have hb := B.2.1
  have hl : lv_has ls 2 [(0, zr G a0), (1, .int a1)] := hl
  unfold fX12_end at h
  generalize s.heap = H at hS ⊢
  refine z_aload_n he hb dX12_end_0 rfl (lv_at hl 0 rfl) (zref_r _ _) ?_
  refine lv_iconst (v := (0 : Int32)) he hb dX12_end_1 (by decide) ?_
  obtain ⟨f1, hx, h⟩ := zob h
  refine z_putI (ci := 12) (T := TX12) (N := 50) (j := 0) B hS hx rfl zin_X12 tyX12 tyX12_ok nmX12 (by decide) zk_1347 rfl rfl dX12_end_2 (fun H locs hS => ?_)
  refine lv_iload_n he hb dX12_end_5 rfl (lv_at hl 1 rfl) ?_
  refine lv_if_lt (tgt := 17) he hb dX12_end_6 (by decide) (fun hc => ?_) (fun hc => ?_)
  · rw [if_pos hc] at h
    refine lv_iconst (v := (0 : Int32)) he hb dX12_end_17 (by decide) ?_
    obtain ⟨y, hx, h⟩ := zob h
    obtain ⟨hz, rfl⟩ := zbl_i hx
    obtain ⟨rfl, rfl⟩ := Prod.mk.inj (Option.some.inj h)
    exact z_zret B hS hz dX12_end_18
  · rw [if_neg hc] at h
    refine lv_iload_n he hb dX12_end_9 rfl (lv_at hl 1 rfl) ?_
    refine z_aload_n he hb dX12_end_10 rfl (lv_at hl 0 rfl) (zref_r _ _) ?_
    obtain ⟨x2, hx, h⟩ := zob h
    refine z_getI (ci := 12) (T := TX12) (N := 50) (j := 2) B hS hx rfl zin_X12 (by decide) zk_1349 dX12_end_11 ?_
    refine lv_icmp_le (tgt := 19) he hb dX12_end_14 (by decide) (fun hc => ?_) (fun hc => ?_)
    · rw [if_pos hc] at h
      refine z_aload_n he hb dX12_end_19 rfl (lv_at hl 0 rfl) (zref_r _ _) ?_
      refine lv_iload_n he hb dX12_end_20 rfl (lv_at hl 1 rfl) ?_
      obtain ⟨f3, hx, h⟩ := zob h
      refine z_putI (ci := 12) (T := TX12) (N := 50) (j := 2) B hS hx rfl zin_X12 tyX12 tyX12_ok nmX12 (by decide) zk_1349 rfl rfl dX12_end_21 (fun H locs hS => ?_)
      refine lv_iconst (v := (1 : Int32)) he hb dX12_end_24 (by decide) ?_
      obtain ⟨y, hx, h⟩ := zob h
      obtain ⟨hz, rfl⟩ := zbl_i hx
      obtain ⟨rfl, rfl⟩ := Prod.mk.inj (Option.some.inj h)
      exact z_zret B hS hz dX12_end_25
    · rw [if_neg hc] at h
      refine lv_iconst (v := (0 : Int32)) he hb dX12_end_17 (by decide) ?_
      obtain ⟨y, hx, h⟩ := zob h
      obtain ⟨hz, rfl⟩ := zbl_i hx
      obtain ⟨rfl, rfl⟩ := Prod.mk.inj (Option.some.inj h)
      exact z_zret B hS hz dX12_end_18
theorem dX12_taken_0 : decode cX12_taken 0 = .ok (.aload_n 0, 1) := by decide +kernel
theorem dX12_taken_1 : decode cX12_taken 1 = .ok (.aload_n 0, 1) := by decide +kernel
theorem dX12_taken_2 : decode cX12_taken 2 = .ok (.getfield 7, 3) := by decide +kernel
theorem dX12_taken_5 : decode cX12_taken 5 = .ok (.putfield 18, 3) := by decide +kernel
theorem dX12_taken_8 : decode cX12_taken 8 = .ok (.aload_n 0, 1) := by decide +kernel
theorem dX12_taken_9 : decode cX12_taken 9 = .ok (.iconst 0, 1) := by decide +kernel
theorem dX12_taken_10 : decode cX12_taken 10 = .ok (.putfield 7, 3) := by decide +kernel
theorem dX12_taken_13 : decode cX12_taken 13 = .ok (.aload_n 0, 1) := by decide +kernel
theorem dX12_taken_14 : decode cX12_taken 14 = .ok (.iconst 0, 1) := by decide +kernel
theorem dX12_taken_15 : decode cX12_taken 15 = .ok (.putfield 21, 3) := by decide +kernel
theorem dX12_taken_18 : decode cX12_taken 18 = .ok (.aload_n 0, 1) := by decide +kernel
theorem dX12_taken_19 : decode cX12_taken 19 = .ok (.iload_n 1, 1) := by decide +kernel
theorem dX12_taken_20 : decode cX12_taken 20 = .ok (.putfield 24, 3) := by decide +kernel
theorem dX12_taken_23 : decode cX12_taken 23 = .ok (.return_, 1) := by decide +kernel
def fX12_taken (N n : Nat) (f : zF) (a0 : Nat) (a1 : Int32) : Option zF :=
    ((zgI n f 12 a0 2).bind fun x1 => ((zpI n f 12 a0 3 x1).bind fun f2 => ((zpI n f2 12 a0 2 (0 : Int32)).bind fun f3 => ((zpI n f3 12 a0 4 (0 : Int32)).bind fun f4 => ((zpI n f4 12 a0 5 a1).bind fun f5 => some f5)))))
set_option maxRecDepth 100000 in
set_option maxHeartbeats 4000000 in
theorem mX12_taken (l : Launch) (G : zG) {N n : Nat} {f : zF} {f9 : zF} {a0 : Nat} {a1 : Int32} (h : fX12_taken N n f a0 a1 = some f9) : zM l G yX12_taken cX12_taken 2 (none) 0 n f [zr G a0, .int a1] (none) f9 := by
  refine zM.of (by decide) (Nat.le_of_ble_eq_true rfl) ?_
  intro p e s m args below meth c locs ls B hS hl
  have he := B.1
  have hb := B.2.1
  have hl : lv_has ls 2 [(0, zr G a0), (1, .int a1)] := hl
  unfold fX12_taken at h
  generalize s.heap = H at hS ⊢
  refine z_aload_n he hb dX12_taken_0 rfl (lv_at hl 0 rfl) (zref_r _ _) ?_
  refine z_aload_n he hb dX12_taken_1 rfl (lv_at hl 0 rfl) (zref_r _ _) ?_
  obtain ⟨x1, hx, h⟩ := zob h
  refine z_getI (ci := 12) (T := TX12) (N := 50) (j := 2) B hS hx rfl zin_X12 (by decide) zk_1349 dX12_taken_2 ?_
  obtain ⟨f2, hx, h⟩ := zob h
  refine z_putI (ci := 12) (T := TX12) (N := 50) (j := 3) B hS hx rfl zin_X12 tyX12 tyX12_ok nmX12 (by decide) zk_1350 rfl rfl dX12_taken_5 (fun H locs hS => ?_)
  refine z_aload_n he hb dX12_taken_8 rfl (lv_at hl 0 rfl) (zref_r _ _) ?_
  refine lv_iconst (v := (0 : Int32)) he hb dX12_taken_9 (by decide) ?_
  obtain ⟨f3, hx, h⟩ := zob h
  refine z_putI (ci := 12) (T := TX12) (N := 50) (j := 2) B hS hx rfl zin_X12 tyX12 tyX12_ok nmX12 (by decide) zk_1349 rfl rfl dX12_taken_10 (fun H locs hS => ?_)
  refine z_aload_n he hb dX12_taken_13 rfl (lv_at hl 0 rfl) (zref_r _ _) ?_
  refine lv_iconst (v := (0 : Int32)) he hb dX12_taken_14 (by decide) ?_
  obtain ⟨f4, hx, h⟩ := zob h
  refine z_putI (ci := 12) (T := TX12) (N := 50) (j := 4) B hS hx rfl zin_X12 tyX12 tyX12_ok nmX12 (by decide) zk_1351 rfl rfl dX12_taken_15 (fun H locs hS => ?_)
  refine z_aload_n he hb dX12_taken_18 rfl (lv_at hl 0 rfl) (zref_r _ _) ?_
  refine lv_iload_n he hb dX12_taken_19 rfl (lv_at hl 1 rfl) ?_
  obtain ⟨f5, hx, h⟩ := zob h
  refine z_putI (ci := 12) (T := TX12) (N := 50) (j := 5) B hS hx rfl zin_X12 tyX12 tyX12_ok nmX12 (by decide) zk_1352 rfl rfl dX12_taken_20 (fun H locs hS => ?_)
  obtain rfl := Option.some.inj h
  exact z_vret B hS dX12_taken_23
theorem dX12_isIn_0 : decode cX12_isIn 0 = .ok (.iload_n 0, 1) := by decide +kernel
theorem dX12_isIn_1 : decode cX12_isIn 1 = .ok (.iload_n 1, 1) := by decide +kernel
theorem dX12_isIn_2 : decode cX12_isIn 2 = .ok (.if_icmp .lt 12, 3) := by decide +kernel
theorem dX12_isIn_5 : decode cX12_isIn 5 = .ok (.iload_n 0, 1) := by decide +kernel
theorem dX12_isIn_6 : decode cX12_isIn 6 = .ok (.iload_n 2, 1) := by decide +kernel
theorem dX12_isIn_7 : decode cX12_isIn 7 = .ok (.if_icmp .gt 7, 3) := by decide +kernel
theorem dX12_isIn_10 : decode cX12_isIn 10 = .ok (.iconst 1, 1) := by decide +kernel
theorem dX12_isIn_11 : decode cX12_isIn 11 = .ok (.goto 4, 3) := by decide +kernel
theorem dX12_isIn_14 : decode cX12_isIn 14 = .ok (.iconst 0, 1) := by decide +kernel
theorem dX12_isIn_15 : decode cX12_isIn 15 = .ok (.ireturn, 1) := by decide +kernel
def fX12_isIn (N n : Nat) (f : zF) (a0 : Int32) (a1 : Int32) (a2 : Int32) : Option Int32 :=
    (if a0 < a1 then zbl (0 : Int32) else (if a2 < a0 then zbl (0 : Int32) else zbl (1 : Int32)))
set_option maxRecDepth 100000 in
set_option maxHeartbeats 4000000 in
theorem mX12_isIn (l : Launch) (G : zG) {N n : Nat} {f : zF} {r : Int32} {a0 : Int32} {a1 : Int32} {a2 : Int32} (h : fX12_isIn N n f a0 a1 a2 = some r) : zM l G yX12_isIn cX12_isIn 3 (some .boolean) 0 n f [.int a0, .int a1, .int a2] (some (.int r)) f := by
  refine zM.of (by decide) (Nat.le_of_ble_eq_true rfl) ?_
  intro p e s m args below meth c locs ls B hS hl
  have he := B.1
  have hb := B.2.1
  have hl : lv_has ls 3 [(0, .int a0), (1, .int a1), (2, .int a2)] := hl
  unfold fX12_isIn at h
  generalize s.heap = H at hS ⊢
  refine lv_iload_n he hb dX12_isIn_0 rfl (lv_at hl 0 rfl) ?_
  refine lv_iload_n he hb dX12_isIn_1 rfl (lv_at hl 1 rfl) ?_
  refine lv_icmp_lt (tgt := 14) he hb dX12_isIn_2 (by decide) (fun hc => ?_) (fun hc => ?_)
  · rw [if_pos hc] at h
    refine lv_iconst (v := (0 : Int32)) he hb dX12_isIn_14 (by decide) ?_
    obtain ⟨hz, rfl⟩ := zbl_i h
    exact z_zret B hS hz dX12_isIn_15
  · rw [if_neg hc] at h
    refine lv_iload_n he hb dX12_isIn_5 rfl (lv_at hl 0 rfl) ?_
    refine lv_iload_n he hb dX12_isIn_6 rfl (lv_at hl 2 rfl) ?_
    refine lv_icmp_gt (tgt := 14) he hb dX12_isIn_7 (by decide) (fun hc => ?_) (fun hc => ?_)
    · rw [if_pos hc] at h
      refine lv_iconst (v := (0 : Int32)) he hb dX12_isIn_14 (by decide) ?_
      obtain ⟨hz, rfl⟩ := zbl_i h
      exact z_zret B hS hz dX12_isIn_15
    · rw [if_neg hc] at h
      refine lv_iconst (v := (1 : Int32)) he hb dX12_isIn_10 (by decide) ?_
      refine lv_goto (tgt := 15) he hb dX12_isIn_11 (by decide) ?_
      obtain ⟨hz, rfl⟩ := zbl_i h
      exact z_zret B hS hz dX12_isIn_15
theorem dX12_bitOf_0 : decode cX12_bitOf 0 = .ok (.iload_n 0, 1) := by decide +kernel
theorem dX12_bitOf_1 : decode cX12_bitOf 1 = .ok (.iload_n 1, 1) := by decide +kernel
theorem dX12_bitOf_2 : decode cX12_bitOf 2 = .ok (.ishr, 1) := by decide +kernel
theorem dX12_bitOf_3 : decode cX12_bitOf 3 = .ok (.iconst 1, 1) := by decide +kernel
theorem dX12_bitOf_4 : decode cX12_bitOf 4 = .ok (.iand, 1) := by decide +kernel
theorem dX12_bitOf_5 : decode cX12_bitOf 5 = .ok (.iconst 1, 1) := by decide +kernel
theorem dX12_bitOf_6 : decode cX12_bitOf 6 = .ok (.if_icmp .ne 7, 3) := by decide +kernel
theorem dX12_bitOf_9 : decode cX12_bitOf 9 = .ok (.iconst 1, 1) := by decide +kernel
theorem dX12_bitOf_10 : decode cX12_bitOf 10 = .ok (.goto 4, 3) := by decide +kernel
theorem dX12_bitOf_13 : decode cX12_bitOf 13 = .ok (.iconst 0, 1) := by decide +kernel
theorem dX12_bitOf_14 : decode cX12_bitOf 14 = .ok (.ireturn, 1) := by decide +kernel
def fX12_bitOf (N n : Nat) (f : zF) (a0 : Int32) (a1 : Int32) : Option Int32 :=
    (if ((zishr a0 a1) &&& (1 : Int32)) = (1 : Int32) then zbl (1 : Int32) else zbl (0 : Int32))
set_option maxRecDepth 100000 in
set_option maxHeartbeats 4000000 in
theorem mX12_bitOf (l : Launch) (G : zG) {N n : Nat} {f : zF} {r : Int32} {a0 : Int32} {a1 : Int32} (h : fX12_bitOf N n f a0 a1 = some r) : zM l G yX12_bitOf cX12_bitOf 2 (some .boolean) 0 n f [.int a0, .int a1] (some (.int r)) f := by
  refine zM.of (by decide) (Nat.le_of_ble_eq_true rfl) ?_
  intro p e s m args below meth c locs ls B hS hl
  have he := B.1
  have hb := B.2.1
  have hl : lv_has ls 2 [(0, .int a0), (1, .int a1)] := hl
  unfold fX12_bitOf at h
  generalize s.heap = H at hS ⊢
  refine lv_iload_n he hb dX12_bitOf_0 rfl (lv_at hl 0 rfl) ?_
  refine lv_iload_n he hb dX12_bitOf_1 rfl (lv_at hl 1 rfl) ?_
  refine z_ishr he hb dX12_bitOf_2 ?_
  refine lv_iconst (v := (1 : Int32)) he hb dX12_bitOf_3 (by decide) ?_
  refine lv_iand he hb dX12_bitOf_4 ?_
  refine lv_iconst (v := (1 : Int32)) he hb dX12_bitOf_5 (by decide) ?_
  refine lv_icmp_ne (tgt := 13) he hb dX12_bitOf_6 (by decide) (fun hc => ?_) (fun hc => ?_)
  · rw [if_neg hc] at h
    refine lv_iconst (v := (0 : Int32)) he hb dX12_bitOf_13 (by decide) ?_
    obtain ⟨hz, rfl⟩ := zbl_i h
    exact z_zret B hS hz dX12_bitOf_14
  · rw [if_pos hc] at h
    refine lv_iconst (v := (1 : Int32)) he hb dX12_bitOf_9 (by decide) ?_
    refine lv_goto (tgt := 14) he hb dX12_bitOf_10 (by decide) ?_
    obtain ⟨hz, rfl⟩ := zbl_i h
    exact z_zret B hS hz dX12_bitOf_14
theorem dX12_greater_0 : decode cX12_greater 0 = .ok (.iload_n 0, 1) := by decide +kernel
theorem dX12_greater_1 : decode cX12_greater 1 = .ok (.iload_n 1, 1) := by decide +kernel
theorem dX12_greater_2 : decode cX12_greater 2 = .ok (.if_icmp .le 7, 3) := by decide +kernel
theorem dX12_greater_5 : decode cX12_greater 5 = .ok (.iload_n 0, 1) := by decide +kernel
theorem dX12_greater_6 : decode cX12_greater 6 = .ok (.goto 4, 3) := by decide +kernel
theorem dX12_greater_9 : decode cX12_greater 9 = .ok (.iload_n 1, 1) := by decide +kernel
theorem dX12_greater_10 : decode cX12_greater 10 = .ok (.ireturn, 1) := by decide +kernel
def fX12_greater (N n : Nat) (f : zF) (a0 : Int32) (a1 : Int32) : Option Int32 :=
    (if a0 ≤ a1 then some a1 else some a0)
set_option maxRecDepth 100000 in
set_option maxHeartbeats 4000000 in
theorem mX12_greater (l : Launch) (G : zG) {N n : Nat} {f : zF} {r : Int32} {a0 : Int32} {a1 : Int32} (h : fX12_greater N n f a0 a1 = some r) : zM l G yX12_greater cX12_greater 2 (some .int) 0 n f [.int a0, .int a1] (some (.int r)) f := by
  refine zM.of (by decide) (Nat.le_of_ble_eq_true rfl) ?_
  intro p e s m args below meth c locs ls B hS hl
  have he := B.1
  have hb := B.2.1
  have hl : lv_has ls 2 [(0, .int a0), (1, .int a1)] := hl
  unfold fX12_greater at h
  generalize s.heap = H at hS ⊢
  refine lv_iload_n he hb dX12_greater_0 rfl (lv_at hl 0 rfl) ?_
  refine lv_iload_n he hb dX12_greater_1 rfl (lv_at hl 1 rfl) ?_
  refine lv_icmp_le (tgt := 9) he hb dX12_greater_2 (by decide) (fun hc => ?_) (fun hc => ?_)
  · rw [if_pos hc] at h
    refine lv_iload_n he hb dX12_greater_9 rfl (lv_at hl 1 rfl) ?_
    obtain rfl := Option.some.inj h
    exact z_iret B hS dX12_greater_10
  · rw [if_neg hc] at h
    refine lv_iload_n he hb dX12_greater_5 rfl (lv_at hl 0 rfl) ?_
    refine lv_goto (tgt := 10) he hb dX12_greater_6 (by decide) ?_
    obtain rfl := Option.some.inj h
    exact z_iret B hS dX12_greater_10
theorem dX12_bits_0 : decode cX12_bits 0 = .ok (.iconst 0, 1) := by decide +kernel
theorem dX12_bits_1 : decode cX12_bits 1 = .ok (.istore_n 1, 1) := by decide +kernel
theorem dX12_bits_2 : decode cX12_bits 2 = .ok (.iload_n 0, 1) := by decide +kernel
theorem dX12_bits_3 : decode cX12_bits 3 = .ok (.istore_n 2, 1) := by decide +kernel
theorem dX12_bits_4 : decode cX12_bits 4 = .ok (.iload_n 2, 1) := by decide +kernel
theorem dX12_bits_5 : decode cX12_bits 5 = .ok (.ifCond .eq 15, 3) := by decide +kernel
theorem dX12_bits_8 : decode cX12_bits 8 = .ok (.iinc 1 1, 3) := by decide +kernel
theorem dX12_bits_11 : decode cX12_bits 11 = .ok (.iload_n 2, 1) := by decide +kernel
theorem dX12_bits_12 : decode cX12_bits 12 = .ok (.iload_n 2, 1) := by decide +kernel
theorem dX12_bits_13 : decode cX12_bits 13 = .ok (.iconst 1, 1) := by decide +kernel
theorem dX12_bits_14 : decode cX12_bits 14 = .ok (.isub, 1) := by decide +kernel
theorem dX12_bits_15 : decode cX12_bits 15 = .ok (.iand, 1) := by decide +kernel
theorem dX12_bits_16 : decode cX12_bits 16 = .ok (.istore_n 2, 1) := by decide +kernel
theorem dX12_bits_17 : decode cX12_bits 17 = .ok (.goto (-13), 3) := by decide +kernel
theorem dX12_bits_20 : decode cX12_bits 20 = .ok (.iload_n 1, 1) := by decide +kernel
theorem dX12_bits_21 : decode cX12_bits 21 = .ok (.ireturn, 1) := by decide +kernel
def fX12_bits_4 (N n : Nat) (f : zF) : Nat → Int32 → Int32 → Option Int32
  | 0, _, _ => none
  | k + 1, a1, a2 =>
    (if a2 = 0 then some a1 else (fX12_bits_4 N n f k (a1 + 1) (a2 &&& (a2 - (1 : Int32)))))
set_option maxRecDepth 100000 in
set_option maxHeartbeats 4000000 in
theorem gX12_bits_4 (l : Launch) {G : zG} {p : Program} {e : Env} {s : State} {m : MethodId} {args : Array Value} {below : List Frame} {meth : Method} {c : Code} {f : zF} {N n : Nat} {r : Int32} (B : zB G p s m args meth c RX12 cX12_bits 3 (some .int)) : ∀ (k : Nat), ∀ (a1 : Int32) (a2 : Int32) (H : Heap) (locs : List Loc) (ls : Array Slot), fX12_bits_4 N n f k a1 a2 = some r → zS G n f H locs → lv_has ls 3 [(1, .int a1), (2, .int a2)] → W p l e (zrm 0) s m args below meth c H locs 0 0 (MQ below (zQc G n f (some (.int r))) args s 0 0 (zA G)) (F0 m 4 ls []) := by
  have he := B.1
  have hb := B.2.1
  intro k
  induction k with
  | zero =>
    intro a1 a2 H locs ls h
    unfold fX12_bits_4 at h
    cases h
  | succ k ih =>
    intro a1 a2 H locs ls h hS hl
    unfold fX12_bits_4 at h
    refine lv_iload_n he hb dX12_bits_4 rfl (lv_at hl 1 rfl) ?_
    refine lv_if_eq (tgt := 20) he hb dX12_bits_5 (by decide) (fun hc => ?_) (fun hc => ?_)
    · rw [if_pos hc] at h
      refine lv_iload_n he hb dX12_bits_20 rfl (lv_at hl 0 rfl) ?_
      obtain rfl := Option.some.inj h
      exact z_iret B hS dX12_bits_21
    · rw [if_neg hc] at h
      refine lv_iinc (v := (a1 + 1)) (lv' := [(1, _), (2, _)]) he hb dX12_bits_8 hl (k := 0) rfl rfl (by decide) rfl (fun ls hl => ?_)
      refine lv_iload_n he hb dX12_bits_11 rfl (lv_at hl 1 rfl) ?_
      refine lv_iload_n he hb dX12_bits_12 rfl (lv_at hl 1 rfl) ?_
      refine lv_iconst (v := (1 : Int32)) he hb dX12_bits_13 (by decide) ?_
      refine lv_isub he hb dX12_bits_14 ?_
      refine lv_iand he hb dX12_bits_15 ?_
      refine lv_istore_n (lv' := [(2, _), (1, _)]) he hb dX12_bits_16 rfl hl (by decide) rfl (fun ls hl => ?_)
      refine lv_goto (tgt := 4) he hb dX12_bits_17 (by decide) ?_
      exact ih _ _ _ _ _ h hS (lv_sub hl [1, 0] rfl)
def fX12_bits (N n : Nat) (f : zF) (a0 : Int32) : Option Int32 :=
    (fX12_bits_4 N n f N (0 : Int32) a0)
set_option maxRecDepth 100000 in
set_option maxHeartbeats 4000000 in
theorem mX12_bits (l : Launch) (G : zG) {N n : Nat} {f : zF} {r : Int32} {a0 : Int32} (h : fX12_bits N n f a0 = some r) : zM l G yX12_bits cX12_bits 3 (some .int) 0 n f [.int a0] (some (.int r)) f := by
  refine zM.of (by decide) (Nat.le_of_ble_eq_true rfl) ?_
  intro p e s m args below meth c locs ls B hS hl
  have he := B.1
  have hb := B.2.1
  have hl : lv_has ls 3 [(0, .int a0)] := hl
  unfold fX12_bits at h
  generalize s.heap = H at hS ⊢
  refine lv_iconst (v := (0 : Int32)) he hb dX12_bits_0 (by decide) ?_
  refine lv_istore_n (lv' := [(1, _), (0, _)]) he hb dX12_bits_1 rfl hl (by decide) rfl (fun ls hl => ?_)
  refine lv_iload_n he hb dX12_bits_2 rfl (lv_at hl 1 rfl) ?_
  refine lv_istore_n (lv' := [(2, _), (1, _), (0, _)]) he hb dX12_bits_3 rfl hl (by decide) rfl (fun ls hl => ?_)
  exact gX12_bits_4 l B N _ _ _ _ _ h hS (lv_sub hl [1, 0] rfl)
theorem dX12_octet_0 : decode cX12_octet 0 = .ok (.aload_n 0, 1) := by decide +kernel
theorem dX12_octet_1 : decode cX12_octet 1 = .ok (.getfield 14, 3) := by decide +kernel
theorem dX12_octet_4 : decode cX12_octet 4 = .ok (.iload_n 1, 1) := by decide +kernel
theorem dX12_octet_5 : decode cX12_octet 5 = .ok (.baload, 1) := by decide +kernel
theorem dX12_octet_6 : decode cX12_octet 6 = .ok (.sipush 255, 3) := by decide +kernel
theorem dX12_octet_9 : decode cX12_octet 9 = .ok (.iand, 1) := by decide +kernel
theorem dX12_octet_10 : decode cX12_octet 10 = .ok (.ireturn, 1) := by decide +kernel
def fX12_octet (N n : Nat) (f : zF) (a0 : Nat) (a1 : Int32) : Option Int32 :=
    ((zgR n f 12 a0 1).bind fun x1 => ((zlI n f 2 x1 a1).bind fun x2 => some (x2 &&& (255 : Int32))))
set_option maxRecDepth 100000 in
set_option maxHeartbeats 4000000 in
theorem mX12_octet (l : Launch) (G : zG) {N n : Nat} {f : zF} {r : Int32} {a0 : Nat} {a1 : Int32} (h : fX12_octet N n f a0 a1 = some r) : zM l G yX12_octet cX12_octet 2 (some .int) 0 n f [zr G a0, .int a1] (some (.int r)) f := by
  refine zM.of (by decide) (Nat.le_of_ble_eq_true rfl) ?_
  intro p e s m args below meth c locs ls B hS hl
  have he := B.1
  have hb := B.2.1
  have hl : lv_has ls 2 [(0, zr G a0), (1, .int a1)] := hl
  unfold fX12_octet at h
  generalize s.heap = H at hS ⊢
  refine z_aload_n he hb dX12_octet_0 rfl (lv_at hl 0 rfl) (zref_r _ _) ?_
  obtain ⟨x1, hx, h⟩ := zob h
  refine z_getR (ci := 12) (T := TX12) (N := 50) (j := 1) B hS hx rfl zin_X12 (by decide) zk_1348 dX12_octet_1 ?_
  refine lv_iload_n he hb dX12_octet_4 rfl (lv_at hl 1 rfl) ?_
  obtain ⟨x2, hx, h⟩ := zob h
  refine z_ildB B hS hx dX12_octet_5 ?_
  refine lv_sipush (v := (255 : Int32)) he hb dX12_octet_6 (by decide) ?_
  refine lv_iand he hb dX12_octet_9 ?_
  obtain rfl := Option.some.inj h
  exact z_iret B hS dX12_octet_10
theorem dX12_clears_0 : decode cX12_clears 0 = .ok (.iconst 0, 1) := by decide +kernel
theorem dX12_clears_1 : decode cX12_clears 1 = .ok (.istore_n 1, 1) := by decide +kernel
theorem dX12_clears_2 : decode cX12_clears 2 = .ok (.iload_n 1, 1) := by decide +kernel
theorem dX12_clears_3 : decode cX12_clears 3 = .ok (.sipush 139, 3) := by decide +kernel
theorem dX12_clears_6 : decode cX12_clears 6 = .ok (.if_icmp .ge 16, 3) := by decide +kernel
theorem dX12_clears_9 : decode cX12_clears 9 = .ok (.aload_n 0, 1) := by decide +kernel
theorem dX12_clears_10 : decode cX12_clears 10 = .ok (.getfield 37, 3) := by decide +kernel
theorem dX12_clears_13 : decode cX12_clears 13 = .ok (.iload_n 1, 1) := by decide +kernel
theorem dX12_clears_14 : decode cX12_clears 14 = .ok (.iconst 0, 1) := by decide +kernel
theorem dX12_clears_15 : decode cX12_clears 15 = .ok (.iastore, 1) := by decide +kernel
theorem dX12_clears_16 : decode cX12_clears 16 = .ok (.iinc 1 1, 3) := by decide +kernel
theorem dX12_clears_19 : decode cX12_clears 19 = .ok (.goto (-17), 3) := by decide +kernel
theorem dX12_clears_22 : decode cX12_clears 22 = .ok (.aload_n 0, 1) := by decide +kernel
theorem dX12_clears_23 : decode cX12_clears 23 = .ok (.getfield 37, 3) := by decide +kernel
theorem dX12_clears_26 : decode cX12_clears 26 = .ok (.iconst 0, 1) := by decide +kernel
theorem dX12_clears_27 : decode cX12_clears 27 = .ok (.bipush 6, 2) := by decide +kernel
theorem dX12_clears_29 : decode cX12_clears 29 = .ok (.iastore, 1) := by decide +kernel
theorem dX12_clears_30 : decode cX12_clears 30 = .ok (.aload_n 0, 1) := by decide +kernel
theorem dX12_clears_31 : decode cX12_clears 31 = .ok (.getfield 37, 3) := by decide +kernel
theorem dX12_clears_34 : decode cX12_clears 34 = .ok (.iconst 1, 1) := by decide +kernel
theorem dX12_clears_35 : decode cX12_clears 35 = .ok (.bipush 6, 2) := by decide +kernel
theorem dX12_clears_37 : decode cX12_clears 37 = .ok (.iastore, 1) := by decide +kernel
theorem dX12_clears_38 : decode cX12_clears 38 = .ok (.return_, 1) := by decide +kernel
def fX12_clears_2 (N n : Nat) : Nat → zF → Nat → Int32 → Option zF
  | 0, _, _, _ => none
  | k + 1, f, a0, a1 =>
    (if (139 : Int32) ≤ a1 then ((zgR n f 12 a0 7).bind fun x1 => ((zsI n f 0 x1 (0 : Int32) (6 : Int32)).bind fun f2 => ((zgR n f2 12 a0 7).bind fun x3 => ((zsI n f2 0 x3 (1 : Int32) (6 : Int32)).bind fun f4 => some f4)))) else ((zgR n f 12 a0 7).bind fun x5 => ((zsI n f 0 x5 a1 (0 : Int32)).bind fun f6 => (fX12_clears_2 N n k f6 a0 (a1 + 1)))))
set_option maxRecDepth 100000 in
set_option maxHeartbeats 4000000 in
theorem gX12_clears_2 (l : Launch) {G : zG} {p : Program} {e : Env} {s : State} {m : MethodId} {args : Array Value} {below : List Frame} {meth : Method} {c : Code} {N n : Nat} {f9 : zF} (B : zB G p s m args meth c RX12 cX12_clears 2 (none)) : ∀ (k : Nat), ∀ (f : zF) (a0 : Nat) (a1 : Int32) (H : Heap) (locs : List Loc) (ls : Array Slot), fX12_clears_2 N n k f a0 a1 = some f9 → zS G n f H locs → lv_has ls 2 [(0, zr G a0), (1, .int a1)] → W p l e (zrm 0) s m args below meth c H locs 0 0 (MQ below (zQc G n f9 (none)) args s 0 0 (zA G)) (F0 m 2 ls []) := by
  have he := B.1
  have hb := B.2.1
  intro k
  induction k with
  | zero =>
    intro f a0 a1 H locs ls h
    unfold fX12_clears_2 at h
    cases h
  | succ k ih =>
    intro f a0 a1 H locs ls h hS hl
    unfold fX12_clears_2 at h
    refine lv_iload_n he hb dX12_clears_2 rfl (lv_at hl 1 rfl) ?_
    refine lv_sipush (v := (139 : Int32)) he hb dX12_clears_3 (by decide) ?_
    refine lv_icmp_ge (tgt := 22) he hb dX12_clears_6 (by decide) (fun hc => ?_) (fun hc => ?_)
    · rw [if_pos hc] at h
      refine z_aload_n he hb dX12_clears_22 rfl (lv_at hl 0 rfl) (zref_r _ _) ?_
      obtain ⟨x1, hx, h⟩ := zob h
      refine z_getR (ci := 12) (T := TX12) (N := 50) (j := 7) B hS hx rfl zin_X12 (by decide) zk_1354 dX12_clears_23 ?_
      refine lv_iconst (v := (0 : Int32)) he hb dX12_clears_26 (by decide) ?_
      refine lv_bipush (v := (6 : Int32)) he hb dX12_clears_27 (by decide) ?_
      obtain ⟨f2, hx, h⟩ := zob h
      refine z_istI B hS hx dX12_clears_29 (fun H locs hS => ?_)
      refine z_aload_n he hb dX12_clears_30 rfl (lv_at hl 0 rfl) (zref_r _ _) ?_
      obtain ⟨x3, hx, h⟩ := zob h
      refine z_getR (ci := 12) (T := TX12) (N := 50) (j := 7) B hS hx rfl zin_X12 (by decide) zk_1354 dX12_clears_31 ?_
      refine lv_iconst (v := (1 : Int32)) he hb dX12_clears_34 (by decide) ?_
      refine lv_bipush (v := (6 : Int32)) he hb dX12_clears_35 (by decide) ?_
      obtain ⟨f4, hx, h⟩ := zob h
      refine z_istI B hS hx dX12_clears_37 (fun H locs hS => ?_)
      obtain rfl := Option.some.inj h
      exact z_vret B hS dX12_clears_38
    · rw [if_neg hc] at h
      refine z_aload_n he hb dX12_clears_9 rfl (lv_at hl 0 rfl) (zref_r _ _) ?_
      obtain ⟨x5, hx, h⟩ := zob h
      refine z_getR (ci := 12) (T := TX12) (N := 50) (j := 7) B hS hx rfl zin_X12 (by decide) zk_1354 dX12_clears_10 ?_
      refine lv_iload_n he hb dX12_clears_13 rfl (lv_at hl 1 rfl) ?_
      refine lv_iconst (v := (0 : Int32)) he hb dX12_clears_14 (by decide) ?_
      obtain ⟨f6, hx, h⟩ := zob h
      refine z_istI B hS hx dX12_clears_15 (fun H locs hS => ?_)
      refine lv_iinc (v := (a1 + 1)) (lv' := [(1, _), (0, _)]) he hb dX12_clears_16 hl (k := 1) rfl rfl (by decide) rfl (fun ls hl => ?_)
      refine lv_goto (tgt := 2) he hb dX12_clears_19 (by decide) ?_
      exact ih _ _ _ _ _ _ h hS (lv_sub hl [1, 0] rfl)
def fX12_clears (N n : Nat) (f : zF) (a0 : Nat) : Option zF :=
    (fX12_clears_2 N n N f a0 (0 : Int32))
set_option maxRecDepth 100000 in
set_option maxHeartbeats 4000000 in
theorem mX12_clears (l : Launch) (G : zG) {N n : Nat} {f : zF} {f9 : zF} {a0 : Nat} (h : fX12_clears N n f a0 = some f9) : zM l G yX12_clears cX12_clears 2 (none) 0 n f [zr G a0] (none) f9 := by
  refine zM.of (by decide) (Nat.le_of_ble_eq_true rfl) ?_
  intro p e s m args below meth c locs ls B hS hl
  have he := B.1
  have hb := B.2.1
  have hl : lv_has ls 2 [(0, zr G a0)] := hl
  unfold fX12_clears at h
  generalize s.heap = H at hS ⊢
  refine lv_iconst (v := (0 : Int32)) he hb dX12_clears_0 (by decide) ?_
  refine lv_istore_n (lv' := [(1, _), (0, _)]) he hb dX12_clears_1 rfl hl (by decide) rfl (fun ls hl => ?_)
  exact gX12_clears_2 l B N _ _ _ _ _ _ h hS (lv_sub hl [1, 0] rfl)
theorem dX12_peek_0 : decode cX12_peek 0 = .ok (.aload_n 0, 1) := by decide +kernel
theorem dX12_peek_1 : decode cX12_peek 1 = .ok (.getfield 21, 3) := by decide +kernel
theorem dX12_peek_4 : decode cX12_peek 4 = .ok (.aload_n 0, 1) := by decide +kernel
theorem dX12_peek_5 : decode cX12_peek 5 = .ok (.getfield 18, 3) := by decide +kernel
theorem dX12_peek_8 : decode cX12_peek 8 = .ok (.if_icmp .ge 19, 3) := by decide +kernel
theorem dX12_peek_11 : decode cX12_peek 11 = .ok (.aload_n 0, 1) := by decide +kernel
theorem dX12_peek_12 : decode cX12_peek 12 = .ok (.getfield 14, 3) := by decide +kernel
theorem dX12_peek_15 : decode cX12_peek 15 = .ok (.aload_n 0, 1) := by decide +kernel
theorem dX12_peek_16 : decode cX12_peek 16 = .ok (.getfield 21, 3) := by decide +kernel
theorem dX12_peek_19 : decode cX12_peek 19 = .ok (.baload, 1) := by decide +kernel
theorem dX12_peek_20 : decode cX12_peek 20 = .ok (.sipush 255, 3) := by decide +kernel
theorem dX12_peek_23 : decode cX12_peek 23 = .ok (.iand, 1) := by decide +kernel
theorem dX12_peek_24 : decode cX12_peek 24 = .ok (.goto 4, 3) := by decide +kernel
theorem dX12_peek_27 : decode cX12_peek 27 = .ok (.iconst (-1), 1) := by decide +kernel
theorem dX12_peek_28 : decode cX12_peek 28 = .ok (.ireturn, 1) := by decide +kernel
def fX12_peek (N n : Nat) (f : zF) (a0 : Nat) : Option Int32 :=
    ((zgI n f 12 a0 4).bind fun x1 => ((zgI n f 12 a0 3).bind fun x2 => (if x2 ≤ x1 then some (-1 : Int32) else ((zgR n f 12 a0 1).bind fun x3 => ((zgI n f 12 a0 4).bind fun x4 => ((zlI n f 2 x3 x4).bind fun x5 => some (x5 &&& (255 : Int32))))))))
set_option maxRecDepth 100000 in
set_option maxHeartbeats 4000000 in
theorem mX12_peek (l : Launch) (G : zG) {N n : Nat} {f : zF} {r : Int32} {a0 : Nat} (h : fX12_peek N n f a0 = some r) : zM l G yX12_peek cX12_peek 1 (some .int) 0 n f [zr G a0] (some (.int r)) f := by
  refine zM.of (by decide) (Nat.le_of_ble_eq_true rfl) ?_
  intro p e s m args below meth c locs ls B hS hl
  have he := B.1
  have hb := B.2.1
  have hl : lv_has ls 1 [(0, zr G a0)] := hl
  unfold fX12_peek at h
  generalize s.heap = H at hS ⊢
  refine z_aload_n he hb dX12_peek_0 rfl (lv_at hl 0 rfl) (zref_r _ _) ?_
  obtain ⟨x1, hx, h⟩ := zob h
  refine z_getI (ci := 12) (T := TX12) (N := 50) (j := 4) B hS hx rfl zin_X12 (by decide) zk_1351 dX12_peek_1 ?_
  refine z_aload_n he hb dX12_peek_4 rfl (lv_at hl 0 rfl) (zref_r _ _) ?_
  obtain ⟨x2, hx, h⟩ := zob h
  refine z_getI (ci := 12) (T := TX12) (N := 50) (j := 3) B hS hx rfl zin_X12 (by decide) zk_1350 dX12_peek_5 ?_
  refine lv_icmp_ge (tgt := 27) he hb dX12_peek_8 (by decide) (fun hc => ?_) (fun hc => ?_)
  · rw [if_pos hc] at h
    refine lv_iconst (v := (-1 : Int32)) he hb dX12_peek_27 (by decide) ?_
    obtain rfl := Option.some.inj h
    exact z_iret B hS dX12_peek_28
  · rw [if_neg hc] at h
    refine z_aload_n he hb dX12_peek_11 rfl (lv_at hl 0 rfl) (zref_r _ _) ?_
    obtain ⟨x3, hx, h⟩ := zob h
    refine z_getR (ci := 12) (T := TX12) (N := 50) (j := 1) B hS hx rfl zin_X12 (by decide) zk_1348 dX12_peek_12 ?_
    refine z_aload_n he hb dX12_peek_15 rfl (lv_at hl 0 rfl) (zref_r _ _) ?_
    obtain ⟨x4, hx, h⟩ := zob h
    refine z_getI (ci := 12) (T := TX12) (N := 50) (j := 4) B hS hx rfl zin_X12 (by decide) zk_1351 dX12_peek_16 ?_
    obtain ⟨x5, hx, h⟩ := zob h
    refine z_ildB B hS hx dX12_peek_19 ?_
    refine lv_sipush (v := (255 : Int32)) he hb dX12_peek_20 (by decide) ?_
    refine lv_iand he hb dX12_peek_23 ?_
    refine lv_goto (tgt := 28) he hb dX12_peek_24 (by decide) ?_
    obtain rfl := Option.some.inj h
    exact z_iret B hS dX12_peek_28
theorem dX12_isSmall_0 : decode cX12_isSmall 0 = .ok (.iload_n 0, 1) := by decide +kernel
theorem dX12_isSmall_1 : decode cX12_isSmall 1 = .ok (.bipush 97, 2) := by decide +kernel
theorem dX12_isSmall_3 : decode cX12_isSmall 3 = .ok (.if_icmp .lt 13, 3) := by decide +kernel
theorem dX12_isSmall_6 : decode cX12_isSmall 6 = .ok (.iload_n 0, 1) := by decide +kernel
theorem dX12_isSmall_7 : decode cX12_isSmall 7 = .ok (.bipush 122, 2) := by decide +kernel
theorem dX12_isSmall_9 : decode cX12_isSmall 9 = .ok (.if_icmp .gt 7, 3) := by decide +kernel
theorem dX12_isSmall_12 : decode cX12_isSmall 12 = .ok (.iconst 1, 1) := by decide +kernel
theorem dX12_isSmall_13 : decode cX12_isSmall 13 = .ok (.goto 4, 3) := by decide +kernel
theorem dX12_isSmall_16 : decode cX12_isSmall 16 = .ok (.iconst 0, 1) := by decide +kernel
theorem dX12_isSmall_17 : decode cX12_isSmall 17 = .ok (.ireturn, 1) := by decide +kernel
def fX12_isSmall (N n : Nat) (f : zF) (a0 : Int32) : Option Int32 :=
    (if a0 < (97 : Int32) then zbl (0 : Int32) else (if (122 : Int32) < a0 then zbl (0 : Int32) else zbl (1 : Int32)))
set_option maxRecDepth 100000 in
set_option maxHeartbeats 4000000 in
theorem mX12_isSmall (l : Launch) (G : zG) {N n : Nat} {f : zF} {r : Int32} {a0 : Int32} (h : fX12_isSmall N n f a0 = some r) : zM l G yX12_isSmall cX12_isSmall 1 (some .boolean) 0 n f [.int a0] (some (.int r)) f := by
  refine zM.of (by decide) (Nat.le_of_ble_eq_true rfl) ?_
  intro p e s m args below meth c locs ls B hS hl
  have he := B.1
  have hb := B.2.1
  have hl : lv_has ls 1 [(0, .int a0)] := hl
  unfold fX12_isSmall at h
  generalize s.heap = H at hS ⊢
  refine lv_iload_n he hb dX12_isSmall_0 rfl (lv_at hl 0 rfl) ?_
  refine lv_bipush (v := (97 : Int32)) he hb dX12_isSmall_1 (by decide) ?_
  refine lv_icmp_lt (tgt := 16) he hb dX12_isSmall_3 (by decide) (fun hc => ?_) (fun hc => ?_)
  · rw [if_pos hc] at h
    refine lv_iconst (v := (0 : Int32)) he hb dX12_isSmall_16 (by decide) ?_
    obtain ⟨hz, rfl⟩ := zbl_i h
    exact z_zret B hS hz dX12_isSmall_17
  · rw [if_neg hc] at h
    refine lv_iload_n he hb dX12_isSmall_6 rfl (lv_at hl 0 rfl) ?_
    refine lv_bipush (v := (122 : Int32)) he hb dX12_isSmall_7 (by decide) ?_
    refine lv_icmp_gt (tgt := 16) he hb dX12_isSmall_9 (by decide) (fun hc => ?_) (fun hc => ?_)
    · rw [if_pos hc] at h
      refine lv_iconst (v := (0 : Int32)) he hb dX12_isSmall_16 (by decide) ?_
      obtain ⟨hz, rfl⟩ := zbl_i h
      exact z_zret B hS hz dX12_isSmall_17
    · rw [if_neg hc] at h
      refine lv_iconst (v := (1 : Int32)) he hb dX12_isSmall_12 (by decide) ?_
      refine lv_goto (tgt := 17) he hb dX12_isSmall_13 (by decide) ?_
      obtain ⟨hz, rfl⟩ := zbl_i h
      exact z_zret B hS hz dX12_isSmall_17
theorem dX12_isDigit_0 : decode cX12_isDigit 0 = .ok (.iload_n 0, 1) := by decide +kernel
theorem dX12_isDigit_1 : decode cX12_isDigit 1 = .ok (.bipush 48, 2) := by decide +kernel
theorem dX12_isDigit_3 : decode cX12_isDigit 3 = .ok (.if_icmp .lt 13, 3) := by decide +kernel
theorem dX12_isDigit_6 : decode cX12_isDigit 6 = .ok (.iload_n 0, 1) := by decide +kernel
theorem dX12_isDigit_7 : decode cX12_isDigit 7 = .ok (.bipush 57, 2) := by decide +kernel
theorem dX12_isDigit_9 : decode cX12_isDigit 9 = .ok (.if_icmp .gt 7, 3) := by decide +kernel
theorem dX12_isDigit_12 : decode cX12_isDigit 12 = .ok (.iconst 1, 1) := by decide +kernel
theorem dX12_isDigit_13 : decode cX12_isDigit 13 = .ok (.goto 4, 3) := by decide +kernel
theorem dX12_isDigit_16 : decode cX12_isDigit 16 = .ok (.iconst 0, 1) := by decide +kernel
theorem dX12_isDigit_17 : decode cX12_isDigit 17 = .ok (.ireturn, 1) := by decide +kernel
def fX12_isDigit (N n : Nat) (f : zF) (a0 : Int32) : Option Int32 :=
    (if a0 < (48 : Int32) then zbl (0 : Int32) else (if (57 : Int32) < a0 then zbl (0 : Int32) else zbl (1 : Int32)))
set_option maxRecDepth 100000 in
set_option maxHeartbeats 4000000 in
theorem mX12_isDigit (l : Launch) (G : zG) {N n : Nat} {f : zF} {r : Int32} {a0 : Int32} (h : fX12_isDigit N n f a0 = some r) : zM l G yX12_isDigit cX12_isDigit 1 (some .boolean) 0 n f [.int a0] (some (.int r)) f := by
  refine zM.of (by decide) (Nat.le_of_ble_eq_true rfl) ?_
  intro p e s m args below meth c locs ls B hS hl
  have he := B.1
  have hb := B.2.1
  have hl : lv_has ls 1 [(0, .int a0)] := hl
  unfold fX12_isDigit at h
  generalize s.heap = H at hS ⊢
  refine lv_iload_n he hb dX12_isDigit_0 rfl (lv_at hl 0 rfl) ?_
  refine lv_bipush (v := (48 : Int32)) he hb dX12_isDigit_1 (by decide) ?_
  refine lv_icmp_lt (tgt := 16) he hb dX12_isDigit_3 (by decide) (fun hc => ?_) (fun hc => ?_)
  · rw [if_pos hc] at h
    refine lv_iconst (v := (0 : Int32)) he hb dX12_isDigit_16 (by decide) ?_
    obtain ⟨hz, rfl⟩ := zbl_i h
    exact z_zret B hS hz dX12_isDigit_17
  · rw [if_neg hc] at h
    refine lv_iload_n he hb dX12_isDigit_6 rfl (lv_at hl 0 rfl) ?_
    refine lv_bipush (v := (57 : Int32)) he hb dX12_isDigit_7 (by decide) ?_
    refine lv_icmp_gt (tgt := 16) he hb dX12_isDigit_9 (by decide) (fun hc => ?_) (fun hc => ?_)
    · rw [if_pos hc] at h
      refine lv_iconst (v := (0 : Int32)) he hb dX12_isDigit_16 (by decide) ?_
      obtain ⟨hz, rfl⟩ := zbl_i h
      exact z_zret B hS hz dX12_isDigit_17
    · rw [if_neg hc] at h
      refine lv_iconst (v := (1 : Int32)) he hb dX12_isDigit_12 (by decide) ?_
      refine lv_goto (tgt := 17) he hb dX12_isDigit_13 (by decide) ?_
      obtain ⟨hz, rfl⟩ := zbl_i h
      exact z_zret B hS hz dX12_isDigit_17
theorem dX12_next_0 : decode cX12_next 0 = .ok (.aload_n 0, 1) := by decide +kernel
theorem dX12_next_1 : decode cX12_next 1 = .ok (.invokevirtual 150, 3) := by decide +kernel
theorem dX12_next_4 : decode cX12_next 4 = .ok (.bipush 32, 2) := by decide +kernel
theorem dX12_next_6 : decode cX12_next 6 = .ok (.if_icmp .eq 12, 3) := by decide +kernel
theorem dX12_next_9 : decode cX12_next 9 = .ok (.aload_n 0, 1) := by decide +kernel
theorem dX12_next_10 : decode cX12_next 10 = .ok (.invokevirtual 150, 3) := by decide +kernel
theorem dX12_next_13 : decode cX12_next 13 = .ok (.bipush 10, 2) := by decide +kernel
theorem dX12_next_15 : decode cX12_next 15 = .ok (.if_icmp .ne 16, 3) := by decide +kernel
theorem dX12_next_18 : decode cX12_next 18 = .ok (.aload_n 0, 1) := by decide +kernel
theorem dX12_next_19 : decode cX12_next 19 = .ok (.dup, 1) := by decide +kernel
theorem dX12_next_20 : decode cX12_next 20 = .ok (.getfield 21, 3) := by decide +kernel
theorem dX12_next_23 : decode cX12_next 23 = .ok (.iconst 1, 1) := by decide +kernel
theorem dX12_next_24 : decode cX12_next 24 = .ok (.iadd, 1) := by decide +kernel
theorem dX12_next_25 : decode cX12_next 25 = .ok (.putfield 21, 3) := by decide +kernel
theorem dX12_next_28 : decode cX12_next 28 = .ok (.goto (-28), 3) := by decide +kernel
theorem dX12_next_31 : decode cX12_next 31 = .ok (.aload_n 0, 1) := by decide +kernel
theorem dX12_next_32 : decode cX12_next 32 = .ok (.aload_n 0, 1) := by decide +kernel
theorem dX12_next_33 : decode cX12_next 33 = .ok (.getfield 21, 3) := by decide +kernel
theorem dX12_next_36 : decode cX12_next 36 = .ok (.putfield 154, 3) := by decide +kernel
theorem dX12_next_39 : decode cX12_next 39 = .ok (.aload_n 0, 1) := by decide +kernel
theorem dX12_next_40 : decode cX12_next 40 = .ok (.iconst 0, 1) := by decide +kernel
theorem dX12_next_41 : decode cX12_next 41 = .ok (.putfield 157, 3) := by decide +kernel
theorem dX12_next_44 : decode cX12_next 44 = .ok (.aload_n 0, 1) := by decide +kernel
theorem dX12_next_45 : decode cX12_next 45 = .ok (.getfield 18, 3) := by decide +kernel
theorem dX12_next_48 : decode cX12_next 48 = .ok (.aload_n 0, 1) := by decide +kernel
theorem dX12_next_49 : decode cX12_next 49 = .ok (.getfield 24, 3) := by decide +kernel
theorem dX12_next_52 : decode cX12_next 52 = .ok (.if_icmp .le 28, 3) := by decide +kernel
theorem dX12_next_55 : decode cX12_next 55 = .ok (.aload_n 0, 1) := by decide +kernel
theorem dX12_next_56 : decode cX12_next 56 = .ok (.getfield 21, 3) := by decide +kernel
theorem dX12_next_59 : decode cX12_next 59 = .ok (.aload_n 0, 1) := by decide +kernel
theorem dX12_next_60 : decode cX12_next 60 = .ok (.getfield 24, 3) := by decide +kernel
theorem dX12_next_63 : decode cX12_next 63 = .ok (.if_icmp .lt 17, 3) := by decide +kernel
theorem dX12_next_66 : decode cX12_next 66 = .ok (.aload_n 0, 1) := by decide +kernel
theorem dX12_next_67 : decode cX12_next 67 = .ok (.aload_n 0, 1) := by decide +kernel
theorem dX12_next_68 : decode cX12_next 68 = .ok (.getfield 24, 3) := by decide +kernel
theorem dX12_next_71 : decode cX12_next 71 = .ok (.putfield 154, 3) := by decide +kernel
theorem dX12_next_74 : decode cX12_next 74 = .ok (.aload_n 0, 1) := by decide +kernel
theorem dX12_next_75 : decode cX12_next 75 = .ok (.iconst 4, 1) := by decide +kernel
theorem dX12_next_76 : decode cX12_next 76 = .ok (.putfield 160, 3) := by decide +kernel
theorem dX12_next_79 : decode cX12_next 79 = .ok (.return_, 1) := by decide +kernel
theorem dX12_next_80 : decode cX12_next 80 = .ok (.aload_n 0, 1) := by decide +kernel
theorem dX12_next_81 : decode cX12_next 81 = .ok (.invokevirtual 150, 3) := by decide +kernel
theorem dX12_next_84 : decode cX12_next 84 = .ok (.istore_n 1, 1) := by decide +kernel
theorem dX12_next_85 : decode cX12_next 85 = .ok (.iload_n 1, 1) := by decide +kernel
theorem dX12_next_86 : decode cX12_next 86 = .ok (.ifCond .ge 9, 3) := by decide +kernel
theorem dX12_next_89 : decode cX12_next 89 = .ok (.aload_n 0, 1) := by decide +kernel
theorem dX12_next_90 : decode cX12_next 90 = .ok (.iconst 0, 1) := by decide +kernel
theorem dX12_next_91 : decode cX12_next 91 = .ok (.putfield 160, 3) := by decide +kernel
theorem dX12_next_94 : decode cX12_next 94 = .ok (.return_, 1) := by decide +kernel
theorem dX12_next_95 : decode cX12_next 95 = .ok (.iload_n 1, 1) := by decide +kernel
theorem dX12_next_96 : decode cX12_next 96 = .ok (.invokestatic 163, 3) := by decide +kernel
theorem dX12_next_99 : decode cX12_next 99 = .ok (.ifCond .ne 65, 3) := by decide +kernel
theorem dX12_next_102 : decode cX12_next 102 = .ok (.iload_n 1, 1) := by decide +kernel
theorem dX12_next_103 : decode cX12_next 103 = .ok (.invokestatic 167, 3) := by decide +kernel
theorem dX12_next_106 : decode cX12_next 106 = .ok (.ifCond .ne 58, 3) := by decide +kernel
theorem dX12_next_109 : decode cX12_next 109 = .ok (.aload_n 0, 1) := by decide +kernel
theorem dX12_next_110 : decode cX12_next 110 = .ok (.iload_n 1, 1) := by decide +kernel
theorem dX12_next_111 : decode cX12_next 111 = .ok (.bipush 59, 2) := by decide +kernel
theorem dX12_next_113 : decode cX12_next 113 = .ok (.if_icmp .eq 27, 3) := by decide +kernel
theorem dX12_next_116 : decode cX12_next 116 = .ok (.iload_n 1, 1) := by decide +kernel
theorem dX12_next_117 : decode cX12_next 117 = .ok (.bipush 40, 2) := by decide +kernel
theorem dX12_next_119 : decode cX12_next 119 = .ok (.if_icmp .eq 21, 3) := by decide +kernel
theorem dX12_next_122 : decode cX12_next 122 = .ok (.iload_n 1, 1) := by decide +kernel
theorem dX12_next_123 : decode cX12_next 123 = .ok (.bipush 41, 2) := by decide +kernel
theorem dX12_next_125 : decode cX12_next 125 = .ok (.if_icmp .eq 15, 3) := by decide +kernel
theorem dX12_next_128 : decode cX12_next 128 = .ok (.iload_n 1, 1) := by decide +kernel
theorem dX12_next_129 : decode cX12_next 129 = .ok (.bipush 60, 2) := by decide +kernel
theorem dX12_next_131 : decode cX12_next 131 = .ok (.if_icmp .lt 13, 3) := by decide +kernel
theorem dX12_next_134 : decode cX12_next 134 = .ok (.iload_n 1, 1) := by decide +kernel
theorem dX12_next_135 : decode cX12_next 135 = .ok (.bipush 62, 2) := by decide +kernel
theorem dX12_next_137 : decode cX12_next 137 = .ok (.if_icmp .gt 7, 3) := by decide +kernel
theorem dX12_next_140 : decode cX12_next 140 = .ok (.iconst 3, 1) := by decide +kernel
theorem dX12_next_141 : decode cX12_next 141 = .ok (.goto 4, 3) := by decide +kernel
theorem dX12_next_144 : decode cX12_next 144 = .ok (.iconst 4, 1) := by decide +kernel
theorem dX12_next_145 : decode cX12_next 145 = .ok (.putfield 160, 3) := by decide +kernel
theorem dX12_next_148 : decode cX12_next 148 = .ok (.aload_n 0, 1) := by decide +kernel
theorem dX12_next_149 : decode cX12_next 149 = .ok (.iload_n 1, 1) := by decide +kernel
theorem dX12_next_150 : decode cX12_next 150 = .ok (.putfield 170, 3) := by decide +kernel
theorem dX12_next_153 : decode cX12_next 153 = .ok (.aload_n 0, 1) := by decide +kernel
theorem dX12_next_154 : decode cX12_next 154 = .ok (.dup, 1) := by decide +kernel
theorem dX12_next_155 : decode cX12_next 155 = .ok (.getfield 21, 3) := by decide +kernel
theorem dX12_next_158 : decode cX12_next 158 = .ok (.iconst 1, 1) := by decide +kernel
theorem dX12_next_159 : decode cX12_next 159 = .ok (.iadd, 1) := by decide +kernel
theorem dX12_next_160 : decode cX12_next 160 = .ok (.putfield 21, 3) := by decide +kernel
theorem dX12_next_163 : decode cX12_next 163 = .ok (.return_, 1) := by decide +kernel
theorem dX12_next_164 : decode cX12_next 164 = .ok (.iload_n 1, 1) := by decide +kernel
theorem dX12_next_165 : decode cX12_next 165 = .ok (.invokestatic 163, 3) := by decide +kernel
theorem dX12_next_168 : decode cX12_next 168 = .ok (.istore_n 2, 1) := by decide +kernel
theorem dX12_next_169 : decode cX12_next 169 = .ok (.iconst 1, 1) := by decide +kernel
theorem dX12_next_170 : decode cX12_next 170 = .ok (.istore_n 3, 1) := by decide +kernel
theorem dX12_next_171 : decode cX12_next 171 = .ok (.aload_n 0, 1) := by decide +kernel
theorem dX12_next_172 : decode cX12_next 172 = .ok (.lconst 0, 1) := by decide +kernel
theorem dX12_next_173 : decode cX12_next 173 = .ok (.putfield 173, 3) := by decide +kernel
theorem dX12_next_176 : decode cX12_next 176 = .ok (.aload_n 0, 1) := by decide +kernel
theorem dX12_next_177 : decode cX12_next 177 = .ok (.iconst 0, 1) := by decide +kernel
theorem dX12_next_178 : decode cX12_next 178 = .ok (.putfield 170, 3) := by decide +kernel
theorem dX12_next_181 : decode cX12_next 181 = .ok (.aload_n 0, 1) := by decide +kernel
theorem dX12_next_182 : decode cX12_next 182 = .ok (.invokevirtual 150, 3) := by decide +kernel
theorem dX12_next_185 : decode cX12_next 185 = .ok (.invokestatic 163, 3) := by decide +kernel
theorem dX12_next_188 : decode cX12_next 188 = .ok (.ifCond .ne 13, 3) := by decide +kernel
theorem dX12_next_191 : decode cX12_next 191 = .ok (.aload_n 0, 1) := by decide +kernel
theorem dX12_next_192 : decode cX12_next 192 = .ok (.invokevirtual 150, 3) := by decide +kernel
theorem dX12_next_195 : decode cX12_next 195 = .ok (.invokestatic 167, 3) := by decide +kernel
theorem dX12_next_198 : decode cX12_next 198 = .ok (.ifCond .eq 100, 3) := by decide +kernel
theorem dX12_next_201 : decode cX12_next 201 = .ok (.iload_n 3, 1) := by decide +kernel
theorem dX12_next_202 : decode cX12_next 202 = .ok (.ifCond .eq 18, 3) := by decide +kernel
theorem dX12_next_205 : decode cX12_next 205 = .ok (.aload_n 0, 1) := by decide +kernel
theorem dX12_next_206 : decode cX12_next 206 = .ok (.invokevirtual 150, 3) := by decide +kernel
theorem dX12_next_209 : decode cX12_next 209 = .ok (.invokestatic 163, 3) := by decide +kernel
theorem dX12_next_212 : decode cX12_next 212 = .ok (.iload_n 2, 1) := by decide +kernel
theorem dX12_next_213 : decode cX12_next 213 = .ok (.if_icmp .ne 7, 3) := by decide +kernel
theorem dX12_next_216 : decode cX12_next 216 = .ok (.iconst 1, 1) := by decide +kernel
theorem dX12_next_217 : decode cX12_next 217 = .ok (.goto 4, 3) := by decide +kernel
theorem dX12_next_220 : decode cX12_next 220 = .ok (.iconst 0, 1) := by decide +kernel
theorem dX12_next_221 : decode cX12_next 221 = .ok (.istore_n 3, 1) := by decide +kernel
theorem dX12_next_222 : decode cX12_next 222 = .ok (.aload_n 0, 1) := by decide +kernel
theorem dX12_next_223 : decode cX12_next 223 = .ok (.getfield 157, 3) := by decide +kernel
theorem dX12_next_226 : decode cX12_next 226 = .ok (.bipush 7, 2) := by decide +kernel
theorem dX12_next_228 : decode cX12_next 228 = .ok (.if_icmp .ge 20, 3) := by decide +kernel
theorem dX12_next_231 : decode cX12_next 231 = .ok (.aload_n 0, 1) := by decide +kernel
theorem dX12_next_232 : decode cX12_next 232 = .ok (.aload_n 0, 1) := by decide +kernel
theorem dX12_next_233 : decode cX12_next 233 = .ok (.getfield 173, 3) := by decide +kernel
theorem dX12_next_236 : decode cX12_next 236 = .ok (.bipush 8, 2) := by decide +kernel
theorem dX12_next_238 : decode cX12_next 238 = .ok (.lshl, 1) := by decide +kernel
theorem dX12_next_239 : decode cX12_next 239 = .ok (.aload_n 0, 1) := by decide +kernel
theorem dX12_next_240 : decode cX12_next 240 = .ok (.invokevirtual 150, 3) := by decide +kernel
theorem dX12_next_243 : decode cX12_next 243 = .ok (.i2l, 1) := by decide +kernel
theorem dX12_next_244 : decode cX12_next 244 = .ok (.lor, 1) := by decide +kernel
theorem dX12_next_245 : decode cX12_next 245 = .ok (.putfield 173, 3) := by decide +kernel
theorem dX12_next_248 : decode cX12_next 248 = .ok (.aload_n 0, 1) := by decide +kernel
theorem dX12_next_249 : decode cX12_next 249 = .ok (.getfield 157, 3) := by decide +kernel
theorem dX12_next_252 : decode cX12_next 252 = .ok (.iconst 3, 1) := by decide +kernel
theorem dX12_next_253 : decode cX12_next 253 = .ok (.if_icmp .ge 22, 3) := by decide +kernel
theorem dX12_next_256 : decode cX12_next 256 = .ok (.aload_n 0, 1) := by decide +kernel
theorem dX12_next_257 : decode cX12_next 257 = .ok (.bipush 10, 2) := by decide +kernel
theorem dX12_next_259 : decode cX12_next 259 = .ok (.aload_n 0, 1) := by decide +kernel
theorem dX12_next_260 : decode cX12_next 260 = .ok (.getfield 170, 3) := by decide +kernel
theorem dX12_next_263 : decode cX12_next 263 = .ok (.imul, 1) := by decide +kernel
theorem dX12_next_264 : decode cX12_next 264 = .ok (.aload_n 0, 1) := by decide +kernel
theorem dX12_next_265 : decode cX12_next 265 = .ok (.invokevirtual 150, 3) := by decide +kernel
theorem dX12_next_268 : decode cX12_next 268 = .ok (.iadd, 1) := by decide +kernel
theorem dX12_next_269 : decode cX12_next 269 = .ok (.bipush 48, 2) := by decide +kernel
theorem dX12_next_271 : decode cX12_next 271 = .ok (.isub, 1) := by decide +kernel
theorem dX12_next_272 : decode cX12_next 272 = .ok (.putfield 170, 3) := by decide +kernel
theorem dX12_next_275 : decode cX12_next 275 = .ok (.aload_n 0, 1) := by decide +kernel
theorem dX12_next_276 : decode cX12_next 276 = .ok (.dup, 1) := by decide +kernel
theorem dX12_next_277 : decode cX12_next 277 = .ok (.getfield 157, 3) := by decide +kernel
theorem dX12_next_280 : decode cX12_next 280 = .ok (.iconst 1, 1) := by decide +kernel
theorem dX12_next_281 : decode cX12_next 281 = .ok (.iadd, 1) := by decide +kernel
theorem dX12_next_282 : decode cX12_next 282 = .ok (.putfield 157, 3) := by decide +kernel
theorem dX12_next_285 : decode cX12_next 285 = .ok (.aload_n 0, 1) := by decide +kernel
theorem dX12_next_286 : decode cX12_next 286 = .ok (.dup, 1) := by decide +kernel
theorem dX12_next_287 : decode cX12_next 287 = .ok (.getfield 21, 3) := by decide +kernel
theorem dX12_next_290 : decode cX12_next 290 = .ok (.iconst 1, 1) := by decide +kernel
theorem dX12_next_291 : decode cX12_next 291 = .ok (.iadd, 1) := by decide +kernel
theorem dX12_next_292 : decode cX12_next 292 = .ok (.putfield 21, 3) := by decide +kernel
theorem dX12_next_295 : decode cX12_next 295 = .ok (.goto (-114), 3) := by decide +kernel
theorem dX12_next_298 : decode cX12_next 298 = .ok (.aload_n 0, 1) := by decide +kernel
theorem dX12_next_299 : decode cX12_next 299 = .ok (.iload_n 3, 1) := by decide +kernel
theorem dX12_next_300 : decode cX12_next 300 = .ok (.ifCond .eq 20, 3) := by decide +kernel
theorem dX12_next_303 : decode cX12_next 303 = .ok (.aload_n 0, 1) := by decide +kernel
theorem dX12_next_304 : decode cX12_next 304 = .ok (.getfield 157, 3) := by decide +kernel
theorem dX12_next_307 : decode cX12_next 307 = .ok (.iload_n 2, 1) := by decide +kernel
theorem dX12_next_308 : decode cX12_next 308 = .ok (.ifCond .eq 8, 3) := by decide +kernel
theorem dX12_next_311 : decode cX12_next 311 = .ok (.bipush 7, 2) := by decide +kernel
theorem dX12_next_313 : decode cX12_next 313 = .ok (.goto 4, 3) := by decide +kernel
theorem dX12_next_316 : decode cX12_next 316 = .ok (.iconst 3, 1) := by decide +kernel
theorem dX12_next_317 : decode cX12_next 317 = .ok (.if_icmp .le 7, 3) := by decide +kernel
theorem dX12_next_320 : decode cX12_next 320 = .ok (.iconst 4, 1) := by decide +kernel
theorem dX12_next_321 : decode cX12_next 321 = .ok (.goto 12, 3) := by decide +kernel
theorem dX12_next_324 : decode cX12_next 324 = .ok (.iload_n 2, 1) := by decide +kernel
theorem dX12_next_325 : decode cX12_next 325 = .ok (.ifCond .eq 7, 3) := by decide +kernel
theorem dX12_next_328 : decode cX12_next 328 = .ok (.iconst 1, 1) := by decide +kernel
theorem dX12_next_329 : decode cX12_next 329 = .ok (.goto 4, 3) := by decide +kernel
theorem dX12_next_332 : decode cX12_next 332 = .ok (.iconst 2, 1) := by decide +kernel
theorem dX12_next_333 : decode cX12_next 333 = .ok (.putfield 160, 3) := by decide +kernel
theorem dX12_next_336 : decode cX12_next 336 = .ok (.return_, 1) := by decide +kernel
def fX12_next_18 (r0 : zF → Nat → Option zF) (N n : Nat) (f : zF) (a0 : Nat) : Option zF :=
    ((zgI n f 12 a0 4).bind fun x2 => ((zpI n f 12 a0 4 (x2 + (1 : Int32))).bind fun f3 => (r0 f3 a0)))
set_option maxRecDepth 100000 in
set_option maxHeartbeats 4000000 in
theorem gX12_next_18 (l : Launch) {G : zG} {p : Program} {e : Env} {s : State} {m : MethodId} {args : Array Value} {below : List Frame} {meth : Method} {c : Code} {N n : Nat} {f9 : zF} {r0 : zF → Nat → Option zF} (B : zB G p s m args meth c RX12 cX12_next 4 (none)) (hr0 : ∀ (f : zF) (a0 : Nat) (H : Heap) (locs : List Loc) (ls : Array Slot), r0 f a0 = some f9 → zS G n f H locs → lv_has ls 4 [(0, zr G a0)] → W p l e (zrm 1) s m args below meth c H locs 0 0 (MQ below (zQc G n f9 (none)) args s 0 0 (zA G)) (F0 m 0 ls [])) : ∀ (f : zF) (a0 : Nat) (H : Heap) (locs : List Loc) (ls : Array Slot), fX12_next_18 r0 N n f a0 = some f9 → zS G n f H locs → lv_has ls 4 [(0, zr G a0)] → W p l e (zrm 1) s m args below meth c H locs 0 0 (MQ below (zQc G n f9 (none)) args s 0 0 (zA G)) (F0 m 18 ls []) := by
  have he := B.1
  have hb := B.2.1
  intro f a0 H locs ls h hS hl
  unfold fX12_next_18 at h
  refine z_aload_n he hb dX12_next_18 rfl (lv_at hl 0 rfl) (zref_r _ _) ?_
  refine lv_dup he hb dX12_next_19 rfl ?_
  obtain ⟨x2, hx, h⟩ := zob h
  refine z_getI (ci := 12) (T := TX12) (N := 50) (j := 4) B hS hx rfl zin_X12 (by decide) zk_1351 dX12_next_20 ?_
  refine lv_iconst (v := (1 : Int32)) he hb dX12_next_23 (by decide) ?_
  refine lv_iadd he hb dX12_next_24 ?_
  obtain ⟨f3, hx, h⟩ := zob h
  refine z_putI (ci := 12) (T := TX12) (N := 50) (j := 4) B hS hx rfl zin_X12 tyX12 tyX12_ok nmX12 (by decide) zk_1351 rfl rfl dX12_next_25 (fun H locs hS => ?_)
  refine lv_goto (tgt := 0) he hb dX12_next_28 (by decide) ?_
  exact hr0 _ _ _ _ _ h hS (lv_sub hl [0] rfl)
def fX12_next_275 (r181 : zF → Nat → Int32 → Int32 → Option zF) (N n : Nat) (f : zF) (a0 : Nat) (a2 : Int32) (a3 : Int32) : Option zF :=
    ((zgI n f 12 a0 13).bind fun x19 => ((zpI n f 12 a0 13 (x19 + (1 : Int32))).bind fun f20 => ((zgI n f20 12 a0 4).bind fun x21 => ((zpI n f20 12 a0 4 (x21 + (1 : Int32))).bind fun f22 => (r181 f22 a0 a2 a3)))))
set_option maxRecDepth 100000 in
set_option maxHeartbeats 4000000 in
theorem gX12_next_275 (l : Launch) {G : zG} {p : Program} {e : Env} {s : State} {m : MethodId} {args : Array Value} {below : List Frame} {meth : Method} {c : Code} {N n : Nat} {f9 : zF} {r181 : zF → Nat → Int32 → Int32 → Option zF} (B : zB G p s m args meth c RX12 cX12_next 4 (none)) (hr181 : ∀ (f : zF) (a0 : Nat) (a2 : Int32) (a3 : Int32) (H : Heap) (locs : List Loc) (ls : Array Slot), r181 f a0 a2 a3 = some f9 → zS G n f H locs → lv_has ls 4 [(0, zr G a0), (2, .int a2), (3, .int a3)] → W p l e (zrm 1) s m args below meth c H locs 0 0 (MQ below (zQc G n f9 (none)) args s 0 0 (zA G)) (F0 m 181 ls [])) : ∀ (f : zF) (a0 : Nat) (a2 : Int32) (a3 : Int32) (H : Heap) (locs : List Loc) (ls : Array Slot), fX12_next_275 r181 N n f a0 a2 a3 = some f9 → zS G n f H locs → lv_has ls 4 [(0, zr G a0), (2, .int a2), (3, .int a3)] → W p l e (zrm 1) s m args below meth c H locs 0 0 (MQ below (zQc G n f9 (none)) args s 0 0 (zA G)) (F0 m 275 ls []) := by
  have he := B.1
  have hb := B.2.1
  intro f a0 a2 a3 H locs ls h hS hl
  unfold fX12_next_275 at h
  refine z_aload_n he hb dX12_next_275 rfl (lv_at hl 0 rfl) (zref_r _ _) ?_
  refine lv_dup he hb dX12_next_276 rfl ?_
  obtain ⟨x19, hx, h⟩ := zob h
  refine z_getI (ci := 12) (T := TX12) (N := 50) (j := 13) B hS hx rfl zin_X12 (by decide) zk_1360 dX12_next_277 ?_
  refine lv_iconst (v := (1 : Int32)) he hb dX12_next_280 (by decide) ?_
  refine lv_iadd he hb dX12_next_281 ?_
  obtain ⟨f20, hx, h⟩ := zob h
  refine z_putI (ci := 12) (T := TX12) (N := 50) (j := 13) B hS hx rfl zin_X12 tyX12 tyX12_ok nmX12 (by decide) zk_1360 rfl rfl dX12_next_282 (fun H locs hS => ?_)
  refine z_aload_n he hb dX12_next_285 rfl (lv_at hl 0 rfl) (zref_r _ _) ?_
  refine lv_dup he hb dX12_next_286 rfl ?_
  obtain ⟨x21, hx, h⟩ := zob h
  refine z_getI (ci := 12) (T := TX12) (N := 50) (j := 4) B hS hx rfl zin_X12 (by decide) zk_1351 dX12_next_287 ?_
  refine lv_iconst (v := (1 : Int32)) he hb dX12_next_290 (by decide) ?_
  refine lv_iadd he hb dX12_next_291 ?_
  obtain ⟨f22, hx, h⟩ := zob h
  refine z_putI (ci := 12) (T := TX12) (N := 50) (j := 4) B hS hx rfl zin_X12 tyX12 tyX12_ok nmX12 (by decide) zk_1351 rfl rfl dX12_next_292 (fun H locs hS => ?_)
  refine lv_goto (tgt := 181) he hb dX12_next_295 (by decide) ?_
  exact hr181 _ _ _ _ _ _ _ h hS (lv_sub hl [0, 1, 2] rfl)
def fX12_next_248 (r181 : zF → Nat → Int32 → Int32 → Option zF) (N n : Nat) (f : zF) (a0 : Nat) (a2 : Int32) (a3 : Int32) : Option zF :=
    ((zgI n f 12 a0 13).bind fun x18 => (if (3 : Int32) ≤ x18 then (fX12_next_275 r181 N n f a0 a2 a3) else ((zgI n f 12 a0 14).bind fun x23 => ((zck n f 12 a0).bind fun _ => ((fX12_peek N n f a0).bind fun x24 => ((zpI n f 12 a0 14 ((((10 : Int32) * x23) + x24) - (48 : Int32))).bind fun f25 => (fX12_next_275 r181 N n f25 a0 a2 a3)))))))
set_option maxRecDepth 100000 in
set_option maxHeartbeats 4000000 in
theorem gX12_next_248 (l : Launch) {G : zG} {p : Program} {e : Env} {s : State} {m : MethodId} {args : Array Value} {below : List Frame} {meth : Method} {c : Code} {N n : Nat} {f9 : zF} {r181 : zF → Nat → Int32 → Int32 → Option zF} (B : zB G p s m args meth c RX12 cX12_next 4 (none)) (hr181 : ∀ (f : zF) (a0 : Nat) (a2 : Int32) (a3 : Int32) (H : Heap) (locs : List Loc) (ls : Array Slot), r181 f a0 a2 a3 = some f9 → zS G n f H locs → lv_has ls 4 [(0, zr G a0), (2, .int a2), (3, .int a3)] → W p l e (zrm 1) s m args below meth c H locs 0 0 (MQ below (zQc G n f9 (none)) args s 0 0 (zA G)) (F0 m 181 ls [])) : ∀ (f : zF) (a0 : Nat) (a2 : Int32) (a3 : Int32) (H : Heap) (locs : List Loc) (ls : Array Slot), fX12_next_248 r181 N n f a0 a2 a3 = some f9 → zS G n f H locs → lv_has ls 4 [(0, zr G a0), (2, .int a2), (3, .int a3)] → W p l e (zrm 1) s m args below meth c H locs 0 0 (MQ below (zQc G n f9 (none)) args s 0 0 (zA G)) (F0 m 248 ls []) := by
  have he := B.1
  have hb := B.2.1
  intro f a0 a2 a3 H locs ls h hS hl
  unfold fX12_next_248 at h
  refine z_aload_n he hb dX12_next_248 rfl (lv_at hl 0 rfl) (zref_r _ _) ?_
  obtain ⟨x18, hx, h⟩ := zob h
  refine z_getI (ci := 12) (T := TX12) (N := 50) (j := 13) B hS hx rfl zin_X12 (by decide) zk_1360 dX12_next_249 ?_
  refine lv_iconst (v := (3 : Int32)) he hb dX12_next_252 (by decide) ?_
  refine lv_icmp_ge (tgt := 275) he hb dX12_next_253 (by decide) (fun hc => ?_) (fun hc => ?_)
  · rw [if_pos hc] at h
    exact gX12_next_275 l B hr181 _ _ _ _ _ _ _ h hS (lv_sub hl [0, 1, 2] rfl)
  · rw [if_neg hc] at h
    refine z_aload_n he hb dX12_next_256 rfl (lv_at hl 0 rfl) (zref_r _ _) ?_
    refine lv_bipush (v := (10 : Int32)) he hb dX12_next_257 (by decide) ?_
    refine z_aload_n he hb dX12_next_259 rfl (lv_at hl 0 rfl) (zref_r _ _) ?_
    obtain ⟨x23, hx, h⟩ := zob h
    refine z_getI (ci := 12) (T := TX12) (N := 50) (j := 14) B hS hx rfl zin_X12 (by decide) zk_1361 dX12_next_260 ?_
    refine lv_imul he hb dX12_next_263 ?_
    refine z_aload_n he hb dX12_next_264 rfl (lv_at hl 0 rfl) (zref_r _ _) ?_
    obtain ⟨_, hc, h⟩ := zob h
    obtain ⟨x24, hx, h⟩ := zob h
    refine z_callV (ci := 12) (T := TX12) (N := 50) (rest := [_, _]) B hS (mX12_peek l G hx) zy_X12_peek zk_1511 (by decide) hc rfl rfl hl rfl (Nat.le_of_ble_eq_true rfl) dX12_next_265 (kk := (fun H locs hS => ?_))
    refine lv_iadd he hb dX12_next_268 ?_
    refine lv_bipush (v := (48 : Int32)) he hb dX12_next_269 (by decide) ?_
    refine lv_isub he hb dX12_next_271 ?_
    obtain ⟨f25, hx, h⟩ := zob h
    refine z_putI (ci := 12) (T := TX12) (N := 50) (j := 14) B hS hx rfl zin_X12 tyX12 tyX12_ok nmX12 (by decide) zk_1361 rfl rfl dX12_next_272 (fun H locs hS => ?_)
    exact gX12_next_275 l B hr181 _ _ _ _ _ _ _ h hS (lv_sub hl [0, 1, 2] rfl)
def fX12_next_221 (r181 : zF → Nat → Int32 → Int32 → Option zF) (N n : Nat) (f : zF) (a0 : Nat) (a2 : Int32) (t0 : Int32) : Option zF :=
    ((zgI n f 12 a0 13).bind fun x17 => (if (7 : Int32) ≤ x17 then (fX12_next_248 r181 N n f a0 a2 t0) else ((zgL n f 12 a0 17).bind fun x26 => ((zck n f 12 a0).bind fun _ => ((fX12_peek N n f a0).bind fun x27 => ((zpL n f 12 a0 17 ((zlshl x26 (8 : Int32)) ||| (x27.toInt64))).bind fun f28 => (fX12_next_248 r181 N n f28 a0 a2 t0)))))))
set_option maxRecDepth 100000 in
set_option maxHeartbeats 4000000 in
theorem gX12_next_221 (l : Launch) {G : zG} {p : Program} {e : Env} {s : State} {m : MethodId} {args : Array Value} {below : List Frame} {meth : Method} {c : Code} {N n : Nat} {f9 : zF} {r181 : zF → Nat → Int32 → Int32 → Option zF} (B : zB G p s m args meth c RX12 cX12_next 4 (none)) (hr181 : ∀ (f : zF) (a0 : Nat) (a2 : Int32) (a3 : Int32) (H : Heap) (locs : List Loc) (ls : Array Slot), r181 f a0 a2 a3 = some f9 → zS G n f H locs → lv_has ls 4 [(0, zr G a0), (2, .int a2), (3, .int a3)] → W p l e (zrm 1) s m args below meth c H locs 0 0 (MQ below (zQc G n f9 (none)) args s 0 0 (zA G)) (F0 m 181 ls [])) : ∀ (f : zF) (a0 : Nat) (a2 : Int32) (t0 : Int32) (H : Heap) (locs : List Loc) (ls : Array Slot), fX12_next_221 r181 N n f a0 a2 t0 = some f9 → zS G n f H locs → lv_has ls 4 [(0, zr G a0), (2, .int a2)] → W p l e (zrm 1) s m args below meth c H locs 0 0 (MQ below (zQc G n f9 (none)) args s 0 0 (zA G)) (F0 m 221 ls [.int t0]) := by
  have he := B.1
  have hb := B.2.1
  intro f a0 a2 t0 H locs ls h hS hl
  unfold fX12_next_221 at h
  refine lv_istore_n (lv' := [(3, _), (0, _), (2, _)]) he hb dX12_next_221 rfl hl (by decide) rfl (fun ls hl => ?_)
  refine z_aload_n he hb dX12_next_222 rfl (lv_at hl 1 rfl) (zref_r _ _) ?_
  obtain ⟨x17, hx, h⟩ := zob h
  refine z_getI (ci := 12) (T := TX12) (N := 50) (j := 13) B hS hx rfl zin_X12 (by decide) zk_1360 dX12_next_223 ?_
  refine lv_bipush (v := (7 : Int32)) he hb dX12_next_226 (by decide) ?_
  refine lv_icmp_ge (tgt := 248) he hb dX12_next_228 (by decide) (fun hc => ?_) (fun hc => ?_)
  · rw [if_pos hc] at h
    exact gX12_next_248 l B hr181 _ _ _ _ _ _ _ h hS (lv_sub hl [1, 2, 0] rfl)
  · rw [if_neg hc] at h
    refine z_aload_n he hb dX12_next_231 rfl (lv_at hl 1 rfl) (zref_r _ _) ?_
    refine z_aload_n he hb dX12_next_232 rfl (lv_at hl 1 rfl) (zref_r _ _) ?_
    obtain ⟨x26, hx, h⟩ := zob h
    refine z_getL (ci := 12) (T := TX12) (N := 50) (j := 17) B hS hx rfl zin_X12 (by decide) zk_1364 dX12_next_233 ?_
    refine lv_bipush (v := (8 : Int32)) he hb dX12_next_236 (by decide) ?_
    refine z_lshl he hb dX12_next_238 ?_
    refine z_aload_n he hb dX12_next_239 rfl (lv_at hl 1 rfl) (zref_r _ _) ?_
    obtain ⟨_, hc, h⟩ := zob h
    obtain ⟨x27, hx, h⟩ := zob h
    refine z_callV (ci := 12) (T := TX12) (N := 50) (rest := [_, _]) B hS (mX12_peek l G hx) zy_X12_peek zk_1511 (by decide) hc rfl rfl hl rfl (Nat.le_of_ble_eq_true rfl) dX12_next_240 (kk := (fun H locs hS => ?_))
    refine lv_i2l (v := (x27.toInt64)) he hb dX12_next_243 rfl ?_
    refine lv_lor he hb dX12_next_244 ?_
    obtain ⟨f28, hx, h⟩ := zob h
    refine z_putL (ci := 12) (T := TX12) (N := 50) (j := 17) B hS hx rfl zin_X12 tyX12 tyX12_ok nmX12 (by decide) zk_1364 rfl rfl dX12_next_245 (fun H locs hS => ?_)
    exact gX12_next_248 l B hr181 _ _ _ _ _ _ _ h hS (lv_sub hl [1, 2, 0] rfl)
def fX12_next_220 (r181 : zF → Nat → Int32 → Int32 → Option zF) (N n : Nat) (f : zF) (a0 : Nat) (a2 : Int32) : Option zF :=
    (fX12_next_221 r181 N n f a0 a2 (0 : Int32))
set_option maxRecDepth 100000 in
set_option maxHeartbeats 4000000 in
theorem gX12_next_220 (l : Launch) {G : zG} {p : Program} {e : Env} {s : State} {m : MethodId} {args : Array Value} {below : List Frame} {meth : Method} {c : Code} {N n : Nat} {f9 : zF} {r181 : zF → Nat → Int32 → Int32 → Option zF} (B : zB G p s m args meth c RX12 cX12_next 4 (none)) (hr181 : ∀ (f : zF) (a0 : Nat) (a2 : Int32) (a3 : Int32) (H : Heap) (locs : List Loc) (ls : Array Slot), r181 f a0 a2 a3 = some f9 → zS G n f H locs → lv_has ls 4 [(0, zr G a0), (2, .int a2), (3, .int a3)] → W p l e (zrm 1) s m args below meth c H locs 0 0 (MQ below (zQc G n f9 (none)) args s 0 0 (zA G)) (F0 m 181 ls [])) : ∀ (f : zF) (a0 : Nat) (a2 : Int32) (H : Heap) (locs : List Loc) (ls : Array Slot), fX12_next_220 r181 N n f a0 a2 = some f9 → zS G n f H locs → lv_has ls 4 [(0, zr G a0), (2, .int a2)] → W p l e (zrm 1) s m args below meth c H locs 0 0 (MQ below (zQc G n f9 (none)) args s 0 0 (zA G)) (F0 m 220 ls []) := by
  have he := B.1
  have hb := B.2.1
  intro f a0 a2 H locs ls h hS hl
  unfold fX12_next_220 at h
  refine lv_iconst (v := (0 : Int32)) he hb dX12_next_220 (by decide) ?_
  exact gX12_next_221 l B hr181 _ _ _ _ _ _ _ h hS (lv_sub hl [0, 1] rfl)
def fX12_next_201 (r181 : zF → Nat → Int32 → Int32 → Option zF) (N n : Nat) (f : zF) (a0 : Nat) (a2 : Int32) (a3 : Int32) : Option zF :=
    (if a3 = 0 then (fX12_next_220 r181 N n f a0 a2) else ((zck n f 12 a0).bind fun _ => ((fX12_peek N n f a0).bind fun x29 => ((fX12_isSmall N n f x29).bind fun x30 => (if x30 = a2 then (fX12_next_221 r181 N n f a0 a2 (1 : Int32)) else (fX12_next_220 r181 N n f a0 a2))))))
set_option maxRecDepth 100000 in
set_option maxHeartbeats 4000000 in
theorem gX12_next_201 (l : Launch) {G : zG} {p : Program} {e : Env} {s : State} {m : MethodId} {args : Array Value} {below : List Frame} {meth : Method} {c : Code} {N n : Nat} {f9 : zF} {r181 : zF → Nat → Int32 → Int32 → Option zF} (B : zB G p s m args meth c RX12 cX12_next 4 (none)) (hr181 : ∀ (f : zF) (a0 : Nat) (a2 : Int32) (a3 : Int32) (H : Heap) (locs : List Loc) (ls : Array Slot), r181 f a0 a2 a3 = some f9 → zS G n f H locs → lv_has ls 4 [(0, zr G a0), (2, .int a2), (3, .int a3)] → W p l e (zrm 1) s m args below meth c H locs 0 0 (MQ below (zQc G n f9 (none)) args s 0 0 (zA G)) (F0 m 181 ls [])) : ∀ (f : zF) (a0 : Nat) (a2 : Int32) (a3 : Int32) (H : Heap) (locs : List Loc) (ls : Array Slot), fX12_next_201 r181 N n f a0 a2 a3 = some f9 → zS G n f H locs → lv_has ls 4 [(0, zr G a0), (2, .int a2), (3, .int a3)] → W p l e (zrm 1) s m args below meth c H locs 0 0 (MQ below (zQc G n f9 (none)) args s 0 0 (zA G)) (F0 m 201 ls []) := by
  have he := B.1
  have hb := B.2.1
  intro f a0 a2 a3 H locs ls h hS hl
  unfold fX12_next_201 at h
  refine lv_iload_n he hb dX12_next_201 rfl (lv_at hl 2 rfl) ?_
  refine lv_if_eq (tgt := 220) he hb dX12_next_202 (by decide) (fun hc => ?_) (fun hc => ?_)
  · rw [if_pos hc] at h
    exact gX12_next_220 l B hr181 _ _ _ _ _ _ h hS (lv_sub hl [0, 1] rfl)
  · rw [if_neg hc] at h
    refine z_aload_n he hb dX12_next_205 rfl (lv_at hl 0 rfl) (zref_r _ _) ?_
    obtain ⟨_, hc, h⟩ := zob h
    obtain ⟨x29, hx, h⟩ := zob h
    refine z_callV (ci := 12) (T := TX12) (N := 50) (rest := []) B hS (mX12_peek l G hx) zy_X12_peek zk_1511 (by decide) hc rfl rfl hl rfl (Nat.le_of_ble_eq_true rfl) dX12_next_206 (kk := (fun H locs hS => ?_))
    obtain ⟨x30, hx, h⟩ := zob h
    refine z_callS (rest := []) B hS (mX12_isSmall l G hx) zy_X12_isSmall zk_1515 (by decide) rfl hl rfl (Nat.le_of_ble_eq_true rfl) dX12_next_209 (kk := (fun H locs hS => ?_))
    refine lv_iload_n he hb dX12_next_212 rfl (lv_at hl 1 rfl) ?_
    refine lv_icmp_ne (tgt := 220) he hb dX12_next_213 (by decide) (fun hc => ?_) (fun hc => ?_)
    · rw [if_neg hc] at h
      exact gX12_next_220 l B hr181 _ _ _ _ _ _ h hS (lv_sub hl [0, 1] rfl)
    · rw [if_pos hc] at h
      refine lv_iconst (v := (1 : Int32)) he hb dX12_next_216 (by decide) ?_
      refine lv_goto (tgt := 221) he hb dX12_next_217 (by decide) ?_
      exact gX12_next_221 l B hr181 _ _ _ _ _ _ _ h hS (lv_sub hl [0, 1] rfl)
def fX12_next_333 (N n : Nat) (f : zF) (t0 : Nat) (t1 : Int32) : Option zF :=
    ((zpI n f 12 t0 11 t1).bind fun f33 => some f33)
set_option maxRecDepth 100000 in
set_option maxHeartbeats 4000000 in
theorem gX12_next_333 (l : Launch) {G : zG} {p : Program} {e : Env} {s : State} {m : MethodId} {args : Array Value} {below : List Frame} {meth : Method} {c : Code} {N n : Nat} {f9 : zF} (B : zB G p s m args meth c RX12 cX12_next 4 (none)) : ∀ (f : zF) (t0 : Nat) (t1 : Int32) (H : Heap) (locs : List Loc) (ls : Array Slot), fX12_next_333 N n f t0 t1 = some f9 → zS G n f H locs → lv_has ls 4 [] → W p l e (zrm 1) s m args below meth c H locs 0 0 (MQ below (zQc G n f9 (none)) args s 0 0 (zA G)) (F0 m 333 ls [.int t1, zr G t0]) := by
  have he := B.1
  have hb := B.2.1
  intro f t0 t1 H locs ls h hS hl
  unfold fX12_next_333 at h
  obtain ⟨f33, hx, h⟩ := zob h
  refine z_putI (ci := 12) (T := TX12) (N := 50) (j := 11) B hS hx rfl zin_X12 tyX12 tyX12_ok nmX12 (by decide) zk_1358 rfl rfl dX12_next_333 (fun H locs hS => ?_)
  obtain rfl := Option.some.inj h
  exact z_vret B hS dX12_next_336
def fX12_next_320 (N n : Nat) (f : zF) (t0 : Nat) : Option zF :=
    (fX12_next_333 N n f t0 (4 : Int32))
set_option maxRecDepth 100000 in
set_option maxHeartbeats 4000000 in
theorem gX12_next_320 (l : Launch) {G : zG} {p : Program} {e : Env} {s : State} {m : MethodId} {args : Array Value} {below : List Frame} {meth : Method} {c : Code} {N n : Nat} {f9 : zF} (B : zB G p s m args meth c RX12 cX12_next 4 (none)) : ∀ (f : zF) (t0 : Nat) (H : Heap) (locs : List Loc) (ls : Array Slot), fX12_next_320 N n f t0 = some f9 → zS G n f H locs → lv_has ls 4 [] → W p l e (zrm 1) s m args below meth c H locs 0 0 (MQ below (zQc G n f9 (none)) args s 0 0 (zA G)) (F0 m 320 ls [zr G t0]) := by
  have he := B.1
  have hb := B.2.1
  intro f t0 H locs ls h hS hl
  unfold fX12_next_320 at h
  refine lv_iconst (v := (4 : Int32)) he hb dX12_next_320 (by decide) ?_
  refine lv_goto (tgt := 333) he hb dX12_next_321 (by decide) ?_
  exact gX12_next_333 l B _ _ _ _ _ _ h hS (lv_sub hl [] rfl)
def fX12_next_317 (N n : Nat) (f : zF) (a2 : Int32) (t0 : Nat) (t1 : Int32) (t2 : Int32) : Option zF :=
    (if t1 ≤ t2 then (if a2 = 0 then (fX12_next_333 N n f t0 (2 : Int32)) else (fX12_next_333 N n f t0 (1 : Int32))) else (fX12_next_320 N n f t0))
set_option maxRecDepth 100000 in
set_option maxHeartbeats 4000000 in
theorem gX12_next_317 (l : Launch) {G : zG} {p : Program} {e : Env} {s : State} {m : MethodId} {args : Array Value} {below : List Frame} {meth : Method} {c : Code} {N n : Nat} {f9 : zF} (B : zB G p s m args meth c RX12 cX12_next 4 (none)) : ∀ (f : zF) (a2 : Int32) (t0 : Nat) (t1 : Int32) (t2 : Int32) (H : Heap) (locs : List Loc) (ls : Array Slot), fX12_next_317 N n f a2 t0 t1 t2 = some f9 → zS G n f H locs → lv_has ls 4 [(2, .int a2)] → W p l e (zrm 1) s m args below meth c H locs 0 0 (MQ below (zQc G n f9 (none)) args s 0 0 (zA G)) (F0 m 317 ls [.int t2, .int t1, zr G t0]) := by
  have he := B.1
  have hb := B.2.1
  intro f a2 t0 t1 t2 H locs ls h hS hl
  unfold fX12_next_317 at h
  refine lv_icmp_le (tgt := 324) he hb dX12_next_317 (by decide) (fun hc => ?_) (fun hc => ?_)
  · rw [if_pos hc] at h
    refine lv_iload_n he hb dX12_next_324 rfl (lv_at hl 0 rfl) ?_
    refine lv_if_eq (tgt := 332) he hb dX12_next_325 (by decide) (fun hc => ?_) (fun hc => ?_)
    · rw [if_pos hc] at h
      refine lv_iconst (v := (2 : Int32)) he hb dX12_next_332 (by decide) ?_
      exact gX12_next_333 l B _ _ _ _ _ _ h hS (lv_sub hl [] rfl)
    · rw [if_neg hc] at h
      refine lv_iconst (v := (1 : Int32)) he hb dX12_next_328 (by decide) ?_
      refine lv_goto (tgt := 333) he hb dX12_next_329 (by decide) ?_
      exact gX12_next_333 l B _ _ _ _ _ _ h hS (lv_sub hl [] rfl)
  · rw [if_neg hc] at h
    exact gX12_next_320 l B _ _ _ _ _ h hS (lv_sub hl [] rfl)
def fX12_next_181 (N n : Nat) : Nat → zF → Nat → Int32 → Int32 → Option zF
  | 0, _, _, _, _ => none
  | k + 1, f, a0, a2, a3 =>
    ((zck n f 12 a0).bind fun _ => ((fX12_peek N n f a0).bind fun x15 => ((fX12_isSmall N n f x15).bind fun x16 => (if x16 = 0 then ((zck n f 12 a0).bind fun _ => ((fX12_peek N n f a0).bind fun x31 => ((fX12_isDigit N n f x31).bind fun x32 => (if x32 = 0 then (if a3 = 0 then (fX12_next_320 N n f a0) else ((zgI n f 12 a0 13).bind fun x34 => (if a2 = 0 then (fX12_next_317 N n f a2 a0 x34 (3 : Int32)) else (fX12_next_317 N n f a2 a0 x34 (7 : Int32))))) else (fX12_next_201 (fX12_next_181 N n k) N n f a0 a2 a3))))) else (fX12_next_201 (fX12_next_181 N n k) N n f a0 a2 a3)))))
set_option maxRecDepth 100000 in
set_option maxHeartbeats 4000000 in
theorem gX12_next_181 (l : Launch) {G : zG} {p : Program} {e : Env} {s : State} {m : MethodId} {args : Array Value} {below : List Frame} {meth : Method} {c : Code} {N n : Nat} {f9 : zF} (B : zB G p s m args meth c RX12 cX12_next 4 (none)) : ∀ (k : Nat), ∀ (f : zF) (a0 : Nat) (a2 : Int32) (a3 : Int32) (H : Heap) (locs : List Loc) (ls : Array Slot), fX12_next_181 N n k f a0 a2 a3 = some f9 → zS G n f H locs → lv_has ls 4 [(0, zr G a0), (2, .int a2), (3, .int a3)] → W p l e (zrm 1) s m args below meth c H locs 0 0 (MQ below (zQc G n f9 (none)) args s 0 0 (zA G)) (F0 m 181 ls []) := by
  have he := B.1
  have hb := B.2.1
  intro k
  induction k with
  | zero =>
    intro f a0 a2 a3 H locs ls h
    unfold fX12_next_181 at h
    cases h
  | succ k ih =>
    intro f a0 a2 a3 H locs ls h hS hl
    unfold fX12_next_181 at h
    refine z_aload_n he hb dX12_next_181 rfl (lv_at hl 0 rfl) (zref_r _ _) ?_
    obtain ⟨_, hc, h⟩ := zob h
    obtain ⟨x15, hx, h⟩ := zob h
    refine z_callV (ci := 12) (T := TX12) (N := 50) (rest := []) B hS (mX12_peek l G hx) zy_X12_peek zk_1511 (by decide) hc rfl rfl hl rfl (Nat.le_of_ble_eq_true rfl) dX12_next_182 (kk := (fun H locs hS => ?_))
    obtain ⟨x16, hx, h⟩ := zob h
    refine z_callS (rest := []) B hS (mX12_isSmall l G hx) zy_X12_isSmall zk_1515 (by decide) rfl hl rfl (Nat.le_of_ble_eq_true rfl) dX12_next_185 (kk := (fun H locs hS => ?_))
    refine lv_if_ne (tgt := 201) he hb dX12_next_188 (by decide) (fun hc => ?_) (fun hc => ?_)
    · rw [if_neg hc] at h
      exact gX12_next_201 l B ih _ _ _ _ _ _ _ h hS (lv_sub hl [0, 1, 2] rfl)
    · rw [if_pos hc] at h
      refine z_aload_n he hb dX12_next_191 rfl (lv_at hl 0 rfl) (zref_r _ _) ?_
      obtain ⟨_, hc, h⟩ := zob h
      obtain ⟨x31, hx, h⟩ := zob h
      refine z_callV (ci := 12) (T := TX12) (N := 50) (rest := []) B hS (mX12_peek l G hx) zy_X12_peek zk_1511 (by decide) hc rfl rfl hl rfl (Nat.le_of_ble_eq_true rfl) dX12_next_192 (kk := (fun H locs hS => ?_))
      obtain ⟨x32, hx, h⟩ := zob h
      refine z_callS (rest := []) B hS (mX12_isDigit l G hx) zy_X12_isDigit zk_1518 (by decide) rfl hl rfl (Nat.le_of_ble_eq_true rfl) dX12_next_195 (kk := (fun H locs hS => ?_))
      refine lv_if_eq (tgt := 298) he hb dX12_next_198 (by decide) (fun hc => ?_) (fun hc => ?_)
      · rw [if_pos hc] at h
        refine z_aload_n he hb dX12_next_298 rfl (lv_at hl 0 rfl) (zref_r _ _) ?_
        refine lv_iload_n he hb dX12_next_299 rfl (lv_at hl 2 rfl) ?_
        refine lv_if_eq (tgt := 320) he hb dX12_next_300 (by decide) (fun hc => ?_) (fun hc => ?_)
        · rw [if_pos hc] at h
          exact gX12_next_320 l B _ _ _ _ _ h hS (lv_sub hl [] rfl)
        · rw [if_neg hc] at h
          refine z_aload_n he hb dX12_next_303 rfl (lv_at hl 0 rfl) (zref_r _ _) ?_
          obtain ⟨x34, hx, h⟩ := zob h
          refine z_getI (ci := 12) (T := TX12) (N := 50) (j := 13) B hS hx rfl zin_X12 (by decide) zk_1360 dX12_next_304 ?_
          refine lv_iload_n he hb dX12_next_307 rfl (lv_at hl 1 rfl) ?_
          refine lv_if_eq (tgt := 316) he hb dX12_next_308 (by decide) (fun hc => ?_) (fun hc => ?_)
          · rw [if_pos hc] at h
            refine lv_iconst (v := (3 : Int32)) he hb dX12_next_316 (by decide) ?_
            exact gX12_next_317 l B _ _ _ _ _ _ _ _ h hS (lv_sub hl [1] rfl)
          · rw [if_neg hc] at h
            refine lv_bipush (v := (7 : Int32)) he hb dX12_next_311 (by decide) ?_
            refine lv_goto (tgt := 317) he hb dX12_next_313 (by decide) ?_
            exact gX12_next_317 l B _ _ _ _ _ _ _ _ h hS (lv_sub hl [1] rfl)
      · rw [if_neg hc] at h
        exact gX12_next_201 l B ih _ _ _ _ _ _ _ h hS (lv_sub hl [0, 1, 2] rfl)
def fX12_next_164 (N n : Nat) (f : zF) (a0 : Nat) (a1 : Int32) : Option zF :=
    ((fX12_isSmall N n f a1).bind fun x12 => ((zpL n f 12 a0 17 (0 : Int64)).bind fun f13 => ((zpI n f13 12 a0 14 (0 : Int32)).bind fun f14 => (fX12_next_181 N n N f14 a0 x12 (1 : Int32)))))
set_option maxRecDepth 100000 in
set_option maxHeartbeats 4000000 in
theorem gX12_next_164 (l : Launch) {G : zG} {p : Program} {e : Env} {s : State} {m : MethodId} {args : Array Value} {below : List Frame} {meth : Method} {c : Code} {N n : Nat} {f9 : zF} (B : zB G p s m args meth c RX12 cX12_next 4 (none)) : ∀ (f : zF) (a0 : Nat) (a1 : Int32) (H : Heap) (locs : List Loc) (ls : Array Slot), fX12_next_164 N n f a0 a1 = some f9 → zS G n f H locs → lv_has ls 4 [(0, zr G a0), (1, .int a1)] → W p l e (zrm 1) s m args below meth c H locs 0 0 (MQ below (zQc G n f9 (none)) args s 0 0 (zA G)) (F0 m 164 ls []) := by
  have he := B.1
  have hb := B.2.1
  intro f a0 a1 H locs ls h hS hl
  unfold fX12_next_164 at h
  refine lv_iload_n he hb dX12_next_164 rfl (lv_at hl 1 rfl) ?_
  obtain ⟨x12, hx, h⟩ := zob h
  refine z_callS (rest := []) B hS (mX12_isSmall l G hx) zy_X12_isSmall zk_1515 (by decide) rfl hl rfl (Nat.le_of_ble_eq_true rfl) dX12_next_165 (kk := (fun H locs hS => ?_))
  refine lv_istore_n (lv' := [(2, _), (0, _), (1, _)]) he hb dX12_next_168 rfl hl (by decide) rfl (fun ls hl => ?_)
  refine lv_iconst (v := (1 : Int32)) he hb dX12_next_169 (by decide) ?_
  refine lv_istore_n (lv' := [(3, _), (2, _), (0, _), (1, _)]) he hb dX12_next_170 rfl hl (by decide) rfl (fun ls hl => ?_)
  refine z_aload_n he hb dX12_next_171 rfl (lv_at hl 2 rfl) (zref_r _ _) ?_
  refine lv_lconst (v := (0 : Int64)) he hb dX12_next_172 (by decide) ?_
  obtain ⟨f13, hx, h⟩ := zob h
  refine z_putL (ci := 12) (T := TX12) (N := 50) (j := 17) B hS hx rfl zin_X12 tyX12 tyX12_ok nmX12 (by decide) zk_1364 rfl rfl dX12_next_173 (fun H locs hS => ?_)
  refine z_aload_n he hb dX12_next_176 rfl (lv_at hl 2 rfl) (zref_r _ _) ?_
  refine lv_iconst (v := (0 : Int32)) he hb dX12_next_177 (by decide) ?_
  obtain ⟨f14, hx, h⟩ := zob h
  refine z_putI (ci := 12) (T := TX12) (N := 50) (j := 14) B hS hx rfl zin_X12 tyX12 tyX12_ok nmX12 (by decide) zk_1361 rfl rfl dX12_next_178 (fun H locs hS => ?_)
  exact gX12_next_181 l B N _ _ _ _ _ _ _ h hS (lv_sub hl [2, 1, 0] rfl)
def fX12_next_145 (N n : Nat) (f : zF) (a0 : Nat) (a1 : Int32) (t0 : Nat) (t1 : Int32) : Option zF :=
    ((zpI n f 12 t0 11 t1).bind fun f36 => ((zpI n f36 12 a0 14 a1).bind fun f37 => ((zgI n f37 12 a0 4).bind fun x38 => ((zpI n f37 12 a0 4 (x38 + (1 : Int32))).bind fun f39 => some f39))))
set_option maxRecDepth 100000 in
set_option maxHeartbeats 4000000 in
theorem gX12_next_145 (l : Launch) {G : zG} {p : Program} {e : Env} {s : State} {m : MethodId} {args : Array Value} {below : List Frame} {meth : Method} {c : Code} {N n : Nat} {f9 : zF} (B : zB G p s m args meth c RX12 cX12_next 4 (none)) : ∀ (f : zF) (a0 : Nat) (a1 : Int32) (t0 : Nat) (t1 : Int32) (H : Heap) (locs : List Loc) (ls : Array Slot), fX12_next_145 N n f a0 a1 t0 t1 = some f9 → zS G n f H locs → lv_has ls 4 [(0, zr G a0), (1, .int a1)] → W p l e (zrm 1) s m args below meth c H locs 0 0 (MQ below (zQc G n f9 (none)) args s 0 0 (zA G)) (F0 m 145 ls [.int t1, zr G t0]) := by
  have he := B.1
  have hb := B.2.1
  intro f a0 a1 t0 t1 H locs ls h hS hl
  unfold fX12_next_145 at h
  obtain ⟨f36, hx, h⟩ := zob h
  refine z_putI (ci := 12) (T := TX12) (N := 50) (j := 11) B hS hx rfl zin_X12 tyX12 tyX12_ok nmX12 (by decide) zk_1358 rfl rfl dX12_next_145 (fun H locs hS => ?_)
  refine z_aload_n he hb dX12_next_148 rfl (lv_at hl 0 rfl) (zref_r _ _) ?_
  refine lv_iload_n he hb dX12_next_149 rfl (lv_at hl 1 rfl) ?_
  obtain ⟨f37, hx, h⟩ := zob h
  refine z_putI (ci := 12) (T := TX12) (N := 50) (j := 14) B hS hx rfl zin_X12 tyX12 tyX12_ok nmX12 (by decide) zk_1361 rfl rfl dX12_next_150 (fun H locs hS => ?_)
  refine z_aload_n he hb dX12_next_153 rfl (lv_at hl 0 rfl) (zref_r _ _) ?_
  refine lv_dup he hb dX12_next_154 rfl ?_
  obtain ⟨x38, hx, h⟩ := zob h
  refine z_getI (ci := 12) (T := TX12) (N := 50) (j := 4) B hS hx rfl zin_X12 (by decide) zk_1351 dX12_next_155 ?_
  refine lv_iconst (v := (1 : Int32)) he hb dX12_next_158 (by decide) ?_
  refine lv_iadd he hb dX12_next_159 ?_
  obtain ⟨f39, hx, h⟩ := zob h
  refine z_putI (ci := 12) (T := TX12) (N := 50) (j := 4) B hS hx rfl zin_X12 tyX12 tyX12_ok nmX12 (by decide) zk_1351 rfl rfl dX12_next_160 (fun H locs hS => ?_)
  obtain rfl := Option.some.inj h
  exact z_vret B hS dX12_next_163
def fX12_next_140 (N n : Nat) (f : zF) (a0 : Nat) (a1 : Int32) (t0 : Nat) : Option zF :=
    (fX12_next_145 N n f a0 a1 t0 (3 : Int32))
set_option maxRecDepth 100000 in
set_option maxHeartbeats 4000000 in
theorem gX12_next_140 (l : Launch) {G : zG} {p : Program} {e : Env} {s : State} {m : MethodId} {args : Array Value} {below : List Frame} {meth : Method} {c : Code} {N n : Nat} {f9 : zF} (B : zB G p s m args meth c RX12 cX12_next 4 (none)) : ∀ (f : zF) (a0 : Nat) (a1 : Int32) (t0 : Nat) (H : Heap) (locs : List Loc) (ls : Array Slot), fX12_next_140 N n f a0 a1 t0 = some f9 → zS G n f H locs → lv_has ls 4 [(0, zr G a0), (1, .int a1)] → W p l e (zrm 1) s m args below meth c H locs 0 0 (MQ below (zQc G n f9 (none)) args s 0 0 (zA G)) (F0 m 140 ls [zr G t0]) := by
  have he := B.1
  have hb := B.2.1
  intro f a0 a1 t0 H locs ls h hS hl
  unfold fX12_next_140 at h
  refine lv_iconst (v := (3 : Int32)) he hb dX12_next_140 (by decide) ?_
  refine lv_goto (tgt := 145) he hb dX12_next_141 (by decide) ?_
  exact gX12_next_145 l B _ _ _ _ _ _ _ _ h hS (lv_sub hl [0, 1] rfl)
def fX12_next_144 (N n : Nat) (f : zF) (a0 : Nat) (a1 : Int32) (t0 : Nat) : Option zF :=
    (fX12_next_145 N n f a0 a1 t0 (4 : Int32))
set_option maxRecDepth 100000 in
set_option maxHeartbeats 4000000 in
theorem gX12_next_144 (l : Launch) {G : zG} {p : Program} {e : Env} {s : State} {m : MethodId} {args : Array Value} {below : List Frame} {meth : Method} {c : Code} {N n : Nat} {f9 : zF} (B : zB G p s m args meth c RX12 cX12_next 4 (none)) : ∀ (f : zF) (a0 : Nat) (a1 : Int32) (t0 : Nat) (H : Heap) (locs : List Loc) (ls : Array Slot), fX12_next_144 N n f a0 a1 t0 = some f9 → zS G n f H locs → lv_has ls 4 [(0, zr G a0), (1, .int a1)] → W p l e (zrm 1) s m args below meth c H locs 0 0 (MQ below (zQc G n f9 (none)) args s 0 0 (zA G)) (F0 m 144 ls [zr G t0]) := by
  have he := B.1
  have hb := B.2.1
  intro f a0 a1 t0 H locs ls h hS hl
  unfold fX12_next_144 at h
  refine lv_iconst (v := (4 : Int32)) he hb dX12_next_144 (by decide) ?_
  exact gX12_next_145 l B _ _ _ _ _ _ _ _ h hS (lv_sub hl [0, 1] rfl)
def fX12_next_80 (N n : Nat) (f : zF) (a0 : Nat) : Option zF :=
    ((zck n f 12 a0).bind fun _ => ((fX12_peek N n f a0).bind fun x10 => (if 0 ≤ x10 then ((fX12_isSmall N n f x10).bind fun x11 => (if x11 = 0 then ((fX12_isDigit N n f x10).bind fun x35 => (if x35 = 0 then (if x10 = (59 : Int32) then (fX12_next_140 N n f a0 x10 a0) else (if x10 = (40 : Int32) then (fX12_next_140 N n f a0 x10 a0) else (if x10 = (41 : Int32) then (fX12_next_140 N n f a0 x10 a0) else (if x10 < (60 : Int32) then (fX12_next_144 N n f a0 x10 a0) else (if (62 : Int32) < x10 then (fX12_next_144 N n f a0 x10 a0) else (fX12_next_140 N n f a0 x10 a0)))))) else (fX12_next_164 N n f a0 x10))) else (fX12_next_164 N n f a0 x10))) else ((zpI n f 12 a0 11 (0 : Int32)).bind fun f40 => some f40))))
set_option maxRecDepth 100000 in
set_option maxHeartbeats 4000000 in
theorem gX12_next_80 (l : Launch) {G : zG} {p : Program} {e : Env} {s : State} {m : MethodId} {args : Array Value} {below : List Frame} {meth : Method} {c : Code} {N n : Nat} {f9 : zF} (B : zB G p s m args meth c RX12 cX12_next 4 (none)) : ∀ (f : zF) (a0 : Nat) (H : Heap) (locs : List Loc) (ls : Array Slot), fX12_next_80 N n f a0 = some f9 → zS G n f H locs → lv_has ls 4 [(0, zr G a0)] → W p l e (zrm 1) s m args below meth c H locs 0 0 (MQ below (zQc G n f9 (none)) args s 0 0 (zA G)) (F0 m 80 ls []) := by
  have he := B.1
  have hb := B.2.1
  intro f a0 H locs ls h hS hl
  unfold fX12_next_80 at h
  refine z_aload_n he hb dX12_next_80 rfl (lv_at hl 0 rfl) (zref_r _ _) ?_
  obtain ⟨_, hc, h⟩ := zob h
  obtain ⟨x10, hx, h⟩ := zob h
  refine z_callV (ci := 12) (T := TX12) (N := 50) (rest := []) B hS (mX12_peek l G hx) zy_X12_peek zk_1511 (by decide) hc rfl rfl hl rfl (Nat.le_of_ble_eq_true rfl) dX12_next_81 (kk := (fun H locs hS => ?_))
  refine lv_istore_n (lv' := [(1, _), (0, _)]) he hb dX12_next_84 rfl hl (by decide) rfl (fun ls hl => ?_)
  refine lv_iload_n he hb dX12_next_85 rfl (lv_at hl 0 rfl) ?_
  refine lv_if_ge (tgt := 95) he hb dX12_next_86 (by decide) (fun hc => ?_) (fun hc => ?_)
  · rw [if_pos hc] at h
    refine lv_iload_n he hb dX12_next_95 rfl (lv_at hl 0 rfl) ?_
    obtain ⟨x11, hx, h⟩ := zob h
    refine z_callS (rest := []) B hS (mX12_isSmall l G hx) zy_X12_isSmall zk_1515 (by decide) rfl hl rfl (Nat.le_of_ble_eq_true rfl) dX12_next_96 (kk := (fun H locs hS => ?_))
    refine lv_if_ne (tgt := 164) he hb dX12_next_99 (by decide) (fun hc => ?_) (fun hc => ?_)
    · rw [if_neg hc] at h
      exact gX12_next_164 l B _ _ _ _ _ _ h hS (lv_sub hl [1, 0] rfl)
    · rw [if_pos hc] at h
      refine lv_iload_n he hb dX12_next_102 rfl (lv_at hl 0 rfl) ?_
      obtain ⟨x35, hx, h⟩ := zob h
      refine z_callS (rest := []) B hS (mX12_isDigit l G hx) zy_X12_isDigit zk_1518 (by decide) rfl hl rfl (Nat.le_of_ble_eq_true rfl) dX12_next_103 (kk := (fun H locs hS => ?_))
      refine lv_if_ne (tgt := 164) he hb dX12_next_106 (by decide) (fun hc => ?_) (fun hc => ?_)
      · rw [if_neg hc] at h
        exact gX12_next_164 l B _ _ _ _ _ _ h hS (lv_sub hl [1, 0] rfl)
      · rw [if_pos hc] at h
        refine z_aload_n he hb dX12_next_109 rfl (lv_at hl 1 rfl) (zref_r _ _) ?_
        refine lv_iload_n he hb dX12_next_110 rfl (lv_at hl 0 rfl) ?_
        refine lv_bipush (v := (59 : Int32)) he hb dX12_next_111 (by decide) ?_
        refine lv_icmp_eq (tgt := 140) he hb dX12_next_113 (by decide) (fun hc => ?_) (fun hc => ?_)
        · rw [if_pos hc] at h
          exact gX12_next_140 l B _ _ _ _ _ _ _ h hS (lv_sub hl [1, 0] rfl)
        · rw [if_neg hc] at h
          refine lv_iload_n he hb dX12_next_116 rfl (lv_at hl 0 rfl) ?_
          refine lv_bipush (v := (40 : Int32)) he hb dX12_next_117 (by decide) ?_
          refine lv_icmp_eq (tgt := 140) he hb dX12_next_119 (by decide) (fun hc => ?_) (fun hc => ?_)
          · rw [if_pos hc] at h
            exact gX12_next_140 l B _ _ _ _ _ _ _ h hS (lv_sub hl [1, 0] rfl)
          · rw [if_neg hc] at h
            refine lv_iload_n he hb dX12_next_122 rfl (lv_at hl 0 rfl) ?_
            refine lv_bipush (v := (41 : Int32)) he hb dX12_next_123 (by decide) ?_
            refine lv_icmp_eq (tgt := 140) he hb dX12_next_125 (by decide) (fun hc => ?_) (fun hc => ?_)
            · rw [if_pos hc] at h
              exact gX12_next_140 l B _ _ _ _ _ _ _ h hS (lv_sub hl [1, 0] rfl)
            · rw [if_neg hc] at h
              refine lv_iload_n he hb dX12_next_128 rfl (lv_at hl 0 rfl) ?_
              refine lv_bipush (v := (60 : Int32)) he hb dX12_next_129 (by decide) ?_
              refine lv_icmp_lt (tgt := 144) he hb dX12_next_131 (by decide) (fun hc => ?_) (fun hc => ?_)
              · rw [if_pos hc] at h
                exact gX12_next_144 l B _ _ _ _ _ _ _ h hS (lv_sub hl [1, 0] rfl)
              · rw [if_neg hc] at h
                refine lv_iload_n he hb dX12_next_134 rfl (lv_at hl 0 rfl) ?_
                refine lv_bipush (v := (62 : Int32)) he hb dX12_next_135 (by decide) ?_
                refine lv_icmp_gt (tgt := 144) he hb dX12_next_137 (by decide) (fun hc => ?_) (fun hc => ?_)
                · rw [if_pos hc] at h
                  exact gX12_next_144 l B _ _ _ _ _ _ _ h hS (lv_sub hl [1, 0] rfl)
                · rw [if_neg hc] at h
                  exact gX12_next_140 l B _ _ _ _ _ _ _ h hS (lv_sub hl [1, 0] rfl)
  · rw [if_neg hc] at h
    refine z_aload_n he hb dX12_next_89 rfl (lv_at hl 1 rfl) (zref_r _ _) ?_
    refine lv_iconst (v := (0 : Int32)) he hb dX12_next_90 (by decide) ?_
    obtain ⟨f40, hx, h⟩ := zob h
    refine z_putI (ci := 12) (T := TX12) (N := 50) (j := 11) B hS hx rfl zin_X12 tyX12 tyX12_ok nmX12 (by decide) zk_1358 rfl rfl dX12_next_91 (fun H locs hS => ?_)
    obtain rfl := Option.some.inj h
    exact z_vret B hS dX12_next_94
def fX12_next_0 (N n : Nat) : Nat → zF → Nat → Option zF
  | 0, _, _ => none
  | k + 1, f, a0 =>
    ((zck n f 12 a0).bind fun _ => ((fX12_peek N n f a0).bind fun x1 => (if x1 = (32 : Int32) then (fX12_next_18 (fX12_next_0 N n k) N n f a0) else ((zck n f 12 a0).bind fun _ => ((fX12_peek N n f a0).bind fun x4 => (if x4 = (10 : Int32) then (fX12_next_18 (fX12_next_0 N n k) N n f a0) else ((zgI n f 12 a0 4).bind fun x5 => ((zpI n f 12 a0 12 x5).bind fun f6 => ((zpI n f6 12 a0 13 (0 : Int32)).bind fun f7 => ((zgI n f7 12 a0 3).bind fun x8 => ((zgI n f7 12 a0 5).bind fun x9 => (if x8 ≤ x9 then (fX12_next_80 N n f7 a0) else ((zgI n f7 12 a0 4).bind fun x41 => ((zgI n f7 12 a0 5).bind fun x42 => (if x41 < x42 then (fX12_next_80 N n f7 a0) else ((zgI n f7 12 a0 5).bind fun x43 => ((zpI n f7 12 a0 12 x43).bind fun f44 => ((zpI n f44 12 a0 11 (4 : Int32)).bind fun f45 => some f45))))))))))))))))))
set_option maxRecDepth 100000 in
set_option maxHeartbeats 4000000 in
theorem gX12_next_0 (l : Launch) {G : zG} {p : Program} {e : Env} {s : State} {m : MethodId} {args : Array Value} {below : List Frame} {meth : Method} {c : Code} {N n : Nat} {f9 : zF} (B : zB G p s m args meth c RX12 cX12_next 4 (none)) : ∀ (k : Nat), ∀ (f : zF) (a0 : Nat) (H : Heap) (locs : List Loc) (ls : Array Slot), fX12_next_0 N n k f a0 = some f9 → zS G n f H locs → lv_has ls 4 [(0, zr G a0)] → W p l e (zrm 1) s m args below meth c H locs 0 0 (MQ below (zQc G n f9 (none)) args s 0 0 (zA G)) (F0 m 0 ls []) := by
  have he := B.1
  have hb := B.2.1
  intro k
  induction k with
  | zero =>
    intro f a0 H locs ls h
    unfold fX12_next_0 at h
    cases h
  | succ k ih =>
    intro f a0 H locs ls h hS hl
    unfold fX12_next_0 at h
    refine z_aload_n he hb dX12_next_0 rfl (lv_at hl 0 rfl) (zref_r _ _) ?_
    obtain ⟨_, hc, h⟩ := zob h
    obtain ⟨x1, hx, h⟩ := zob h
    refine z_callV (ci := 12) (T := TX12) (N := 50) (rest := []) B hS (mX12_peek l G hx) zy_X12_peek zk_1511 (by decide) hc rfl rfl hl rfl (Nat.le_of_ble_eq_true rfl) dX12_next_1 (kk := (fun H locs hS => ?_))
    refine lv_bipush (v := (32 : Int32)) he hb dX12_next_4 (by decide) ?_
    refine lv_icmp_eq (tgt := 18) he hb dX12_next_6 (by decide) (fun hc => ?_) (fun hc => ?_)
    · rw [if_pos hc] at h
      exact gX12_next_18 l B ih _ _ _ _ _ h hS (lv_sub hl [0] rfl)
    · rw [if_neg hc] at h
      refine z_aload_n he hb dX12_next_9 rfl (lv_at hl 0 rfl) (zref_r _ _) ?_
      obtain ⟨_, hc, h⟩ := zob h
      obtain ⟨x4, hx, h⟩ := zob h
      refine z_callV (ci := 12) (T := TX12) (N := 50) (rest := []) B hS (mX12_peek l G hx) zy_X12_peek zk_1511 (by decide) hc rfl rfl hl rfl (Nat.le_of_ble_eq_true rfl) dX12_next_10 (kk := (fun H locs hS => ?_))
      refine lv_bipush (v := (10 : Int32)) he hb dX12_next_13 (by decide) ?_
      refine lv_icmp_ne (tgt := 31) he hb dX12_next_15 (by decide) (fun hc => ?_) (fun hc => ?_)
      · rw [if_neg hc] at h
        refine z_aload_n he hb dX12_next_31 rfl (lv_at hl 0 rfl) (zref_r _ _) ?_
        refine z_aload_n he hb dX12_next_32 rfl (lv_at hl 0 rfl) (zref_r _ _) ?_
        obtain ⟨x5, hx, h⟩ := zob h
        refine z_getI (ci := 12) (T := TX12) (N := 50) (j := 4) B hS hx rfl zin_X12 (by decide) zk_1351 dX12_next_33 ?_
        obtain ⟨f6, hx, h⟩ := zob h
        refine z_putI (ci := 12) (T := TX12) (N := 50) (j := 12) B hS hx rfl zin_X12 tyX12 tyX12_ok nmX12 (by decide) zk_1359 rfl rfl dX12_next_36 (fun H locs hS => ?_)
        refine z_aload_n he hb dX12_next_39 rfl (lv_at hl 0 rfl) (zref_r _ _) ?_
        refine lv_iconst (v := (0 : Int32)) he hb dX12_next_40 (by decide) ?_
        obtain ⟨f7, hx, h⟩ := zob h
        refine z_putI (ci := 12) (T := TX12) (N := 50) (j := 13) B hS hx rfl zin_X12 tyX12 tyX12_ok nmX12 (by decide) zk_1360 rfl rfl dX12_next_41 (fun H locs hS => ?_)
        refine z_aload_n he hb dX12_next_44 rfl (lv_at hl 0 rfl) (zref_r _ _) ?_
        obtain ⟨x8, hx, h⟩ := zob h
        refine z_getI (ci := 12) (T := TX12) (N := 50) (j := 3) B hS hx rfl zin_X12 (by decide) zk_1350 dX12_next_45 ?_
        refine z_aload_n he hb dX12_next_48 rfl (lv_at hl 0 rfl) (zref_r _ _) ?_
        obtain ⟨x9, hx, h⟩ := zob h
        refine z_getI (ci := 12) (T := TX12) (N := 50) (j := 5) B hS hx rfl zin_X12 (by decide) zk_1352 dX12_next_49 ?_
        refine lv_icmp_le (tgt := 80) he hb dX12_next_52 (by decide) (fun hc => ?_) (fun hc => ?_)
        · rw [if_pos hc] at h
          exact gX12_next_80 l B _ _ _ _ _ h hS (lv_sub hl [0] rfl)
        · rw [if_neg hc] at h
          refine z_aload_n he hb dX12_next_55 rfl (lv_at hl 0 rfl) (zref_r _ _) ?_
          obtain ⟨x41, hx, h⟩ := zob h
          refine z_getI (ci := 12) (T := TX12) (N := 50) (j := 4) B hS hx rfl zin_X12 (by decide) zk_1351 dX12_next_56 ?_
          refine z_aload_n he hb dX12_next_59 rfl (lv_at hl 0 rfl) (zref_r _ _) ?_
          obtain ⟨x42, hx, h⟩ := zob h
          refine z_getI (ci := 12) (T := TX12) (N := 50) (j := 5) B hS hx rfl zin_X12 (by decide) zk_1352 dX12_next_60 ?_
          refine lv_icmp_lt (tgt := 80) he hb dX12_next_63 (by decide) (fun hc => ?_) (fun hc => ?_)
          · rw [if_pos hc] at h
            exact gX12_next_80 l B _ _ _ _ _ h hS (lv_sub hl [0] rfl)
          · rw [if_neg hc] at h
            refine z_aload_n he hb dX12_next_66 rfl (lv_at hl 0 rfl) (zref_r _ _) ?_
            refine z_aload_n he hb dX12_next_67 rfl (lv_at hl 0 rfl) (zref_r _ _) ?_
            obtain ⟨x43, hx, h⟩ := zob h
            refine z_getI (ci := 12) (T := TX12) (N := 50) (j := 5) B hS hx rfl zin_X12 (by decide) zk_1352 dX12_next_68 ?_
            obtain ⟨f44, hx, h⟩ := zob h
            refine z_putI (ci := 12) (T := TX12) (N := 50) (j := 12) B hS hx rfl zin_X12 tyX12 tyX12_ok nmX12 (by decide) zk_1359 rfl rfl dX12_next_71 (fun H locs hS => ?_)
            refine z_aload_n he hb dX12_next_74 rfl (lv_at hl 0 rfl) (zref_r _ _) ?_
            refine lv_iconst (v := (4 : Int32)) he hb dX12_next_75 (by decide) ?_
            obtain ⟨f45, hx, h⟩ := zob h
            refine z_putI (ci := 12) (T := TX12) (N := 50) (j := 11) B hS hx rfl zin_X12 tyX12 tyX12_ok nmX12 (by decide) zk_1358 rfl rfl dX12_next_76 (fun H locs hS => ?_)
            obtain rfl := Option.some.inj h
            exact z_vret B hS dX12_next_79
      · rw [if_pos hc] at h
        exact gX12_next_18 l B ih _ _ _ _ _ h hS (lv_sub hl [0] rfl)
def fX12_next (N n : Nat) (f : zF) (a0 : Nat) : Option zF :=
    (fX12_next_0 N n N f a0)
set_option maxRecDepth 100000 in
set_option maxHeartbeats 4000000 in
theorem mX12_next (l : Launch) (G : zG) {N n : Nat} {f : zF} {f9 : zF} {a0 : Nat} (h : fX12_next N n f a0 = some f9) : zM l G yX12_next cX12_next 4 (none) 1 n f [zr G a0] (none) f9 := by
  refine zM.of (by decide) (Nat.le_of_ble_eq_true rfl) ?_
  intro p e s m args below meth c locs ls B hS hl
  have he := B.1
  have hb := B.2.1
  have hl : lv_has ls 4 [(0, zr G a0)] := hl
  unfold fX12_next at h
  generalize s.heap = H at hS ⊢
  exact gX12_next_0 l B N _ _ _ _ _ h hS (lv_sub hl [0] rfl)
theorem dX12_bad_0 : decode cX12_bad 0 = .ok (.aload_n 0, 1) := by decide +kernel
theorem dX12_bad_1 : decode cX12_bad 1 = .ok (.iload_n 1, 1) := by decide +kernel
theorem dX12_bad_2 : decode cX12_bad 2 = .ok (.putfield 177, 3) := by decide +kernel
theorem dX12_bad_5 : decode cX12_bad 5 = .ok (.aload_n 0, 1) := by decide +kernel
theorem dX12_bad_6 : decode cX12_bad 6 = .ok (.aload_n 0, 1) := by decide +kernel
theorem dX12_bad_7 : decode cX12_bad 7 = .ok (.getfield 154, 3) := by decide +kernel
theorem dX12_bad_10 : decode cX12_bad 10 = .ok (.putfield 180, 3) := by decide +kernel
theorem dX12_bad_13 : decode cX12_bad 13 = .ok (.iconst 0, 1) := by decide +kernel
theorem dX12_bad_14 : decode cX12_bad 14 = .ok (.ireturn, 1) := by decide +kernel
def fX12_bad (N n : Nat) (f : zF) (a0 : Nat) (a1 : Int32) : Option (zF × Int32) :=
    ((zpI n f 12 a0 15 a1).bind fun f1 => ((zgI n f1 12 a0 12).bind fun x2 => ((zpI n f1 12 a0 16 x2).bind fun f3 => ((zbl (0 : Int32)).bind fun y => some (f3, y)))))
set_option maxRecDepth 100000 in
set_option maxHeartbeats 4000000 in
theorem mX12_bad (l : Launch) (G : zG) {N n : Nat} {f : zF} {f9 : zF} {r : Int32} {a0 : Nat} {a1 : Int32} (h : fX12_bad N n f a0 a1 = some (f9, r)) : zM l G yX12_bad cX12_bad 2 (some .boolean) 0 n f [zr G a0, .int a1] (some (.int r)) f9 := by
  refine zM.of (by decide) (Nat.le_of_ble_eq_true rfl) ?_
  intro p e s m args below meth c locs ls B hS hl
  have he := B.1
  have hb := B.2.1
  have hl : lv_has ls 2 [(0, zr G a0), (1, .int a1)] := hl
  unfold fX12_bad at h
  generalize s.heap = H at hS ⊢
  refine z_aload_n he hb dX12_bad_0 rfl (lv_at hl 0 rfl) (zref_r _ _) ?_
  refine lv_iload_n he hb dX12_bad_1 rfl (lv_at hl 1 rfl) ?_
  obtain ⟨f1, hx, h⟩ := zob h
  refine z_putI (ci := 12) (T := TX12) (N := 50) (j := 15) B hS hx rfl zin_X12 tyX12 tyX12_ok nmX12 (by decide) zk_1362 rfl rfl dX12_bad_2 (fun H locs hS => ?_)
  refine z_aload_n he hb dX12_bad_5 rfl (lv_at hl 0 rfl) (zref_r _ _) ?_
  refine z_aload_n he hb dX12_bad_6 rfl (lv_at hl 0 rfl) (zref_r _ _) ?_
  obtain ⟨x2, hx, h⟩ := zob h
  refine z_getI (ci := 12) (T := TX12) (N := 50) (j := 12) B hS hx rfl zin_X12 (by decide) zk_1359 dX12_bad_7 ?_
  obtain ⟨f3, hx, h⟩ := zob h
  refine z_putI (ci := 12) (T := TX12) (N := 50) (j := 16) B hS hx rfl zin_X12 tyX12 tyX12_ok nmX12 (by decide) zk_1363 rfl rfl dX12_bad_10 (fun H locs hS => ?_)
  refine lv_iconst (v := (0 : Int32)) he hb dX12_bad_13 (by decide) ?_
  obtain ⟨y, hx, h⟩ := zob h
  obtain ⟨hz, rfl⟩ := zbl_i hx
  obtain ⟨rfl, rfl⟩ := Prod.mk.inj (Option.some.inj h)
  exact z_zret B hS hz dX12_bad_14
theorem dX12_isWord_0 : decode cX12_isWord 0 = .ok (.aload_n 0, 1) := by decide +kernel
theorem dX12_isWord_1 : decode cX12_isWord 1 = .ok (.getfield 160, 3) := by decide +kernel
theorem dX12_isWord_4 : decode cX12_isWord 4 = .ok (.iconst 1, 1) := by decide +kernel
theorem dX12_isWord_5 : decode cX12_isWord 5 = .ok (.if_icmp .ne 16, 3) := by decide +kernel
theorem dX12_isWord_8 : decode cX12_isWord 8 = .ok (.aload_n 0, 1) := by decide +kernel
theorem dX12_isWord_9 : decode cX12_isWord 9 = .ok (.getfield 173, 3) := by decide +kernel
theorem dX12_isWord_12 : decode cX12_isWord 12 = .ok (.lload_n 1, 1) := by decide +kernel
theorem dX12_isWord_13 : decode cX12_isWord 13 = .ok (.lcmp, 1) := by decide +kernel
theorem dX12_isWord_14 : decode cX12_isWord 14 = .ok (.ifCond .ne 7, 3) := by decide +kernel
theorem dX12_isWord_17 : decode cX12_isWord 17 = .ok (.iconst 1, 1) := by decide +kernel
theorem dX12_isWord_18 : decode cX12_isWord 18 = .ok (.goto 4, 3) := by decide +kernel
theorem dX12_isWord_21 : decode cX12_isWord 21 = .ok (.iconst 0, 1) := by decide +kernel
theorem dX12_isWord_22 : decode cX12_isWord 22 = .ok (.ireturn, 1) := by decide +kernel
def fX12_isWord (N n : Nat) (f : zF) (a0 : Nat) (a1 : Int64) : Option Int32 :=
    ((zgI n f 12 a0 11).bind fun x1 => (if x1 = (1 : Int32) then ((zgL n f 12 a0 17).bind fun x2 => (if (lg_cmp x2 a1) = 0 then zbl (1 : Int32) else zbl (0 : Int32))) else zbl (0 : Int32)))
set_option maxRecDepth 100000 in
set_option maxHeartbeats 4000000 in
theorem mX12_isWord (l : Launch) (G : zG) {N n : Nat} {f : zF} {r : Int32} {a0 : Nat} {a1 : Int64} (h : fX12_isWord N n f a0 a1 = some r) : zM l G yX12_isWord cX12_isWord 3 (some .boolean) 0 n f [zr G a0, .long a1] (some (.int r)) f := by
  refine zM.of (by decide) (Nat.le_of_ble_eq_true rfl) ?_
  intro p e s m args below meth c locs ls B hS hl
  have he := B.1
  have hb := B.2.1
  have hl : lv_has ls 3 [(0, zr G a0), (1, .long a1)] := hl
  unfold fX12_isWord at h
  generalize s.heap = H at hS ⊢
  refine z_aload_n he hb dX12_isWord_0 rfl (lv_at hl 0 rfl) (zref_r _ _) ?_
  obtain ⟨x1, hx, h⟩ := zob h
  refine z_getI (ci := 12) (T := TX12) (N := 50) (j := 11) B hS hx rfl zin_X12 (by decide) zk_1358 dX12_isWord_1 ?_
  refine lv_iconst (v := (1 : Int32)) he hb dX12_isWord_4 (by decide) ?_
  refine lv_icmp_ne (tgt := 21) he hb dX12_isWord_5 (by decide) (fun hc => ?_) (fun hc => ?_)
  · rw [if_neg hc] at h
    refine lv_iconst (v := (0 : Int32)) he hb dX12_isWord_21 (by decide) ?_
    obtain ⟨hz, rfl⟩ := zbl_i h
    exact z_zret B hS hz dX12_isWord_22
  · rw [if_pos hc] at h
    refine z_aload_n he hb dX12_isWord_8 rfl (lv_at hl 0 rfl) (zref_r _ _) ?_
    obtain ⟨x2, hx, h⟩ := zob h
    refine z_getL (ci := 12) (T := TX12) (N := 50) (j := 17) B hS hx rfl zin_X12 (by decide) zk_1364 dX12_isWord_9 ?_
    refine lv_lload_n he hb dX12_isWord_12 rfl (lv_at hl 1 rfl) ?_
    refine W.lcmp he hb dX12_isWord_13 ?_
    refine lv_if_ne (tgt := 21) he hb dX12_isWord_14 (by decide) (fun hc => ?_) (fun hc => ?_)
    · rw [if_neg hc] at h
      refine lv_iconst (v := (0 : Int32)) he hb dX12_isWord_21 (by decide) ?_
      obtain ⟨hz, rfl⟩ := zbl_i h
      exact z_zret B hS hz dX12_isWord_22
    · rw [if_pos hc] at h
      refine lv_iconst (v := (1 : Int32)) he hb dX12_isWord_17 (by decide) ?_
      refine lv_goto (tgt := 22) he hb dX12_isWord_18 (by decide) ?_
      obtain ⟨hz, rfl⟩ := zbl_i h
      exact z_zret B hS hz dX12_isWord_22
theorem dX12_isSign_0 : decode cX12_isSign 0 = .ok (.aload_n 0, 1) := by decide +kernel
theorem dX12_isSign_1 : decode cX12_isSign 1 = .ok (.getfield 160, 3) := by decide +kernel
theorem dX12_isSign_4 : decode cX12_isSign 4 = .ok (.iconst 3, 1) := by decide +kernel
theorem dX12_isSign_5 : decode cX12_isSign 5 = .ok (.if_icmp .ne 15, 3) := by decide +kernel
theorem dX12_isSign_8 : decode cX12_isSign 8 = .ok (.aload_n 0, 1) := by decide +kernel
theorem dX12_isSign_9 : decode cX12_isSign 9 = .ok (.getfield 170, 3) := by decide +kernel
theorem dX12_isSign_12 : decode cX12_isSign 12 = .ok (.iload_n 1, 1) := by decide +kernel
theorem dX12_isSign_13 : decode cX12_isSign 13 = .ok (.if_icmp .ne 7, 3) := by decide +kernel
theorem dX12_isSign_16 : decode cX12_isSign 16 = .ok (.iconst 1, 1) := by decide +kernel
theorem dX12_isSign_17 : decode cX12_isSign 17 = .ok (.goto 4, 3) := by decide +kernel
theorem dX12_isSign_20 : decode cX12_isSign 20 = .ok (.iconst 0, 1) := by decide +kernel
theorem dX12_isSign_21 : decode cX12_isSign 21 = .ok (.ireturn, 1) := by decide +kernel
def fX12_isSign (N n : Nat) (f : zF) (a0 : Nat) (a1 : Int32) : Option Int32 :=
    ((zgI n f 12 a0 11).bind fun x1 => (if x1 = (3 : Int32) then ((zgI n f 12 a0 14).bind fun x2 => (if x2 = a1 then zbl (1 : Int32) else zbl (0 : Int32))) else zbl (0 : Int32)))
set_option maxRecDepth 100000 in
set_option maxHeartbeats 4000000 in
theorem mX12_isSign (l : Launch) (G : zG) {N n : Nat} {f : zF} {r : Int32} {a0 : Nat} {a1 : Int32} (h : fX12_isSign N n f a0 a1 = some r) : zM l G yX12_isSign cX12_isSign 2 (some .boolean) 0 n f [zr G a0, .int a1] (some (.int r)) f := by
  refine zM.of (by decide) (Nat.le_of_ble_eq_true rfl) ?_
  intro p e s m args below meth c locs ls B hS hl
  have he := B.1
  have hb := B.2.1
  have hl : lv_has ls 2 [(0, zr G a0), (1, .int a1)] := hl
  unfold fX12_isSign at h
  generalize s.heap = H at hS ⊢
  refine z_aload_n he hb dX12_isSign_0 rfl (lv_at hl 0 rfl) (zref_r _ _) ?_
  obtain ⟨x1, hx, h⟩ := zob h
  refine z_getI (ci := 12) (T := TX12) (N := 50) (j := 11) B hS hx rfl zin_X12 (by decide) zk_1358 dX12_isSign_1 ?_
  refine lv_iconst (v := (3 : Int32)) he hb dX12_isSign_4 (by decide) ?_
  refine lv_icmp_ne (tgt := 20) he hb dX12_isSign_5 (by decide) (fun hc => ?_) (fun hc => ?_)
  · rw [if_neg hc] at h
    refine lv_iconst (v := (0 : Int32)) he hb dX12_isSign_20 (by decide) ?_
    obtain ⟨hz, rfl⟩ := zbl_i h
    exact z_zret B hS hz dX12_isSign_21
  · rw [if_pos hc] at h
    refine z_aload_n he hb dX12_isSign_8 rfl (lv_at hl 0 rfl) (zref_r _ _) ?_
    obtain ⟨x2, hx, h⟩ := zob h
    refine z_getI (ci := 12) (T := TX12) (N := 50) (j := 14) B hS hx rfl zin_X12 (by decide) zk_1361 dX12_isSign_9 ?_
    refine lv_iload_n he hb dX12_isSign_12 rfl (lv_at hl 1 rfl) ?_
    refine lv_icmp_ne (tgt := 20) he hb dX12_isSign_13 (by decide) (fun hc => ?_) (fun hc => ?_)
    · rw [if_neg hc] at h
      refine lv_iconst (v := (0 : Int32)) he hb dX12_isSign_20 (by decide) ?_
      obtain ⟨hz, rfl⟩ := zbl_i h
      exact z_zret B hS hz dX12_isSign_21
    · rw [if_pos hc] at h
      refine lv_iconst (v := (1 : Int32)) he hb dX12_isSign_16 (by decide) ?_
      refine lv_goto (tgt := 21) he hb dX12_isSign_17 (by decide) ?_
      obtain ⟨hz, rfl⟩ := zbl_i h
      exact z_zret B hS hz dX12_isSign_21
theorem dX12_sign_0 : decode cX12_sign 0 = .ok (.aload_n 0, 1) := by decide +kernel
theorem dX12_sign_1 : decode cX12_sign 1 = .ok (.iload_n 1, 1) := by decide +kernel
theorem dX12_sign_2 : decode cX12_sign 2 = .ok (.invokevirtual 183, 3) := by decide +kernel
theorem dX12_sign_5 : decode cX12_sign 5 = .ok (.ifCond .ne 9, 3) := by decide +kernel
theorem dX12_sign_8 : decode cX12_sign 8 = .ok (.aload_n 0, 1) := by decide +kernel
theorem dX12_sign_9 : decode cX12_sign 9 = .ok (.iconst 1, 1) := by decide +kernel
theorem dX12_sign_10 : decode cX12_sign 10 = .ok (.invokevirtual 186, 3) := by decide +kernel
theorem dX12_sign_13 : decode cX12_sign 13 = .ok (.ireturn, 1) := by decide +kernel
theorem dX12_sign_14 : decode cX12_sign 14 = .ok (.aload_n 0, 1) := by decide +kernel
theorem dX12_sign_15 : decode cX12_sign 15 = .ok (.invokevirtual 189, 3) := by decide +kernel
theorem dX12_sign_18 : decode cX12_sign 18 = .ok (.iconst 1, 1) := by decide +kernel
theorem dX12_sign_19 : decode cX12_sign 19 = .ok (.ireturn, 1) := by decide +kernel
def fX12_sign (N n : Nat) (f : zF) (a0 : Nat) (a1 : Int32) : Option (zF × Int32) :=
    ((zck n f 12 a0).bind fun _ => ((fX12_isSign N n f a0 a1).bind fun x1 => (if x1 = 0 then ((zck n f 12 a0).bind fun _ => (zbd (fX12_bad N n f a0 (1 : Int32)) fun f4 x3 => ((zbl x3).bind fun y => some (f4, y)))) else ((zck n f 12 a0).bind fun _ => ((fX12_next N n f a0).bind fun f2 => ((zbl (1 : Int32)).bind fun y => some (f2, y)))))))
set_option maxRecDepth 100000 in
set_option maxHeartbeats 4000000 in
theorem mX12_sign (l : Launch) (G : zG) {N n : Nat} {f : zF} {f9 : zF} {r : Int32} {a0 : Nat} {a1 : Int32} (h : fX12_sign N n f a0 a1 = some (f9, r)) : zM l G yX12_sign cX12_sign 2 (some .boolean) 2 n f [zr G a0, .int a1] (some (.int r)) f9 := by
  refine zM.of (by decide) (Nat.le_of_ble_eq_true rfl) ?_
  intro p e s m args below meth c locs ls B hS hl
  have he := B.1
  have hb := B.2.1
  have hl : lv_has ls 2 [(0, zr G a0), (1, .int a1)] := hl
  unfold fX12_sign at h
  generalize s.heap = H at hS ⊢
  refine z_aload_n he hb dX12_sign_0 rfl (lv_at hl 0 rfl) (zref_r _ _) ?_
  refine lv_iload_n he hb dX12_sign_1 rfl (lv_at hl 1 rfl) ?_
  obtain ⟨_, hc, h⟩ := zob h
  obtain ⟨x1, hx, h⟩ := zob h
  refine z_callV (ci := 12) (T := TX12) (N := 50) (rest := []) B hS (mX12_isSign l G hx) zy_X12_isSign zk_1604 (by decide) hc rfl rfl hl rfl (Nat.le_of_ble_eq_true rfl) dX12_sign_2 (kk := (fun H locs hS => ?_))
  refine lv_if_ne (tgt := 14) he hb dX12_sign_5 (by decide) (fun hc => ?_) (fun hc => ?_)
  · rw [if_neg hc] at h
    refine z_aload_n he hb dX12_sign_14 rfl (lv_at hl 0 rfl) (zref_r _ _) ?_
    obtain ⟨_, hc, h⟩ := zob h
    obtain ⟨f2, hx, h⟩ := zob h
    refine z_callV (ci := 12) (T := TX12) (N := 50) (rest := []) B hS (mX12_next l G hx) zy_X12_next zk_1507 (by decide) hc rfl rfl hl rfl (Nat.le_of_ble_eq_true rfl) dX12_sign_15 (kk := (fun H locs hS => ?_))
    refine lv_iconst (v := (1 : Int32)) he hb dX12_sign_18 (by decide) ?_
    obtain ⟨y, hx, h⟩ := zob h
    obtain ⟨hz, rfl⟩ := zbl_i hx
    obtain ⟨rfl, rfl⟩ := Prod.mk.inj (Option.some.inj h)
    exact z_zret B hS hz dX12_sign_19
  · rw [if_pos hc] at h
    refine z_aload_n he hb dX12_sign_8 rfl (lv_at hl 0 rfl) (zref_r _ _) ?_
    refine lv_iconst (v := (1 : Int32)) he hb dX12_sign_9 (by decide) ?_
    obtain ⟨_, hc, h⟩ := zob h
    obtain ⟨f4, x3, hx, h⟩ := zbd_i h
    refine z_callV (ci := 12) (T := TX12) (N := 50) (rest := []) B hS (mX12_bad l G hx) zy_X12_bad zk_1533 (by decide) hc rfl rfl hl rfl (Nat.le_of_ble_eq_true rfl) dX12_sign_10 (kk := (fun H locs hS => ?_))
    obtain ⟨y, hx, h⟩ := zob h
    obtain ⟨hz, rfl⟩ := zbl_i hx
    obtain ⟨rfl, rfl⟩ := Prod.mk.inj (Option.some.inj h)
    exact z_zret B hS hz dX12_sign_13
theorem dX12_isName_0 : decode cX12_isName 0 = .ok (.aload_n 0, 1) := by decide +kernel
theorem dX12_isName_1 : decode cX12_isName 1 = .ok (.getfield 160, 3) := by decide +kernel
theorem dX12_isName_4 : decode cX12_isName 4 = .ok (.iconst 1, 1) := by decide +kernel
theorem dX12_isName_5 : decode cX12_isName 5 = .ok (.if_icmp .ne 7, 3) := by decide +kernel
theorem dX12_isName_8 : decode cX12_isName 8 = .ok (.iconst 1, 1) := by decide +kernel
theorem dX12_isName_9 : decode cX12_isName 9 = .ok (.goto 4, 3) := by decide +kernel
theorem dX12_isName_12 : decode cX12_isName 12 = .ok (.iconst 0, 1) := by decide +kernel
theorem dX12_isName_13 : decode cX12_isName 13 = .ok (.istore_n 1, 1) := by decide +kernel
theorem dX12_isName_14 : decode cX12_isName 14 = .ok (.iconst 0, 1) := by decide +kernel
theorem dX12_isName_15 : decode cX12_isName 15 = .ok (.istore_n 2, 1) := by decide +kernel
theorem dX12_isName_16 : decode cX12_isName 16 = .ok (.iload_n 2, 1) := by decide +kernel
theorem dX12_isName_17 : decode cX12_isName 17 = .ok (.bipush 27, 2) := by decide +kernel
theorem dX12_isName_19 : decode cX12_isName 19 = .ok (.if_icmp .ge 33, 3) := by decide +kernel
theorem dX12_isName_22 : decode cX12_isName 22 = .ok (.iload_n 1, 1) := by decide +kernel
theorem dX12_isName_23 : decode cX12_isName 23 = .ok (.ifCond .eq 21, 3) := by decide +kernel
theorem dX12_isName_26 : decode cX12_isName 26 = .ok (.aload_n 0, 1) := by decide +kernel
theorem dX12_isName_27 : decode cX12_isName 27 = .ok (.getfield 173, 3) := by decide +kernel
theorem dX12_isName_30 : decode cX12_isName 30 = .ok (.aload_n 0, 1) := by decide +kernel
theorem dX12_isName_31 : decode cX12_isName 31 = .ok (.getfield 47, 3) := by decide +kernel
theorem dX12_isName_34 : decode cX12_isName 34 = .ok (.iload_n 2, 1) := by decide +kernel
theorem dX12_isName_35 : decode cX12_isName 35 = .ok (.laload, 1) := by decide +kernel
theorem dX12_isName_36 : decode cX12_isName 36 = .ok (.lcmp, 1) := by decide +kernel
theorem dX12_isName_37 : decode cX12_isName 37 = .ok (.ifCond .eq 7, 3) := by decide +kernel
theorem dX12_isName_40 : decode cX12_isName 40 = .ok (.iconst 1, 1) := by decide +kernel
theorem dX12_isName_41 : decode cX12_isName 41 = .ok (.goto 4, 3) := by decide +kernel
theorem dX12_isName_44 : decode cX12_isName 44 = .ok (.iconst 0, 1) := by decide +kernel
theorem dX12_isName_45 : decode cX12_isName 45 = .ok (.istore_n 1, 1) := by decide +kernel
theorem dX12_isName_46 : decode cX12_isName 46 = .ok (.iinc 2 1, 3) := by decide +kernel
theorem dX12_isName_49 : decode cX12_isName 49 = .ok (.goto (-33), 3) := by decide +kernel
theorem dX12_isName_52 : decode cX12_isName 52 = .ok (.iload_n 1, 1) := by decide +kernel
theorem dX12_isName_53 : decode cX12_isName 53 = .ok (.ireturn, 1) := by decide +kernel
def fX12_isName_45 (r16 : Nat → Int32 → Int32 → Option Int32) (N n : Nat) (f : zF) (a0 : Nat) (a2 : Int32) (t0 : Int32) : Option Int32 :=
    (r16 a0 t0 (a2 + 1))
set_option maxRecDepth 100000 in
set_option maxHeartbeats 4000000 in
theorem gX12_isName_45 (l : Launch) {G : zG} {p : Program} {e : Env} {s : State} {m : MethodId} {args : Array Value} {below : List Frame} {meth : Method} {c : Code} {f : zF} {N n : Nat} {r : Int32} {r16 : Nat → Int32 → Int32 → Option Int32} (B : zB G p s m args meth c RX12 cX12_isName 3 (some .boolean)) (hr16 : ∀ (a0 : Nat) (a1 : Int32) (a2 : Int32) (H : Heap) (locs : List Loc) (ls : Array Slot), r16 a0 a1 a2 = some r → zS G n f H locs → lv_has ls 3 [(0, zr G a0), (1, .int a1), (2, .int a2)] → W p l e (zrm 0) s m args below meth c H locs 0 0 (MQ below (zQc G n f (some (.int r))) args s 0 0 (zA G)) (F0 m 16 ls [])) : ∀ (a0 : Nat) (a2 : Int32) (t0 : Int32) (H : Heap) (locs : List Loc) (ls : Array Slot), fX12_isName_45 r16 N n f a0 a2 t0 = some r → zS G n f H locs → lv_has ls 3 [(0, zr G a0), (2, .int a2)] → W p l e (zrm 0) s m args below meth c H locs 0 0 (MQ below (zQc G n f (some (.int r))) args s 0 0 (zA G)) (F0 m 45 ls [.int t0]) := by
  have he := B.1
  have hb := B.2.1
  intro a0 a2 t0 H locs ls h hS hl
  unfold fX12_isName_45 at h
  refine lv_istore_n (lv' := [(1, _), (0, _), (2, _)]) he hb dX12_isName_45 rfl hl (by decide) rfl (fun ls hl => ?_)
  refine lv_iinc (v := (a2 + 1)) (lv' := [(2, _), (1, _), (0, _)]) he hb dX12_isName_46 hl (k := 2) rfl rfl (by decide) rfl (fun ls hl => ?_)
  refine lv_goto (tgt := 16) he hb dX12_isName_49 (by decide) ?_
  exact hr16 _ _ _ _ _ _ h hS (lv_sub hl [2, 1, 0] rfl)
def fX12_isName_44 (r16 : Nat → Int32 → Int32 → Option Int32) (N n : Nat) (f : zF) (a0 : Nat) (a2 : Int32) : Option Int32 :=
    (fX12_isName_45 r16 N n f a0 a2 (0 : Int32))
set_option maxRecDepth 100000 in
set_option maxHeartbeats 4000000 in
theorem gX12_isName_44 (l : Launch) {G : zG} {p : Program} {e : Env} {s : State} {m : MethodId} {args : Array Value} {below : List Frame} {meth : Method} {c : Code} {f : zF} {N n : Nat} {r : Int32} {r16 : Nat → Int32 → Int32 → Option Int32} (B : zB G p s m args meth c RX12 cX12_isName 3 (some .boolean)) (hr16 : ∀ (a0 : Nat) (a1 : Int32) (a2 : Int32) (H : Heap) (locs : List Loc) (ls : Array Slot), r16 a0 a1 a2 = some r → zS G n f H locs → lv_has ls 3 [(0, zr G a0), (1, .int a1), (2, .int a2)] → W p l e (zrm 0) s m args below meth c H locs 0 0 (MQ below (zQc G n f (some (.int r))) args s 0 0 (zA G)) (F0 m 16 ls [])) : ∀ (a0 : Nat) (a2 : Int32) (H : Heap) (locs : List Loc) (ls : Array Slot), fX12_isName_44 r16 N n f a0 a2 = some r → zS G n f H locs → lv_has ls 3 [(0, zr G a0), (2, .int a2)] → W p l e (zrm 0) s m args below meth c H locs 0 0 (MQ below (zQc G n f (some (.int r))) args s 0 0 (zA G)) (F0 m 44 ls []) := by
  have he := B.1
  have hb := B.2.1
  intro a0 a2 H locs ls h hS hl
  unfold fX12_isName_44 at h
  refine lv_iconst (v := (0 : Int32)) he hb dX12_isName_44 (by decide) ?_
  exact gX12_isName_45 l B hr16 _ _ _ _ _ _ h hS (lv_sub hl [0, 1] rfl)
def fX12_isName_16 (N n : Nat) (f : zF) : Nat → Nat → Int32 → Int32 → Option Int32
  | 0, _, _, _ => none
  | k + 1, a0, a1, a2 =>
    (if (27 : Int32) ≤ a2 then zbl a1 else (if a1 = 0 then (fX12_isName_44 (fX12_isName_16 N n f k) N n f a0 a2) else ((zgL n f 12 a0 17).bind fun x2 => ((zgR n f 12 a0 10).bind fun x3 => ((zlL n f 1 x3 a2).bind fun x4 => (if (lg_cmp x2 x4) = 0 then (fX12_isName_44 (fX12_isName_16 N n f k) N n f a0 a2) else (fX12_isName_45 (fX12_isName_16 N n f k) N n f a0 a2 (1 : Int32))))))))
set_option maxRecDepth 100000 in
set_option maxHeartbeats 4000000 in
theorem gX12_isName_16 (l : Launch) {G : zG} {p : Program} {e : Env} {s : State} {m : MethodId} {args : Array Value} {below : List Frame} {meth : Method} {c : Code} {f : zF} {N n : Nat} {r : Int32} (B : zB G p s m args meth c RX12 cX12_isName 3 (some .boolean)) : ∀ (k : Nat), ∀ (a0 : Nat) (a1 : Int32) (a2 : Int32) (H : Heap) (locs : List Loc) (ls : Array Slot), fX12_isName_16 N n f k a0 a1 a2 = some r → zS G n f H locs → lv_has ls 3 [(0, zr G a0), (1, .int a1), (2, .int a2)] → W p l e (zrm 0) s m args below meth c H locs 0 0 (MQ below (zQc G n f (some (.int r))) args s 0 0 (zA G)) (F0 m 16 ls []) := by
  have he := B.1
  have hb := B.2.1
  intro k
  induction k with
  | zero =>
    intro a0 a1 a2 H locs ls h
    unfold fX12_isName_16 at h
    cases h
  | succ k ih =>
    intro a0 a1 a2 H locs ls h hS hl
    unfold fX12_isName_16 at h
    refine lv_iload_n he hb dX12_isName_16 rfl (lv_at hl 2 rfl) ?_
    refine lv_bipush (v := (27 : Int32)) he hb dX12_isName_17 (by decide) ?_
    refine lv_icmp_ge (tgt := 52) he hb dX12_isName_19 (by decide) (fun hc => ?_) (fun hc => ?_)
    · rw [if_pos hc] at h
      refine lv_iload_n he hb dX12_isName_52 rfl (lv_at hl 1 rfl) ?_
      obtain ⟨hz, rfl⟩ := zbl_i h
      exact z_zret B hS hz dX12_isName_53
    · rw [if_neg hc] at h
      refine lv_iload_n he hb dX12_isName_22 rfl (lv_at hl 1 rfl) ?_
      refine lv_if_eq (tgt := 44) he hb dX12_isName_23 (by decide) (fun hc => ?_) (fun hc => ?_)
      · rw [if_pos hc] at h
        exact gX12_isName_44 l B ih _ _ _ _ _ h hS (lv_sub hl [0, 2] rfl)
      · rw [if_neg hc] at h
        refine z_aload_n he hb dX12_isName_26 rfl (lv_at hl 0 rfl) (zref_r _ _) ?_
        obtain ⟨x2, hx, h⟩ := zob h
        refine z_getL (ci := 12) (T := TX12) (N := 50) (j := 17) B hS hx rfl zin_X12 (by decide) zk_1364 dX12_isName_27 ?_
        refine z_aload_n he hb dX12_isName_30 rfl (lv_at hl 0 rfl) (zref_r _ _) ?_
        obtain ⟨x3, hx, h⟩ := zob h
        refine z_getR (ci := 12) (T := TX12) (N := 50) (j := 10) B hS hx rfl zin_X12 (by decide) zk_1357 dX12_isName_31 ?_
        refine lv_iload_n he hb dX12_isName_34 rfl (lv_at hl 2 rfl) ?_
        obtain ⟨x4, hx, h⟩ := zob h
        refine z_ildL B hS hx dX12_isName_35 ?_
        refine W.lcmp he hb dX12_isName_36 ?_
        refine lv_if_eq (tgt := 44) he hb dX12_isName_37 (by decide) (fun hc => ?_) (fun hc => ?_)
        · rw [if_pos hc] at h
          exact gX12_isName_44 l B ih _ _ _ _ _ h hS (lv_sub hl [0, 2] rfl)
        · rw [if_neg hc] at h
          refine lv_iconst (v := (1 : Int32)) he hb dX12_isName_40 (by decide) ?_
          refine lv_goto (tgt := 45) he hb dX12_isName_41 (by decide) ?_
          exact gX12_isName_45 l B ih _ _ _ _ _ _ h hS (lv_sub hl [0, 2] rfl)
def fX12_isName_13 (N n : Nat) (f : zF) (a0 : Nat) (t0 : Int32) : Option Int32 :=
    (fX12_isName_16 N n f N a0 t0 (0 : Int32))
set_option maxRecDepth 100000 in
set_option maxHeartbeats 4000000 in
theorem gX12_isName_13 (l : Launch) {G : zG} {p : Program} {e : Env} {s : State} {m : MethodId} {args : Array Value} {below : List Frame} {meth : Method} {c : Code} {f : zF} {N n : Nat} {r : Int32} (B : zB G p s m args meth c RX12 cX12_isName 3 (some .boolean)) : ∀ (a0 : Nat) (t0 : Int32) (H : Heap) (locs : List Loc) (ls : Array Slot), fX12_isName_13 N n f a0 t0 = some r → zS G n f H locs → lv_has ls 3 [(0, zr G a0)] → W p l e (zrm 0) s m args below meth c H locs 0 0 (MQ below (zQc G n f (some (.int r))) args s 0 0 (zA G)) (F0 m 13 ls [.int t0]) := by
  have he := B.1
  have hb := B.2.1
  intro a0 t0 H locs ls h hS hl
  unfold fX12_isName_13 at h
  refine lv_istore_n (lv' := [(1, _), (0, _)]) he hb dX12_isName_13 rfl hl (by decide) rfl (fun ls hl => ?_)
  refine lv_iconst (v := (0 : Int32)) he hb dX12_isName_14 (by decide) ?_
  refine lv_istore_n (lv' := [(2, _), (1, _), (0, _)]) he hb dX12_isName_15 rfl hl (by decide) rfl (fun ls hl => ?_)
  exact gX12_isName_16 l B N _ _ _ _ _ _ h hS (lv_sub hl [2, 1, 0] rfl)
def fX12_isName (N n : Nat) (f : zF) (a0 : Nat) : Option Int32 :=
    ((zgI n f 12 a0 11).bind fun x1 => (if x1 = (1 : Int32) then (fX12_isName_13 N n f a0 (1 : Int32)) else (fX12_isName_13 N n f a0 (0 : Int32))))
set_option maxRecDepth 100000 in
set_option maxHeartbeats 4000000 in
theorem mX12_isName (l : Launch) (G : zG) {N n : Nat} {f : zF} {r : Int32} {a0 : Nat} (h : fX12_isName N n f a0 = some r) : zM l G yX12_isName cX12_isName 3 (some .boolean) 0 n f [zr G a0] (some (.int r)) f := by
  refine zM.of (by decide) (Nat.le_of_ble_eq_true rfl) ?_
  intro p e s m args below meth c locs ls B hS hl
  have he := B.1
  have hb := B.2.1
  have hl : lv_has ls 3 [(0, zr G a0)] := hl
  unfold fX12_isName at h
  generalize s.heap = H at hS ⊢
  refine z_aload_n he hb dX12_isName_0 rfl (lv_at hl 0 rfl) (zref_r _ _) ?_
  obtain ⟨x1, hx, h⟩ := zob h
  refine z_getI (ci := 12) (T := TX12) (N := 50) (j := 11) B hS hx rfl zin_X12 (by decide) zk_1358 dX12_isName_1 ?_
  refine lv_iconst (v := (1 : Int32)) he hb dX12_isName_4 (by decide) ?_
  refine lv_icmp_ne (tgt := 12) he hb dX12_isName_5 (by decide) (fun hc => ?_) (fun hc => ?_)
  · rw [if_neg hc] at h
    refine lv_iconst (v := (0 : Int32)) he hb dX12_isName_12 (by decide) ?_
    exact gX12_isName_13 l B _ _ _ _ _ h hS (lv_sub hl [0] rfl)
  · rw [if_pos hc] at h
    refine lv_iconst (v := (1 : Int32)) he hb dX12_isName_8 (by decide) ?_
    refine lv_goto (tgt := 13) he hb dX12_isName_9 (by decide) ?_
    exact gX12_isName_13 l B _ _ _ _ _ h hS (lv_sub hl [0] rfl)
theorem dX12_takes_0 : decode cX12_takes 0 = .ok (.aload_n 0, 1) := by decide +kernel
theorem dX12_takes_1 : decode cX12_takes 1 = .ok (.getfield 160, 3) := by decide +kernel
theorem dX12_takes_4 : decode cX12_takes 4 = .ok (.iconst 2, 1) := by decide +kernel
theorem dX12_takes_5 : decode cX12_takes 5 = .ok (.if_icmp .eq 9, 3) := by decide +kernel
theorem dX12_takes_8 : decode cX12_takes 8 = .ok (.aload_n 0, 1) := by decide +kernel
theorem dX12_takes_9 : decode cX12_takes 9 = .ok (.iconst 1, 1) := by decide +kernel
theorem dX12_takes_10 : decode cX12_takes 10 = .ok (.invokevirtual 186, 3) := by decide +kernel
theorem dX12_takes_13 : decode cX12_takes 13 = .ok (.ireturn, 1) := by decide +kernel
theorem dX12_takes_14 : decode cX12_takes 14 = .ok (.aload_n 0, 1) := by decide +kernel
theorem dX12_takes_15 : decode cX12_takes 15 = .ok (.getfield 170, 3) := by decide +kernel
theorem dX12_takes_18 : decode cX12_takes 18 = .ok (.iload_n 1, 1) := by decide +kernel
theorem dX12_takes_19 : decode cX12_takes 19 = .ok (.iload_n 2, 1) := by decide +kernel
theorem dX12_takes_20 : decode cX12_takes 20 = .ok (.invokestatic 192, 3) := by decide +kernel
theorem dX12_takes_23 : decode cX12_takes 23 = .ok (.ifCond .ne 9, 3) := by decide +kernel
theorem dX12_takes_26 : decode cX12_takes 26 = .ok (.aload_n 0, 1) := by decide +kernel
theorem dX12_takes_27 : decode cX12_takes 27 = .ok (.iconst 2, 1) := by decide +kernel
theorem dX12_takes_28 : decode cX12_takes 28 = .ok (.invokevirtual 186, 3) := by decide +kernel
theorem dX12_takes_31 : decode cX12_takes 31 = .ok (.ireturn, 1) := by decide +kernel
theorem dX12_takes_32 : decode cX12_takes 32 = .ok (.aload_n 0, 1) := by decide +kernel
theorem dX12_takes_33 : decode cX12_takes 33 = .ok (.aload_n 0, 1) := by decide +kernel
theorem dX12_takes_34 : decode cX12_takes 34 = .ok (.getfield 170, 3) := by decide +kernel
theorem dX12_takes_37 : decode cX12_takes 37 = .ok (.putfield 196, 3) := by decide +kernel
theorem dX12_takes_40 : decode cX12_takes 40 = .ok (.aload_n 0, 1) := by decide +kernel
theorem dX12_takes_41 : decode cX12_takes 41 = .ok (.invokevirtual 189, 3) := by decide +kernel
theorem dX12_takes_44 : decode cX12_takes 44 = .ok (.iconst 1, 1) := by decide +kernel
theorem dX12_takes_45 : decode cX12_takes 45 = .ok (.ireturn, 1) := by decide +kernel
def fX12_takes (N n : Nat) (f : zF) (a0 : Nat) (a1 : Int32) (a2 : Int32) : Option (zF × Int32) :=
    ((zgI n f 12 a0 11).bind fun x1 => (if x1 = (2 : Int32) then ((zgI n f 12 a0 14).bind fun x2 => ((fX12_isIn N n f x2 a1 a2).bind fun x3 => (if x3 = 0 then ((zck n f 12 a0).bind fun _ => (zbd (fX12_bad N n f a0 (2 : Int32)) fun f8 x7 => ((zbl x7).bind fun y => some (f8, y)))) else ((zgI n f 12 a0 14).bind fun x4 => ((zpI n f 12 a0 18 x4).bind fun f5 => ((zck n f5 12 a0).bind fun _ => ((fX12_next N n f5 a0).bind fun f6 => ((zbl (1 : Int32)).bind fun y => some (f6, y))))))))) else ((zck n f 12 a0).bind fun _ => (zbd (fX12_bad N n f a0 (1 : Int32)) fun f10 x9 => ((zbl x9).bind fun y => some (f10, y))))))
set_option maxRecDepth 100000 in
set_option maxHeartbeats 4000000 in
theorem mX12_takes (l : Launch) (G : zG) {N n : Nat} {f : zF} {f9 : zF} {r : Int32} {a0 : Nat} {a1 : Int32} {a2 : Int32} (h : fX12_takes N n f a0 a1 a2 = some (f9, r)) : zM l G yX12_takes cX12_takes 3 (some .boolean) 2 n f [zr G a0, .int a1, .int a2] (some (.int r)) f9 := by
  refine zM.of (by decide) (Nat.le_of_ble_eq_true rfl) ?_
  intro p e s m args below meth c locs ls B hS hl
  have he := B.1
  have hb := B.2.1
  have hl : lv_has ls 3 [(0, zr G a0), (1, .int a1), (2, .int a2)] := hl
  unfold fX12_takes at h
  generalize s.heap = H at hS ⊢
  refine z_aload_n he hb dX12_takes_0 rfl (lv_at hl 0 rfl) (zref_r _ _) ?_
  obtain ⟨x1, hx, h⟩ := zob h
  refine z_getI (ci := 12) (T := TX12) (N := 50) (j := 11) B hS hx rfl zin_X12 (by decide) zk_1358 dX12_takes_1 ?_
  refine lv_iconst (v := (2 : Int32)) he hb dX12_takes_4 (by decide) ?_
  refine lv_icmp_eq (tgt := 14) he hb dX12_takes_5 (by decide) (fun hc => ?_) (fun hc => ?_)
  · rw [if_pos hc] at h
    refine z_aload_n he hb dX12_takes_14 rfl (lv_at hl 0 rfl) (zref_r _ _) ?_
    obtain ⟨x2, hx, h⟩ := zob h
    refine z_getI (ci := 12) (T := TX12) (N := 50) (j := 14) B hS hx rfl zin_X12 (by decide) zk_1361 dX12_takes_15 ?_
    refine lv_iload_n he hb dX12_takes_18 rfl (lv_at hl 1 rfl) ?_
    refine lv_iload_n he hb dX12_takes_19 rfl (lv_at hl 2 rfl) ?_
    obtain ⟨x3, hx, h⟩ := zob h
    refine z_callS (rest := []) B hS (mX12_isIn l G hx) zy_X12_isIn zk_1545 (by decide) rfl hl rfl (Nat.le_of_ble_eq_true rfl) dX12_takes_20 (kk := (fun H locs hS => ?_))
    refine lv_if_ne (tgt := 32) he hb dX12_takes_23 (by decide) (fun hc => ?_) (fun hc => ?_)
    · rw [if_neg hc] at h
      refine z_aload_n he hb dX12_takes_32 rfl (lv_at hl 0 rfl) (zref_r _ _) ?_
      refine z_aload_n he hb dX12_takes_33 rfl (lv_at hl 0 rfl) (zref_r _ _) ?_
      obtain ⟨x4, hx, h⟩ := zob h
      refine z_getI (ci := 12) (T := TX12) (N := 50) (j := 14) B hS hx rfl zin_X12 (by decide) zk_1361 dX12_takes_34 ?_
      obtain ⟨f5, hx, h⟩ := zob h
      refine z_putI (ci := 12) (T := TX12) (N := 50) (j := 18) B hS hx rfl zin_X12 tyX12 tyX12_ok nmX12 (by decide) zk_1365 rfl rfl dX12_takes_37 (fun H locs hS => ?_)
      refine z_aload_n he hb dX12_takes_40 rfl (lv_at hl 0 rfl) (zref_r _ _) ?_
      obtain ⟨_, hc, h⟩ := zob h
      obtain ⟨f6, hx, h⟩ := zob h
      refine z_callV (ci := 12) (T := TX12) (N := 50) (rest := []) B hS (mX12_next l G hx) zy_X12_next zk_1507 (by decide) hc rfl rfl hl rfl (Nat.le_of_ble_eq_true rfl) dX12_takes_41 (kk := (fun H locs hS => ?_))
      refine lv_iconst (v := (1 : Int32)) he hb dX12_takes_44 (by decide) ?_
      obtain ⟨y, hx, h⟩ := zob h
      obtain ⟨hz, rfl⟩ := zbl_i hx
      obtain ⟨rfl, rfl⟩ := Prod.mk.inj (Option.some.inj h)
      exact z_zret B hS hz dX12_takes_45
    · rw [if_pos hc] at h
      refine z_aload_n he hb dX12_takes_26 rfl (lv_at hl 0 rfl) (zref_r _ _) ?_
      refine lv_iconst (v := (2 : Int32)) he hb dX12_takes_27 (by decide) ?_
      obtain ⟨_, hc, h⟩ := zob h
      obtain ⟨f8, x7, hx, h⟩ := zbd_i h
      refine z_callV (ci := 12) (T := TX12) (N := 50) (rest := []) B hS (mX12_bad l G hx) zy_X12_bad zk_1533 (by decide) hc rfl rfl hl rfl (Nat.le_of_ble_eq_true rfl) dX12_takes_28 (kk := (fun H locs hS => ?_))
      obtain ⟨y, hx, h⟩ := zob h
      obtain ⟨hz, rfl⟩ := zbl_i hx
      obtain ⟨rfl, rfl⟩ := Prod.mk.inj (Option.some.inj h)
      exact z_zret B hS hz dX12_takes_31
  · rw [if_neg hc] at h
    refine z_aload_n he hb dX12_takes_8 rfl (lv_at hl 0 rfl) (zref_r _ _) ?_
    refine lv_iconst (v := (1 : Int32)) he hb dX12_takes_9 (by decide) ?_
    obtain ⟨_, hc, h⟩ := zob h
    obtain ⟨f10, x9, hx, h⟩ := zbd_i h
    refine z_callV (ci := 12) (T := TX12) (N := 50) (rest := []) B hS (mX12_bad l G hx) zy_X12_bad zk_1533 (by decide) hc rfl rfl hl rfl (Nat.le_of_ble_eq_true rfl) dX12_takes_10 (kk := (fun H locs hS => ?_))
    obtain ⟨y, hx, h⟩ := zob h
    obtain ⟨hz, rfl⟩ := zbl_i hx
    obtain ⟨rfl, rfl⟩ := Prod.mk.inj (Option.some.inj h)
    exact z_zret B hS hz dX12_takes_13
theorem dX12_puts_0 : decode cX12_puts 0 = .ok (.aload_n 0, 1) := by decide +kernel
theorem dX12_puts_1 : decode cX12_puts 1 = .ok (.iload_n 2, 1) := by decide +kernel
theorem dX12_puts_2 : decode cX12_puts 2 = .ok (.iload_n 3, 1) := by decide +kernel
theorem dX12_puts_3 : decode cX12_puts 3 = .ok (.invokevirtual 199, 3) := by decide +kernel
theorem dX12_puts_6 : decode cX12_puts 6 = .ok (.ifCond .ne 5, 3) := by decide +kernel
theorem dX12_puts_9 : decode cX12_puts 9 = .ok (.iconst 0, 1) := by decide +kernel
theorem dX12_puts_10 : decode cX12_puts 10 = .ok (.ireturn, 1) := by decide +kernel
theorem dX12_puts_11 : decode cX12_puts 11 = .ok (.aload_n 0, 1) := by decide +kernel
theorem dX12_puts_12 : decode cX12_puts 12 = .ok (.getfield 37, 3) := by decide +kernel
theorem dX12_puts_15 : decode cX12_puts 15 = .ok (.iload_n 1, 1) := by decide +kernel
theorem dX12_puts_16 : decode cX12_puts 16 = .ok (.aload_n 0, 1) := by decide +kernel
theorem dX12_puts_17 : decode cX12_puts 17 = .ok (.getfield 196, 3) := by decide +kernel
theorem dX12_puts_20 : decode cX12_puts 20 = .ok (.iastore, 1) := by decide +kernel
theorem dX12_puts_21 : decode cX12_puts 21 = .ok (.iconst 1, 1) := by decide +kernel
theorem dX12_puts_22 : decode cX12_puts 22 = .ok (.ireturn, 1) := by decide +kernel
def fX12_puts (N n : Nat) (f : zF) (a0 : Nat) (a1 : Int32) (a2 : Int32) (a3 : Int32) : Option (zF × Int32) :=
    ((zck n f 12 a0).bind fun _ => (zbd (fX12_takes N n f a0 a2 a3) fun f2 x1 => (if x1 = 0 then ((zbl (0 : Int32)).bind fun y => some (f2, y)) else ((zgR n f2 12 a0 7).bind fun x3 => ((zgI n f2 12 a0 18).bind fun x4 => ((zsI n f2 0 x3 a1 x4).bind fun f5 => ((zbl (1 : Int32)).bind fun y => some (f5, y))))))))
set_option maxRecDepth 100000 in
set_option maxHeartbeats 4000000 in
theorem mX12_puts (l : Launch) (G : zG) {N n : Nat} {f : zF} {f9 : zF} {r : Int32} {a0 : Nat} {a1 : Int32} {a2 : Int32} {a3 : Int32} (h : fX12_puts N n f a0 a1 a2 a3 = some (f9, r)) : zM l G yX12_puts cX12_puts 4 (some .boolean) 3 n f [zr G a0, .int a1, .int a2, .int a3] (some (.int r)) f9 := by
  refine zM.of (by decide) (Nat.le_of_ble_eq_true rfl) ?_
  intro p e s m args below meth c locs ls B hS hl
  have he := B.1
  have hb := B.2.1
  have hl : lv_has ls 4 [(0, zr G a0), (1, .int a1), (2, .int a2), (3, .int a3)] := hl
  unfold fX12_puts at h
  generalize s.heap = H at hS ⊢
  refine z_aload_n he hb dX12_puts_0 rfl (lv_at hl 0 rfl) (zref_r _ _) ?_
  refine lv_iload_n he hb dX12_puts_1 rfl (lv_at hl 2 rfl) ?_
  refine lv_iload_n he hb dX12_puts_2 rfl (lv_at hl 3 rfl) ?_
  obtain ⟨_, hc, h⟩ := zob h
  obtain ⟨f2, x1, hx, h⟩ := zbd_i h
  refine z_callV (ci := 12) (T := TX12) (N := 50) (rest := []) B hS (mX12_takes l G hx) zy_X12_takes zk_1541 (by decide) hc rfl rfl hl rfl (Nat.le_of_ble_eq_true rfl) dX12_puts_3 (kk := (fun H locs hS => ?_))
  refine lv_if_ne (tgt := 11) he hb dX12_puts_6 (by decide) (fun hc => ?_) (fun hc => ?_)
  · rw [if_neg hc] at h
    refine z_aload_n he hb dX12_puts_11 rfl (lv_at hl 0 rfl) (zref_r _ _) ?_
    obtain ⟨x3, hx, h⟩ := zob h
    refine z_getR (ci := 12) (T := TX12) (N := 50) (j := 7) B hS hx rfl zin_X12 (by decide) zk_1354 dX12_puts_12 ?_
    refine lv_iload_n he hb dX12_puts_15 rfl (lv_at hl 1 rfl) ?_
    refine z_aload_n he hb dX12_puts_16 rfl (lv_at hl 0 rfl) (zref_r _ _) ?_
    obtain ⟨x4, hx, h⟩ := zob h
    refine z_getI (ci := 12) (T := TX12) (N := 50) (j := 18) B hS hx rfl zin_X12 (by decide) zk_1365 dX12_puts_17 ?_
    obtain ⟨f5, hx, h⟩ := zob h
    refine z_istI B hS hx dX12_puts_20 (fun H locs hS => ?_)
    refine lv_iconst (v := (1 : Int32)) he hb dX12_puts_21 (by decide) ?_
    obtain ⟨y, hx, h⟩ := zob h
    obtain ⟨hz, rfl⟩ := zbl_i hx
    obtain ⟨rfl, rfl⟩ := Prod.mk.inj (Option.some.inj h)
    exact z_zret B hS hz dX12_puts_22
  · rw [if_pos hc] at h
    refine lv_iconst (v := (0 : Int32)) he hb dX12_puts_9 (by decide) ?_
    obtain ⟨y, hx, h⟩ := zob h
    obtain ⟨hz, rfl⟩ := zbl_i hx
    obtain ⟨rfl, rfl⟩ := Prod.mk.inj (Option.some.inj h)
    exact z_zret B hS hz dX12_puts_10
theorem dX12_sideWord_0 : decode cX12_sideWord 0 = .ok (.aload_n 0, 1) := by decide +kernel
theorem dX12_sideWord_1 : decode cX12_sideWord 1 = .ok (.ldc2_w 105, 3) := by decide +kernel
theorem dX12_sideWord_4 : decode cX12_sideWord 4 = .ok (.invokevirtual 203, 3) := by decide +kernel
theorem dX12_sideWord_7 : decode cX12_sideWord 7 = .ok (.ifCond .eq 7, 3) := by decide +kernel
theorem dX12_sideWord_10 : decode cX12_sideWord 10 = .ok (.iconst 0, 1) := by decide +kernel
theorem dX12_sideWord_11 : decode cX12_sideWord 11 = .ok (.goto 46, 3) := by decide +kernel
theorem dX12_sideWord_14 : decode cX12_sideWord 14 = .ok (.aload_n 0, 1) := by decide +kernel
theorem dX12_sideWord_15 : decode cX12_sideWord 15 = .ok (.ldc2_w 107, 3) := by decide +kernel
theorem dX12_sideWord_18 : decode cX12_sideWord 18 = .ok (.invokevirtual 203, 3) := by decide +kernel
theorem dX12_sideWord_21 : decode cX12_sideWord 21 = .ok (.ifCond .eq 7, 3) := by decide +kernel
theorem dX12_sideWord_24 : decode cX12_sideWord 24 = .ok (.iconst 1, 1) := by decide +kernel
theorem dX12_sideWord_25 : decode cX12_sideWord 25 = .ok (.goto 32, 3) := by decide +kernel
theorem dX12_sideWord_28 : decode cX12_sideWord 28 = .ok (.aload_n 0, 1) := by decide +kernel
theorem dX12_sideWord_29 : decode cX12_sideWord 29 = .ok (.ldc2_w 109, 3) := by decide +kernel
theorem dX12_sideWord_32 : decode cX12_sideWord 32 = .ok (.invokevirtual 203, 3) := by decide +kernel
theorem dX12_sideWord_35 : decode cX12_sideWord 35 = .ok (.ifCond .eq 7, 3) := by decide +kernel
theorem dX12_sideWord_38 : decode cX12_sideWord 38 = .ok (.iconst 2, 1) := by decide +kernel
theorem dX12_sideWord_39 : decode cX12_sideWord 39 = .ok (.goto 18, 3) := by decide +kernel
theorem dX12_sideWord_42 : decode cX12_sideWord 42 = .ok (.aload_n 0, 1) := by decide +kernel
theorem dX12_sideWord_43 : decode cX12_sideWord 43 = .ok (.ldc2_w 111, 3) := by decide +kernel
theorem dX12_sideWord_46 : decode cX12_sideWord 46 = .ok (.invokevirtual 203, 3) := by decide +kernel
theorem dX12_sideWord_49 : decode cX12_sideWord 49 = .ok (.ifCond .eq 7, 3) := by decide +kernel
theorem dX12_sideWord_52 : decode cX12_sideWord 52 = .ok (.iconst 3, 1) := by decide +kernel
theorem dX12_sideWord_53 : decode cX12_sideWord 53 = .ok (.goto 4, 3) := by decide +kernel
theorem dX12_sideWord_56 : decode cX12_sideWord 56 = .ok (.iconst (-1), 1) := by decide +kernel
theorem dX12_sideWord_57 : decode cX12_sideWord 57 = .ok (.ireturn, 1) := by decide +kernel
def fX12_sideWord (N n : Nat) (f : zF) (a0 : Nat) : Option Int32 :=
    ((zck n f 12 a0).bind fun _ => ((fX12_isWord N n f a0 (1700885364 : Int64)).bind fun x1 => (if x1 = 0 then ((zck n f 12 a0).bind fun _ => ((fX12_isWord N n f a0 (495791207528 : Int64)).bind fun x2 => (if x2 = 0 then ((zck n f 12 a0).bind fun _ => ((fX12_isWord N n f a0 (2003137396 : Int64)).bind fun x3 => (if x3 = 0 then ((zck n f 12 a0).bind fun _ => ((fX12_isWord N n f a0 (474316174440 : Int64)).bind fun x4 => (if x4 = 0 then some (-1 : Int32) else some (3 : Int32)))) else some (2 : Int32)))) else some (1 : Int32)))) else some (0 : Int32))))
set_option maxRecDepth 100000 in
set_option maxHeartbeats 4000000 in
theorem mX12_sideWord (l : Launch) (G : zG) {N n : Nat} {f : zF} {r : Int32} {a0 : Nat} (h : fX12_sideWord N n f a0 = some r) : zM l G yX12_sideWord cX12_sideWord 1 (some .int) 1 n f [zr G a0] (some (.int r)) f := by
  refine zM.of (by decide) (Nat.le_of_ble_eq_true rfl) ?_
  intro p e s m args below meth c locs ls B hS hl
  have he := B.1
  have hb := B.2.1
  have hl : lv_has ls 1 [(0, zr G a0)] := hl
  unfold fX12_sideWord at h
  generalize s.heap = H at hS ⊢
  refine z_aload_n he hb dX12_sideWord_0 rfl (lv_at hl 0 rfl) (zref_r _ _) ?_
  refine lv_ldc2 (v := (1700885364 : Int64)) he hb B.2.2.2.1 (B.2.2.2.2.1 _ zk_1322) dX12_sideWord_1 ?_
  obtain ⟨_, hc, h⟩ := zob h
  obtain ⟨x1, hx, h⟩ := zob h
  refine z_callV (ci := 12) (T := TX12) (N := 50) (rest := []) B hS (mX12_isWord l G hx) zy_X12_isWord zk_1525 (by decide) hc rfl rfl hl rfl (Nat.le_of_ble_eq_true rfl) dX12_sideWord_4 (kk := (fun H locs hS => ?_))
  refine lv_if_eq (tgt := 14) he hb dX12_sideWord_7 (by decide) (fun hc => ?_) (fun hc => ?_)
  · rw [if_pos hc] at h
    refine z_aload_n he hb dX12_sideWord_14 rfl (lv_at hl 0 rfl) (zref_r _ _) ?_
    refine lv_ldc2 (v := (495791207528 : Int64)) he hb B.2.2.2.1 (B.2.2.2.2.1 _ zk_1323) dX12_sideWord_15 ?_
    obtain ⟨_, hc, h⟩ := zob h
    obtain ⟨x2, hx, h⟩ := zob h
    refine z_callV (ci := 12) (T := TX12) (N := 50) (rest := []) B hS (mX12_isWord l G hx) zy_X12_isWord zk_1525 (by decide) hc rfl rfl hl rfl (Nat.le_of_ble_eq_true rfl) dX12_sideWord_18 (kk := (fun H locs hS => ?_))
    refine lv_if_eq (tgt := 28) he hb dX12_sideWord_21 (by decide) (fun hc => ?_) (fun hc => ?_)
    · rw [if_pos hc] at h
      refine z_aload_n he hb dX12_sideWord_28 rfl (lv_at hl 0 rfl) (zref_r _ _) ?_
      refine lv_ldc2 (v := (2003137396 : Int64)) he hb B.2.2.2.1 (B.2.2.2.2.1 _ zk_1324) dX12_sideWord_29 ?_
      obtain ⟨_, hc, h⟩ := zob h
      obtain ⟨x3, hx, h⟩ := zob h
      refine z_callV (ci := 12) (T := TX12) (N := 50) (rest := []) B hS (mX12_isWord l G hx) zy_X12_isWord zk_1525 (by decide) hc rfl rfl hl rfl (Nat.le_of_ble_eq_true rfl) dX12_sideWord_32 (kk := (fun H locs hS => ?_))
      refine lv_if_eq (tgt := 42) he hb dX12_sideWord_35 (by decide) (fun hc => ?_) (fun hc => ?_)
      · rw [if_pos hc] at h
        refine z_aload_n he hb dX12_sideWord_42 rfl (lv_at hl 0 rfl) (zref_r _ _) ?_
        refine lv_ldc2 (v := (474316174440 : Int64)) he hb B.2.2.2.1 (B.2.2.2.2.1 _ zk_1325) dX12_sideWord_43 ?_
        obtain ⟨_, hc, h⟩ := zob h
        obtain ⟨x4, hx, h⟩ := zob h
        refine z_callV (ci := 12) (T := TX12) (N := 50) (rest := []) B hS (mX12_isWord l G hx) zy_X12_isWord zk_1525 (by decide) hc rfl rfl hl rfl (Nat.le_of_ble_eq_true rfl) dX12_sideWord_46 (kk := (fun H locs hS => ?_))
        refine lv_if_eq (tgt := 56) he hb dX12_sideWord_49 (by decide) (fun hc => ?_) (fun hc => ?_)
        · rw [if_pos hc] at h
          refine lv_iconst (v := (-1 : Int32)) he hb dX12_sideWord_56 (by decide) ?_
          obtain rfl := Option.some.inj h
          exact z_iret B hS dX12_sideWord_57
        · rw [if_neg hc] at h
          refine lv_iconst (v := (3 : Int32)) he hb dX12_sideWord_52 (by decide) ?_
          refine lv_goto (tgt := 57) he hb dX12_sideWord_53 (by decide) ?_
          obtain rfl := Option.some.inj h
          exact z_iret B hS dX12_sideWord_57
      · rw [if_neg hc] at h
        refine lv_iconst (v := (2 : Int32)) he hb dX12_sideWord_38 (by decide) ?_
        refine lv_goto (tgt := 57) he hb dX12_sideWord_39 (by decide) ?_
        obtain rfl := Option.some.inj h
        exact z_iret B hS dX12_sideWord_57
    · rw [if_neg hc] at h
      refine lv_iconst (v := (1 : Int32)) he hb dX12_sideWord_24 (by decide) ?_
      refine lv_goto (tgt := 57) he hb dX12_sideWord_25 (by decide) ?_
      obtain rfl := Option.some.inj h
      exact z_iret B hS dX12_sideWord_57
  · rw [if_neg hc] at h
    refine lv_iconst (v := (0 : Int32)) he hb dX12_sideWord_10 (by decide) ?_
    refine lv_goto (tgt := 57) he hb dX12_sideWord_11 (by decide) ?_
    obtain rfl := Option.some.inj h
    exact z_iret B hS dX12_sideWord_57
theorem dX12_takesSide_0 : decode cX12_takesSide 0 = .ok (.aload_n 0, 1) := by decide +kernel
theorem dX12_takesSide_1 : decode cX12_takesSide 1 = .ok (.aload_n 0, 1) := by decide +kernel
theorem dX12_takesSide_2 : decode cX12_takesSide 2 = .ok (.invokevirtual 207, 3) := by decide +kernel
theorem dX12_takesSide_5 : decode cX12_takesSide 5 = .ok (.putfield 196, 3) := by decide +kernel
theorem dX12_takesSide_8 : decode cX12_takesSide 8 = .ok (.aload_n 0, 1) := by decide +kernel
theorem dX12_takesSide_9 : decode cX12_takesSide 9 = .ok (.getfield 196, 3) := by decide +kernel
theorem dX12_takesSide_12 : decode cX12_takesSide 12 = .ok (.ifCond .ge 9, 3) := by decide +kernel
theorem dX12_takesSide_15 : decode cX12_takesSide 15 = .ok (.aload_n 0, 1) := by decide +kernel
theorem dX12_takesSide_16 : decode cX12_takesSide 16 = .ok (.iconst 1, 1) := by decide +kernel
theorem dX12_takesSide_17 : decode cX12_takesSide 17 = .ok (.invokevirtual 186, 3) := by decide +kernel
theorem dX12_takesSide_20 : decode cX12_takesSide 20 = .ok (.ireturn, 1) := by decide +kernel
theorem dX12_takesSide_21 : decode cX12_takesSide 21 = .ok (.aload_n 0, 1) := by decide +kernel
theorem dX12_takesSide_22 : decode cX12_takesSide 22 = .ok (.invokevirtual 189, 3) := by decide +kernel
theorem dX12_takesSide_25 : decode cX12_takesSide 25 = .ok (.iconst 1, 1) := by decide +kernel
theorem dX12_takesSide_26 : decode cX12_takesSide 26 = .ok (.ireturn, 1) := by decide +kernel
def fX12_takesSide (N n : Nat) (f : zF) (a0 : Nat) : Option (zF × Int32) :=
    ((zck n f 12 a0).bind fun _ => ((fX12_sideWord N n f a0).bind fun x1 => ((zpI n f 12 a0 18 x1).bind fun f2 => ((zgI n f2 12 a0 18).bind fun x3 => (if 0 ≤ x3 then ((zck n f2 12 a0).bind fun _ => ((fX12_next N n f2 a0).bind fun f4 => ((zbl (1 : Int32)).bind fun y => some (f4, y)))) else ((zck n f2 12 a0).bind fun _ => (zbd (fX12_bad N n f2 a0 (1 : Int32)) fun f6 x5 => ((zbl x5).bind fun y => some (f6, y)))))))))
set_option maxRecDepth 100000 in
set_option maxHeartbeats 4000000 in
theorem mX12_takesSide (l : Launch) (G : zG) {N n : Nat} {f : zF} {f9 : zF} {r : Int32} {a0 : Nat} (h : fX12_takesSide N n f a0 = some (f9, r)) : zM l G yX12_takesSide cX12_takesSide 1 (some .boolean) 2 n f [zr G a0] (some (.int r)) f9 := by
  refine zM.of (by decide) (Nat.le_of_ble_eq_true rfl) ?_
  intro p e s m args below meth c locs ls B hS hl
  have he := B.1
  have hb := B.2.1
  have hl : lv_has ls 1 [(0, zr G a0)] := hl
  unfold fX12_takesSide at h
  generalize s.heap = H at hS ⊢
  refine z_aload_n he hb dX12_takesSide_0 rfl (lv_at hl 0 rfl) (zref_r _ _) ?_
  refine z_aload_n he hb dX12_takesSide_1 rfl (lv_at hl 0 rfl) (zref_r _ _) ?_
  obtain ⟨_, hc, h⟩ := zob h
  obtain ⟨x1, hx, h⟩ := zob h
  refine z_callV (ci := 12) (T := TX12) (N := 50) (rest := [_]) B hS (mX12_sideWord l G hx) zy_X12_sideWord zk_1592 (by decide) hc rfl rfl hl rfl (Nat.le_of_ble_eq_true rfl) dX12_takesSide_2 (kk := (fun H locs hS => ?_))
  obtain ⟨f2, hx, h⟩ := zob h
  refine z_putI (ci := 12) (T := TX12) (N := 50) (j := 18) B hS hx rfl zin_X12 tyX12 tyX12_ok nmX12 (by decide) zk_1365 rfl rfl dX12_takesSide_5 (fun H locs hS => ?_)
  refine z_aload_n he hb dX12_takesSide_8 rfl (lv_at hl 0 rfl) (zref_r _ _) ?_
  obtain ⟨x3, hx, h⟩ := zob h
  refine z_getI (ci := 12) (T := TX12) (N := 50) (j := 18) B hS hx rfl zin_X12 (by decide) zk_1365 dX12_takesSide_9 ?_
  refine lv_if_ge (tgt := 21) he hb dX12_takesSide_12 (by decide) (fun hc => ?_) (fun hc => ?_)
  · rw [if_pos hc] at h
    refine z_aload_n he hb dX12_takesSide_21 rfl (lv_at hl 0 rfl) (zref_r _ _) ?_
    obtain ⟨_, hc, h⟩ := zob h
    obtain ⟨f4, hx, h⟩ := zob h
    refine z_callV (ci := 12) (T := TX12) (N := 50) (rest := []) B hS (mX12_next l G hx) zy_X12_next zk_1507 (by decide) hc rfl rfl hl rfl (Nat.le_of_ble_eq_true rfl) dX12_takesSide_22 (kk := (fun H locs hS => ?_))
    refine lv_iconst (v := (1 : Int32)) he hb dX12_takesSide_25 (by decide) ?_
    obtain ⟨y, hx, h⟩ := zob h
    obtain ⟨hz, rfl⟩ := zbl_i hx
    obtain ⟨rfl, rfl⟩ := Prod.mk.inj (Option.some.inj h)
    exact z_zret B hS hz dX12_takesSide_26
  · rw [if_neg hc] at h
    refine z_aload_n he hb dX12_takesSide_15 rfl (lv_at hl 0 rfl) (zref_r _ _) ?_
    refine lv_iconst (v := (1 : Int32)) he hb dX12_takesSide_16 (by decide) ?_
    obtain ⟨_, hc, h⟩ := zob h
    obtain ⟨f6, x5, hx, h⟩ := zbd_i h
    refine z_callV (ci := 12) (T := TX12) (N := 50) (rest := []) B hS (mX12_bad l G hx) zy_X12_bad zk_1533 (by decide) hc rfl rfl hl rfl (Nat.le_of_ble_eq_true rfl) dX12_takesSide_17 (kk := (fun H locs hS => ?_))
    obtain ⟨y, hx, h⟩ := zob h
    obtain ⟨hz, rfl⟩ := zbl_i hx
    obtain ⟨rfl, rfl⟩ := Prod.mk.inj (Option.some.inj h)
    exact z_zret B hS hz dX12_takesSide_20
theorem dX12_seek_0 : decode cX12_seek 0 = .ok (.iconst 0, 1) := by decide +kernel
theorem dX12_seek_1 : decode cX12_seek 1 = .ok (.istore_n 3, 1) := by decide +kernel
theorem dX12_seek_2 : decode cX12_seek 2 = .ok (.iload_n 3, 1) := by decide +kernel
theorem dX12_seek_3 : decode cX12_seek 3 = .ok (.iload_n 2, 1) := by decide +kernel
theorem dX12_seek_4 : decode cX12_seek 4 = .ok (.if_icmp .ge 27, 3) := by decide +kernel
theorem dX12_seek_7 : decode cX12_seek 7 = .ok (.aload_n 0, 1) := by decide +kernel
theorem dX12_seek_8 : decode cX12_seek 8 = .ok (.getfield 43, 3) := by decide +kernel
theorem dX12_seek_11 : decode cX12_seek 11 = .ok (.iload_n 1, 1) := by decide +kernel
theorem dX12_seek_12 : decode cX12_seek 12 = .ok (.iload_n 3, 1) := by decide +kernel
theorem dX12_seek_13 : decode cX12_seek 13 = .ok (.iadd, 1) := by decide +kernel
theorem dX12_seek_14 : decode cX12_seek 14 = .ok (.laload, 1) := by decide +kernel
theorem dX12_seek_15 : decode cX12_seek 15 = .ok (.aload_n 0, 1) := by decide +kernel
theorem dX12_seek_16 : decode cX12_seek 16 = .ok (.getfield 173, 3) := by decide +kernel
theorem dX12_seek_19 : decode cX12_seek 19 = .ok (.lcmp, 1) := by decide +kernel
theorem dX12_seek_20 : decode cX12_seek 20 = .ok (.ifCond .ne 5, 3) := by decide +kernel
theorem dX12_seek_23 : decode cX12_seek 23 = .ok (.iload_n 3, 1) := by decide +kernel
theorem dX12_seek_24 : decode cX12_seek 24 = .ok (.ireturn, 1) := by decide +kernel
theorem dX12_seek_25 : decode cX12_seek 25 = .ok (.iinc 3 1, 3) := by decide +kernel
theorem dX12_seek_28 : decode cX12_seek 28 = .ok (.goto (-26), 3) := by decide +kernel
theorem dX12_seek_31 : decode cX12_seek 31 = .ok (.iconst (-1), 1) := by decide +kernel
theorem dX12_seek_32 : decode cX12_seek 32 = .ok (.ireturn, 1) := by decide +kernel
def fX12_seek_2 (N n : Nat) (f : zF) : Nat → Nat → Int32 → Int32 → Int32 → Option Int32
  | 0, _, _, _, _ => none
  | k + 1, a0, a1, a2, a3 =>
    (if a2 ≤ a3 then some (-1 : Int32) else ((zgR n f 12 a0 9).bind fun x1 => ((zlL n f 1 x1 (a1 + a3)).bind fun x2 => ((zgL n f 12 a0 17).bind fun x3 => (if (lg_cmp x2 x3) = 0 then some a3 else (fX12_seek_2 N n f k a0 a1 a2 (a3 + 1)))))))
set_option maxRecDepth 100000 in
set_option maxHeartbeats 4000000 in
theorem gX12_seek_2 (l : Launch) {G : zG} {p : Program} {e : Env} {s : State} {m : MethodId} {args : Array Value} {below : List Frame} {meth : Method} {c : Code} {f : zF} {N n : Nat} {r : Int32} (B : zB G p s m args meth c RX12 cX12_seek 4 (some .int)) : ∀ (k : Nat), ∀ (a0 : Nat) (a1 : Int32) (a2 : Int32) (a3 : Int32) (H : Heap) (locs : List Loc) (ls : Array Slot), fX12_seek_2 N n f k a0 a1 a2 a3 = some r → zS G n f H locs → lv_has ls 4 [(0, zr G a0), (1, .int a1), (2, .int a2), (3, .int a3)] → W p l e (zrm 0) s m args below meth c H locs 0 0 (MQ below (zQc G n f (some (.int r))) args s 0 0 (zA G)) (F0 m 2 ls []) := by
  have he := B.1
  have hb := B.2.1
  intro k
  induction k with
  | zero =>
    intro a0 a1 a2 a3 H locs ls h
    unfold fX12_seek_2 at h
    cases h
  | succ k ih =>
    intro a0 a1 a2 a3 H locs ls h hS hl
    unfold fX12_seek_2 at h
    refine lv_iload_n he hb dX12_seek_2 rfl (lv_at hl 3 rfl) ?_
    refine lv_iload_n he hb dX12_seek_3 rfl (lv_at hl 2 rfl) ?_
    refine lv_icmp_ge (tgt := 31) he hb dX12_seek_4 (by decide) (fun hc => ?_) (fun hc => ?_)
    · rw [if_pos hc] at h
      refine lv_iconst (v := (-1 : Int32)) he hb dX12_seek_31 (by decide) ?_
      obtain rfl := Option.some.inj h
      exact z_iret B hS dX12_seek_32
    · rw [if_neg hc] at h
      refine z_aload_n he hb dX12_seek_7 rfl (lv_at hl 0 rfl) (zref_r _ _) ?_
      obtain ⟨x1, hx, h⟩ := zob h
      refine z_getR (ci := 12) (T := TX12) (N := 50) (j := 9) B hS hx rfl zin_X12 (by decide) zk_1356 dX12_seek_8 ?_
      refine lv_iload_n he hb dX12_seek_11 rfl (lv_at hl 1 rfl) ?_
      refine lv_iload_n he hb dX12_seek_12 rfl (lv_at hl 3 rfl) ?_
      refine lv_iadd he hb dX12_seek_13 ?_
      obtain ⟨x2, hx, h⟩ := zob h
      refine z_ildL B hS hx dX12_seek_14 ?_
      refine z_aload_n he hb dX12_seek_15 rfl (lv_at hl 0 rfl) (zref_r _ _) ?_
      obtain ⟨x3, hx, h⟩ := zob h
      refine z_getL (ci := 12) (T := TX12) (N := 50) (j := 17) B hS hx rfl zin_X12 (by decide) zk_1364 dX12_seek_16 ?_
      refine W.lcmp he hb dX12_seek_19 ?_
      refine lv_if_ne (tgt := 25) he hb dX12_seek_20 (by decide) (fun hc => ?_) (fun hc => ?_)
      · rw [if_neg hc] at h
        refine lv_iinc (v := (a3 + 1)) (lv' := [(3, _), (0, _), (1, _), (2, _)]) he hb dX12_seek_25 hl (k := 3) rfl rfl (by decide) rfl (fun ls hl => ?_)
        refine lv_goto (tgt := 2) he hb dX12_seek_28 (by decide) ?_
        exact ih _ _ _ _ _ _ _ h hS (lv_sub hl [1, 2, 3, 0] rfl)
      · rw [if_pos hc] at h
        refine lv_iload_n he hb dX12_seek_23 rfl (lv_at hl 3 rfl) ?_
        obtain rfl := Option.some.inj h
        exact z_iret B hS dX12_seek_24
def fX12_seek (N n : Nat) (f : zF) (a0 : Nat) (a1 : Int32) (a2 : Int32) : Option Int32 :=
    (fX12_seek_2 N n f N a0 a1 a2 (0 : Int32))
set_option maxRecDepth 100000 in
set_option maxHeartbeats 4000000 in
theorem mX12_seek (l : Launch) (G : zG) {N n : Nat} {f : zF} {r : Int32} {a0 : Nat} {a1 : Int32} {a2 : Int32} (h : fX12_seek N n f a0 a1 a2 = some r) : zM l G yX12_seek cX12_seek 4 (some .int) 0 n f [zr G a0, .int a1, .int a2] (some (.int r)) f := by
  refine zM.of (by decide) (Nat.le_of_ble_eq_true rfl) ?_
  intro p e s m args below meth c locs ls B hS hl
  have he := B.1
  have hb := B.2.1
  have hl : lv_has ls 4 [(0, zr G a0), (1, .int a1), (2, .int a2)] := hl
  unfold fX12_seek at h
  generalize s.heap = H at hS ⊢
  refine lv_iconst (v := (0 : Int32)) he hb dX12_seek_0 (by decide) ?_
  refine lv_istore_n (lv' := [(3, _), (0, _), (1, _), (2, _)]) he hb dX12_seek_1 rfl hl (by decide) rfl (fun ls hl => ?_)
  exact gX12_seek_2 l B N _ _ _ _ _ _ _ h hS (lv_sub hl [1, 2, 3, 0] rfl)
theorem dX12_fresh_0 : decode cX12_fresh 0 = .ok (.aload_n 0, 1) := by decide +kernel
theorem dX12_fresh_1 : decode cX12_fresh 1 = .ok (.invokevirtual 210, 3) := by decide +kernel
theorem dX12_fresh_4 : decode cX12_fresh 4 = .ok (.ifCond .ne 9, 3) := by decide +kernel
theorem dX12_fresh_7 : decode cX12_fresh 7 = .ok (.aload_n 0, 1) := by decide +kernel
theorem dX12_fresh_8 : decode cX12_fresh 8 = .ok (.iconst 1, 1) := by decide +kernel
theorem dX12_fresh_9 : decode cX12_fresh 9 = .ok (.invokevirtual 186, 3) := by decide +kernel
theorem dX12_fresh_12 : decode cX12_fresh 12 = .ok (.ireturn, 1) := by decide +kernel
theorem dX12_fresh_13 : decode cX12_fresh 13 = .ok (.aload_n 0, 1) := by decide +kernel
theorem dX12_fresh_14 : decode cX12_fresh 14 = .ok (.bipush 15, 2) := by decide +kernel
theorem dX12_fresh_16 : decode cX12_fresh 16 = .ok (.aload_n 0, 1) := by decide +kernel
theorem dX12_fresh_17 : decode cX12_fresh 17 = .ok (.getfield 37, 3) := by decide +kernel
theorem dX12_fresh_20 : decode cX12_fresh 20 = .ok (.iconst 2, 1) := by decide +kernel
theorem dX12_fresh_21 : decode cX12_fresh 21 = .ok (.iaload, 1) := by decide +kernel
theorem dX12_fresh_22 : decode cX12_fresh 22 = .ok (.invokevirtual 214, 3) := by decide +kernel
theorem dX12_fresh_25 : decode cX12_fresh 25 = .ok (.ifCond .ge 33, 3) := by decide +kernel
theorem dX12_fresh_28 : decode cX12_fresh 28 = .ok (.aload_n 0, 1) := by decide +kernel
theorem dX12_fresh_29 : decode cX12_fresh 29 = .ok (.bipush 19, 2) := by decide +kernel
theorem dX12_fresh_31 : decode cX12_fresh 31 = .ok (.aload_n 0, 1) := by decide +kernel
theorem dX12_fresh_32 : decode cX12_fresh 32 = .ok (.getfield 37, 3) := by decide +kernel
theorem dX12_fresh_35 : decode cX12_fresh 35 = .ok (.iconst 3, 1) := by decide +kernel
theorem dX12_fresh_36 : decode cX12_fresh 36 = .ok (.iaload, 1) := by decide +kernel
theorem dX12_fresh_37 : decode cX12_fresh 37 = .ok (.invokevirtual 214, 3) := by decide +kernel
theorem dX12_fresh_40 : decode cX12_fresh 40 = .ok (.ifCond .ge 18, 3) := by decide +kernel
theorem dX12_fresh_43 : decode cX12_fresh 43 = .ok (.aload_n 0, 1) := by decide +kernel
theorem dX12_fresh_44 : decode cX12_fresh 44 = .ok (.bipush 25, 2) := by decide +kernel
theorem dX12_fresh_46 : decode cX12_fresh 46 = .ok (.aload_n 0, 1) := by decide +kernel
theorem dX12_fresh_47 : decode cX12_fresh 47 = .ok (.getfield 37, 3) := by decide +kernel
theorem dX12_fresh_50 : decode cX12_fresh 50 = .ok (.iconst 4, 1) := by decide +kernel
theorem dX12_fresh_51 : decode cX12_fresh 51 = .ok (.iaload, 1) := by decide +kernel
theorem dX12_fresh_52 : decode cX12_fresh 52 = .ok (.invokevirtual 214, 3) := by decide +kernel
theorem dX12_fresh_55 : decode cX12_fresh 55 = .ok (.ifCond .lt 9, 3) := by decide +kernel
theorem dX12_fresh_58 : decode cX12_fresh 58 = .ok (.aload_n 0, 1) := by decide +kernel
theorem dX12_fresh_59 : decode cX12_fresh 59 = .ok (.iconst 3, 1) := by decide +kernel
theorem dX12_fresh_60 : decode cX12_fresh 60 = .ok (.invokevirtual 186, 3) := by decide +kernel
theorem dX12_fresh_63 : decode cX12_fresh 63 = .ok (.ireturn, 1) := by decide +kernel
theorem dX12_fresh_64 : decode cX12_fresh 64 = .ok (.aload_n 0, 1) := by decide +kernel
theorem dX12_fresh_65 : decode cX12_fresh 65 = .ok (.getfield 43, 3) := by decide +kernel
theorem dX12_fresh_68 : decode cX12_fresh 68 = .ok (.iload_n 1, 1) := by decide +kernel
theorem dX12_fresh_69 : decode cX12_fresh 69 = .ok (.aload_n 0, 1) := by decide +kernel
theorem dX12_fresh_70 : decode cX12_fresh 70 = .ok (.getfield 173, 3) := by decide +kernel
theorem dX12_fresh_73 : decode cX12_fresh 73 = .ok (.lastore, 1) := by decide +kernel
theorem dX12_fresh_74 : decode cX12_fresh 74 = .ok (.aload_n 0, 1) := by decide +kernel
theorem dX12_fresh_75 : decode cX12_fresh 75 = .ok (.invokevirtual 189, 3) := by decide +kernel
theorem dX12_fresh_78 : decode cX12_fresh 78 = .ok (.iconst 1, 1) := by decide +kernel
theorem dX12_fresh_79 : decode cX12_fresh 79 = .ok (.ireturn, 1) := by decide +kernel
def fX12_fresh_58 (N n : Nat) (f : zF) (a0 : Nat) : Option (zF × Int32) :=
    ((zck n f 12 a0).bind fun _ => (zbd (fX12_bad N n f a0 (3 : Int32)) fun f6 x5 => ((zbl x5).bind fun y => some (f6, y))))
set_option maxRecDepth 100000 in
set_option maxHeartbeats 4000000 in
theorem gX12_fresh_58 (l : Launch) {G : zG} {p : Program} {e : Env} {s : State} {m : MethodId} {args : Array Value} {below : List Frame} {meth : Method} {c : Code} {N n : Nat} {f9 : zF} {r : Int32} (B : zB G p s m args meth c RX12 cX12_fresh 2 (some .boolean)) : ∀ (f : zF) (a0 : Nat) (H : Heap) (locs : List Loc) (ls : Array Slot), fX12_fresh_58 N n f a0 = some (f9, r) → zS G n f H locs → lv_has ls 2 [(0, zr G a0)] → W p l e (zrm 2) s m args below meth c H locs 0 0 (MQ below (zQc G n f9 (some (.int r))) args s 0 0 (zA G)) (F0 m 58 ls []) := by
  have he := B.1
  have hb := B.2.1
  intro f a0 H locs ls h hS hl
  unfold fX12_fresh_58 at h
  refine z_aload_n he hb dX12_fresh_58 rfl (lv_at hl 0 rfl) (zref_r _ _) ?_
  refine lv_iconst (v := (3 : Int32)) he hb dX12_fresh_59 (by decide) ?_
  obtain ⟨_, hc, h⟩ := zob h
  obtain ⟨f6, x5, hx, h⟩ := zbd_i h
  refine z_callV (ci := 12) (T := TX12) (N := 50) (rest := []) B hS (mX12_bad l G hx) zy_X12_bad zk_1533 (by decide) hc rfl rfl hl rfl (Nat.le_of_ble_eq_true rfl) dX12_fresh_60 (kk := (fun H locs hS => ?_))
  obtain ⟨y, hx, h⟩ := zob h
  obtain ⟨hz, rfl⟩ := zbl_i hx
  obtain ⟨rfl, rfl⟩ := Prod.mk.inj (Option.some.inj h)
  exact z_zret B hS hz dX12_fresh_63
def fX12_fresh (N n : Nat) (f : zF) (a0 : Nat) (a1 : Int32) : Option (zF × Int32) :=
    ((zck n f 12 a0).bind fun _ => ((fX12_isName N n f a0).bind fun x1 => (if x1 = 0 then ((zck n f 12 a0).bind fun _ => (zbd (fX12_bad N n f a0 (1 : Int32)) fun f18 x17 => ((zbl x17).bind fun y => some (f18, y)))) else ((zgR n f 12 a0 7).bind fun x2 => ((zlI n f 0 x2 (2 : Int32)).bind fun x3 => ((zck n f 12 a0).bind fun _ => ((fX12_seek N n f a0 (15 : Int32) x3).bind fun x4 => (if 0 ≤ x4 then (fX12_fresh_58 N n f a0) else ((zgR n f 12 a0 7).bind fun x7 => ((zlI n f 0 x7 (3 : Int32)).bind fun x8 => ((zck n f 12 a0).bind fun _ => ((fX12_seek N n f a0 (19 : Int32) x8).bind fun x9 => (if 0 ≤ x9 then (fX12_fresh_58 N n f a0) else ((zgR n f 12 a0 7).bind fun x10 => ((zlI n f 0 x10 (4 : Int32)).bind fun x11 => ((zck n f 12 a0).bind fun _ => ((fX12_seek N n f a0 (25 : Int32) x11).bind fun x12 => (if x12 < 0 then ((zgR n f 12 a0 9).bind fun x13 => ((zgL n f 12 a0 17).bind fun x14 => ((zsL n f 1 x13 a1 x14).bind fun f15 => ((zck n f15 12 a0).bind fun _ => ((fX12_next N n f15 a0).bind fun f16 => ((zbl (1 : Int32)).bind fun y => some (f16, y))))))) else (fX12_fresh_58 N n f a0)))))))))))))))))))
set_option maxRecDepth 100000 in
set_option maxHeartbeats 4000000 in
theorem mX12_fresh (l : Launch) (G : zG) {N n : Nat} {f : zF} {f9 : zF} {r : Int32} {a0 : Nat} {a1 : Int32} (h : fX12_fresh N n f a0 a1 = some (f9, r)) : zM l G yX12_fresh cX12_fresh 2 (some .boolean) 2 n f [zr G a0, .int a1] (some (.int r)) f9 := by
  refine zM.of (by decide) (Nat.le_of_ble_eq_true rfl) ?_
  intro p e s m args below meth c locs ls B hS hl
  have he := B.1
  have hb := B.2.1
  have hl : lv_has ls 2 [(0, zr G a0), (1, .int a1)] := hl
  unfold fX12_fresh at h
  generalize s.heap = H at hS ⊢
  refine z_aload_n he hb dX12_fresh_0 rfl (lv_at hl 0 rfl) (zref_r _ _) ?_
  obtain ⟨_, hc, h⟩ := zob h
  obtain ⟨x1, hx, h⟩ := zob h
  refine z_callV (ci := 12) (T := TX12) (N := 50) (rest := []) B hS (mX12_isName l G hx) zy_X12_isName zk_1564 (by decide) hc rfl rfl hl rfl (Nat.le_of_ble_eq_true rfl) dX12_fresh_1 (kk := (fun H locs hS => ?_))
  refine lv_if_ne (tgt := 13) he hb dX12_fresh_4 (by decide) (fun hc => ?_) (fun hc => ?_)
  · rw [if_neg hc] at h
    refine z_aload_n he hb dX12_fresh_13 rfl (lv_at hl 0 rfl) (zref_r _ _) ?_
    refine lv_bipush (v := (15 : Int32)) he hb dX12_fresh_14 (by decide) ?_
    refine z_aload_n he hb dX12_fresh_16 rfl (lv_at hl 0 rfl) (zref_r _ _) ?_
    obtain ⟨x2, hx, h⟩ := zob h
    refine z_getR (ci := 12) (T := TX12) (N := 50) (j := 7) B hS hx rfl zin_X12 (by decide) zk_1354 dX12_fresh_17 ?_
    refine lv_iconst (v := (2 : Int32)) he hb dX12_fresh_20 (by decide) ?_
    obtain ⟨x3, hx, h⟩ := zob h
    refine z_ildI B hS hx dX12_fresh_21 ?_
    obtain ⟨_, hc, h⟩ := zob h
    obtain ⟨x4, hx, h⟩ := zob h
    refine z_callV (ci := 12) (T := TX12) (N := 50) (rest := []) B hS (mX12_seek l G hx) zy_X12_seek zk_1568 (by decide) hc rfl rfl hl rfl (Nat.le_of_ble_eq_true rfl) dX12_fresh_22 (kk := (fun H locs hS => ?_))
    refine lv_if_ge (tgt := 58) he hb dX12_fresh_25 (by decide) (fun hc => ?_) (fun hc => ?_)
    · rw [if_pos hc] at h
      exact gX12_fresh_58 l B _ _ _ _ _ h hS (lv_sub hl [0] rfl)
    · rw [if_neg hc] at h
      refine z_aload_n he hb dX12_fresh_28 rfl (lv_at hl 0 rfl) (zref_r _ _) ?_
      refine lv_bipush (v := (19 : Int32)) he hb dX12_fresh_29 (by decide) ?_
      refine z_aload_n he hb dX12_fresh_31 rfl (lv_at hl 0 rfl) (zref_r _ _) ?_
      obtain ⟨x7, hx, h⟩ := zob h
      refine z_getR (ci := 12) (T := TX12) (N := 50) (j := 7) B hS hx rfl zin_X12 (by decide) zk_1354 dX12_fresh_32 ?_
      refine lv_iconst (v := (3 : Int32)) he hb dX12_fresh_35 (by decide) ?_
      obtain ⟨x8, hx, h⟩ := zob h
      refine z_ildI B hS hx dX12_fresh_36 ?_
      obtain ⟨_, hc, h⟩ := zob h
      obtain ⟨x9, hx, h⟩ := zob h
      refine z_callV (ci := 12) (T := TX12) (N := 50) (rest := []) B hS (mX12_seek l G hx) zy_X12_seek zk_1568 (by decide) hc rfl rfl hl rfl (Nat.le_of_ble_eq_true rfl) dX12_fresh_37 (kk := (fun H locs hS => ?_))
      refine lv_if_ge (tgt := 58) he hb dX12_fresh_40 (by decide) (fun hc => ?_) (fun hc => ?_)
      · rw [if_pos hc] at h
        exact gX12_fresh_58 l B _ _ _ _ _ h hS (lv_sub hl [0] rfl)
      · rw [if_neg hc] at h
        refine z_aload_n he hb dX12_fresh_43 rfl (lv_at hl 0 rfl) (zref_r _ _) ?_
        refine lv_bipush (v := (25 : Int32)) he hb dX12_fresh_44 (by decide) ?_
        refine z_aload_n he hb dX12_fresh_46 rfl (lv_at hl 0 rfl) (zref_r _ _) ?_
        obtain ⟨x10, hx, h⟩ := zob h
        refine z_getR (ci := 12) (T := TX12) (N := 50) (j := 7) B hS hx rfl zin_X12 (by decide) zk_1354 dX12_fresh_47 ?_
        refine lv_iconst (v := (4 : Int32)) he hb dX12_fresh_50 (by decide) ?_
        obtain ⟨x11, hx, h⟩ := zob h
        refine z_ildI B hS hx dX12_fresh_51 ?_
        obtain ⟨_, hc, h⟩ := zob h
        obtain ⟨x12, hx, h⟩ := zob h
        refine z_callV (ci := 12) (T := TX12) (N := 50) (rest := []) B hS (mX12_seek l G hx) zy_X12_seek zk_1568 (by decide) hc rfl rfl hl rfl (Nat.le_of_ble_eq_true rfl) dX12_fresh_52 (kk := (fun H locs hS => ?_))
        refine lv_if_lt (tgt := 64) he hb dX12_fresh_55 (by decide) (fun hc => ?_) (fun hc => ?_)
        · rw [if_pos hc] at h
          refine z_aload_n he hb dX12_fresh_64 rfl (lv_at hl 0 rfl) (zref_r _ _) ?_
          obtain ⟨x13, hx, h⟩ := zob h
          refine z_getR (ci := 12) (T := TX12) (N := 50) (j := 9) B hS hx rfl zin_X12 (by decide) zk_1356 dX12_fresh_65 ?_
          refine lv_iload_n he hb dX12_fresh_68 rfl (lv_at hl 1 rfl) ?_
          refine z_aload_n he hb dX12_fresh_69 rfl (lv_at hl 0 rfl) (zref_r _ _) ?_
          obtain ⟨x14, hx, h⟩ := zob h
          refine z_getL (ci := 12) (T := TX12) (N := 50) (j := 17) B hS hx rfl zin_X12 (by decide) zk_1364 dX12_fresh_70 ?_
          obtain ⟨f15, hx, h⟩ := zob h
          refine z_istL B hS hx dX12_fresh_73 (fun H locs hS => ?_)
          refine z_aload_n he hb dX12_fresh_74 rfl (lv_at hl 0 rfl) (zref_r _ _) ?_
          obtain ⟨_, hc, h⟩ := zob h
          obtain ⟨f16, hx, h⟩ := zob h
          refine z_callV (ci := 12) (T := TX12) (N := 50) (rest := []) B hS (mX12_next l G hx) zy_X12_next zk_1507 (by decide) hc rfl rfl hl rfl (Nat.le_of_ble_eq_true rfl) dX12_fresh_75 (kk := (fun H locs hS => ?_))
          refine lv_iconst (v := (1 : Int32)) he hb dX12_fresh_78 (by decide) ?_
          obtain ⟨y, hx, h⟩ := zob h
          obtain ⟨hz, rfl⟩ := zbl_i hx
          obtain ⟨rfl, rfl⟩ := Prod.mk.inj (Option.some.inj h)
          exact z_zret B hS hz dX12_fresh_79
        · rw [if_neg hc] at h
          exact gX12_fresh_58 l B _ _ _ _ _ h hS (lv_sub hl [0] rfl)
  · rw [if_pos hc] at h
    refine z_aload_n he hb dX12_fresh_7 rfl (lv_at hl 0 rfl) (zref_r _ _) ?_
    refine lv_iconst (v := (1 : Int32)) he hb dX12_fresh_8 (by decide) ?_
    obtain ⟨_, hc, h⟩ := zob h
    obtain ⟨f18, x17, hx, h⟩ := zbd_i h
    refine z_callV (ci := 12) (T := TX12) (N := 50) (rest := []) B hS (mX12_bad l G hx) zy_X12_bad zk_1533 (by decide) hc rfl rfl hl rfl (Nat.le_of_ble_eq_true rfl) dX12_fresh_9 (kk := (fun H locs hS => ?_))
    obtain ⟨y, hx, h⟩ := zob h
    obtain ⟨hz, rfl⟩ := zbl_i hx
    obtain ⟨rfl, rfl⟩ := Prod.mk.inj (Option.some.inj h)
    exact z_zret B hS hz dX12_fresh_12
theorem dX12_looksAt_0 : decode cX12_looksAt 0 = .ok (.aload_n 0, 1) := by decide +kernel
theorem dX12_looksAt_1 : decode cX12_looksAt 1 = .ok (.invokevirtual 210, 3) := by decide +kernel
theorem dX12_looksAt_4 : decode cX12_looksAt 4 = .ok (.ifCond .ne 9, 3) := by decide +kernel
theorem dX12_looksAt_7 : decode cX12_looksAt 7 = .ok (.aload_n 0, 1) := by decide +kernel
theorem dX12_looksAt_8 : decode cX12_looksAt 8 = .ok (.iconst 1, 1) := by decide +kernel
theorem dX12_looksAt_9 : decode cX12_looksAt 9 = .ok (.invokevirtual 186, 3) := by decide +kernel
theorem dX12_looksAt_12 : decode cX12_looksAt 12 = .ok (.ireturn, 1) := by decide +kernel
theorem dX12_looksAt_13 : decode cX12_looksAt 13 = .ok (.aload_n 0, 1) := by decide +kernel
theorem dX12_looksAt_14 : decode cX12_looksAt 14 = .ok (.aload_n 0, 1) := by decide +kernel
theorem dX12_looksAt_15 : decode cX12_looksAt 15 = .ok (.iload_n 1, 1) := by decide +kernel
theorem dX12_looksAt_16 : decode cX12_looksAt 16 = .ok (.iload_n 2, 1) := by decide +kernel
theorem dX12_looksAt_17 : decode cX12_looksAt 17 = .ok (.invokevirtual 214, 3) := by decide +kernel
theorem dX12_looksAt_20 : decode cX12_looksAt 20 = .ok (.putfield 196, 3) := by decide +kernel
theorem dX12_looksAt_23 : decode cX12_looksAt 23 = .ok (.aload_n 0, 1) := by decide +kernel
theorem dX12_looksAt_24 : decode cX12_looksAt 24 = .ok (.getfield 196, 3) := by decide +kernel
theorem dX12_looksAt_27 : decode cX12_looksAt 27 = .ok (.ifCond .ge 11, 3) := by decide +kernel
theorem dX12_looksAt_30 : decode cX12_looksAt 30 = .ok (.aload_n 0, 1) := by decide +kernel
theorem dX12_looksAt_31 : decode cX12_looksAt 31 = .ok (.iconst 3, 1) := by decide +kernel
theorem dX12_looksAt_32 : decode cX12_looksAt 32 = .ok (.invokevirtual 186, 3) := by decide +kernel
theorem dX12_looksAt_35 : decode cX12_looksAt 35 = .ok (.ifCond .eq 7, 3) := by decide +kernel
theorem dX12_looksAt_38 : decode cX12_looksAt 38 = .ok (.iconst 1, 1) := by decide +kernel
theorem dX12_looksAt_39 : decode cX12_looksAt 39 = .ok (.goto 4, 3) := by decide +kernel
theorem dX12_looksAt_42 : decode cX12_looksAt 42 = .ok (.iconst 0, 1) := by decide +kernel
theorem dX12_looksAt_43 : decode cX12_looksAt 43 = .ok (.ireturn, 1) := by decide +kernel
def fX12_looksAt (N n : Nat) (f : zF) (a0 : Nat) (a1 : Int32) (a2 : Int32) : Option (zF × Int32) :=
    ((zck n f 12 a0).bind fun _ => ((fX12_isName N n f a0).bind fun x1 => (if x1 = 0 then ((zck n f 12 a0).bind fun _ => (zbd (fX12_bad N n f a0 (1 : Int32)) fun f8 x7 => ((zbl x7).bind fun y => some (f8, y)))) else ((zck n f 12 a0).bind fun _ => ((fX12_seek N n f a0 a1 a2).bind fun x2 => ((zpI n f 12 a0 18 x2).bind fun f3 => ((zgI n f3 12 a0 18).bind fun x4 => (if 0 ≤ x4 then ((zbl (1 : Int32)).bind fun y => some (f3, y)) else ((zck n f3 12 a0).bind fun _ => (zbd (fX12_bad N n f3 a0 (3 : Int32)) fun f6 x5 => (if x5 = 0 then ((zbl (0 : Int32)).bind fun y => some (f6, y)) else ((zbl (1 : Int32)).bind fun y => some (f6, y)))))))))))))
set_option maxRecDepth 100000 in
set_option maxHeartbeats 4000000 in
theorem mX12_looksAt (l : Launch) (G : zG) {N n : Nat} {f : zF} {f9 : zF} {r : Int32} {a0 : Nat} {a1 : Int32} {a2 : Int32} (h : fX12_looksAt N n f a0 a1 a2 = some (f9, r)) : zM l G yX12_looksAt cX12_looksAt 3 (some .boolean) 1 n f [zr G a0, .int a1, .int a2] (some (.int r)) f9 := by
  refine zM.of (by decide) (Nat.le_of_ble_eq_true rfl) ?_
  intro p e s m args below meth c locs ls B hS hl
  have he := B.1
  have hb := B.2.1
  have hl : lv_has ls 3 [(0, zr G a0), (1, .int a1), (2, .int a2)] := hl
  unfold fX12_looksAt at h
  generalize s.heap = H at hS ⊢
  refine z_aload_n he hb dX12_looksAt_0 rfl (lv_at hl 0 rfl) (zref_r _ _) ?_
  obtain ⟨_, hc, h⟩ := zob h
  obtain ⟨x1, hx, h⟩ := zob h
  refine z_callV (ci := 12) (T := TX12) (N := 50) (rest := []) B hS (mX12_isName l G hx) zy_X12_isName zk_1564 (by decide) hc rfl rfl hl rfl (Nat.le_of_ble_eq_true rfl) dX12_looksAt_1 (kk := (fun H locs hS => ?_))
  refine lv_if_ne (tgt := 13) he hb dX12_looksAt_4 (by decide) (fun hc => ?_) (fun hc => ?_)
  · rw [if_neg hc] at h
    refine z_aload_n he hb dX12_looksAt_13 rfl (lv_at hl 0 rfl) (zref_r _ _) ?_
    refine z_aload_n he hb dX12_looksAt_14 rfl (lv_at hl 0 rfl) (zref_r _ _) ?_
    refine lv_iload_n he hb dX12_looksAt_15 rfl (lv_at hl 1 rfl) ?_
    refine lv_iload_n he hb dX12_looksAt_16 rfl (lv_at hl 2 rfl) ?_
    obtain ⟨_, hc, h⟩ := zob h
    obtain ⟨x2, hx, h⟩ := zob h
    refine z_callV (ci := 12) (T := TX12) (N := 50) (rest := [_]) B hS (mX12_seek l G hx) zy_X12_seek zk_1568 (by decide) hc rfl rfl hl rfl (Nat.le_of_ble_eq_true rfl) dX12_looksAt_17 (kk := (fun H locs hS => ?_))
    obtain ⟨f3, hx, h⟩ := zob h
    refine z_putI (ci := 12) (T := TX12) (N := 50) (j := 18) B hS hx rfl zin_X12 tyX12 tyX12_ok nmX12 (by decide) zk_1365 rfl rfl dX12_looksAt_20 (fun H locs hS => ?_)
    refine z_aload_n he hb dX12_looksAt_23 rfl (lv_at hl 0 rfl) (zref_r _ _) ?_
    obtain ⟨x4, hx, h⟩ := zob h
    refine z_getI (ci := 12) (T := TX12) (N := 50) (j := 18) B hS hx rfl zin_X12 (by decide) zk_1365 dX12_looksAt_24 ?_
    refine lv_if_ge (tgt := 38) he hb dX12_looksAt_27 (by decide) (fun hc => ?_) (fun hc => ?_)
    · rw [if_pos hc] at h
      refine lv_iconst (v := (1 : Int32)) he hb dX12_looksAt_38 (by decide) ?_
      refine lv_goto (tgt := 43) he hb dX12_looksAt_39 (by decide) ?_
      obtain ⟨y, hx, h⟩ := zob h
      obtain ⟨hz, rfl⟩ := zbl_i hx
      obtain ⟨rfl, rfl⟩ := Prod.mk.inj (Option.some.inj h)
      exact z_zret B hS hz dX12_looksAt_43
    · rw [if_neg hc] at h
      refine z_aload_n he hb dX12_looksAt_30 rfl (lv_at hl 0 rfl) (zref_r _ _) ?_
      refine lv_iconst (v := (3 : Int32)) he hb dX12_looksAt_31 (by decide) ?_
      obtain ⟨_, hc, h⟩ := zob h
      obtain ⟨f6, x5, hx, h⟩ := zbd_i h
      refine z_callV (ci := 12) (T := TX12) (N := 50) (rest := []) B hS (mX12_bad l G hx) zy_X12_bad zk_1533 (by decide) hc rfl rfl hl rfl (Nat.le_of_ble_eq_true rfl) dX12_looksAt_32 (kk := (fun H locs hS => ?_))
      refine lv_if_eq (tgt := 42) he hb dX12_looksAt_35 (by decide) (fun hc => ?_) (fun hc => ?_)
      · rw [if_pos hc] at h
        refine lv_iconst (v := (0 : Int32)) he hb dX12_looksAt_42 (by decide) ?_
        obtain ⟨y, hx, h⟩ := zob h
        obtain ⟨hz, rfl⟩ := zbl_i hx
        obtain ⟨rfl, rfl⟩ := Prod.mk.inj (Option.some.inj h)
        exact z_zret B hS hz dX12_looksAt_43
      · rw [if_neg hc] at h
        refine lv_iconst (v := (1 : Int32)) he hb dX12_looksAt_38 (by decide) ?_
        refine lv_goto (tgt := 43) he hb dX12_looksAt_39 (by decide) ?_
        obtain ⟨y, hx, h⟩ := zob h
        obtain ⟨hz, rfl⟩ := zbl_i hx
        obtain ⟨rfl, rfl⟩ := Prod.mk.inj (Option.some.inj h)
        exact z_zret B hS hz dX12_looksAt_43
  · rw [if_pos hc] at h
    refine z_aload_n he hb dX12_looksAt_7 rfl (lv_at hl 0 rfl) (zref_r _ _) ?_
    refine lv_iconst (v := (1 : Int32)) he hb dX12_looksAt_8 (by decide) ?_
    obtain ⟨_, hc, h⟩ := zob h
    obtain ⟨f8, x7, hx, h⟩ := zbd_i h
    refine z_callV (ci := 12) (T := TX12) (N := 50) (rest := []) B hS (mX12_bad l G hx) zy_X12_bad zk_1533 (by decide) hc rfl rfl hl rfl (Nat.le_of_ble_eq_true rfl) dX12_looksAt_9 (kk := (fun H locs hS => ?_))
    obtain ⟨y, hx, h⟩ := zob h
    obtain ⟨hz, rfl⟩ := zbl_i hx
    obtain ⟨rfl, rfl⟩ := Prod.mk.inj (Option.some.inj h)
    exact z_zret B hS hz dX12_looksAt_12
theorem dX12_takesName_0 : decode cX12_takesName 0 = .ok (.aload_n 0, 1) := by decide +kernel
theorem dX12_takesName_1 : decode cX12_takesName 1 = .ok (.iload_n 1, 1) := by decide +kernel
theorem dX12_takesName_2 : decode cX12_takesName 2 = .ok (.iload_n 2, 1) := by decide +kernel
theorem dX12_takesName_3 : decode cX12_takesName 3 = .ok (.invokevirtual 218, 3) := by decide +kernel
theorem dX12_takesName_6 : decode cX12_takesName 6 = .ok (.ifCond .ne 5, 3) := by decide +kernel
theorem dX12_takesName_9 : decode cX12_takesName 9 = .ok (.iconst 0, 1) := by decide +kernel
theorem dX12_takesName_10 : decode cX12_takesName 10 = .ok (.ireturn, 1) := by decide +kernel
theorem dX12_takesName_11 : decode cX12_takesName 11 = .ok (.aload_n 0, 1) := by decide +kernel
theorem dX12_takesName_12 : decode cX12_takesName 12 = .ok (.invokevirtual 189, 3) := by decide +kernel
theorem dX12_takesName_15 : decode cX12_takesName 15 = .ok (.iconst 1, 1) := by decide +kernel
theorem dX12_takesName_16 : decode cX12_takesName 16 = .ok (.ireturn, 1) := by decide +kernel
def fX12_takesName (N n : Nat) (f : zF) (a0 : Nat) (a1 : Int32) (a2 : Int32) : Option (zF × Int32) :=
    ((zck n f 12 a0).bind fun _ => (zbd (fX12_looksAt N n f a0 a1 a2) fun f2 x1 => (if x1 = 0 then ((zbl (0 : Int32)).bind fun y => some (f2, y)) else ((zck n f2 12 a0).bind fun _ => ((fX12_next N n f2 a0).bind fun f3 => ((zbl (1 : Int32)).bind fun y => some (f3, y)))))))
set_option maxRecDepth 100000 in
set_option maxHeartbeats 4000000 in
theorem mX12_takesName (l : Launch) (G : zG) {N n : Nat} {f : zF} {f9 : zF} {r : Int32} {a0 : Nat} {a1 : Int32} {a2 : Int32} (h : fX12_takesName N n f a0 a1 a2 = some (f9, r)) : zM l G yX12_takesName cX12_takesName 3 (some .boolean) 2 n f [zr G a0, .int a1, .int a2] (some (.int r)) f9 := by
  refine zM.of (by decide) (Nat.le_of_ble_eq_true rfl) ?_
  intro p e s m args below meth c locs ls B hS hl
  have he := B.1
  have hb := B.2.1
  have hl : lv_has ls 3 [(0, zr G a0), (1, .int a1), (2, .int a2)] := hl
  unfold fX12_takesName at h
  generalize s.heap = H at hS ⊢
  refine z_aload_n he hb dX12_takesName_0 rfl (lv_at hl 0 rfl) (zref_r _ _) ?_
  refine lv_iload_n he hb dX12_takesName_1 rfl (lv_at hl 1 rfl) ?_
  refine lv_iload_n he hb dX12_takesName_2 rfl (lv_at hl 2 rfl) ?_
  obtain ⟨_, hc, h⟩ := zob h
  obtain ⟨f2, x1, hx, h⟩ := zbd_i h
  refine z_callV (ci := 12) (T := TX12) (N := 50) (rest := []) B hS (mX12_looksAt l G hx) zy_X12_looksAt zk_1580 (by decide) hc rfl rfl hl rfl (Nat.le_of_ble_eq_true rfl) dX12_takesName_3 (kk := (fun H locs hS => ?_))
  refine lv_if_ne (tgt := 11) he hb dX12_takesName_6 (by decide) (fun hc => ?_) (fun hc => ?_)
  · rw [if_neg hc] at h
    refine z_aload_n he hb dX12_takesName_11 rfl (lv_at hl 0 rfl) (zref_r _ _) ?_
    obtain ⟨_, hc, h⟩ := zob h
    obtain ⟨f3, hx, h⟩ := zob h
    refine z_callV (ci := 12) (T := TX12) (N := 50) (rest := []) B hS (mX12_next l G hx) zy_X12_next zk_1507 (by decide) hc rfl rfl hl rfl (Nat.le_of_ble_eq_true rfl) dX12_takesName_12 (kk := (fun H locs hS => ?_))
    refine lv_iconst (v := (1 : Int32)) he hb dX12_takesName_15 (by decide) ?_
    obtain ⟨y, hx, h⟩ := zob h
    obtain ⟨hz, rfl⟩ := zbl_i hx
    obtain ⟨rfl, rfl⟩ := Prod.mk.inj (Option.some.inj h)
    exact z_zret B hS hz dX12_takesName_16
  · rw [if_pos hc] at h
    refine lv_iconst (v := (0 : Int32)) he hb dX12_takesName_9 (by decide) ?_
    obtain ⟨y, hx, h⟩ := zob h
    obtain ⟨hz, rfl⟩ := zbl_i hx
    obtain ⟨rfl, rfl⟩ := Prod.mk.inj (Option.some.inj h)
    exact z_zret B hS hz dX12_takesName_10
theorem dX12_readField_0 : decode cX12_readField 0 = .ok (.aload_n 0, 1) := by decide +kernel
theorem dX12_readField_1 : decode cX12_readField 1 = .ok (.getfield 224, 3) := by decide +kernel
theorem dX12_readField_4 : decode cX12_readField 4 = .ok (.ifCond .eq 9, 3) := by decide +kernel
theorem dX12_readField_7 : decode cX12_readField 7 = .ok (.aload_n 0, 1) := by decide +kernel
theorem dX12_readField_8 : decode cX12_readField 8 = .ok (.iconst 3, 1) := by decide +kernel
theorem dX12_readField_9 : decode cX12_readField 9 = .ok (.invokevirtual 186, 3) := by decide +kernel
theorem dX12_readField_12 : decode cX12_readField 12 = .ok (.ireturn, 1) := by decide +kernel
theorem dX12_readField_13 : decode cX12_readField 13 = .ok (.aload_n 0, 1) := by decide +kernel
theorem dX12_readField_14 : decode cX12_readField 14 = .ok (.iconst 1, 1) := by decide +kernel
theorem dX12_readField_15 : decode cX12_readField 15 = .ok (.putfield 224, 3) := by decide +kernel
theorem dX12_readField_18 : decode cX12_readField 18 = .ok (.aload_n 0, 1) := by decide +kernel
theorem dX12_readField_19 : decode cX12_readField 19 = .ok (.invokevirtual 189, 3) := by decide +kernel
theorem dX12_readField_22 : decode cX12_readField 22 = .ok (.aload_n 0, 1) := by decide +kernel
theorem dX12_readField_23 : decode cX12_readField 23 = .ok (.iconst 0, 1) := by decide +kernel
theorem dX12_readField_24 : decode cX12_readField 24 = .ok (.iconst 2, 1) := by decide +kernel
theorem dX12_readField_25 : decode cX12_readField 25 = .ok (.bipush 9, 2) := by decide +kernel
theorem dX12_readField_27 : decode cX12_readField 27 = .ok (.invokevirtual 243, 3) := by decide +kernel
theorem dX12_readField_30 : decode cX12_readField 30 = .ok (.ifCond .eq 18, 3) := by decide +kernel
theorem dX12_readField_33 : decode cX12_readField 33 = .ok (.aload_n 0, 1) := by decide +kernel
theorem dX12_readField_34 : decode cX12_readField 34 = .ok (.iconst 1, 1) := by decide +kernel
theorem dX12_readField_35 : decode cX12_readField 35 = .ok (.iconst 2, 1) := by decide +kernel
theorem dX12_readField_36 : decode cX12_readField 36 = .ok (.bipush 9, 2) := by decide +kernel
theorem dX12_readField_38 : decode cX12_readField 38 = .ok (.invokevirtual 243, 3) := by decide +kernel
theorem dX12_readField_41 : decode cX12_readField 41 = .ok (.ifCond .eq 7, 3) := by decide +kernel
theorem dX12_readField_44 : decode cX12_readField 44 = .ok (.iconst 1, 1) := by decide +kernel
theorem dX12_readField_45 : decode cX12_readField 45 = .ok (.goto 4, 3) := by decide +kernel
theorem dX12_readField_48 : decode cX12_readField 48 = .ok (.iconst 0, 1) := by decide +kernel
theorem dX12_readField_49 : decode cX12_readField 49 = .ok (.ireturn, 1) := by decide +kernel
def fX12_readField (N n : Nat) (f : zF) (a0 : Nat) : Option (zF × Int32) :=
    ((zgI n f 12 a0 20).bind fun x1 => (if x1 = 0 then ((zpZ n f 12 a0 20 (1 : Int32)).bind fun f2 => ((zck n f2 12 a0).bind fun _ => ((fX12_next N n f2 a0).bind fun f3 => ((zck n f3 12 a0).bind fun _ => (zbd (fX12_puts N n f3 a0 (0 : Int32) (2 : Int32) (9 : Int32)) fun f5 x4 => (if x4 = 0 then ((zbl (0 : Int32)).bind fun y => some (f5, y)) else ((zck n f5 12 a0).bind fun _ => (zbd (fX12_puts N n f5 a0 (1 : Int32) (2 : Int32) (9 : Int32)) fun f7 x6 => (if x6 = 0 then ((zbl (0 : Int32)).bind fun y => some (f7, y)) else ((zbl (1 : Int32)).bind fun y => some (f7, y))))))))))) else ((zck n f 12 a0).bind fun _ => (zbd (fX12_bad N n f a0 (3 : Int32)) fun f9 x8 => ((zbl x8).bind fun y => some (f9, y))))))
set_option maxRecDepth 100000 in
set_option maxHeartbeats 4000000 in
theorem mX12_readField (l : Launch) (G : zG) {N n : Nat} {f : zF} {f9 : zF} {r : Int32} {a0 : Nat} (h : fX12_readField N n f a0 = some (f9, r)) : zM l G yX12_readField cX12_readField 1 (some .boolean) 4 n f [zr G a0] (some (.int r)) f9 := by
  refine zM.of (by decide) (Nat.le_of_ble_eq_true rfl) ?_
  intro p e s m args below meth c locs ls B hS hl
  have he := B.1
  have hb := B.2.1
  have hl : lv_has ls 1 [(0, zr G a0)] := hl
  unfold fX12_readField at h
  generalize s.heap = H at hS ⊢
  refine z_aload_n he hb dX12_readField_0 rfl (lv_at hl 0 rfl) (zref_r _ _) ?_
  obtain ⟨x1, hx, h⟩ := zob h
  refine z_getI (ci := 12) (T := TX12) (N := 50) (j := 20) B hS hx rfl zin_X12 (by decide) zk_1367 dX12_readField_1 ?_
  refine lv_if_eq (tgt := 13) he hb dX12_readField_4 (by decide) (fun hc => ?_) (fun hc => ?_)
  · rw [if_pos hc] at h
    refine z_aload_n he hb dX12_readField_13 rfl (lv_at hl 0 rfl) (zref_r _ _) ?_
    refine lv_iconst (v := (1 : Int32)) he hb dX12_readField_14 (by decide) ?_
    obtain ⟨f2, hx, h⟩ := zob h
    refine z_putZ (ci := 12) (T := TX12) (N := 50) (j := 20) B hS hx rfl zin_X12 tyX12 tyX12_ok nmX12 (by decide) zk_1367 rfl rfl dX12_readField_15 (fun H locs hS => ?_)
    refine z_aload_n he hb dX12_readField_18 rfl (lv_at hl 0 rfl) (zref_r _ _) ?_
    obtain ⟨_, hc, h⟩ := zob h
    obtain ⟨f3, hx, h⟩ := zob h
    refine z_callV (ci := 12) (T := TX12) (N := 50) (rest := []) B hS (mX12_next l G hx) zy_X12_next zk_1507 (by decide) hc rfl rfl hl rfl (Nat.le_of_ble_eq_true rfl) dX12_readField_19 (kk := (fun H locs hS => ?_))
    refine z_aload_n he hb dX12_readField_22 rfl (lv_at hl 0 rfl) (zref_r _ _) ?_
    refine lv_iconst (v := (0 : Int32)) he hb dX12_readField_23 (by decide) ?_
    refine lv_iconst (v := (2 : Int32)) he hb dX12_readField_24 (by decide) ?_
    refine lv_bipush (v := (9 : Int32)) he hb dX12_readField_25 (by decide) ?_
    obtain ⟨_, hc, h⟩ := zob h
    obtain ⟨f5, x4, hx, h⟩ := zbd_i h
    refine z_callV (ci := 12) (T := TX12) (N := 50) (rest := []) B hS (mX12_puts l G hx) zy_X12_puts zk_1537 (by decide) hc rfl rfl hl rfl (Nat.le_of_ble_eq_true rfl) dX12_readField_27 (kk := (fun H locs hS => ?_))
    refine lv_if_eq (tgt := 48) he hb dX12_readField_30 (by decide) (fun hc => ?_) (fun hc => ?_)
    · rw [if_pos hc] at h
      refine lv_iconst (v := (0 : Int32)) he hb dX12_readField_48 (by decide) ?_
      obtain ⟨y, hx, h⟩ := zob h
      obtain ⟨hz, rfl⟩ := zbl_i hx
      obtain ⟨rfl, rfl⟩ := Prod.mk.inj (Option.some.inj h)
      exact z_zret B hS hz dX12_readField_49
    · rw [if_neg hc] at h
      refine z_aload_n he hb dX12_readField_33 rfl (lv_at hl 0 rfl) (zref_r _ _) ?_
      refine lv_iconst (v := (1 : Int32)) he hb dX12_readField_34 (by decide) ?_
      refine lv_iconst (v := (2 : Int32)) he hb dX12_readField_35 (by decide) ?_
      refine lv_bipush (v := (9 : Int32)) he hb dX12_readField_36 (by decide) ?_
      obtain ⟨_, hc, h⟩ := zob h
      obtain ⟨f7, x6, hx, h⟩ := zbd_i h
      refine z_callV (ci := 12) (T := TX12) (N := 50) (rest := []) B hS (mX12_puts l G hx) zy_X12_puts zk_1537 (by decide) hc rfl rfl hl rfl (Nat.le_of_ble_eq_true rfl) dX12_readField_38 (kk := (fun H locs hS => ?_))
      refine lv_if_eq (tgt := 48) he hb dX12_readField_41 (by decide) (fun hc => ?_) (fun hc => ?_)
      · rw [if_pos hc] at h
        refine lv_iconst (v := (0 : Int32)) he hb dX12_readField_48 (by decide) ?_
        obtain ⟨y, hx, h⟩ := zob h
        obtain ⟨hz, rfl⟩ := zbl_i hx
        obtain ⟨rfl, rfl⟩ := Prod.mk.inj (Option.some.inj h)
        exact z_zret B hS hz dX12_readField_49
      · rw [if_neg hc] at h
        refine lv_iconst (v := (1 : Int32)) he hb dX12_readField_44 (by decide) ?_
        refine lv_goto (tgt := 49) he hb dX12_readField_45 (by decide) ?_
        obtain ⟨y, hx, h⟩ := zob h
        obtain ⟨hz, rfl⟩ := zbl_i hx
        obtain ⟨rfl, rfl⟩ := Prod.mk.inj (Option.some.inj h)
        exact z_zret B hS hz dX12_readField_49
  · rw [if_neg hc] at h
    refine z_aload_n he hb dX12_readField_7 rfl (lv_at hl 0 rfl) (zref_r _ _) ?_
    refine lv_iconst (v := (3 : Int32)) he hb dX12_readField_8 (by decide) ?_
    obtain ⟨_, hc, h⟩ := zob h
    obtain ⟨f9, x8, hx, h⟩ := zbd_i h
    refine z_callV (ci := 12) (T := TX12) (N := 50) (rest := []) B hS (mX12_bad l G hx) zy_X12_bad zk_1533 (by decide) hc rfl rfl hl rfl (Nat.le_of_ble_eq_true rfl) dX12_readField_9 (kk := (fun H locs hS => ?_))
    obtain ⟨y, hx, h⟩ := zob h
    obtain ⟨hz, rfl⟩ := zbl_i hx
    obtain ⟨rfl, rfl⟩ := Prod.mk.inj (Option.some.inj h)
    exact z_zret B hS hz dX12_readField_12
theorem dX12_takesCell_0 : decode cX12_takesCell 0 = .ok (.aload_n 0, 1) := by decide +kernel
theorem dX12_takesCell_1 : decode cX12_takesCell 1 = .ok (.iconst 0, 1) := by decide +kernel
theorem dX12_takesCell_2 : decode cX12_takesCell 2 = .ok (.aload_n 0, 1) := by decide +kernel
theorem dX12_takesCell_3 : decode cX12_takesCell 3 = .ok (.getfield 37, 3) := by decide +kernel
theorem dX12_takesCell_6 : decode cX12_takesCell 6 = .ok (.iconst 0, 1) := by decide +kernel
theorem dX12_takesCell_7 : decode cX12_takesCell 7 = .ok (.iaload, 1) := by decide +kernel
theorem dX12_takesCell_8 : decode cX12_takesCell 8 = .ok (.iconst 1, 1) := by decide +kernel
theorem dX12_takesCell_9 : decode cX12_takesCell 9 = .ok (.isub, 1) := by decide +kernel
theorem dX12_takesCell_10 : decode cX12_takesCell 10 = .ok (.invokevirtual 199, 3) := by decide +kernel
theorem dX12_takesCell_13 : decode cX12_takesCell 13 = .ok (.ifCond .ne 5, 3) := by decide +kernel
theorem dX12_takesCell_16 : decode cX12_takesCell 16 = .ok (.iconst 0, 1) := by decide +kernel
theorem dX12_takesCell_17 : decode cX12_takesCell 17 = .ok (.ireturn, 1) := by decide +kernel
theorem dX12_takesCell_18 : decode cX12_takesCell 18 = .ok (.aload_n 0, 1) := by decide +kernel
theorem dX12_takesCell_19 : decode cX12_takesCell 19 = .ok (.getfield 196, 3) := by decide +kernel
theorem dX12_takesCell_22 : decode cX12_takesCell 22 = .ok (.istore_n 1, 1) := by decide +kernel
theorem dX12_takesCell_23 : decode cX12_takesCell 23 = .ok (.aload_n 0, 1) := by decide +kernel
theorem dX12_takesCell_24 : decode cX12_takesCell 24 = .ok (.getfield 160, 3) := by decide +kernel
theorem dX12_takesCell_27 : decode cX12_takesCell 27 = .ok (.iconst 2, 1) := by decide +kernel
theorem dX12_takesCell_28 : decode cX12_takesCell 28 = .ok (.if_icmp .eq 9, 3) := by decide +kernel
theorem dX12_takesCell_31 : decode cX12_takesCell 31 = .ok (.aload_n 0, 1) := by decide +kernel
theorem dX12_takesCell_32 : decode cX12_takesCell 32 = .ok (.iconst 1, 1) := by decide +kernel
theorem dX12_takesCell_33 : decode cX12_takesCell 33 = .ok (.invokevirtual 186, 3) := by decide +kernel
theorem dX12_takesCell_36 : decode cX12_takesCell 36 = .ok (.ireturn, 1) := by decide +kernel
theorem dX12_takesCell_37 : decode cX12_takesCell 37 = .ok (.aload_n 0, 1) := by decide +kernel
theorem dX12_takesCell_38 : decode cX12_takesCell 38 = .ok (.getfield 170, 3) := by decide +kernel
theorem dX12_takesCell_41 : decode cX12_takesCell 41 = .ok (.aload_n 0, 1) := by decide +kernel
theorem dX12_takesCell_42 : decode cX12_takesCell 42 = .ok (.getfield 37, 3) := by decide +kernel
theorem dX12_takesCell_45 : decode cX12_takesCell 45 = .ok (.iconst 1, 1) := by decide +kernel
theorem dX12_takesCell_46 : decode cX12_takesCell 46 = .ok (.iaload, 1) := by decide +kernel
theorem dX12_takesCell_47 : decode cX12_takesCell 47 = .ok (.if_icmp .lt 9, 3) := by decide +kernel
theorem dX12_takesCell_50 : decode cX12_takesCell 50 = .ok (.aload_n 0, 1) := by decide +kernel
theorem dX12_takesCell_51 : decode cX12_takesCell 51 = .ok (.iconst 2, 1) := by decide +kernel
theorem dX12_takesCell_52 : decode cX12_takesCell 52 = .ok (.invokevirtual 186, 3) := by decide +kernel
theorem dX12_takesCell_55 : decode cX12_takesCell 55 = .ok (.ireturn, 1) := by decide +kernel
theorem dX12_takesCell_56 : decode cX12_takesCell 56 = .ok (.bipush 9, 2) := by decide +kernel
theorem dX12_takesCell_58 : decode cX12_takesCell 58 = .ok (.aload_n 0, 1) := by decide +kernel
theorem dX12_takesCell_59 : decode cX12_takesCell 59 = .ok (.getfield 170, 3) := by decide +kernel
theorem dX12_takesCell_62 : decode cX12_takesCell 62 = .ok (.imul, 1) := by decide +kernel
theorem dX12_takesCell_63 : decode cX12_takesCell 63 = .ok (.iload_n 1, 1) := by decide +kernel
theorem dX12_takesCell_64 : decode cX12_takesCell 64 = .ok (.iadd, 1) := by decide +kernel
theorem dX12_takesCell_65 : decode cX12_takesCell 65 = .ok (.istore_n 2, 1) := by decide +kernel
theorem dX12_takesCell_66 : decode cX12_takesCell 66 = .ok (.aload_n 0, 1) := by decide +kernel
theorem dX12_takesCell_67 : decode cX12_takesCell 67 = .ok (.getfield 37, 3) := by decide +kernel
theorem dX12_takesCell_70 : decode cX12_takesCell 70 = .ok (.iconst 5, 1) := by decide +kernel
theorem dX12_takesCell_71 : decode cX12_takesCell 71 = .ok (.iload_n 2, 1) := by decide +kernel
theorem dX12_takesCell_72 : decode cX12_takesCell 72 = .ok (.iadd, 1) := by decide +kernel
theorem dX12_takesCell_73 : decode cX12_takesCell 73 = .ok (.iaload, 1) := by decide +kernel
theorem dX12_takesCell_74 : decode cX12_takesCell 74 = .ok (.ifCond .le 7, 3) := by decide +kernel
theorem dX12_takesCell_77 : decode cX12_takesCell 77 = .ok (.iconst 1, 1) := by decide +kernel
theorem dX12_takesCell_78 : decode cX12_takesCell 78 = .ok (.goto 4, 3) := by decide +kernel
theorem dX12_takesCell_81 : decode cX12_takesCell 81 = .ok (.iconst 0, 1) := by decide +kernel
theorem dX12_takesCell_82 : decode cX12_takesCell 82 = .ok (.istore_n 3, 1) := by decide +kernel
theorem dX12_takesCell_83 : decode cX12_takesCell 83 = .ok (.iconst 0, 1) := by decide +kernel
theorem dX12_takesCell_84 : decode cX12_takesCell 84 = .ok (.istore 4, 2) := by decide +kernel
theorem dX12_takesCell_86 : decode cX12_takesCell 86 = .ok (.iload 4, 2) := by decide +kernel
theorem dX12_takesCell_88 : decode cX12_takesCell 88 = .ok (.aload_n 0, 1) := by decide +kernel
theorem dX12_takesCell_89 : decode cX12_takesCell 89 = .ok (.getfield 37, 3) := by decide +kernel
theorem dX12_takesCell_92 : decode cX12_takesCell 92 = .ok (.iconst 3, 1) := by decide +kernel
theorem dX12_takesCell_93 : decode cX12_takesCell 93 = .ok (.iaload, 1) := by decide +kernel
theorem dX12_takesCell_94 : decode cX12_takesCell 94 = .ok (.if_icmp .ge 33, 3) := by decide +kernel
theorem dX12_takesCell_97 : decode cX12_takesCell 97 = .ok (.iload_n 3, 1) := by decide +kernel
theorem dX12_takesCell_98 : decode cX12_takesCell 98 = .ok (.ifCond .ne 17, 3) := by decide +kernel
theorem dX12_takesCell_101 : decode cX12_takesCell 101 = .ok (.aload_n 0, 1) := by decide +kernel
theorem dX12_takesCell_102 : decode cX12_takesCell 102 = .ok (.getfield 37, 3) := by decide +kernel
theorem dX12_takesCell_105 : decode cX12_takesCell 105 = .ok (.bipush 101, 2) := by decide +kernel
theorem dX12_takesCell_107 : decode cX12_takesCell 107 = .ok (.iload 4, 2) := by decide +kernel
theorem dX12_takesCell_109 : decode cX12_takesCell 109 = .ok (.iadd, 1) := by decide +kernel
theorem dX12_takesCell_110 : decode cX12_takesCell 110 = .ok (.iaload, 1) := by decide +kernel
theorem dX12_takesCell_111 : decode cX12_takesCell 111 = .ok (.iload_n 2, 1) := by decide +kernel
theorem dX12_takesCell_112 : decode cX12_takesCell 112 = .ok (.if_icmp .ne 7, 3) := by decide +kernel
theorem dX12_takesCell_115 : decode cX12_takesCell 115 = .ok (.iconst 1, 1) := by decide +kernel
theorem dX12_takesCell_116 : decode cX12_takesCell 116 = .ok (.goto 4, 3) := by decide +kernel
theorem dX12_takesCell_119 : decode cX12_takesCell 119 = .ok (.iconst 0, 1) := by decide +kernel
theorem dX12_takesCell_120 : decode cX12_takesCell 120 = .ok (.istore_n 3, 1) := by decide +kernel
theorem dX12_takesCell_121 : decode cX12_takesCell 121 = .ok (.iinc 4 1, 3) := by decide +kernel
theorem dX12_takesCell_124 : decode cX12_takesCell 124 = .ok (.goto (-38), 3) := by decide +kernel
theorem dX12_takesCell_127 : decode cX12_takesCell 127 = .ok (.iconst 0, 1) := by decide +kernel
theorem dX12_takesCell_128 : decode cX12_takesCell 128 = .ok (.istore 4, 2) := by decide +kernel
theorem dX12_takesCell_130 : decode cX12_takesCell 130 = .ok (.iload 4, 2) := by decide +kernel
theorem dX12_takesCell_132 : decode cX12_takesCell 132 = .ok (.aload_n 0, 1) := by decide +kernel
theorem dX12_takesCell_133 : decode cX12_takesCell 133 = .ok (.getfield 37, 3) := by decide +kernel
theorem dX12_takesCell_136 : decode cX12_takesCell 136 = .ok (.iconst 4, 1) := by decide +kernel
theorem dX12_takesCell_137 : decode cX12_takesCell 137 = .ok (.iaload, 1) := by decide +kernel
theorem dX12_takesCell_138 : decode cX12_takesCell 138 = .ok (.if_icmp .ge 33, 3) := by decide +kernel
theorem dX12_takesCell_141 : decode cX12_takesCell 141 = .ok (.iload_n 3, 1) := by decide +kernel
theorem dX12_takesCell_142 : decode cX12_takesCell 142 = .ok (.ifCond .ne 17, 3) := by decide +kernel
theorem dX12_takesCell_145 : decode cX12_takesCell 145 = .ok (.aload_n 0, 1) := by decide +kernel
theorem dX12_takesCell_146 : decode cX12_takesCell 146 = .ok (.getfield 37, 3) := by decide +kernel
theorem dX12_takesCell_149 : decode cX12_takesCell 149 = .ok (.bipush 119, 2) := by decide +kernel
theorem dX12_takesCell_151 : decode cX12_takesCell 151 = .ok (.iload 4, 2) := by decide +kernel
theorem dX12_takesCell_153 : decode cX12_takesCell 153 = .ok (.iadd, 1) := by decide +kernel
theorem dX12_takesCell_154 : decode cX12_takesCell 154 = .ok (.iaload, 1) := by decide +kernel
theorem dX12_takesCell_155 : decode cX12_takesCell 155 = .ok (.iload_n 2, 1) := by decide +kernel
theorem dX12_takesCell_156 : decode cX12_takesCell 156 = .ok (.if_icmp .ne 7, 3) := by decide +kernel
theorem dX12_takesCell_159 : decode cX12_takesCell 159 = .ok (.iconst 1, 1) := by decide +kernel
theorem dX12_takesCell_160 : decode cX12_takesCell 160 = .ok (.goto 4, 3) := by decide +kernel
theorem dX12_takesCell_163 : decode cX12_takesCell 163 = .ok (.iconst 0, 1) := by decide +kernel
theorem dX12_takesCell_164 : decode cX12_takesCell 164 = .ok (.istore_n 3, 1) := by decide +kernel
theorem dX12_takesCell_165 : decode cX12_takesCell 165 = .ok (.iinc 4 1, 3) := by decide +kernel
theorem dX12_takesCell_168 : decode cX12_takesCell 168 = .ok (.goto (-38), 3) := by decide +kernel
theorem dX12_takesCell_171 : decode cX12_takesCell 171 = .ok (.iload_n 3, 1) := by decide +kernel
theorem dX12_takesCell_172 : decode cX12_takesCell 172 = .ok (.ifCond .eq 9, 3) := by decide +kernel
theorem dX12_takesCell_175 : decode cX12_takesCell 175 = .ok (.aload_n 0, 1) := by decide +kernel
theorem dX12_takesCell_176 : decode cX12_takesCell 176 = .ok (.iconst 3, 1) := by decide +kernel
theorem dX12_takesCell_177 : decode cX12_takesCell 177 = .ok (.invokevirtual 186, 3) := by decide +kernel
theorem dX12_takesCell_180 : decode cX12_takesCell 180 = .ok (.ireturn, 1) := by decide +kernel
theorem dX12_takesCell_181 : decode cX12_takesCell 181 = .ok (.aload_n 0, 1) := by decide +kernel
theorem dX12_takesCell_182 : decode cX12_takesCell 182 = .ok (.iload_n 2, 1) := by decide +kernel
theorem dX12_takesCell_183 : decode cX12_takesCell 183 = .ok (.putfield 196, 3) := by decide +kernel
theorem dX12_takesCell_186 : decode cX12_takesCell 186 = .ok (.aload_n 0, 1) := by decide +kernel
theorem dX12_takesCell_187 : decode cX12_takesCell 187 = .ok (.invokevirtual 189, 3) := by decide +kernel
theorem dX12_takesCell_190 : decode cX12_takesCell 190 = .ok (.iconst 1, 1) := by decide +kernel
theorem dX12_takesCell_191 : decode cX12_takesCell 191 = .ok (.ireturn, 1) := by decide +kernel
def fX12_takesCell_164 (r130 : zF → Nat → Int32 → Int32 → Int32 → Option (zF × Int32)) (N n : Nat) (f : zF) (a0 : Nat) (a2 : Int32) (a4 : Int32) (t0 : Int32) : Option (zF × Int32) :=
    (r130 f a0 a2 t0 (a4 + 1))
set_option maxRecDepth 100000 in
set_option maxHeartbeats 4000000 in
theorem gX12_takesCell_164 (l : Launch) {G : zG} {p : Program} {e : Env} {s : State} {m : MethodId} {args : Array Value} {below : List Frame} {meth : Method} {c : Code} {N n : Nat} {f9 : zF} {r : Int32} {r130 : zF → Nat → Int32 → Int32 → Int32 → Option (zF × Int32)} (B : zB G p s m args meth c RX12 cX12_takesCell 5 (some .boolean)) (hr130 : ∀ (f : zF) (a0 : Nat) (a2 : Int32) (a3 : Int32) (a4 : Int32) (H : Heap) (locs : List Loc) (ls : Array Slot), r130 f a0 a2 a3 a4 = some (f9, r) → zS G n f H locs → lv_has ls 5 [(0, zr G a0), (2, .int a2), (3, .int a3), (4, .int a4)] → W p l e (zrm 3) s m args below meth c H locs 0 0 (MQ below (zQc G n f9 (some (.int r))) args s 0 0 (zA G)) (F0 m 130 ls [])) : ∀ (f : zF) (a0 : Nat) (a2 : Int32) (a4 : Int32) (t0 : Int32) (H : Heap) (locs : List Loc) (ls : Array Slot), fX12_takesCell_164 r130 N n f a0 a2 a4 t0 = some (f9, r) → zS G n f H locs → lv_has ls 5 [(0, zr G a0), (2, .int a2), (4, .int a4)] → W p l e (zrm 3) s m args below meth c H locs 0 0 (MQ below (zQc G n f9 (some (.int r))) args s 0 0 (zA G)) (F0 m 164 ls [.int t0]) := by
  have he := B.1
  have hb := B.2.1
  intro f a0 a2 a4 t0 H locs ls h hS hl
  unfold fX12_takesCell_164 at h
  refine lv_istore_n (lv' := [(3, _), (0, _), (2, _), (4, _)]) he hb dX12_takesCell_164 rfl hl (by decide) rfl (fun ls hl => ?_)
  refine lv_iinc (v := (a4 + 1)) (lv' := [(4, _), (3, _), (0, _), (2, _)]) he hb dX12_takesCell_165 hl (k := 3) rfl rfl (by decide) rfl (fun ls hl => ?_)
  refine lv_goto (tgt := 130) he hb dX12_takesCell_168 (by decide) ?_
  exact hr130 _ _ _ _ _ _ _ _ h hS (lv_sub hl [2, 3, 1, 0] rfl)
def fX12_takesCell_159 (r130 : zF → Nat → Int32 → Int32 → Int32 → Option (zF × Int32)) (N n : Nat) (f : zF) (a0 : Nat) (a2 : Int32) (a4 : Int32) : Option (zF × Int32) :=
    (fX12_takesCell_164 r130 N n f a0 a2 a4 (1 : Int32))
set_option maxRecDepth 100000 in
set_option maxHeartbeats 4000000 in
theorem gX12_takesCell_159 (l : Launch) {G : zG} {p : Program} {e : Env} {s : State} {m : MethodId} {args : Array Value} {below : List Frame} {meth : Method} {c : Code} {N n : Nat} {f9 : zF} {r : Int32} {r130 : zF → Nat → Int32 → Int32 → Int32 → Option (zF × Int32)} (B : zB G p s m args meth c RX12 cX12_takesCell 5 (some .boolean)) (hr130 : ∀ (f : zF) (a0 : Nat) (a2 : Int32) (a3 : Int32) (a4 : Int32) (H : Heap) (locs : List Loc) (ls : Array Slot), r130 f a0 a2 a3 a4 = some (f9, r) → zS G n f H locs → lv_has ls 5 [(0, zr G a0), (2, .int a2), (3, .int a3), (4, .int a4)] → W p l e (zrm 3) s m args below meth c H locs 0 0 (MQ below (zQc G n f9 (some (.int r))) args s 0 0 (zA G)) (F0 m 130 ls [])) : ∀ (f : zF) (a0 : Nat) (a2 : Int32) (a4 : Int32) (H : Heap) (locs : List Loc) (ls : Array Slot), fX12_takesCell_159 r130 N n f a0 a2 a4 = some (f9, r) → zS G n f H locs → lv_has ls 5 [(0, zr G a0), (2, .int a2), (4, .int a4)] → W p l e (zrm 3) s m args below meth c H locs 0 0 (MQ below (zQc G n f9 (some (.int r))) args s 0 0 (zA G)) (F0 m 159 ls []) := by
  have he := B.1
  have hb := B.2.1
  intro f a0 a2 a4 H locs ls h hS hl
  unfold fX12_takesCell_159 at h
  refine lv_iconst (v := (1 : Int32)) he hb dX12_takesCell_159 (by decide) ?_
  refine lv_goto (tgt := 164) he hb dX12_takesCell_160 (by decide) ?_
  exact gX12_takesCell_164 l B hr130 _ _ _ _ _ _ _ _ h hS (lv_sub hl [0, 1, 2] rfl)
def fX12_takesCell_130 (N n : Nat) : Nat → zF → Nat → Int32 → Int32 → Int32 → Option (zF × Int32)
  | 0, _, _, _, _, _ => none
  | k + 1, f, a0, a2, a3, a4 =>
    ((zgR n f 12 a0 7).bind fun x15 => ((zlI n f 0 x15 (4 : Int32)).bind fun x16 => (if x16 ≤ a4 then (if a3 = 0 then ((zpI n f 12 a0 18 a2).bind fun f17 => ((zck n f17 12 a0).bind fun _ => ((fX12_next N n f17 a0).bind fun f18 => ((zbl (1 : Int32)).bind fun y => some (f18, y))))) else ((zck n f 12 a0).bind fun _ => (zbd (fX12_bad N n f a0 (3 : Int32)) fun f20 x19 => ((zbl x19).bind fun y => some (f20, y))))) else (if a3 = 0 then ((zgR n f 12 a0 7).bind fun x21 => ((zlI n f 0 x21 ((119 : Int32) + a4)).bind fun x22 => (if x22 = a2 then (fX12_takesCell_159 (fX12_takesCell_130 N n k) N n f a0 a2 a4) else (fX12_takesCell_164 (fX12_takesCell_130 N n k) N n f a0 a2 a4 (0 : Int32))))) else (fX12_takesCell_159 (fX12_takesCell_130 N n k) N n f a0 a2 a4)))))
set_option maxRecDepth 100000 in
set_option maxHeartbeats 4000000 in
theorem gX12_takesCell_130 (l : Launch) {G : zG} {p : Program} {e : Env} {s : State} {m : MethodId} {args : Array Value} {below : List Frame} {meth : Method} {c : Code} {N n : Nat} {f9 : zF} {r : Int32} (B : zB G p s m args meth c RX12 cX12_takesCell 5 (some .boolean)) : ∀ (k : Nat), ∀ (f : zF) (a0 : Nat) (a2 : Int32) (a3 : Int32) (a4 : Int32) (H : Heap) (locs : List Loc) (ls : Array Slot), fX12_takesCell_130 N n k f a0 a2 a3 a4 = some (f9, r) → zS G n f H locs → lv_has ls 5 [(0, zr G a0), (2, .int a2), (3, .int a3), (4, .int a4)] → W p l e (zrm 3) s m args below meth c H locs 0 0 (MQ below (zQc G n f9 (some (.int r))) args s 0 0 (zA G)) (F0 m 130 ls []) := by
  have he := B.1
  have hb := B.2.1
  intro k
  induction k with
  | zero =>
    intro f a0 a2 a3 a4 H locs ls h
    unfold fX12_takesCell_130 at h
    cases h
  | succ k ih =>
    intro f a0 a2 a3 a4 H locs ls h hS hl
    unfold fX12_takesCell_130 at h
    refine lv_iload he hb dX12_takesCell_130 (lv_at hl 3 rfl) ?_
    refine z_aload_n he hb dX12_takesCell_132 rfl (lv_at hl 0 rfl) (zref_r _ _) ?_
    obtain ⟨x15, hx, h⟩ := zob h
    refine z_getR (ci := 12) (T := TX12) (N := 50) (j := 7) B hS hx rfl zin_X12 (by decide) zk_1354 dX12_takesCell_133 ?_
    refine lv_iconst (v := (4 : Int32)) he hb dX12_takesCell_136 (by decide) ?_
    obtain ⟨x16, hx, h⟩ := zob h
    refine z_ildI B hS hx dX12_takesCell_137 ?_
    refine lv_icmp_ge (tgt := 171) he hb dX12_takesCell_138 (by decide) (fun hc => ?_) (fun hc => ?_)
    · rw [if_pos hc] at h
      refine lv_iload_n he hb dX12_takesCell_171 rfl (lv_at hl 2 rfl) ?_
      refine lv_if_eq (tgt := 181) he hb dX12_takesCell_172 (by decide) (fun hc => ?_) (fun hc => ?_)
      · rw [if_pos hc] at h
        refine z_aload_n he hb dX12_takesCell_181 rfl (lv_at hl 0 rfl) (zref_r _ _) ?_
        refine lv_iload_n he hb dX12_takesCell_182 rfl (lv_at hl 1 rfl) ?_
        obtain ⟨f17, hx, h⟩ := zob h
        refine z_putI (ci := 12) (T := TX12) (N := 50) (j := 18) B hS hx rfl zin_X12 tyX12 tyX12_ok nmX12 (by decide) zk_1365 rfl rfl dX12_takesCell_183 (fun H locs hS => ?_)
        refine z_aload_n he hb dX12_takesCell_186 rfl (lv_at hl 0 rfl) (zref_r _ _) ?_
        obtain ⟨_, hc, h⟩ := zob h
        obtain ⟨f18, hx, h⟩ := zob h
        refine z_callV (ci := 12) (T := TX12) (N := 50) (rest := []) B hS (mX12_next l G hx) zy_X12_next zk_1507 (by decide) hc rfl rfl hl rfl (Nat.le_of_ble_eq_true rfl) dX12_takesCell_187 (kk := (fun H locs hS => ?_))
        refine lv_iconst (v := (1 : Int32)) he hb dX12_takesCell_190 (by decide) ?_
        obtain ⟨y, hx, h⟩ := zob h
        obtain ⟨hz, rfl⟩ := zbl_i hx
        obtain ⟨rfl, rfl⟩ := Prod.mk.inj (Option.some.inj h)
        exact z_zret B hS hz dX12_takesCell_191
      · rw [if_neg hc] at h
        refine z_aload_n he hb dX12_takesCell_175 rfl (lv_at hl 0 rfl) (zref_r _ _) ?_
        refine lv_iconst (v := (3 : Int32)) he hb dX12_takesCell_176 (by decide) ?_
        obtain ⟨_, hc, h⟩ := zob h
        obtain ⟨f20, x19, hx, h⟩ := zbd_i h
        refine z_callV (ci := 12) (T := TX12) (N := 50) (rest := []) B hS (mX12_bad l G hx) zy_X12_bad zk_1533 (by decide) hc rfl rfl hl rfl (Nat.le_of_ble_eq_true rfl) dX12_takesCell_177 (kk := (fun H locs hS => ?_))
        obtain ⟨y, hx, h⟩ := zob h
        obtain ⟨hz, rfl⟩ := zbl_i hx
        obtain ⟨rfl, rfl⟩ := Prod.mk.inj (Option.some.inj h)
        exact z_zret B hS hz dX12_takesCell_180
    · rw [if_neg hc] at h
      refine lv_iload_n he hb dX12_takesCell_141 rfl (lv_at hl 2 rfl) ?_
      refine lv_if_ne (tgt := 159) he hb dX12_takesCell_142 (by decide) (fun hc => ?_) (fun hc => ?_)
      · rw [if_neg hc] at h
        exact gX12_takesCell_159 l B ih _ _ _ _ _ _ _ h hS (lv_sub hl [0, 1, 3] rfl)
      · rw [if_pos hc] at h
        refine z_aload_n he hb dX12_takesCell_145 rfl (lv_at hl 0 rfl) (zref_r _ _) ?_
        obtain ⟨x21, hx, h⟩ := zob h
        refine z_getR (ci := 12) (T := TX12) (N := 50) (j := 7) B hS hx rfl zin_X12 (by decide) zk_1354 dX12_takesCell_146 ?_
        refine lv_bipush (v := (119 : Int32)) he hb dX12_takesCell_149 (by decide) ?_
        refine lv_iload he hb dX12_takesCell_151 (lv_at hl 3 rfl) ?_
        refine lv_iadd he hb dX12_takesCell_153 ?_
        obtain ⟨x22, hx, h⟩ := zob h
        refine z_ildI B hS hx dX12_takesCell_154 ?_
        refine lv_iload_n he hb dX12_takesCell_155 rfl (lv_at hl 1 rfl) ?_
        refine lv_icmp_ne (tgt := 163) he hb dX12_takesCell_156 (by decide) (fun hc => ?_) (fun hc => ?_)
        · rw [if_neg hc] at h
          refine lv_iconst (v := (0 : Int32)) he hb dX12_takesCell_163 (by decide) ?_
          exact gX12_takesCell_164 l B ih _ _ _ _ _ _ _ _ h hS (lv_sub hl [0, 1, 3] rfl)
        · rw [if_pos hc] at h
          exact gX12_takesCell_159 l B ih _ _ _ _ _ _ _ h hS (lv_sub hl [0, 1, 3] rfl)
def fX12_takesCell_120 (r86 : zF → Nat → Int32 → Int32 → Int32 → Option (zF × Int32)) (N n : Nat) (f : zF) (a0 : Nat) (a2 : Int32) (a4 : Int32) (t0 : Int32) : Option (zF × Int32) :=
    (r86 f a0 a2 t0 (a4 + 1))
set_option maxRecDepth 100000 in
set_option maxHeartbeats 4000000 in
theorem gX12_takesCell_120 (l : Launch) {G : zG} {p : Program} {e : Env} {s : State} {m : MethodId} {args : Array Value} {below : List Frame} {meth : Method} {c : Code} {N n : Nat} {f9 : zF} {r : Int32} {r86 : zF → Nat → Int32 → Int32 → Int32 → Option (zF × Int32)} (B : zB G p s m args meth c RX12 cX12_takesCell 5 (some .boolean)) (hr86 : ∀ (f : zF) (a0 : Nat) (a2 : Int32) (a3 : Int32) (a4 : Int32) (H : Heap) (locs : List Loc) (ls : Array Slot), r86 f a0 a2 a3 a4 = some (f9, r) → zS G n f H locs → lv_has ls 5 [(0, zr G a0), (2, .int a2), (3, .int a3), (4, .int a4)] → W p l e (zrm 3) s m args below meth c H locs 0 0 (MQ below (zQc G n f9 (some (.int r))) args s 0 0 (zA G)) (F0 m 86 ls [])) : ∀ (f : zF) (a0 : Nat) (a2 : Int32) (a4 : Int32) (t0 : Int32) (H : Heap) (locs : List Loc) (ls : Array Slot), fX12_takesCell_120 r86 N n f a0 a2 a4 t0 = some (f9, r) → zS G n f H locs → lv_has ls 5 [(0, zr G a0), (2, .int a2), (4, .int a4)] → W p l e (zrm 3) s m args below meth c H locs 0 0 (MQ below (zQc G n f9 (some (.int r))) args s 0 0 (zA G)) (F0 m 120 ls [.int t0]) := by
  have he := B.1
  have hb := B.2.1
  intro f a0 a2 a4 t0 H locs ls h hS hl
  unfold fX12_takesCell_120 at h
  refine lv_istore_n (lv' := [(3, _), (0, _), (2, _), (4, _)]) he hb dX12_takesCell_120 rfl hl (by decide) rfl (fun ls hl => ?_)
  refine lv_iinc (v := (a4 + 1)) (lv' := [(4, _), (3, _), (0, _), (2, _)]) he hb dX12_takesCell_121 hl (k := 3) rfl rfl (by decide) rfl (fun ls hl => ?_)
  refine lv_goto (tgt := 86) he hb dX12_takesCell_124 (by decide) ?_
  exact hr86 _ _ _ _ _ _ _ _ h hS (lv_sub hl [2, 3, 1, 0] rfl)
def fX12_takesCell_115 (r86 : zF → Nat → Int32 → Int32 → Int32 → Option (zF × Int32)) (N n : Nat) (f : zF) (a0 : Nat) (a2 : Int32) (a4 : Int32) : Option (zF × Int32) :=
    (fX12_takesCell_120 r86 N n f a0 a2 a4 (1 : Int32))
set_option maxRecDepth 100000 in
set_option maxHeartbeats 4000000 in
theorem gX12_takesCell_115 (l : Launch) {G : zG} {p : Program} {e : Env} {s : State} {m : MethodId} {args : Array Value} {below : List Frame} {meth : Method} {c : Code} {N n : Nat} {f9 : zF} {r : Int32} {r86 : zF → Nat → Int32 → Int32 → Int32 → Option (zF × Int32)} (B : zB G p s m args meth c RX12 cX12_takesCell 5 (some .boolean)) (hr86 : ∀ (f : zF) (a0 : Nat) (a2 : Int32) (a3 : Int32) (a4 : Int32) (H : Heap) (locs : List Loc) (ls : Array Slot), r86 f a0 a2 a3 a4 = some (f9, r) → zS G n f H locs → lv_has ls 5 [(0, zr G a0), (2, .int a2), (3, .int a3), (4, .int a4)] → W p l e (zrm 3) s m args below meth c H locs 0 0 (MQ below (zQc G n f9 (some (.int r))) args s 0 0 (zA G)) (F0 m 86 ls [])) : ∀ (f : zF) (a0 : Nat) (a2 : Int32) (a4 : Int32) (H : Heap) (locs : List Loc) (ls : Array Slot), fX12_takesCell_115 r86 N n f a0 a2 a4 = some (f9, r) → zS G n f H locs → lv_has ls 5 [(0, zr G a0), (2, .int a2), (4, .int a4)] → W p l e (zrm 3) s m args below meth c H locs 0 0 (MQ below (zQc G n f9 (some (.int r))) args s 0 0 (zA G)) (F0 m 115 ls []) := by
  have he := B.1
  have hb := B.2.1
  intro f a0 a2 a4 H locs ls h hS hl
  unfold fX12_takesCell_115 at h
  refine lv_iconst (v := (1 : Int32)) he hb dX12_takesCell_115 (by decide) ?_
  refine lv_goto (tgt := 120) he hb dX12_takesCell_116 (by decide) ?_
  exact gX12_takesCell_120 l B hr86 _ _ _ _ _ _ _ _ h hS (lv_sub hl [0, 1, 2] rfl)
def fX12_takesCell_86 (N n : Nat) : Nat → zF → Nat → Int32 → Int32 → Int32 → Option (zF × Int32)
  | 0, _, _, _, _, _ => none
  | k + 1, f, a0, a2, a3, a4 =>
    ((zgR n f 12 a0 7).bind fun x13 => ((zlI n f 0 x13 (3 : Int32)).bind fun x14 => (if x14 ≤ a4 then (fX12_takesCell_130 N n N f a0 a2 a3 (0 : Int32)) else (if a3 = 0 then ((zgR n f 12 a0 7).bind fun x23 => ((zlI n f 0 x23 ((101 : Int32) + a4)).bind fun x24 => (if x24 = a2 then (fX12_takesCell_115 (fX12_takesCell_86 N n k) N n f a0 a2 a4) else (fX12_takesCell_120 (fX12_takesCell_86 N n k) N n f a0 a2 a4 (0 : Int32))))) else (fX12_takesCell_115 (fX12_takesCell_86 N n k) N n f a0 a2 a4)))))
set_option maxRecDepth 100000 in
set_option maxHeartbeats 4000000 in
theorem gX12_takesCell_86 (l : Launch) {G : zG} {p : Program} {e : Env} {s : State} {m : MethodId} {args : Array Value} {below : List Frame} {meth : Method} {c : Code} {N n : Nat} {f9 : zF} {r : Int32} (B : zB G p s m args meth c RX12 cX12_takesCell 5 (some .boolean)) : ∀ (k : Nat), ∀ (f : zF) (a0 : Nat) (a2 : Int32) (a3 : Int32) (a4 : Int32) (H : Heap) (locs : List Loc) (ls : Array Slot), fX12_takesCell_86 N n k f a0 a2 a3 a4 = some (f9, r) → zS G n f H locs → lv_has ls 5 [(0, zr G a0), (2, .int a2), (3, .int a3), (4, .int a4)] → W p l e (zrm 3) s m args below meth c H locs 0 0 (MQ below (zQc G n f9 (some (.int r))) args s 0 0 (zA G)) (F0 m 86 ls []) := by
  have he := B.1
  have hb := B.2.1
  intro k
  induction k with
  | zero =>
    intro f a0 a2 a3 a4 H locs ls h
    unfold fX12_takesCell_86 at h
    cases h
  | succ k ih =>
    intro f a0 a2 a3 a4 H locs ls h hS hl
    unfold fX12_takesCell_86 at h
    refine lv_iload he hb dX12_takesCell_86 (lv_at hl 3 rfl) ?_
    refine z_aload_n he hb dX12_takesCell_88 rfl (lv_at hl 0 rfl) (zref_r _ _) ?_
    obtain ⟨x13, hx, h⟩ := zob h
    refine z_getR (ci := 12) (T := TX12) (N := 50) (j := 7) B hS hx rfl zin_X12 (by decide) zk_1354 dX12_takesCell_89 ?_
    refine lv_iconst (v := (3 : Int32)) he hb dX12_takesCell_92 (by decide) ?_
    obtain ⟨x14, hx, h⟩ := zob h
    refine z_ildI B hS hx dX12_takesCell_93 ?_
    refine lv_icmp_ge (tgt := 127) he hb dX12_takesCell_94 (by decide) (fun hc => ?_) (fun hc => ?_)
    · rw [if_pos hc] at h
      refine lv_iconst (v := (0 : Int32)) he hb dX12_takesCell_127 (by decide) ?_
      refine lv_istore (lv' := [(4, _), (0, _), (2, _), (3, _)]) he hb dX12_takesCell_128 hl (by decide) rfl (fun ls hl => ?_)
      exact gX12_takesCell_130 l B N _ _ _ _ _ _ _ _ h hS (lv_sub hl [1, 2, 3, 0] rfl)
    · rw [if_neg hc] at h
      refine lv_iload_n he hb dX12_takesCell_97 rfl (lv_at hl 2 rfl) ?_
      refine lv_if_ne (tgt := 115) he hb dX12_takesCell_98 (by decide) (fun hc => ?_) (fun hc => ?_)
      · rw [if_neg hc] at h
        exact gX12_takesCell_115 l B ih _ _ _ _ _ _ _ h hS (lv_sub hl [0, 1, 3] rfl)
      · rw [if_pos hc] at h
        refine z_aload_n he hb dX12_takesCell_101 rfl (lv_at hl 0 rfl) (zref_r _ _) ?_
        obtain ⟨x23, hx, h⟩ := zob h
        refine z_getR (ci := 12) (T := TX12) (N := 50) (j := 7) B hS hx rfl zin_X12 (by decide) zk_1354 dX12_takesCell_102 ?_
        refine lv_bipush (v := (101 : Int32)) he hb dX12_takesCell_105 (by decide) ?_
        refine lv_iload he hb dX12_takesCell_107 (lv_at hl 3 rfl) ?_
        refine lv_iadd he hb dX12_takesCell_109 ?_
        obtain ⟨x24, hx, h⟩ := zob h
        refine z_ildI B hS hx dX12_takesCell_110 ?_
        refine lv_iload_n he hb dX12_takesCell_111 rfl (lv_at hl 1 rfl) ?_
        refine lv_icmp_ne (tgt := 119) he hb dX12_takesCell_112 (by decide) (fun hc => ?_) (fun hc => ?_)
        · rw [if_neg hc] at h
          refine lv_iconst (v := (0 : Int32)) he hb dX12_takesCell_119 (by decide) ?_
          exact gX12_takesCell_120 l B ih _ _ _ _ _ _ _ _ h hS (lv_sub hl [0, 1, 3] rfl)
        · rw [if_pos hc] at h
          exact gX12_takesCell_115 l B ih _ _ _ _ _ _ _ h hS (lv_sub hl [0, 1, 3] rfl)
def fX12_takesCell_82 (N n : Nat) (f : zF) (a0 : Nat) (a2 : Int32) (t0 : Int32) : Option (zF × Int32) :=
    (fX12_takesCell_86 N n N f a0 a2 t0 (0 : Int32))
set_option maxRecDepth 100000 in
set_option maxHeartbeats 4000000 in
theorem gX12_takesCell_82 (l : Launch) {G : zG} {p : Program} {e : Env} {s : State} {m : MethodId} {args : Array Value} {below : List Frame} {meth : Method} {c : Code} {N n : Nat} {f9 : zF} {r : Int32} (B : zB G p s m args meth c RX12 cX12_takesCell 5 (some .boolean)) : ∀ (f : zF) (a0 : Nat) (a2 : Int32) (t0 : Int32) (H : Heap) (locs : List Loc) (ls : Array Slot), fX12_takesCell_82 N n f a0 a2 t0 = some (f9, r) → zS G n f H locs → lv_has ls 5 [(0, zr G a0), (2, .int a2)] → W p l e (zrm 3) s m args below meth c H locs 0 0 (MQ below (zQc G n f9 (some (.int r))) args s 0 0 (zA G)) (F0 m 82 ls [.int t0]) := by
  have he := B.1
  have hb := B.2.1
  intro f a0 a2 t0 H locs ls h hS hl
  unfold fX12_takesCell_82 at h
  refine lv_istore_n (lv' := [(3, _), (0, _), (2, _)]) he hb dX12_takesCell_82 rfl hl (by decide) rfl (fun ls hl => ?_)
  refine lv_iconst (v := (0 : Int32)) he hb dX12_takesCell_83 (by decide) ?_
  refine lv_istore (lv' := [(4, _), (3, _), (0, _), (2, _)]) he hb dX12_takesCell_84 hl (by decide) rfl (fun ls hl => ?_)
  exact gX12_takesCell_86 l B N _ _ _ _ _ _ _ _ h hS (lv_sub hl [2, 3, 1, 0] rfl)
def fX12_takesCell (N n : Nat) (f : zF) (a0 : Nat) : Option (zF × Int32) :=
    ((zgR n f 12 a0 7).bind fun x1 => ((zlI n f 0 x1 (0 : Int32)).bind fun x2 => ((zck n f 12 a0).bind fun _ => (zbd (fX12_takes N n f a0 (0 : Int32) (x2 - (1 : Int32))) fun f4 x3 => (if x3 = 0 then ((zbl (0 : Int32)).bind fun y => some (f4, y)) else ((zgI n f4 12 a0 18).bind fun x5 => ((zgI n f4 12 a0 11).bind fun x6 => (if x6 = (2 : Int32) then ((zgI n f4 12 a0 14).bind fun x7 => ((zgR n f4 12 a0 7).bind fun x8 => ((zlI n f4 0 x8 (1 : Int32)).bind fun x9 => (if x7 < x9 then ((zgI n f4 12 a0 14).bind fun x10 => ((zgR n f4 12 a0 7).bind fun x11 => ((zlI n f4 0 x11 ((5 : Int32) + (((9 : Int32) * x10) + x5))).bind fun x12 => (if x12 ≤ 0 then (fX12_takesCell_82 N n f4 a0 (((9 : Int32) * x10) + x5) (0 : Int32)) else (fX12_takesCell_82 N n f4 a0 (((9 : Int32) * x10) + x5) (1 : Int32)))))) else ((zck n f4 12 a0).bind fun _ => (zbd (fX12_bad N n f4 a0 (2 : Int32)) fun f26 x25 => ((zbl x25).bind fun y => some (f26, y)))))))) else ((zck n f4 12 a0).bind fun _ => (zbd (fX12_bad N n f4 a0 (1 : Int32)) fun f28 x27 => ((zbl x27).bind fun y => some (f28, y))))))))))))
set_option maxRecDepth 100000 in
set_option maxHeartbeats 4000000 in
theorem mX12_takesCell (l : Launch) (G : zG) {N n : Nat} {f : zF} {f9 : zF} {r : Int32} {a0 : Nat} (h : fX12_takesCell N n f a0 = some (f9, r)) : zM l G yX12_takesCell cX12_takesCell 5 (some .boolean) 3 n f [zr G a0] (some (.int r)) f9 := by
  refine zM.of (by decide) (Nat.le_of_ble_eq_true rfl) ?_
  intro p e s m args below meth c locs ls B hS hl
  have he := B.1
  have hb := B.2.1
  have hl : lv_has ls 5 [(0, zr G a0)] := hl
  unfold fX12_takesCell at h
  generalize s.heap = H at hS ⊢
  refine z_aload_n he hb dX12_takesCell_0 rfl (lv_at hl 0 rfl) (zref_r _ _) ?_
  refine lv_iconst (v := (0 : Int32)) he hb dX12_takesCell_1 (by decide) ?_
  refine z_aload_n he hb dX12_takesCell_2 rfl (lv_at hl 0 rfl) (zref_r _ _) ?_
  obtain ⟨x1, hx, h⟩ := zob h
  refine z_getR (ci := 12) (T := TX12) (N := 50) (j := 7) B hS hx rfl zin_X12 (by decide) zk_1354 dX12_takesCell_3 ?_
  refine lv_iconst (v := (0 : Int32)) he hb dX12_takesCell_6 (by decide) ?_
  obtain ⟨x2, hx, h⟩ := zob h
  refine z_ildI B hS hx dX12_takesCell_7 ?_
  refine lv_iconst (v := (1 : Int32)) he hb dX12_takesCell_8 (by decide) ?_
  refine lv_isub he hb dX12_takesCell_9 ?_
  obtain ⟨_, hc, h⟩ := zob h
  obtain ⟨f4, x3, hx, h⟩ := zbd_i h
  refine z_callV (ci := 12) (T := TX12) (N := 50) (rest := []) B hS (mX12_takes l G hx) zy_X12_takes zk_1541 (by decide) hc rfl rfl hl rfl (Nat.le_of_ble_eq_true rfl) dX12_takesCell_10 (kk := (fun H locs hS => ?_))
  refine lv_if_ne (tgt := 18) he hb dX12_takesCell_13 (by decide) (fun hc => ?_) (fun hc => ?_)
  · rw [if_neg hc] at h
    refine z_aload_n he hb dX12_takesCell_18 rfl (lv_at hl 0 rfl) (zref_r _ _) ?_
    obtain ⟨x5, hx, h⟩ := zob h
    refine z_getI (ci := 12) (T := TX12) (N := 50) (j := 18) B hS hx rfl zin_X12 (by decide) zk_1365 dX12_takesCell_19 ?_
    refine lv_istore_n (lv' := [(1, _), (0, _)]) he hb dX12_takesCell_22 rfl hl (by decide) rfl (fun ls hl => ?_)
    refine z_aload_n he hb dX12_takesCell_23 rfl (lv_at hl 1 rfl) (zref_r _ _) ?_
    obtain ⟨x6, hx, h⟩ := zob h
    refine z_getI (ci := 12) (T := TX12) (N := 50) (j := 11) B hS hx rfl zin_X12 (by decide) zk_1358 dX12_takesCell_24 ?_
    refine lv_iconst (v := (2 : Int32)) he hb dX12_takesCell_27 (by decide) ?_
    refine lv_icmp_eq (tgt := 37) he hb dX12_takesCell_28 (by decide) (fun hc => ?_) (fun hc => ?_)
    · rw [if_pos hc] at h
      refine z_aload_n he hb dX12_takesCell_37 rfl (lv_at hl 1 rfl) (zref_r _ _) ?_
      obtain ⟨x7, hx, h⟩ := zob h
      refine z_getI (ci := 12) (T := TX12) (N := 50) (j := 14) B hS hx rfl zin_X12 (by decide) zk_1361 dX12_takesCell_38 ?_
      refine z_aload_n he hb dX12_takesCell_41 rfl (lv_at hl 1 rfl) (zref_r _ _) ?_
      obtain ⟨x8, hx, h⟩ := zob h
      refine z_getR (ci := 12) (T := TX12) (N := 50) (j := 7) B hS hx rfl zin_X12 (by decide) zk_1354 dX12_takesCell_42 ?_
      refine lv_iconst (v := (1 : Int32)) he hb dX12_takesCell_45 (by decide) ?_
      obtain ⟨x9, hx, h⟩ := zob h
      refine z_ildI B hS hx dX12_takesCell_46 ?_
      refine lv_icmp_lt (tgt := 56) he hb dX12_takesCell_47 (by decide) (fun hc => ?_) (fun hc => ?_)
      · rw [if_pos hc] at h
        refine lv_bipush (v := (9 : Int32)) he hb dX12_takesCell_56 (by decide) ?_
        refine z_aload_n he hb dX12_takesCell_58 rfl (lv_at hl 1 rfl) (zref_r _ _) ?_
        obtain ⟨x10, hx, h⟩ := zob h
        refine z_getI (ci := 12) (T := TX12) (N := 50) (j := 14) B hS hx rfl zin_X12 (by decide) zk_1361 dX12_takesCell_59 ?_
        refine lv_imul he hb dX12_takesCell_62 ?_
        refine lv_iload_n he hb dX12_takesCell_63 rfl (lv_at hl 0 rfl) ?_
        refine lv_iadd he hb dX12_takesCell_64 ?_
        refine lv_istore_n (lv' := [(2, _), (1, _), (0, _)]) he hb dX12_takesCell_65 rfl hl (by decide) rfl (fun ls hl => ?_)
        refine z_aload_n he hb dX12_takesCell_66 rfl (lv_at hl 2 rfl) (zref_r _ _) ?_
        obtain ⟨x11, hx, h⟩ := zob h
        refine z_getR (ci := 12) (T := TX12) (N := 50) (j := 7) B hS hx rfl zin_X12 (by decide) zk_1354 dX12_takesCell_67 ?_
        refine lv_iconst (v := (5 : Int32)) he hb dX12_takesCell_70 (by decide) ?_
        refine lv_iload_n he hb dX12_takesCell_71 rfl (lv_at hl 0 rfl) ?_
        refine lv_iadd he hb dX12_takesCell_72 ?_
        obtain ⟨x12, hx, h⟩ := zob h
        refine z_ildI B hS hx dX12_takesCell_73 ?_
        refine lv_if_le (tgt := 81) he hb dX12_takesCell_74 (by decide) (fun hc => ?_) (fun hc => ?_)
        · rw [if_pos hc] at h
          refine lv_iconst (v := (0 : Int32)) he hb dX12_takesCell_81 (by decide) ?_
          exact gX12_takesCell_82 l B _ _ _ _ _ _ _ h hS (lv_sub hl [2, 0] rfl)
        · rw [if_neg hc] at h
          refine lv_iconst (v := (1 : Int32)) he hb dX12_takesCell_77 (by decide) ?_
          refine lv_goto (tgt := 82) he hb dX12_takesCell_78 (by decide) ?_
          exact gX12_takesCell_82 l B _ _ _ _ _ _ _ h hS (lv_sub hl [2, 0] rfl)
      · rw [if_neg hc] at h
        refine z_aload_n he hb dX12_takesCell_50 rfl (lv_at hl 1 rfl) (zref_r _ _) ?_
        refine lv_iconst (v := (2 : Int32)) he hb dX12_takesCell_51 (by decide) ?_
        obtain ⟨_, hc, h⟩ := zob h
        obtain ⟨f26, x25, hx, h⟩ := zbd_i h
        refine z_callV (ci := 12) (T := TX12) (N := 50) (rest := []) B hS (mX12_bad l G hx) zy_X12_bad zk_1533 (by decide) hc rfl rfl hl rfl (Nat.le_of_ble_eq_true rfl) dX12_takesCell_52 (kk := (fun H locs hS => ?_))
        obtain ⟨y, hx, h⟩ := zob h
        obtain ⟨hz, rfl⟩ := zbl_i hx
        obtain ⟨rfl, rfl⟩ := Prod.mk.inj (Option.some.inj h)
        exact z_zret B hS hz dX12_takesCell_55
    · rw [if_neg hc] at h
      refine z_aload_n he hb dX12_takesCell_31 rfl (lv_at hl 1 rfl) (zref_r _ _) ?_
      refine lv_iconst (v := (1 : Int32)) he hb dX12_takesCell_32 (by decide) ?_
      obtain ⟨_, hc, h⟩ := zob h
      obtain ⟨f28, x27, hx, h⟩ := zbd_i h
      refine z_callV (ci := 12) (T := TX12) (N := 50) (rest := []) B hS (mX12_bad l G hx) zy_X12_bad zk_1533 (by decide) hc rfl rfl hl rfl (Nat.le_of_ble_eq_true rfl) dX12_takesCell_33 (kk := (fun H locs hS => ?_))
      obtain ⟨y, hx, h⟩ := zob h
      obtain ⟨hz, rfl⟩ := zbl_i hx
      obtain ⟨rfl, rfl⟩ := Prod.mk.inj (Option.some.inj h)
      exact z_zret B hS hz dX12_takesCell_36
  · rw [if_pos hc] at h
    refine lv_iconst (v := (0 : Int32)) he hb dX12_takesCell_16 (by decide) ?_
    obtain ⟨y, hx, h⟩ := zob h
    obtain ⟨hz, rfl⟩ := zbl_i hx
    obtain ⟨rfl, rfl⟩ := Prod.mk.inj (Option.some.inj h)
    exact z_zret B hS hz dX12_takesCell_17
theorem dX12_readHedge_0 : decode cX12_readHedge 0 = .ok (.aload_n 0, 1) := by decide +kernel
theorem dX12_readHedge_1 : decode cX12_readHedge 1 = .ok (.invokevirtual 189, 3) := by decide +kernel
theorem dX12_readHedge_4 : decode cX12_readHedge 4 = .ok (.aload_n 0, 1) := by decide +kernel
theorem dX12_readHedge_5 : decode cX12_readHedge 5 = .ok (.invokevirtual 246, 3) := by decide +kernel
theorem dX12_readHedge_8 : decode cX12_readHedge 8 = .ok (.ifCond .ne 5, 3) := by decide +kernel
theorem dX12_readHedge_11 : decode cX12_readHedge 11 = .ok (.iconst 0, 1) := by decide +kernel
theorem dX12_readHedge_12 : decode cX12_readHedge 12 = .ok (.ireturn, 1) := by decide +kernel
theorem dX12_readHedge_13 : decode cX12_readHedge 13 = .ok (.aload_n 0, 1) := by decide +kernel
theorem dX12_readHedge_14 : decode cX12_readHedge 14 = .ok (.getfield 37, 3) := by decide +kernel
theorem dX12_readHedge_17 : decode cX12_readHedge 17 = .ok (.iconst 5, 1) := by decide +kernel
theorem dX12_readHedge_18 : decode cX12_readHedge 18 = .ok (.aload_n 0, 1) := by decide +kernel
theorem dX12_readHedge_19 : decode cX12_readHedge 19 = .ok (.getfield 196, 3) := by decide +kernel
theorem dX12_readHedge_22 : decode cX12_readHedge 22 = .ok (.iadd, 1) := by decide +kernel
theorem dX12_readHedge_23 : decode cX12_readHedge 23 = .ok (.iconst 1, 1) := by decide +kernel
theorem dX12_readHedge_24 : decode cX12_readHedge 24 = .ok (.iastore, 1) := by decide +kernel
theorem dX12_readHedge_25 : decode cX12_readHedge 25 = .ok (.iconst 1, 1) := by decide +kernel
theorem dX12_readHedge_26 : decode cX12_readHedge 26 = .ok (.ireturn, 1) := by decide +kernel
def fX12_readHedge (N n : Nat) (f : zF) (a0 : Nat) : Option (zF × Int32) :=
    ((zck n f 12 a0).bind fun _ => ((fX12_next N n f a0).bind fun f1 => ((zck n f1 12 a0).bind fun _ => (zbd (fX12_takesCell N n f1 a0) fun f3 x2 => (if x2 = 0 then ((zbl (0 : Int32)).bind fun y => some (f3, y)) else ((zgR n f3 12 a0 7).bind fun x4 => ((zgI n f3 12 a0 18).bind fun x5 => ((zsI n f3 0 x4 ((5 : Int32) + x5) (1 : Int32)).bind fun f6 => ((zbl (1 : Int32)).bind fun y => some (f6, y))))))))))
set_option maxRecDepth 100000 in
set_option maxHeartbeats 4000000 in
theorem mX12_readHedge (l : Launch) (G : zG) {N n : Nat} {f : zF} {f9 : zF} {r : Int32} {a0 : Nat} (h : fX12_readHedge N n f a0 = some (f9, r)) : zM l G yX12_readHedge cX12_readHedge 1 (some .boolean) 4 n f [zr G a0] (some (.int r)) f9 := by
  refine zM.of (by decide) (Nat.le_of_ble_eq_true rfl) ?_
  intro p e s m args below meth c locs ls B hS hl
  have he := B.1
  have hb := B.2.1
  have hl : lv_has ls 1 [(0, zr G a0)] := hl
  unfold fX12_readHedge at h
  generalize s.heap = H at hS ⊢
  refine z_aload_n he hb dX12_readHedge_0 rfl (lv_at hl 0 rfl) (zref_r _ _) ?_
  obtain ⟨_, hc, h⟩ := zob h
  obtain ⟨f1, hx, h⟩ := zob h
  refine z_callV (ci := 12) (T := TX12) (N := 50) (rest := []) B hS (mX12_next l G hx) zy_X12_next zk_1507 (by decide) hc rfl rfl hl rfl (Nat.le_of_ble_eq_true rfl) dX12_readHedge_1 (kk := (fun H locs hS => ?_))
  refine z_aload_n he hb dX12_readHedge_4 rfl (lv_at hl 0 rfl) (zref_r _ _) ?_
  obtain ⟨_, hc, h⟩ := zob h
  obtain ⟨f3, x2, hx, h⟩ := zbd_i h
  refine z_callV (ci := 12) (T := TX12) (N := 50) (rest := []) B hS (mX12_takesCell l G hx) zy_X12_takesCell zk_1552 (by decide) hc rfl rfl hl rfl (Nat.le_of_ble_eq_true rfl) dX12_readHedge_5 (kk := (fun H locs hS => ?_))
  refine lv_if_ne (tgt := 13) he hb dX12_readHedge_8 (by decide) (fun hc => ?_) (fun hc => ?_)
  · rw [if_neg hc] at h
    refine z_aload_n he hb dX12_readHedge_13 rfl (lv_at hl 0 rfl) (zref_r _ _) ?_
    obtain ⟨x4, hx, h⟩ := zob h
    refine z_getR (ci := 12) (T := TX12) (N := 50) (j := 7) B hS hx rfl zin_X12 (by decide) zk_1354 dX12_readHedge_14 ?_
    refine lv_iconst (v := (5 : Int32)) he hb dX12_readHedge_17 (by decide) ?_
    refine z_aload_n he hb dX12_readHedge_18 rfl (lv_at hl 0 rfl) (zref_r _ _) ?_
    obtain ⟨x5, hx, h⟩ := zob h
    refine z_getI (ci := 12) (T := TX12) (N := 50) (j := 18) B hS hx rfl zin_X12 (by decide) zk_1365 dX12_readHedge_19 ?_
    refine lv_iadd he hb dX12_readHedge_22 ?_
    refine lv_iconst (v := (1 : Int32)) he hb dX12_readHedge_23 (by decide) ?_
    obtain ⟨f6, hx, h⟩ := zob h
    refine z_istI B hS hx dX12_readHedge_24 (fun H locs hS => ?_)
    refine lv_iconst (v := (1 : Int32)) he hb dX12_readHedge_25 (by decide) ?_
    obtain ⟨y, hx, h⟩ := zob h
    obtain ⟨hz, rfl⟩ := zbl_i hx
    obtain ⟨rfl, rfl⟩ := Prod.mk.inj (Option.some.inj h)
    exact z_zret B hS hz dX12_readHedge_26
  · rw [if_pos hc] at h
    refine lv_iconst (v := (0 : Int32)) he hb dX12_readHedge_11 (by decide) ?_
    obtain ⟨y, hx, h⟩ := zob h
    obtain ⟨hz, rfl⟩ := zbl_i hx
    obtain ⟨rfl, rfl⟩ := Prod.mk.inj (Option.some.inj h)
    exact z_zret B hS hz dX12_readHedge_12
theorem dX12_readOwner_0 : decode cX12_readOwner 0 = .ok (.aload_n 0, 1) := by decide +kernel
theorem dX12_readOwner_1 : decode cX12_readOwner 1 = .ok (.getfield 37, 3) := by decide +kernel
theorem dX12_readOwner_4 : decode cX12_readOwner 4 = .ok (.iconst 2, 1) := by decide +kernel
theorem dX12_readOwner_5 : decode cX12_readOwner 5 = .ok (.iaload, 1) := by decide +kernel
theorem dX12_readOwner_6 : decode cX12_readOwner 6 = .ok (.istore_n 1, 1) := by decide +kernel
theorem dX12_readOwner_7 : decode cX12_readOwner 7 = .ok (.iload_n 1, 1) := by decide +kernel
theorem dX12_readOwner_8 : decode cX12_readOwner 8 = .ok (.iconst 4, 1) := by decide +kernel
theorem dX12_readOwner_9 : decode cX12_readOwner 9 = .ok (.if_icmp .ne 9, 3) := by decide +kernel
theorem dX12_readOwner_12 : decode cX12_readOwner 12 = .ok (.aload_n 0, 1) := by decide +kernel
theorem dX12_readOwner_13 : decode cX12_readOwner 13 = .ok (.iconst 4, 1) := by decide +kernel
theorem dX12_readOwner_14 : decode cX12_readOwner 14 = .ok (.invokevirtual 186, 3) := by decide +kernel
theorem dX12_readOwner_17 : decode cX12_readOwner 17 = .ok (.ireturn, 1) := by decide +kernel
theorem dX12_readOwner_18 : decode cX12_readOwner 18 = .ok (.aload_n 0, 1) := by decide +kernel
theorem dX12_readOwner_19 : decode cX12_readOwner 19 = .ok (.invokevirtual 189, 3) := by decide +kernel
theorem dX12_readOwner_22 : decode cX12_readOwner 22 = .ok (.aload_n 0, 1) := by decide +kernel
theorem dX12_readOwner_23 : decode cX12_readOwner 23 = .ok (.bipush 15, 2) := by decide +kernel
theorem dX12_readOwner_25 : decode cX12_readOwner 25 = .ok (.iload_n 1, 1) := by decide +kernel
theorem dX12_readOwner_26 : decode cX12_readOwner 26 = .ok (.iadd, 1) := by decide +kernel
theorem dX12_readOwner_27 : decode cX12_readOwner 27 = .ok (.invokevirtual 249, 3) := by decide +kernel
theorem dX12_readOwner_30 : decode cX12_readOwner 30 = .ok (.ifCond .ne 5, 3) := by decide +kernel
theorem dX12_readOwner_33 : decode cX12_readOwner 33 = .ok (.iconst 0, 1) := by decide +kernel
theorem dX12_readOwner_34 : decode cX12_readOwner 34 = .ok (.ireturn, 1) := by decide +kernel
theorem dX12_readOwner_35 : decode cX12_readOwner 35 = .ok (.aload_n 0, 1) := by decide +kernel
theorem dX12_readOwner_36 : decode cX12_readOwner 36 = .ok (.getfield 37, 3) := by decide +kernel
theorem dX12_readOwner_39 : decode cX12_readOwner 39 = .ok (.iconst 2, 1) := by decide +kernel
theorem dX12_readOwner_40 : decode cX12_readOwner 40 = .ok (.dup2, 1) := by decide +kernel
theorem dX12_readOwner_41 : decode cX12_readOwner 41 = .ok (.iaload, 1) := by decide +kernel
theorem dX12_readOwner_42 : decode cX12_readOwner 42 = .ok (.iconst 1, 1) := by decide +kernel
theorem dX12_readOwner_43 : decode cX12_readOwner 43 = .ok (.iadd, 1) := by decide +kernel
theorem dX12_readOwner_44 : decode cX12_readOwner 44 = .ok (.iastore, 1) := by decide +kernel
theorem dX12_readOwner_45 : decode cX12_readOwner 45 = .ok (.iconst 1, 1) := by decide +kernel
theorem dX12_readOwner_46 : decode cX12_readOwner 46 = .ok (.ireturn, 1) := by decide +kernel
def fX12_readOwner (N n : Nat) (f : zF) (a0 : Nat) : Option (zF × Int32) :=
    ((zgR n f 12 a0 7).bind fun x1 => ((zlI n f 0 x1 (2 : Int32)).bind fun x2 => (if x2 = (4 : Int32) then ((zck n f 12 a0).bind fun _ => (zbd (fX12_bad N n f a0 (4 : Int32)) fun f10 x9 => ((zbl x9).bind fun y => some (f10, y)))) else ((zck n f 12 a0).bind fun _ => ((fX12_next N n f a0).bind fun f3 => ((zck n f3 12 a0).bind fun _ => (zbd (fX12_fresh N n f3 a0 ((15 : Int32) + x2)) fun f5 x4 => (if x4 = 0 then ((zbl (0 : Int32)).bind fun y => some (f5, y)) else ((zgR n f5 12 a0 7).bind fun x6 => ((zlI n f5 0 x6 (2 : Int32)).bind fun x7 => ((zsI n f5 0 x6 (2 : Int32) (x7 + (1 : Int32))).bind fun f8 => ((zbl (1 : Int32)).bind fun y => some (f8, y)))))))))))))
set_option maxRecDepth 100000 in
set_option maxHeartbeats 4000000 in
theorem mX12_readOwner (l : Launch) (G : zG) {N n : Nat} {f : zF} {f9 : zF} {r : Int32} {a0 : Nat} (h : fX12_readOwner N n f a0 = some (f9, r)) : zM l G yX12_readOwner cX12_readOwner 2 (some .boolean) 3 n f [zr G a0] (some (.int r)) f9 := by
  refine zM.of (by decide) (Nat.le_of_ble_eq_true rfl) ?_
  intro p e s m args below meth c locs ls B hS hl
  have he := B.1
  have hb := B.2.1
  have hl : lv_has ls 2 [(0, zr G a0)] := hl
  unfold fX12_readOwner at h
  generalize s.heap = H at hS ⊢
  refine z_aload_n he hb dX12_readOwner_0 rfl (lv_at hl 0 rfl) (zref_r _ _) ?_
  obtain ⟨x1, hx, h⟩ := zob h
  refine z_getR (ci := 12) (T := TX12) (N := 50) (j := 7) B hS hx rfl zin_X12 (by decide) zk_1354 dX12_readOwner_1 ?_
  refine lv_iconst (v := (2 : Int32)) he hb dX12_readOwner_4 (by decide) ?_
  obtain ⟨x2, hx, h⟩ := zob h
  refine z_ildI B hS hx dX12_readOwner_5 ?_
  refine lv_istore_n (lv' := [(1, _), (0, _)]) he hb dX12_readOwner_6 rfl hl (by decide) rfl (fun ls hl => ?_)
  refine lv_iload_n he hb dX12_readOwner_7 rfl (lv_at hl 0 rfl) ?_
  refine lv_iconst (v := (4 : Int32)) he hb dX12_readOwner_8 (by decide) ?_
  refine lv_icmp_ne (tgt := 18) he hb dX12_readOwner_9 (by decide) (fun hc => ?_) (fun hc => ?_)
  · rw [if_neg hc] at h
    refine z_aload_n he hb dX12_readOwner_18 rfl (lv_at hl 1 rfl) (zref_r _ _) ?_
    obtain ⟨_, hc, h⟩ := zob h
    obtain ⟨f3, hx, h⟩ := zob h
    refine z_callV (ci := 12) (T := TX12) (N := 50) (rest := []) B hS (mX12_next l G hx) zy_X12_next zk_1507 (by decide) hc rfl rfl hl rfl (Nat.le_of_ble_eq_true rfl) dX12_readOwner_19 (kk := (fun H locs hS => ?_))
    refine z_aload_n he hb dX12_readOwner_22 rfl (lv_at hl 1 rfl) (zref_r _ _) ?_
    refine lv_bipush (v := (15 : Int32)) he hb dX12_readOwner_23 (by decide) ?_
    refine lv_iload_n he hb dX12_readOwner_25 rfl (lv_at hl 0 rfl) ?_
    refine lv_iadd he hb dX12_readOwner_26 ?_
    obtain ⟨_, hc, h⟩ := zob h
    obtain ⟨f5, x4, hx, h⟩ := zbd_i h
    refine z_callV (ci := 12) (T := TX12) (N := 50) (rest := []) B hS (mX12_fresh l G hx) zy_X12_fresh zk_1560 (by decide) hc rfl rfl hl rfl (Nat.le_of_ble_eq_true rfl) dX12_readOwner_27 (kk := (fun H locs hS => ?_))
    refine lv_if_ne (tgt := 35) he hb dX12_readOwner_30 (by decide) (fun hc => ?_) (fun hc => ?_)
    · rw [if_neg hc] at h
      refine z_aload_n he hb dX12_readOwner_35 rfl (lv_at hl 1 rfl) (zref_r _ _) ?_
      obtain ⟨x6, hx, h⟩ := zob h
      refine z_getR (ci := 12) (T := TX12) (N := 50) (j := 7) B hS hx rfl zin_X12 (by decide) zk_1354 dX12_readOwner_36 ?_
      refine lv_iconst (v := (2 : Int32)) he hb dX12_readOwner_39 (by decide) ?_
      refine lv_dup2_11 he hb dX12_readOwner_40 rfl rfl ?_
      obtain ⟨x7, hx, h⟩ := zob h
      refine z_ildI B hS hx dX12_readOwner_41 ?_
      refine lv_iconst (v := (1 : Int32)) he hb dX12_readOwner_42 (by decide) ?_
      refine lv_iadd he hb dX12_readOwner_43 ?_
      obtain ⟨f8, hx, h⟩ := zob h
      refine z_istI B hS hx dX12_readOwner_44 (fun H locs hS => ?_)
      refine lv_iconst (v := (1 : Int32)) he hb dX12_readOwner_45 (by decide) ?_
      obtain ⟨y, hx, h⟩ := zob h
      obtain ⟨hz, rfl⟩ := zbl_i hx
      obtain ⟨rfl, rfl⟩ := Prod.mk.inj (Option.some.inj h)
      exact z_zret B hS hz dX12_readOwner_46
    · rw [if_pos hc] at h
      refine lv_iconst (v := (0 : Int32)) he hb dX12_readOwner_33 (by decide) ?_
      obtain ⟨y, hx, h⟩ := zob h
      obtain ⟨hz, rfl⟩ := zbl_i hx
      obtain ⟨rfl, rfl⟩ := Prod.mk.inj (Option.some.inj h)
      exact z_zret B hS hz dX12_readOwner_34
  · rw [if_pos hc] at h
    refine z_aload_n he hb dX12_readOwner_12 rfl (lv_at hl 1 rfl) (zref_r _ _) ?_
    refine lv_iconst (v := (4 : Int32)) he hb dX12_readOwner_13 (by decide) ?_
    obtain ⟨_, hc, h⟩ := zob h
    obtain ⟨f10, x9, hx, h⟩ := zbd_i h
    refine z_callV (ci := 12) (T := TX12) (N := 50) (rest := []) B hS (mX12_bad l G hx) zy_X12_bad zk_1533 (by decide) hc rfl rfl hl rfl (Nat.le_of_ble_eq_true rfl) dX12_readOwner_14 (kk := (fun H locs hS => ?_))
    obtain ⟨y, hx, h⟩ := zob h
    obtain ⟨hz, rfl⟩ := zbl_i hx
    obtain ⟨rfl, rfl⟩ := Prod.mk.inj (Option.some.inj h)
    exact z_zret B hS hz dX12_readOwner_17
theorem dX12_readLand_0 : decode cX12_readLand 0 = .ok (.aload_n 0, 1) := by decide +kernel
theorem dX12_readLand_1 : decode cX12_readLand 1 = .ok (.invokevirtual 189, 3) := by decide +kernel
theorem dX12_readLand_4 : decode cX12_readLand 4 = .ok (.aload_n 0, 1) := by decide +kernel
theorem dX12_readLand_5 : decode cX12_readLand 5 = .ok (.bipush 15, 2) := by decide +kernel
theorem dX12_readLand_7 : decode cX12_readLand 7 = .ok (.aload_n 0, 1) := by decide +kernel
theorem dX12_readLand_8 : decode cX12_readLand 8 = .ok (.getfield 37, 3) := by decide +kernel
theorem dX12_readLand_11 : decode cX12_readLand 11 = .ok (.iconst 2, 1) := by decide +kernel
theorem dX12_readLand_12 : decode cX12_readLand 12 = .ok (.iaload, 1) := by decide +kernel
theorem dX12_readLand_13 : decode cX12_readLand 13 = .ok (.invokevirtual 252, 3) := by decide +kernel
theorem dX12_readLand_16 : decode cX12_readLand 16 = .ok (.ifCond .ne 5, 3) := by decide +kernel
theorem dX12_readLand_19 : decode cX12_readLand 19 = .ok (.iconst 0, 1) := by decide +kernel
theorem dX12_readLand_20 : decode cX12_readLand 20 = .ok (.ireturn, 1) := by decide +kernel
theorem dX12_readLand_21 : decode cX12_readLand 21 = .ok (.aload_n 0, 1) := by decide +kernel
theorem dX12_readLand_22 : decode cX12_readLand 22 = .ok (.getfield 196, 3) := by decide +kernel
theorem dX12_readLand_25 : decode cX12_readLand 25 = .ok (.istore_n 1, 1) := by decide +kernel
theorem dX12_readLand_26 : decode cX12_readLand 26 = .ok (.aload_n 0, 1) := by decide +kernel
theorem dX12_readLand_27 : decode cX12_readLand 27 = .ok (.getfield 160, 3) := by decide +kernel
theorem dX12_readLand_30 : decode cX12_readLand 30 = .ok (.iconst 2, 1) := by decide +kernel
theorem dX12_readLand_31 : decode cX12_readLand 31 = .ok (.if_icmp .eq 9, 3) := by decide +kernel
theorem dX12_readLand_34 : decode cX12_readLand 34 = .ok (.aload_n 0, 1) := by decide +kernel
theorem dX12_readLand_35 : decode cX12_readLand 35 = .ok (.iconst 1, 1) := by decide +kernel
theorem dX12_readLand_36 : decode cX12_readLand 36 = .ok (.invokevirtual 186, 3) := by decide +kernel
theorem dX12_readLand_39 : decode cX12_readLand 39 = .ok (.ireturn, 1) := by decide +kernel
theorem dX12_readLand_40 : decode cX12_readLand 40 = .ok (.aload_n 0, 1) := by decide +kernel
theorem dX12_readLand_41 : decode cX12_readLand 41 = .ok (.getfield 170, 3) := by decide +kernel
theorem dX12_readLand_44 : decode cX12_readLand 44 = .ok (.aload_n 0, 1) := by decide +kernel
theorem dX12_readLand_45 : decode cX12_readLand 45 = .ok (.getfield 37, 3) := by decide +kernel
theorem dX12_readLand_48 : decode cX12_readLand 48 = .ok (.iconst 1, 1) := by decide +kernel
theorem dX12_readLand_49 : decode cX12_readLand 49 = .ok (.iaload, 1) := by decide +kernel
theorem dX12_readLand_50 : decode cX12_readLand 50 = .ok (.if_icmp .lt 9, 3) := by decide +kernel
theorem dX12_readLand_53 : decode cX12_readLand 53 = .ok (.aload_n 0, 1) := by decide +kernel
theorem dX12_readLand_54 : decode cX12_readLand 54 = .ok (.iconst 2, 1) := by decide +kernel
theorem dX12_readLand_55 : decode cX12_readLand 55 = .ok (.invokevirtual 186, 3) := by decide +kernel
theorem dX12_readLand_58 : decode cX12_readLand 58 = .ok (.ireturn, 1) := by decide +kernel
theorem dX12_readLand_59 : decode cX12_readLand 59 = .ok (.aload_n 0, 1) := by decide +kernel
theorem dX12_readLand_60 : decode cX12_readLand 60 = .ok (.getfield 37, 3) := by decide +kernel
theorem dX12_readLand_63 : decode cX12_readLand 63 = .ok (.bipush 86, 2) := by decide +kernel
theorem dX12_readLand_65 : decode cX12_readLand 65 = .ok (.aload_n 0, 1) := by decide +kernel
theorem dX12_readLand_66 : decode cX12_readLand 66 = .ok (.getfield 170, 3) := by decide +kernel
theorem dX12_readLand_69 : decode cX12_readLand 69 = .ok (.iadd, 1) := by decide +kernel
theorem dX12_readLand_70 : decode cX12_readLand 70 = .ok (.iaload, 1) := by decide +kernel
theorem dX12_readLand_71 : decode cX12_readLand 71 = .ok (.ifCond .le 9, 3) := by decide +kernel
theorem dX12_readLand_74 : decode cX12_readLand 74 = .ok (.aload_n 0, 1) := by decide +kernel
theorem dX12_readLand_75 : decode cX12_readLand 75 = .ok (.iconst 3, 1) := by decide +kernel
theorem dX12_readLand_76 : decode cX12_readLand 76 = .ok (.invokevirtual 186, 3) := by decide +kernel
theorem dX12_readLand_79 : decode cX12_readLand 79 = .ok (.ireturn, 1) := by decide +kernel
theorem dX12_readLand_80 : decode cX12_readLand 80 = .ok (.aload_n 0, 1) := by decide +kernel
theorem dX12_readLand_81 : decode cX12_readLand 81 = .ok (.getfield 37, 3) := by decide +kernel
theorem dX12_readLand_84 : decode cX12_readLand 84 = .ok (.bipush 86, 2) := by decide +kernel
theorem dX12_readLand_86 : decode cX12_readLand 86 = .ok (.aload_n 0, 1) := by decide +kernel
theorem dX12_readLand_87 : decode cX12_readLand 87 = .ok (.getfield 170, 3) := by decide +kernel
theorem dX12_readLand_90 : decode cX12_readLand 90 = .ok (.iadd, 1) := by decide +kernel
theorem dX12_readLand_91 : decode cX12_readLand 91 = .ok (.iload_n 1, 1) := by decide +kernel
theorem dX12_readLand_92 : decode cX12_readLand 92 = .ok (.iconst 1, 1) := by decide +kernel
theorem dX12_readLand_93 : decode cX12_readLand 93 = .ok (.iadd, 1) := by decide +kernel
theorem dX12_readLand_94 : decode cX12_readLand 94 = .ok (.iastore, 1) := by decide +kernel
theorem dX12_readLand_95 : decode cX12_readLand 95 = .ok (.aload_n 0, 1) := by decide +kernel
theorem dX12_readLand_96 : decode cX12_readLand 96 = .ok (.invokevirtual 189, 3) := by decide +kernel
theorem dX12_readLand_99 : decode cX12_readLand 99 = .ok (.iconst 1, 1) := by decide +kernel
theorem dX12_readLand_100 : decode cX12_readLand 100 = .ok (.ireturn, 1) := by decide +kernel
def fX12_readLand (N n : Nat) (f : zF) (a0 : Nat) : Option (zF × Int32) :=
    ((zck n f 12 a0).bind fun _ => ((fX12_next N n f a0).bind fun f1 => ((zgR n f1 12 a0 7).bind fun x2 => ((zlI n f1 0 x2 (2 : Int32)).bind fun x3 => ((zck n f1 12 a0).bind fun _ => (zbd (fX12_takesName N n f1 a0 (15 : Int32) x3) fun f5 x4 => (if x4 = 0 then ((zbl (0 : Int32)).bind fun y => some (f5, y)) else ((zgI n f5 12 a0 18).bind fun x6 => ((zgI n f5 12 a0 11).bind fun x7 => (if x7 = (2 : Int32) then ((zgI n f5 12 a0 14).bind fun x8 => ((zgR n f5 12 a0 7).bind fun x9 => ((zlI n f5 0 x9 (1 : Int32)).bind fun x10 => (if x8 < x10 then ((zgR n f5 12 a0 7).bind fun x11 => ((zgI n f5 12 a0 14).bind fun x12 => ((zlI n f5 0 x11 ((86 : Int32) + x12)).bind fun x13 => (if x13 ≤ 0 then ((zgR n f5 12 a0 7).bind fun x14 => ((zgI n f5 12 a0 14).bind fun x15 => ((zsI n f5 0 x14 ((86 : Int32) + x15) (x6 + (1 : Int32))).bind fun f16 => ((zck n f16 12 a0).bind fun _ => ((fX12_next N n f16 a0).bind fun f17 => ((zbl (1 : Int32)).bind fun y => some (f17, y))))))) else ((zck n f5 12 a0).bind fun _ => (zbd (fX12_bad N n f5 a0 (3 : Int32)) fun f19 x18 => ((zbl x18).bind fun y => some (f19, y)))))))) else ((zck n f5 12 a0).bind fun _ => (zbd (fX12_bad N n f5 a0 (2 : Int32)) fun f21 x20 => ((zbl x20).bind fun y => some (f21, y)))))))) else ((zck n f5 12 a0).bind fun _ => (zbd (fX12_bad N n f5 a0 (1 : Int32)) fun f23 x22 => ((zbl x22).bind fun y => some (f23, y))))))))))))))
set_option maxRecDepth 100000 in
set_option maxHeartbeats 4000000 in
theorem mX12_readLand (l : Launch) (G : zG) {N n : Nat} {f : zF} {f9 : zF} {r : Int32} {a0 : Nat} (h : fX12_readLand N n f a0 = some (f9, r)) : zM l G yX12_readLand cX12_readLand 2 (some .boolean) 3 n f [zr G a0] (some (.int r)) f9 := by
  refine zM.of (by decide) (Nat.le_of_ble_eq_true rfl) ?_
  intro p e s m args below meth c locs ls B hS hl
  have he := B.1
  have hb := B.2.1
  have hl : lv_has ls 2 [(0, zr G a0)] := hl
  unfold fX12_readLand at h
  generalize s.heap = H at hS ⊢
  refine z_aload_n he hb dX12_readLand_0 rfl (lv_at hl 0 rfl) (zref_r _ _) ?_
  obtain ⟨_, hc, h⟩ := zob h
  obtain ⟨f1, hx, h⟩ := zob h
  refine z_callV (ci := 12) (T := TX12) (N := 50) (rest := []) B hS (mX12_next l G hx) zy_X12_next zk_1507 (by decide) hc rfl rfl hl rfl (Nat.le_of_ble_eq_true rfl) dX12_readLand_1 (kk := (fun H locs hS => ?_))
  refine z_aload_n he hb dX12_readLand_4 rfl (lv_at hl 0 rfl) (zref_r _ _) ?_
  refine lv_bipush (v := (15 : Int32)) he hb dX12_readLand_5 (by decide) ?_
  refine z_aload_n he hb dX12_readLand_7 rfl (lv_at hl 0 rfl) (zref_r _ _) ?_
  obtain ⟨x2, hx, h⟩ := zob h
  refine z_getR (ci := 12) (T := TX12) (N := 50) (j := 7) B hS hx rfl zin_X12 (by decide) zk_1354 dX12_readLand_8 ?_
  refine lv_iconst (v := (2 : Int32)) he hb dX12_readLand_11 (by decide) ?_
  obtain ⟨x3, hx, h⟩ := zob h
  refine z_ildI B hS hx dX12_readLand_12 ?_
  obtain ⟨_, hc, h⟩ := zob h
  obtain ⟨f5, x4, hx, h⟩ := zbd_i h
  refine z_callV (ci := 12) (T := TX12) (N := 50) (rest := []) B hS (mX12_takesName l G hx) zy_X12_takesName zk_1576 (by decide) hc rfl rfl hl rfl (Nat.le_of_ble_eq_true rfl) dX12_readLand_13 (kk := (fun H locs hS => ?_))
  refine lv_if_ne (tgt := 21) he hb dX12_readLand_16 (by decide) (fun hc => ?_) (fun hc => ?_)
  · rw [if_neg hc] at h
    refine z_aload_n he hb dX12_readLand_21 rfl (lv_at hl 0 rfl) (zref_r _ _) ?_
    obtain ⟨x6, hx, h⟩ := zob h
    refine z_getI (ci := 12) (T := TX12) (N := 50) (j := 18) B hS hx rfl zin_X12 (by decide) zk_1365 dX12_readLand_22 ?_
    refine lv_istore_n (lv' := [(1, _), (0, _)]) he hb dX12_readLand_25 rfl hl (by decide) rfl (fun ls hl => ?_)
    refine z_aload_n he hb dX12_readLand_26 rfl (lv_at hl 1 rfl) (zref_r _ _) ?_
    obtain ⟨x7, hx, h⟩ := zob h
    refine z_getI (ci := 12) (T := TX12) (N := 50) (j := 11) B hS hx rfl zin_X12 (by decide) zk_1358 dX12_readLand_27 ?_
    refine lv_iconst (v := (2 : Int32)) he hb dX12_readLand_30 (by decide) ?_
    refine lv_icmp_eq (tgt := 40) he hb dX12_readLand_31 (by decide) (fun hc => ?_) (fun hc => ?_)
    · rw [if_pos hc] at h
      refine z_aload_n he hb dX12_readLand_40 rfl (lv_at hl 1 rfl) (zref_r _ _) ?_
      obtain ⟨x8, hx, h⟩ := zob h
      refine z_getI (ci := 12) (T := TX12) (N := 50) (j := 14) B hS hx rfl zin_X12 (by decide) zk_1361 dX12_readLand_41 ?_
      refine z_aload_n he hb dX12_readLand_44 rfl (lv_at hl 1 rfl) (zref_r _ _) ?_
      obtain ⟨x9, hx, h⟩ := zob h
      refine z_getR (ci := 12) (T := TX12) (N := 50) (j := 7) B hS hx rfl zin_X12 (by decide) zk_1354 dX12_readLand_45 ?_
      refine lv_iconst (v := (1 : Int32)) he hb dX12_readLand_48 (by decide) ?_
      obtain ⟨x10, hx, h⟩ := zob h
      refine z_ildI B hS hx dX12_readLand_49 ?_
      refine lv_icmp_lt (tgt := 59) he hb dX12_readLand_50 (by decide) (fun hc => ?_) (fun hc => ?_)
      · rw [if_pos hc] at h
        refine z_aload_n he hb dX12_readLand_59 rfl (lv_at hl 1 rfl) (zref_r _ _) ?_
        obtain ⟨x11, hx, h⟩ := zob h
        refine z_getR (ci := 12) (T := TX12) (N := 50) (j := 7) B hS hx rfl zin_X12 (by decide) zk_1354 dX12_readLand_60 ?_
        refine lv_bipush (v := (86 : Int32)) he hb dX12_readLand_63 (by decide) ?_
        refine z_aload_n he hb dX12_readLand_65 rfl (lv_at hl 1 rfl) (zref_r _ _) ?_
        obtain ⟨x12, hx, h⟩ := zob h
        refine z_getI (ci := 12) (T := TX12) (N := 50) (j := 14) B hS hx rfl zin_X12 (by decide) zk_1361 dX12_readLand_66 ?_
        refine lv_iadd he hb dX12_readLand_69 ?_
        obtain ⟨x13, hx, h⟩ := zob h
        refine z_ildI B hS hx dX12_readLand_70 ?_
        refine lv_if_le (tgt := 80) he hb dX12_readLand_71 (by decide) (fun hc => ?_) (fun hc => ?_)
        · rw [if_pos hc] at h
          refine z_aload_n he hb dX12_readLand_80 rfl (lv_at hl 1 rfl) (zref_r _ _) ?_
          obtain ⟨x14, hx, h⟩ := zob h
          refine z_getR (ci := 12) (T := TX12) (N := 50) (j := 7) B hS hx rfl zin_X12 (by decide) zk_1354 dX12_readLand_81 ?_
          refine lv_bipush (v := (86 : Int32)) he hb dX12_readLand_84 (by decide) ?_
          refine z_aload_n he hb dX12_readLand_86 rfl (lv_at hl 1 rfl) (zref_r _ _) ?_
          obtain ⟨x15, hx, h⟩ := zob h
          refine z_getI (ci := 12) (T := TX12) (N := 50) (j := 14) B hS hx rfl zin_X12 (by decide) zk_1361 dX12_readLand_87 ?_
          refine lv_iadd he hb dX12_readLand_90 ?_
          refine lv_iload_n he hb dX12_readLand_91 rfl (lv_at hl 0 rfl) ?_
          refine lv_iconst (v := (1 : Int32)) he hb dX12_readLand_92 (by decide) ?_
          refine lv_iadd he hb dX12_readLand_93 ?_
          obtain ⟨f16, hx, h⟩ := zob h
          refine z_istI B hS hx dX12_readLand_94 (fun H locs hS => ?_)
          refine z_aload_n he hb dX12_readLand_95 rfl (lv_at hl 1 rfl) (zref_r _ _) ?_
          obtain ⟨_, hc, h⟩ := zob h
          obtain ⟨f17, hx, h⟩ := zob h
          refine z_callV (ci := 12) (T := TX12) (N := 50) (rest := []) B hS (mX12_next l G hx) zy_X12_next zk_1507 (by decide) hc rfl rfl hl rfl (Nat.le_of_ble_eq_true rfl) dX12_readLand_96 (kk := (fun H locs hS => ?_))
          refine lv_iconst (v := (1 : Int32)) he hb dX12_readLand_99 (by decide) ?_
          obtain ⟨y, hx, h⟩ := zob h
          obtain ⟨hz, rfl⟩ := zbl_i hx
          obtain ⟨rfl, rfl⟩ := Prod.mk.inj (Option.some.inj h)
          exact z_zret B hS hz dX12_readLand_100
        · rw [if_neg hc] at h
          refine z_aload_n he hb dX12_readLand_74 rfl (lv_at hl 1 rfl) (zref_r _ _) ?_
          refine lv_iconst (v := (3 : Int32)) he hb dX12_readLand_75 (by decide) ?_
          obtain ⟨_, hc, h⟩ := zob h
          obtain ⟨f19, x18, hx, h⟩ := zbd_i h
          refine z_callV (ci := 12) (T := TX12) (N := 50) (rest := []) B hS (mX12_bad l G hx) zy_X12_bad zk_1533 (by decide) hc rfl rfl hl rfl (Nat.le_of_ble_eq_true rfl) dX12_readLand_76 (kk := (fun H locs hS => ?_))
          obtain ⟨y, hx, h⟩ := zob h
          obtain ⟨hz, rfl⟩ := zbl_i hx
          obtain ⟨rfl, rfl⟩ := Prod.mk.inj (Option.some.inj h)
          exact z_zret B hS hz dX12_readLand_79
      · rw [if_neg hc] at h
        refine z_aload_n he hb dX12_readLand_53 rfl (lv_at hl 1 rfl) (zref_r _ _) ?_
        refine lv_iconst (v := (2 : Int32)) he hb dX12_readLand_54 (by decide) ?_
        obtain ⟨_, hc, h⟩ := zob h
        obtain ⟨f21, x20, hx, h⟩ := zbd_i h
        refine z_callV (ci := 12) (T := TX12) (N := 50) (rest := []) B hS (mX12_bad l G hx) zy_X12_bad zk_1533 (by decide) hc rfl rfl hl rfl (Nat.le_of_ble_eq_true rfl) dX12_readLand_55 (kk := (fun H locs hS => ?_))
        obtain ⟨y, hx, h⟩ := zob h
        obtain ⟨hz, rfl⟩ := zbl_i hx
        obtain ⟨rfl, rfl⟩ := Prod.mk.inj (Option.some.inj h)
        exact z_zret B hS hz dX12_readLand_58
    · rw [if_neg hc] at h
      refine z_aload_n he hb dX12_readLand_34 rfl (lv_at hl 1 rfl) (zref_r _ _) ?_
      refine lv_iconst (v := (1 : Int32)) he hb dX12_readLand_35 (by decide) ?_
      obtain ⟨_, hc, h⟩ := zob h
      obtain ⟨f23, x22, hx, h⟩ := zbd_i h
      refine z_callV (ci := 12) (T := TX12) (N := 50) (rest := []) B hS (mX12_bad l G hx) zy_X12_bad zk_1533 (by decide) hc rfl rfl hl rfl (Nat.le_of_ble_eq_true rfl) dX12_readLand_36 (kk := (fun H locs hS => ?_))
      obtain ⟨y, hx, h⟩ := zob h
      obtain ⟨hz, rfl⟩ := zbl_i hx
      obtain ⟨rfl, rfl⟩ := Prod.mk.inj (Option.some.inj h)
      exact z_zret B hS hz dX12_readLand_39
  · rw [if_pos hc] at h
    refine lv_iconst (v := (0 : Int32)) he hb dX12_readLand_19 (by decide) ?_
    obtain ⟨y, hx, h⟩ := zob h
    obtain ⟨hz, rfl⟩ := zbl_i hx
    obtain ⟨rfl, rfl⟩ := Prod.mk.inj (Option.some.inj h)
    exact z_zret B hS hz dX12_readLand_20
theorem dX12_readFigure_0 : decode cX12_readFigure 0 = .ok (.aload_n 0, 1) := by decide +kernel
theorem dX12_readFigure_1 : decode cX12_readFigure 1 = .ok (.getfield 37, 3) := by decide +kernel
theorem dX12_readFigure_4 : decode cX12_readFigure 4 = .ok (.iconst 3, 1) := by decide +kernel
theorem dX12_readFigure_5 : decode cX12_readFigure 5 = .ok (.iaload, 1) := by decide +kernel
theorem dX12_readFigure_6 : decode cX12_readFigure 6 = .ok (.istore_n 1, 1) := by decide +kernel
theorem dX12_readFigure_7 : decode cX12_readFigure 7 = .ok (.iload_n 1, 1) := by decide +kernel
theorem dX12_readFigure_8 : decode cX12_readFigure 8 = .ok (.bipush 6, 2) := by decide +kernel
theorem dX12_readFigure_10 : decode cX12_readFigure 10 = .ok (.if_icmp .ne 9, 3) := by decide +kernel
theorem dX12_readFigure_13 : decode cX12_readFigure 13 = .ok (.aload_n 0, 1) := by decide +kernel
theorem dX12_readFigure_14 : decode cX12_readFigure 14 = .ok (.iconst 4, 1) := by decide +kernel
theorem dX12_readFigure_15 : decode cX12_readFigure 15 = .ok (.invokevirtual 186, 3) := by decide +kernel
theorem dX12_readFigure_18 : decode cX12_readFigure 18 = .ok (.ireturn, 1) := by decide +kernel
theorem dX12_readFigure_19 : decode cX12_readFigure 19 = .ok (.aload_n 0, 1) := by decide +kernel
theorem dX12_readFigure_20 : decode cX12_readFigure 20 = .ok (.invokevirtual 189, 3) := by decide +kernel
theorem dX12_readFigure_23 : decode cX12_readFigure 23 = .ok (.aload_n 0, 1) := by decide +kernel
theorem dX12_readFigure_24 : decode cX12_readFigure 24 = .ok (.bipush 19, 2) := by decide +kernel
theorem dX12_readFigure_26 : decode cX12_readFigure 26 = .ok (.iload_n 1, 1) := by decide +kernel
theorem dX12_readFigure_27 : decode cX12_readFigure 27 = .ok (.iadd, 1) := by decide +kernel
theorem dX12_readFigure_28 : decode cX12_readFigure 28 = .ok (.invokevirtual 249, 3) := by decide +kernel
theorem dX12_readFigure_31 : decode cX12_readFigure 31 = .ok (.ifCond .eq 18, 3) := by decide +kernel
theorem dX12_readFigure_34 : decode cX12_readFigure 34 = .ok (.aload_n 0, 1) := by decide +kernel
theorem dX12_readFigure_35 : decode cX12_readFigure 35 = .ok (.bipush 15, 2) := by decide +kernel
theorem dX12_readFigure_37 : decode cX12_readFigure 37 = .ok (.aload_n 0, 1) := by decide +kernel
theorem dX12_readFigure_38 : decode cX12_readFigure 38 = .ok (.getfield 37, 3) := by decide +kernel
theorem dX12_readFigure_41 : decode cX12_readFigure 41 = .ok (.iconst 2, 1) := by decide +kernel
theorem dX12_readFigure_42 : decode cX12_readFigure 42 = .ok (.iaload, 1) := by decide +kernel
theorem dX12_readFigure_43 : decode cX12_readFigure 43 = .ok (.invokevirtual 252, 3) := by decide +kernel
theorem dX12_readFigure_46 : decode cX12_readFigure 46 = .ok (.ifCond .ne 5, 3) := by decide +kernel
theorem dX12_readFigure_49 : decode cX12_readFigure 49 = .ok (.iconst 0, 1) := by decide +kernel
theorem dX12_readFigure_50 : decode cX12_readFigure 50 = .ok (.ireturn, 1) := by decide +kernel
theorem dX12_readFigure_51 : decode cX12_readFigure 51 = .ok (.aload_n 0, 1) := by decide +kernel
theorem dX12_readFigure_52 : decode cX12_readFigure 52 = .ok (.getfield 37, 3) := by decide +kernel
theorem dX12_readFigure_55 : decode cX12_readFigure 55 = .ok (.bipush 95, 2) := by decide +kernel
theorem dX12_readFigure_57 : decode cX12_readFigure 57 = .ok (.iload_n 1, 1) := by decide +kernel
theorem dX12_readFigure_58 : decode cX12_readFigure 58 = .ok (.iadd, 1) := by decide +kernel
theorem dX12_readFigure_59 : decode cX12_readFigure 59 = .ok (.aload_n 0, 1) := by decide +kernel
theorem dX12_readFigure_60 : decode cX12_readFigure 60 = .ok (.getfield 196, 3) := by decide +kernel
theorem dX12_readFigure_63 : decode cX12_readFigure 63 = .ok (.iastore, 1) := by decide +kernel
theorem dX12_readFigure_64 : decode cX12_readFigure 64 = .ok (.aload_n 0, 1) := by decide +kernel
theorem dX12_readFigure_65 : decode cX12_readFigure 65 = .ok (.invokevirtual 246, 3) := by decide +kernel
theorem dX12_readFigure_68 : decode cX12_readFigure 68 = .ok (.ifCond .ne 5, 3) := by decide +kernel
theorem dX12_readFigure_71 : decode cX12_readFigure 71 = .ok (.iconst 0, 1) := by decide +kernel
theorem dX12_readFigure_72 : decode cX12_readFigure 72 = .ok (.ireturn, 1) := by decide +kernel
theorem dX12_readFigure_73 : decode cX12_readFigure 73 = .ok (.aload_n 0, 1) := by decide +kernel
theorem dX12_readFigure_74 : decode cX12_readFigure 74 = .ok (.getfield 37, 3) := by decide +kernel
theorem dX12_readFigure_77 : decode cX12_readFigure 77 = .ok (.bipush 101, 2) := by decide +kernel
theorem dX12_readFigure_79 : decode cX12_readFigure 79 = .ok (.iload_n 1, 1) := by decide +kernel
theorem dX12_readFigure_80 : decode cX12_readFigure 80 = .ok (.iadd, 1) := by decide +kernel
theorem dX12_readFigure_81 : decode cX12_readFigure 81 = .ok (.aload_n 0, 1) := by decide +kernel
theorem dX12_readFigure_82 : decode cX12_readFigure 82 = .ok (.getfield 196, 3) := by decide +kernel
theorem dX12_readFigure_85 : decode cX12_readFigure 85 = .ok (.iastore, 1) := by decide +kernel
theorem dX12_readFigure_86 : decode cX12_readFigure 86 = .ok (.aload_n 0, 1) := by decide +kernel
theorem dX12_readFigure_87 : decode cX12_readFigure 87 = .ok (.invokevirtual 255, 3) := by decide +kernel
theorem dX12_readFigure_90 : decode cX12_readFigure 90 = .ok (.ifCond .ne 5, 3) := by decide +kernel
theorem dX12_readFigure_93 : decode cX12_readFigure 93 = .ok (.iconst 0, 1) := by decide +kernel
theorem dX12_readFigure_94 : decode cX12_readFigure 94 = .ok (.ireturn, 1) := by decide +kernel
theorem dX12_readFigure_95 : decode cX12_readFigure 95 = .ok (.aload_n 0, 1) := by decide +kernel
theorem dX12_readFigure_96 : decode cX12_readFigure 96 = .ok (.getfield 37, 3) := by decide +kernel
theorem dX12_readFigure_99 : decode cX12_readFigure 99 = .ok (.bipush 107, 2) := by decide +kernel
theorem dX12_readFigure_101 : decode cX12_readFigure 101 = .ok (.iload_n 1, 1) := by decide +kernel
theorem dX12_readFigure_102 : decode cX12_readFigure 102 = .ok (.iadd, 1) := by decide +kernel
theorem dX12_readFigure_103 : decode cX12_readFigure 103 = .ok (.aload_n 0, 1) := by decide +kernel
theorem dX12_readFigure_104 : decode cX12_readFigure 104 = .ok (.getfield 196, 3) := by decide +kernel
theorem dX12_readFigure_107 : decode cX12_readFigure 107 = .ok (.iastore, 1) := by decide +kernel
theorem dX12_readFigure_108 : decode cX12_readFigure 108 = .ok (.aload_n 0, 1) := by decide +kernel
theorem dX12_readFigure_109 : decode cX12_readFigure 109 = .ok (.bipush 113, 2) := by decide +kernel
theorem dX12_readFigure_111 : decode cX12_readFigure 111 = .ok (.iload_n 1, 1) := by decide +kernel
theorem dX12_readFigure_112 : decode cX12_readFigure 112 = .ok (.iadd, 1) := by decide +kernel
theorem dX12_readFigure_113 : decode cX12_readFigure 113 = .ok (.iconst 1, 1) := by decide +kernel
theorem dX12_readFigure_114 : decode cX12_readFigure 114 = .ok (.bipush 9, 2) := by decide +kernel
theorem dX12_readFigure_116 : decode cX12_readFigure 116 = .ok (.invokevirtual 243, 3) := by decide +kernel
theorem dX12_readFigure_119 : decode cX12_readFigure 119 = .ok (.ifCond .ne 5, 3) := by decide +kernel
theorem dX12_readFigure_122 : decode cX12_readFigure 122 = .ok (.iconst 0, 1) := by decide +kernel
theorem dX12_readFigure_123 : decode cX12_readFigure 123 = .ok (.ireturn, 1) := by decide +kernel
theorem dX12_readFigure_124 : decode cX12_readFigure 124 = .ok (.aload_n 0, 1) := by decide +kernel
theorem dX12_readFigure_125 : decode cX12_readFigure 125 = .ok (.getfield 37, 3) := by decide +kernel
theorem dX12_readFigure_128 : decode cX12_readFigure 128 = .ok (.iconst 3, 1) := by decide +kernel
theorem dX12_readFigure_129 : decode cX12_readFigure 129 = .ok (.dup2, 1) := by decide +kernel
theorem dX12_readFigure_130 : decode cX12_readFigure 130 = .ok (.iaload, 1) := by decide +kernel
theorem dX12_readFigure_131 : decode cX12_readFigure 131 = .ok (.iconst 1, 1) := by decide +kernel
theorem dX12_readFigure_132 : decode cX12_readFigure 132 = .ok (.iadd, 1) := by decide +kernel
theorem dX12_readFigure_133 : decode cX12_readFigure 133 = .ok (.iastore, 1) := by decide +kernel
theorem dX12_readFigure_134 : decode cX12_readFigure 134 = .ok (.iconst 1, 1) := by decide +kernel
theorem dX12_readFigure_135 : decode cX12_readFigure 135 = .ok (.ireturn, 1) := by decide +kernel
def fX12_readFigure (N n : Nat) (f : zF) (a0 : Nat) : Option (zF × Int32) :=
    ((zgR n f 12 a0 7).bind fun x1 => ((zlI n f 0 x1 (3 : Int32)).bind fun x2 => (if x2 = (6 : Int32) then ((zck n f 12 a0).bind fun _ => (zbd (fX12_bad N n f a0 (4 : Int32)) fun f29 x28 => ((zbl x28).bind fun y => some (f29, y)))) else ((zck n f 12 a0).bind fun _ => ((fX12_next N n f a0).bind fun f3 => ((zck n f3 12 a0).bind fun _ => (zbd (fX12_fresh N n f3 a0 ((19 : Int32) + x2)) fun f5 x4 => (if x4 = 0 then ((zbl (0 : Int32)).bind fun y => some (f5, y)) else ((zgR n f5 12 a0 7).bind fun x6 => ((zlI n f5 0 x6 (2 : Int32)).bind fun x7 => ((zck n f5 12 a0).bind fun _ => (zbd (fX12_takesName N n f5 a0 (15 : Int32) x7) fun f9 x8 => (if x8 = 0 then ((zbl (0 : Int32)).bind fun y => some (f9, y)) else ((zgR n f9 12 a0 7).bind fun x10 => ((zgI n f9 12 a0 18).bind fun x11 => ((zsI n f9 0 x10 ((95 : Int32) + x2) x11).bind fun f12 => ((zck n f12 12 a0).bind fun _ => (zbd (fX12_takesCell N n f12 a0) fun f14 x13 => (if x13 = 0 then ((zbl (0 : Int32)).bind fun y => some (f14, y)) else ((zgR n f14 12 a0 7).bind fun x15 => ((zgI n f14 12 a0 18).bind fun x16 => ((zsI n f14 0 x15 ((101 : Int32) + x2) x16).bind fun f17 => ((zck n f17 12 a0).bind fun _ => (zbd (fX12_takesSide N n f17 a0) fun f19 x18 => (if x18 = 0 then ((zbl (0 : Int32)).bind fun y => some (f19, y)) else ((zgR n f19 12 a0 7).bind fun x20 => ((zgI n f19 12 a0 18).bind fun x21 => ((zsI n f19 0 x20 ((107 : Int32) + x2) x21).bind fun f22 => ((zck n f22 12 a0).bind fun _ => (zbd (fX12_puts N n f22 a0 ((113 : Int32) + x2) (1 : Int32) (9 : Int32)) fun f24 x23 => (if x23 = 0 then ((zbl (0 : Int32)).bind fun y => some (f24, y)) else ((zgR n f24 12 a0 7).bind fun x25 => ((zlI n f24 0 x25 (3 : Int32)).bind fun x26 => ((zsI n f24 0 x25 (3 : Int32) (x26 + (1 : Int32))).bind fun f27 => ((zbl (1 : Int32)).bind fun y => some (f27, y))))))))))))))))))))))))))))))))))))
set_option maxRecDepth 100000 in
set_option maxHeartbeats 4000000 in
theorem mX12_readFigure (l : Launch) (G : zG) {N n : Nat} {f : zF} {f9 : zF} {r : Int32} {a0 : Nat} (h : fX12_readFigure N n f a0 = some (f9, r)) : zM l G yX12_readFigure cX12_readFigure 2 (some .boolean) 4 n f [zr G a0] (some (.int r)) f9 := by
  refine zM.of (by decide) (Nat.le_of_ble_eq_true rfl) ?_
  intro p e s m args below meth c locs ls B hS hl
  have he := B.1
  have hb := B.2.1
  have hl : lv_has ls 2 [(0, zr G a0)] := hl
  unfold fX12_readFigure at h
  generalize s.heap = H at hS ⊢
  refine z_aload_n he hb dX12_readFigure_0 rfl (lv_at hl 0 rfl) (zref_r _ _) ?_
  obtain ⟨x1, hx, h⟩ := zob h
  refine z_getR (ci := 12) (T := TX12) (N := 50) (j := 7) B hS hx rfl zin_X12 (by decide) zk_1354 dX12_readFigure_1 ?_
  refine lv_iconst (v := (3 : Int32)) he hb dX12_readFigure_4 (by decide) ?_
  obtain ⟨x2, hx, h⟩ := zob h
  refine z_ildI B hS hx dX12_readFigure_5 ?_
  refine lv_istore_n (lv' := [(1, _), (0, _)]) he hb dX12_readFigure_6 rfl hl (by decide) rfl (fun ls hl => ?_)
  refine lv_iload_n he hb dX12_readFigure_7 rfl (lv_at hl 0 rfl) ?_
  refine lv_bipush (v := (6 : Int32)) he hb dX12_readFigure_8 (by decide) ?_
  refine lv_icmp_ne (tgt := 19) he hb dX12_readFigure_10 (by decide) (fun hc => ?_) (fun hc => ?_)
  · rw [if_neg hc] at h
    refine z_aload_n he hb dX12_readFigure_19 rfl (lv_at hl 1 rfl) (zref_r _ _) ?_
    obtain ⟨_, hc, h⟩ := zob h
    obtain ⟨f3, hx, h⟩ := zob h
    refine z_callV (ci := 12) (T := TX12) (N := 50) (rest := []) B hS (mX12_next l G hx) zy_X12_next zk_1507 (by decide) hc rfl rfl hl rfl (Nat.le_of_ble_eq_true rfl) dX12_readFigure_20 (kk := (fun H locs hS => ?_))
    refine z_aload_n he hb dX12_readFigure_23 rfl (lv_at hl 1 rfl) (zref_r _ _) ?_
    refine lv_bipush (v := (19 : Int32)) he hb dX12_readFigure_24 (by decide) ?_
    refine lv_iload_n he hb dX12_readFigure_26 rfl (lv_at hl 0 rfl) ?_
    refine lv_iadd he hb dX12_readFigure_27 ?_
    obtain ⟨_, hc, h⟩ := zob h
    obtain ⟨f5, x4, hx, h⟩ := zbd_i h
    refine z_callV (ci := 12) (T := TX12) (N := 50) (rest := []) B hS (mX12_fresh l G hx) zy_X12_fresh zk_1560 (by decide) hc rfl rfl hl rfl (Nat.le_of_ble_eq_true rfl) dX12_readFigure_28 (kk := (fun H locs hS => ?_))
    refine lv_if_eq (tgt := 49) he hb dX12_readFigure_31 (by decide) (fun hc => ?_) (fun hc => ?_)
    · rw [if_pos hc] at h
      refine lv_iconst (v := (0 : Int32)) he hb dX12_readFigure_49 (by decide) ?_
      obtain ⟨y, hx, h⟩ := zob h
      obtain ⟨hz, rfl⟩ := zbl_i hx
      obtain ⟨rfl, rfl⟩ := Prod.mk.inj (Option.some.inj h)
      exact z_zret B hS hz dX12_readFigure_50
    · rw [if_neg hc] at h
      refine z_aload_n he hb dX12_readFigure_34 rfl (lv_at hl 1 rfl) (zref_r _ _) ?_
      refine lv_bipush (v := (15 : Int32)) he hb dX12_readFigure_35 (by decide) ?_
      refine z_aload_n he hb dX12_readFigure_37 rfl (lv_at hl 1 rfl) (zref_r _ _) ?_
      obtain ⟨x6, hx, h⟩ := zob h
      refine z_getR (ci := 12) (T := TX12) (N := 50) (j := 7) B hS hx rfl zin_X12 (by decide) zk_1354 dX12_readFigure_38 ?_
      refine lv_iconst (v := (2 : Int32)) he hb dX12_readFigure_41 (by decide) ?_
      obtain ⟨x7, hx, h⟩ := zob h
      refine z_ildI B hS hx dX12_readFigure_42 ?_
      obtain ⟨_, hc, h⟩ := zob h
      obtain ⟨f9, x8, hx, h⟩ := zbd_i h
      refine z_callV (ci := 12) (T := TX12) (N := 50) (rest := []) B hS (mX12_takesName l G hx) zy_X12_takesName zk_1576 (by decide) hc rfl rfl hl rfl (Nat.le_of_ble_eq_true rfl) dX12_readFigure_43 (kk := (fun H locs hS => ?_))
      refine lv_if_ne (tgt := 51) he hb dX12_readFigure_46 (by decide) (fun hc => ?_) (fun hc => ?_)
      · rw [if_neg hc] at h
        refine z_aload_n he hb dX12_readFigure_51 rfl (lv_at hl 1 rfl) (zref_r _ _) ?_
        obtain ⟨x10, hx, h⟩ := zob h
        refine z_getR (ci := 12) (T := TX12) (N := 50) (j := 7) B hS hx rfl zin_X12 (by decide) zk_1354 dX12_readFigure_52 ?_
        refine lv_bipush (v := (95 : Int32)) he hb dX12_readFigure_55 (by decide) ?_
        refine lv_iload_n he hb dX12_readFigure_57 rfl (lv_at hl 0 rfl) ?_
        refine lv_iadd he hb dX12_readFigure_58 ?_
        refine z_aload_n he hb dX12_readFigure_59 rfl (lv_at hl 1 rfl) (zref_r _ _) ?_
        obtain ⟨x11, hx, h⟩ := zob h
        refine z_getI (ci := 12) (T := TX12) (N := 50) (j := 18) B hS hx rfl zin_X12 (by decide) zk_1365 dX12_readFigure_60 ?_
        obtain ⟨f12, hx, h⟩ := zob h
        refine z_istI B hS hx dX12_readFigure_63 (fun H locs hS => ?_)
        refine z_aload_n he hb dX12_readFigure_64 rfl (lv_at hl 1 rfl) (zref_r _ _) ?_
        obtain ⟨_, hc, h⟩ := zob h
        obtain ⟨f14, x13, hx, h⟩ := zbd_i h
        refine z_callV (ci := 12) (T := TX12) (N := 50) (rest := []) B hS (mX12_takesCell l G hx) zy_X12_takesCell zk_1552 (by decide) hc rfl rfl hl rfl (Nat.le_of_ble_eq_true rfl) dX12_readFigure_65 (kk := (fun H locs hS => ?_))
        refine lv_if_ne (tgt := 73) he hb dX12_readFigure_68 (by decide) (fun hc => ?_) (fun hc => ?_)
        · rw [if_neg hc] at h
          refine z_aload_n he hb dX12_readFigure_73 rfl (lv_at hl 1 rfl) (zref_r _ _) ?_
          obtain ⟨x15, hx, h⟩ := zob h
          refine z_getR (ci := 12) (T := TX12) (N := 50) (j := 7) B hS hx rfl zin_X12 (by decide) zk_1354 dX12_readFigure_74 ?_
          refine lv_bipush (v := (101 : Int32)) he hb dX12_readFigure_77 (by decide) ?_
          refine lv_iload_n he hb dX12_readFigure_79 rfl (lv_at hl 0 rfl) ?_
          refine lv_iadd he hb dX12_readFigure_80 ?_
          refine z_aload_n he hb dX12_readFigure_81 rfl (lv_at hl 1 rfl) (zref_r _ _) ?_
          obtain ⟨x16, hx, h⟩ := zob h
          refine z_getI (ci := 12) (T := TX12) (N := 50) (j := 18) B hS hx rfl zin_X12 (by decide) zk_1365 dX12_readFigure_82 ?_
          obtain ⟨f17, hx, h⟩ := zob h
          refine z_istI B hS hx dX12_readFigure_85 (fun H locs hS => ?_)
          refine z_aload_n he hb dX12_readFigure_86 rfl (lv_at hl 1 rfl) (zref_r _ _) ?_
          obtain ⟨_, hc, h⟩ := zob h
          obtain ⟨f19, x18, hx, h⟩ := zbd_i h
          refine z_callV (ci := 12) (T := TX12) (N := 50) (rest := []) B hS (mX12_takesSide l G hx) zy_X12_takesSide zk_1588 (by decide) hc rfl rfl hl rfl (Nat.le_of_ble_eq_true rfl) dX12_readFigure_87 (kk := (fun H locs hS => ?_))
          refine lv_if_ne (tgt := 95) he hb dX12_readFigure_90 (by decide) (fun hc => ?_) (fun hc => ?_)
          · rw [if_neg hc] at h
            refine z_aload_n he hb dX12_readFigure_95 rfl (lv_at hl 1 rfl) (zref_r _ _) ?_
            obtain ⟨x20, hx, h⟩ := zob h
            refine z_getR (ci := 12) (T := TX12) (N := 50) (j := 7) B hS hx rfl zin_X12 (by decide) zk_1354 dX12_readFigure_96 ?_
            refine lv_bipush (v := (107 : Int32)) he hb dX12_readFigure_99 (by decide) ?_
            refine lv_iload_n he hb dX12_readFigure_101 rfl (lv_at hl 0 rfl) ?_
            refine lv_iadd he hb dX12_readFigure_102 ?_
            refine z_aload_n he hb dX12_readFigure_103 rfl (lv_at hl 1 rfl) (zref_r _ _) ?_
            obtain ⟨x21, hx, h⟩ := zob h
            refine z_getI (ci := 12) (T := TX12) (N := 50) (j := 18) B hS hx rfl zin_X12 (by decide) zk_1365 dX12_readFigure_104 ?_
            obtain ⟨f22, hx, h⟩ := zob h
            refine z_istI B hS hx dX12_readFigure_107 (fun H locs hS => ?_)
            refine z_aload_n he hb dX12_readFigure_108 rfl (lv_at hl 1 rfl) (zref_r _ _) ?_
            refine lv_bipush (v := (113 : Int32)) he hb dX12_readFigure_109 (by decide) ?_
            refine lv_iload_n he hb dX12_readFigure_111 rfl (lv_at hl 0 rfl) ?_
            refine lv_iadd he hb dX12_readFigure_112 ?_
            refine lv_iconst (v := (1 : Int32)) he hb dX12_readFigure_113 (by decide) ?_
            refine lv_bipush (v := (9 : Int32)) he hb dX12_readFigure_114 (by decide) ?_
            obtain ⟨_, hc, h⟩ := zob h
            obtain ⟨f24, x23, hx, h⟩ := zbd_i h
            refine z_callV (ci := 12) (T := TX12) (N := 50) (rest := []) B hS (mX12_puts l G hx) zy_X12_puts zk_1537 (by decide) hc rfl rfl hl rfl (Nat.le_of_ble_eq_true rfl) dX12_readFigure_116 (kk := (fun H locs hS => ?_))
            refine lv_if_ne (tgt := 124) he hb dX12_readFigure_119 (by decide) (fun hc => ?_) (fun hc => ?_)
            · rw [if_neg hc] at h
              refine z_aload_n he hb dX12_readFigure_124 rfl (lv_at hl 1 rfl) (zref_r _ _) ?_
              obtain ⟨x25, hx, h⟩ := zob h
              refine z_getR (ci := 12) (T := TX12) (N := 50) (j := 7) B hS hx rfl zin_X12 (by decide) zk_1354 dX12_readFigure_125 ?_
              refine lv_iconst (v := (3 : Int32)) he hb dX12_readFigure_128 (by decide) ?_
              refine lv_dup2_11 he hb dX12_readFigure_129 rfl rfl ?_
              obtain ⟨x26, hx, h⟩ := zob h
              refine z_ildI B hS hx dX12_readFigure_130 ?_
              refine lv_iconst (v := (1 : Int32)) he hb dX12_readFigure_131 (by decide) ?_
              refine lv_iadd he hb dX12_readFigure_132 ?_
              obtain ⟨f27, hx, h⟩ := zob h
              refine z_istI B hS hx dX12_readFigure_133 (fun H locs hS => ?_)
              refine lv_iconst (v := (1 : Int32)) he hb dX12_readFigure_134 (by decide) ?_
              obtain ⟨y, hx, h⟩ := zob h
              obtain ⟨hz, rfl⟩ := zbl_i hx
              obtain ⟨rfl, rfl⟩ := Prod.mk.inj (Option.some.inj h)
              exact z_zret B hS hz dX12_readFigure_135
            · rw [if_pos hc] at h
              refine lv_iconst (v := (0 : Int32)) he hb dX12_readFigure_122 (by decide) ?_
              obtain ⟨y, hx, h⟩ := zob h
              obtain ⟨hz, rfl⟩ := zbl_i hx
              obtain ⟨rfl, rfl⟩ := Prod.mk.inj (Option.some.inj h)
              exact z_zret B hS hz dX12_readFigure_123
          · rw [if_pos hc] at h
            refine lv_iconst (v := (0 : Int32)) he hb dX12_readFigure_93 (by decide) ?_
            obtain ⟨y, hx, h⟩ := zob h
            obtain ⟨hz, rfl⟩ := zbl_i hx
            obtain ⟨rfl, rfl⟩ := Prod.mk.inj (Option.some.inj h)
            exact z_zret B hS hz dX12_readFigure_94
        · rw [if_pos hc] at h
          refine lv_iconst (v := (0 : Int32)) he hb dX12_readFigure_71 (by decide) ?_
          obtain ⟨y, hx, h⟩ := zob h
          obtain ⟨hz, rfl⟩ := zbl_i hx
          obtain ⟨rfl, rfl⟩ := Prod.mk.inj (Option.some.inj h)
          exact z_zret B hS hz dX12_readFigure_72
      · rw [if_pos hc] at h
        refine lv_iconst (v := (0 : Int32)) he hb dX12_readFigure_49 (by decide) ?_
        obtain ⟨y, hx, h⟩ := zob h
        obtain ⟨hz, rfl⟩ := zbl_i hx
        obtain ⟨rfl, rfl⟩ := Prod.mk.inj (Option.some.inj h)
        exact z_zret B hS hz dX12_readFigure_50
  · rw [if_pos hc] at h
    refine z_aload_n he hb dX12_readFigure_13 rfl (lv_at hl 1 rfl) (zref_r _ _) ?_
    refine lv_iconst (v := (4 : Int32)) he hb dX12_readFigure_14 (by decide) ?_
    obtain ⟨_, hc, h⟩ := zob h
    obtain ⟨f29, x28, hx, h⟩ := zbd_i h
    refine z_callV (ci := 12) (T := TX12) (N := 50) (rest := []) B hS (mX12_bad l G hx) zy_X12_bad zk_1533 (by decide) hc rfl rfl hl rfl (Nat.le_of_ble_eq_true rfl) dX12_readFigure_15 (kk := (fun H locs hS => ?_))
    obtain ⟨y, hx, h⟩ := zob h
    obtain ⟨hz, rfl⟩ := zbl_i hx
    obtain ⟨rfl, rfl⟩ := Prod.mk.inj (Option.some.inj h)
    exact z_zret B hS hz dX12_readFigure_18
