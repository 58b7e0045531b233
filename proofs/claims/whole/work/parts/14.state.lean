/-! methods: what they do to the small heap, and that their bytecode does it -/
theorem dX8_goneByAll_0 : decode cX8_goneByAll 0 = .ok (.iconst 0, 1) := by decide +kernel
theorem dX8_goneByAll_1 : decode cX8_goneByAll 1 = .ok (.istore_n 1, 1) := by decide +kernel
theorem dX8_goneByAll_2 : decode cX8_goneByAll 2 = .ok (.iconst 0, 1) := by decide +kernel
theorem dX8_goneByAll_3 : decode cX8_goneByAll 3 = .ok (.istore_n 2, 1) := by decide +kernel
theorem dX8_goneByAll_4 : decode cX8_goneByAll 4 = .ok (.iload_n 2, 1) := by decide +kernel
theorem dX8_goneByAll_5 : decode cX8_goneByAll 5 = .ok (.aload_n 0, 1) := by decide +kernel
theorem dX8_goneByAll_6 : decode cX8_goneByAll 6 = .ok (.getfield 33, 3) := by decide +kernel
theorem dX8_goneByAll_9 : decode cX8_goneByAll 9 = .ok (.getfield 65, 3) := by decide +kernel
theorem dX8_goneByAll_12 : decode cX8_goneByAll 12 = .ok (.if_icmp .ge 20, 3) := by decide +kernel
theorem dX8_goneByAll_15 : decode cX8_goneByAll 15 = .ok (.iload_n 1, 1) := by decide +kernel
theorem dX8_goneByAll_16 : decode cX8_goneByAll 16 = .ok (.aload_n 0, 1) := by decide +kernel
theorem dX8_goneByAll_17 : decode cX8_goneByAll 17 = .ok (.getfield 18, 3) := by decide +kernel
theorem dX8_goneByAll_20 : decode cX8_goneByAll 20 = .ok (.iload_n 2, 1) := by decide +kernel
theorem dX8_goneByAll_21 : decode cX8_goneByAll 21 = .ok (.invokestatic 57, 3) := by decide +kernel
theorem dX8_goneByAll_24 : decode cX8_goneByAll 24 = .ok (.iadd, 1) := by decide +kernel
theorem dX8_goneByAll_25 : decode cX8_goneByAll 25 = .ok (.istore_n 1, 1) := by decide +kernel
theorem dX8_goneByAll_26 : decode cX8_goneByAll 26 = .ok (.iinc 2 1, 3) := by decide +kernel
theorem dX8_goneByAll_29 : decode cX8_goneByAll 29 = .ok (.goto (-25), 3) := by decide +kernel
theorem dX8_goneByAll_32 : decode cX8_goneByAll 32 = .ok (.iload_n 1, 1) := by decide +kernel
theorem dX8_goneByAll_33 : decode cX8_goneByAll 33 = .ok (.ireturn, 1) := by decide +kernel
def fX8_goneByAll_4 (N n : Nat) (f : zF) : Nat → Nat → Int32 → Int32 → Option Int32
  | 0, _, _, _ => none
  | k + 1, a0, a1, a2 =>
    ((zgR n f 8 a0 0).bind fun x1 => ((zgI n f 2 x1 3).bind fun x2 => (if x2 ≤ a2 then some a1 else ((zgR n f 8 a0 4).bind fun x3 => ((fX11_at N n f x3 a2).bind fun x4 => (fX8_goneByAll_4 N n f k a0 (a1 + x4) (a2 + 1)))))))
set_option maxRecDepth 100000 in
set_option maxHeartbeats 4000000 in
theorem gX8_goneByAll_4 (l : Launch) {G : zG} {p : Program} {e : Env} {s : State} {m : MethodId} {args : Array Value} {below : List Frame} {meth : Method} {c : Code} {f : zF} {N n : Nat} {r : Int32} (B : zB G p s m args meth c RX8 cX8_goneByAll 3 (some .int)) : ∀ (k : Nat), ∀ (a0 : Nat) (a1 : Int32) (a2 : Int32) (H : Heap) (locs : List Loc) (ls : Array Slot), fX8_goneByAll_4 N n f k a0 a1 a2 = some r → zS G n f H locs → lv_has ls 3 [(0, zr G a0), (1, .int a1), (2, .int a2)] → W p l e (zrm 1) s m args below meth c H locs 0 0 (MQ below (zQc G n f (some (.int r))) args s 0 0 (zA G)) (F0 m 4 ls []) := by
  have he := B.1
  have hb := B.2.1
  intro k
  induction k with
  | zero =>
    intro a0 a1 a2 H locs ls h
    unfold fX8_goneByAll_4 at h
    cases h
  | succ k ih =>
    intro a0 a1 a2 H locs ls h hS hl
    unfold fX8_goneByAll_4 at h
    refine lv_iload_n he hb dX8_goneByAll_4 rfl (lv_at hl 2 rfl) ?_
    refine z_aload_n he hb dX8_goneByAll_5 rfl (lv_at hl 0 rfl) (zref_r _ _) ?_
    obtain ⟨x1, hx, h⟩ := zob h
    refine z_getR (ci := 8) (T := TX8) (N := 9) (j := 0) B hS hx rfl zin_X8 (by decide) zk_248 dX8_goneByAll_6 ?_
    obtain ⟨x2, hx, h⟩ := zob h
    refine z_getI (ci := 2) (T := TX2) (N := 15) (j := 3) B hS hx rfl zin_X2 (by decide) zk_165 dX8_goneByAll_9 ?_
    refine lv_icmp_ge (tgt := 32) he hb dX8_goneByAll_12 (by decide) (fun hc => ?_) (fun hc => ?_)
    · rw [if_pos hc] at h
      refine lv_iload_n he hb dX8_goneByAll_32 rfl (lv_at hl 1 rfl) ?_
      obtain rfl := Option.some.inj h
      exact z_iret B hS dX8_goneByAll_33
    · rw [if_neg hc] at h
      refine lv_iload_n he hb dX8_goneByAll_15 rfl (lv_at hl 1 rfl) ?_
      refine z_aload_n he hb dX8_goneByAll_16 rfl (lv_at hl 0 rfl) (zref_r _ _) ?_
      obtain ⟨x3, hx, h⟩ := zob h
      refine z_getR (ci := 8) (T := TX8) (N := 9) (j := 4) B hS hx rfl zin_X8 (by decide) zk_261 dX8_goneByAll_17 ?_
      refine lv_iload_n he hb dX8_goneByAll_20 rfl (lv_at hl 2 rfl) ?_
      obtain ⟨x4, hx, h⟩ := zob h
      refine z_callN (rest := [_]) B hS (mX11_at l G hx) zy_X11_at zkn_710 (by decide) rfl hl rfl (Nat.le_of_ble_eq_true rfl) dX8_goneByAll_21 (kk := (fun H locs hS => ?_))
      refine lv_iadd he hb dX8_goneByAll_24 ?_
      refine lv_istore_n (lv' := [(1, _), (0, _), (2, _)]) he hb dX8_goneByAll_25 rfl hl (by decide) rfl (fun ls hl => ?_)
      refine lv_iinc (v := (a2 + 1)) (lv' := [(2, _), (1, _), (0, _)]) he hb dX8_goneByAll_26 hl (k := 2) rfl rfl (by decide) rfl (fun ls hl => ?_)
      refine lv_goto (tgt := 4) he hb dX8_goneByAll_29 (by decide) ?_
      exact ih _ _ _ _ _ _ h hS (lv_sub hl [2, 1, 0] rfl)
def fX8_goneByAll (N n : Nat) (f : zF) (a0 : Nat) : Option Int32 :=
    (fX8_goneByAll_4 N n f N a0 (0 : Int32) (0 : Int32))
set_option maxRecDepth 100000 in
set_option maxHeartbeats 4000000 in
theorem mX8_goneByAll (l : Launch) (G : zG) {N n : Nat} {f : zF} {r : Int32} {a0 : Nat} (h : fX8_goneByAll N n f a0 = some r) : zM l G yX8_goneByAll cX8_goneByAll 3 (some .int) 1 n f [zr G a0] (some (.int r)) f := by
  refine zM.of (by decide) (Nat.le_of_ble_eq_true rfl) ?_
  intro p e s m args below meth c locs ls B hS hl
  have he := B.1
  have hb := B.2.1
  have hl : lv_has ls 3 [(0, zr G a0)] := hl
  unfold fX8_goneByAll at h
  generalize s.heap = H at hS ⊢
  refine lv_iconst (v := (0 : Int32)) he hb dX8_goneByAll_0 (by decide) ?_
  refine lv_istore_n (lv' := [(1, _), (0, _)]) he hb dX8_goneByAll_1 rfl hl (by decide) rfl (fun ls hl => ?_)
  refine lv_iconst (v := (0 : Int32)) he hb dX8_goneByAll_2 (by decide) ?_
  refine lv_istore_n (lv' := [(2, _), (1, _), (0, _)]) he hb dX8_goneByAll_3 rfl hl (by decide) rfl (fun ls hl => ?_)
  exact gX8_goneByAll_4 l B N _ _ _ _ _ _ h hS (lv_sub hl [2, 1, 0] rfl)
theorem dX8_turnTo_0 : decode cX8_turnTo 0 = .ok (.aload_n 0, 1) := by decide +kernel
theorem dX8_turnTo_1 : decode cX8_turnTo 1 = .ok (.getfield 24, 3) := by decide +kernel
theorem dX8_turnTo_4 : decode cX8_turnTo 4 = .ok (.iload_n 1, 1) := by decide +kernel
theorem dX8_turnTo_5 : decode cX8_turnTo 5 = .ok (.invokestatic 57, 3) := by decide +kernel
theorem dX8_turnTo_8 : decode cX8_turnTo 8 = .ok (.iload_n 2, 1) := by decide +kernel
theorem dX8_turnTo_9 : decode cX8_turnTo 9 = .ok (.if_icmp .ne 5, 3) := by decide +kernel
theorem dX8_turnTo_12 : decode cX8_turnTo 12 = .ok (.iconst 1, 1) := by decide +kernel
theorem dX8_turnTo_13 : decode cX8_turnTo 13 = .ok (.ireturn, 1) := by decide +kernel
theorem dX8_turnTo_14 : decode cX8_turnTo 14 = .ok (.aload_n 0, 1) := by decide +kernel
theorem dX8_turnTo_15 : decode cX8_turnTo 15 = .ok (.getfield 24, 3) := by decide +kernel
theorem dX8_turnTo_18 : decode cX8_turnTo 18 = .ok (.iload_n 1, 1) := by decide +kernel
theorem dX8_turnTo_19 : decode cX8_turnTo 19 = .ok (.iload_n 2, 1) := by decide +kernel
theorem dX8_turnTo_20 : decode cX8_turnTo 20 = .ok (.invokestatic 61, 3) := by decide +kernel
theorem dX8_turnTo_23 : decode cX8_turnTo 23 = .ok (.iconst 0, 1) := by decide +kernel
theorem dX8_turnTo_24 : decode cX8_turnTo 24 = .ok (.ireturn, 1) := by decide +kernel
def fX8_turnTo (N n : Nat) (f : zF) (a0 : Nat) (a1 : Int32) (a2 : Int32) : Option (zF × Int32) :=
    ((zgR n f 8 a0 6).bind fun x1 => ((fX11_at N n f x1 a1).bind fun x2 => (if x2 = a2 then some (f, (1 : Int32)) else ((zgR n f 8 a0 6).bind fun x3 => ((fX11_put N n f x3 a1 a2).bind fun f4 => some (f4, (0 : Int32)))))))
set_option maxRecDepth 100000 in
set_option maxHeartbeats 4000000 in
theorem mX8_turnTo (l : Launch) (G : zG) {N n : Nat} {f : zF} {f9 : zF} {r : Int32} {a0 : Nat} {a1 : Int32} {a2 : Int32} (h : fX8_turnTo N n f a0 a1 a2 = some (f9, r)) : zM l G yX8_turnTo cX8_turnTo 3 (some .int) 1 n f [zr G a0, .int a1, .int a2] (some (.int r)) f9 := by
  refine zM.of (by decide) (Nat.le_of_ble_eq_true rfl) ?_
  intro p e s m args below meth c locs ls B hS hl
  have he := B.1
  have hb := B.2.1
  have hl : lv_has ls 3 [(0, zr G a0), (1, .int a1), (2, .int a2)] := hl
  unfold fX8_turnTo at h
  generalize s.heap = H at hS ⊢
  refine z_aload_n he hb dX8_turnTo_0 rfl (lv_at hl 0 rfl) (zref_r _ _) ?_
  obtain ⟨x1, hx, h⟩ := zob h
  refine z_getR (ci := 8) (T := TX8) (N := 9) (j := 6) B hS hx rfl zin_X8 (by decide) zk_267 dX8_turnTo_1 ?_
  refine lv_iload_n he hb dX8_turnTo_4 rfl (lv_at hl 1 rfl) ?_
  obtain ⟨x2, hx, h⟩ := zob h
  refine z_callN (rest := []) B hS (mX11_at l G hx) zy_X11_at zkn_710 (by decide) rfl hl rfl (Nat.le_of_ble_eq_true rfl) dX8_turnTo_5 (kk := (fun H locs hS => ?_))
  refine lv_iload_n he hb dX8_turnTo_8 rfl (lv_at hl 2 rfl) ?_
  refine lv_icmp_ne (tgt := 14) he hb dX8_turnTo_9 (by decide) (fun hc => ?_) (fun hc => ?_)
  · rw [if_neg hc] at h
    refine z_aload_n he hb dX8_turnTo_14 rfl (lv_at hl 0 rfl) (zref_r _ _) ?_
    obtain ⟨x3, hx, h⟩ := zob h
    refine z_getR (ci := 8) (T := TX8) (N := 9) (j := 6) B hS hx rfl zin_X8 (by decide) zk_267 dX8_turnTo_15 ?_
    refine lv_iload_n he hb dX8_turnTo_18 rfl (lv_at hl 1 rfl) ?_
    refine lv_iload_n he hb dX8_turnTo_19 rfl (lv_at hl 2 rfl) ?_
    obtain ⟨f4, hx, h⟩ := zob h
    refine z_callN (rest := []) B hS (mX11_put l G hx) zy_X11_put zkn_711 (by decide) rfl hl rfl (Nat.le_of_ble_eq_true rfl) dX8_turnTo_20 (kk := (fun H locs hS => ?_))
    refine lv_iconst (v := (0 : Int32)) he hb dX8_turnTo_23 (by decide) ?_
    obtain ⟨rfl, rfl⟩ := Prod.mk.inj (Option.some.inj h)
    exact z_iret B hS dX8_turnTo_24
  · rw [if_pos hc] at h
    refine lv_iconst (v := (1 : Int32)) he hb dX8_turnTo_12 (by decide) ?_
    obtain ⟨rfl, rfl⟩ := Prod.mk.inj (Option.some.inj h)
    exact z_iret B hS dX8_turnTo_13
theorem dX8_figureIn_0 : decode cX8_figureIn 0 = .ok (.iconst 0, 1) := by decide +kernel
theorem dX8_figureIn_1 : decode cX8_figureIn 1 = .ok (.istore_n 2, 1) := by decide +kernel
theorem dX8_figureIn_2 : decode cX8_figureIn 2 = .ok (.iload_n 2, 1) := by decide +kernel
theorem dX8_figureIn_3 : decode cX8_figureIn 3 = .ok (.aload_n 0, 1) := by decide +kernel
theorem dX8_figureIn_4 : decode cX8_figureIn 4 = .ok (.getfield 33, 3) := by decide +kernel
theorem dX8_figureIn_7 : decode cX8_figureIn 7 = .ok (.getfield 65, 3) := by decide +kernel
theorem dX8_figureIn_10 : decode cX8_figureIn 10 = .ok (.if_icmp .ge 30, 3) := by decide +kernel
theorem dX8_figureIn_13 : decode cX8_figureIn 13 = .ok (.iload_n 2, 1) := by decide +kernel
theorem dX8_figureIn_14 : decode cX8_figureIn 14 = .ok (.aload_n 0, 1) := by decide +kernel
theorem dX8_figureIn_15 : decode cX8_figureIn 15 = .ok (.getfield 9, 3) := by decide +kernel
theorem dX8_figureIn_18 : decode cX8_figureIn 18 = .ok (.arraylength, 1) := by decide +kernel
theorem dX8_figureIn_19 : decode cX8_figureIn 19 = .ok (.if_icmp .ge 21, 3) := by decide +kernel
theorem dX8_figureIn_22 : decode cX8_figureIn 22 = .ok (.aload_n 0, 1) := by decide +kernel
theorem dX8_figureIn_23 : decode cX8_figureIn 23 = .ok (.getfield 9, 3) := by decide +kernel
theorem dX8_figureIn_26 : decode cX8_figureIn 26 = .ok (.iload_n 2, 1) := by decide +kernel
theorem dX8_figureIn_27 : decode cX8_figureIn 27 = .ok (.iaload, 1) := by decide +kernel
theorem dX8_figureIn_28 : decode cX8_figureIn 28 = .ok (.iload_n 1, 1) := by decide +kernel
theorem dX8_figureIn_29 : decode cX8_figureIn 29 = .ok (.if_icmp .ne 5, 3) := by decide +kernel
theorem dX8_figureIn_32 : decode cX8_figureIn 32 = .ok (.iload_n 2, 1) := by decide +kernel
theorem dX8_figureIn_33 : decode cX8_figureIn 33 = .ok (.ireturn, 1) := by decide +kernel
theorem dX8_figureIn_34 : decode cX8_figureIn 34 = .ok (.iinc 2 1, 3) := by decide +kernel
theorem dX8_figureIn_37 : decode cX8_figureIn 37 = .ok (.goto (-35), 3) := by decide +kernel
theorem dX8_figureIn_40 : decode cX8_figureIn 40 = .ok (.iconst (-1), 1) := by decide +kernel
theorem dX8_figureIn_41 : decode cX8_figureIn 41 = .ok (.ireturn, 1) := by decide +kernel
def fX8_figureIn_2 (N n : Nat) (f : zF) : Nat → Nat → Int32 → Int32 → Option Int32
  | 0, _, _, _ => none
  | k + 1, a0, a1, a2 =>
    ((zgR n f 8 a0 0).bind fun x1 => ((zgI n f 2 x1 3).bind fun x2 => (if x2 ≤ a2 then some (-1 : Int32) else ((zgR n f 8 a0 2).bind fun x3 => ((zlen n f 0 x3).bind fun x4 => (if x4 ≤ a2 then some (-1 : Int32) else ((zgR n f 8 a0 2).bind fun x5 => ((zlI n f 0 x5 a2).bind fun x6 => (if x6 = a1 then some a2 else (fX8_figureIn_2 N n f k a0 a1 (a2 + 1)))))))))))
set_option maxRecDepth 100000 in
set_option maxHeartbeats 4000000 in
theorem gX8_figureIn_2 (l : Launch) {G : zG} {p : Program} {e : Env} {s : State} {m : MethodId} {args : Array Value} {below : List Frame} {meth : Method} {c : Code} {f : zF} {N n : Nat} {r : Int32} (B : zB G p s m args meth c RX8 cX8_figureIn 3 (some .int)) : ∀ (k : Nat), ∀ (a0 : Nat) (a1 : Int32) (a2 : Int32) (H : Heap) (locs : List Loc) (ls : Array Slot), fX8_figureIn_2 N n f k a0 a1 a2 = some r → zS G n f H locs → lv_has ls 3 [(0, zr G a0), (1, .int a1), (2, .int a2)] → W p l e (zrm 0) s m args below meth c H locs 0 0 (MQ below (zQc G n f (some (.int r))) args s 0 0 (zA G)) (F0 m 2 ls []) := by
  have he := B.1
  have hb := B.2.1
  intro k
  induction k with
  | zero =>
    intro a0 a1 a2 H locs ls h
    unfold fX8_figureIn_2 at h
    cases h
  | succ k ih =>
    intro a0 a1 a2 H locs ls h hS hl
    unfold fX8_figureIn_2 at h
    refine lv_iload_n he hb dX8_figureIn_2 rfl (lv_at hl 2 rfl) ?_
    refine z_aload_n he hb dX8_figureIn_3 rfl (lv_at hl 0 rfl) (zref_r _ _) ?_
    obtain ⟨x1, hx, h⟩ := zob h
    refine z_getR (ci := 8) (T := TX8) (N := 9) (j := 0) B hS hx rfl zin_X8 (by decide) zk_248 dX8_figureIn_4 ?_
    obtain ⟨x2, hx, h⟩ := zob h
    refine z_getI (ci := 2) (T := TX2) (N := 15) (j := 3) B hS hx rfl zin_X2 (by decide) zk_165 dX8_figureIn_7 ?_
    refine lv_icmp_ge (tgt := 40) he hb dX8_figureIn_10 (by decide) (fun hc => ?_) (fun hc => ?_)
    · rw [if_pos hc] at h
      refine lv_iconst (v := (-1 : Int32)) he hb dX8_figureIn_40 (by decide) ?_
      obtain rfl := Option.some.inj h
      exact z_iret B hS dX8_figureIn_41
    · rw [if_neg hc] at h
      refine lv_iload_n he hb dX8_figureIn_13 rfl (lv_at hl 2 rfl) ?_
      refine z_aload_n he hb dX8_figureIn_14 rfl (lv_at hl 0 rfl) (zref_r _ _) ?_
      obtain ⟨x3, hx, h⟩ := zob h
      refine z_getR (ci := 8) (T := TX8) (N := 9) (j := 2) B hS hx rfl zin_X8 (by decide) zk_254 dX8_figureIn_15 ?_
      obtain ⟨x4, hx, h⟩ := zob h
      refine z_len B hS hx rfl dX8_figureIn_18 ?_
      refine lv_icmp_ge (tgt := 40) he hb dX8_figureIn_19 (by decide) (fun hc => ?_) (fun hc => ?_)
      · rw [if_pos hc] at h
        refine lv_iconst (v := (-1 : Int32)) he hb dX8_figureIn_40 (by decide) ?_
        obtain rfl := Option.some.inj h
        exact z_iret B hS dX8_figureIn_41
      · rw [if_neg hc] at h
        refine z_aload_n he hb dX8_figureIn_22 rfl (lv_at hl 0 rfl) (zref_r _ _) ?_
        obtain ⟨x5, hx, h⟩ := zob h
        refine z_getR (ci := 8) (T := TX8) (N := 9) (j := 2) B hS hx rfl zin_X8 (by decide) zk_254 dX8_figureIn_23 ?_
        refine lv_iload_n he hb dX8_figureIn_26 rfl (lv_at hl 2 rfl) ?_
        obtain ⟨x6, hx, h⟩ := zob h
        refine z_ildI B hS hx dX8_figureIn_27 ?_
        refine lv_iload_n he hb dX8_figureIn_28 rfl (lv_at hl 1 rfl) ?_
        refine lv_icmp_ne (tgt := 34) he hb dX8_figureIn_29 (by decide) (fun hc => ?_) (fun hc => ?_)
        · rw [if_neg hc] at h
          refine lv_iinc (v := (a2 + 1)) (lv' := [(2, _), (0, _), (1, _)]) he hb dX8_figureIn_34 hl (k := 2) rfl rfl (by decide) rfl (fun ls hl => ?_)
          refine lv_goto (tgt := 2) he hb dX8_figureIn_37 (by decide) ?_
          exact ih _ _ _ _ _ _ h hS (lv_sub hl [1, 2, 0] rfl)
        · rw [if_pos hc] at h
          refine lv_iload_n he hb dX8_figureIn_32 rfl (lv_at hl 2 rfl) ?_
          obtain rfl := Option.some.inj h
          exact z_iret B hS dX8_figureIn_33
def fX8_figureIn (N n : Nat) (f : zF) (a0 : Nat) (a1 : Int32) : Option Int32 :=
    (fX8_figureIn_2 N n f N a0 a1 (0 : Int32))
set_option maxRecDepth 100000 in
set_option maxHeartbeats 4000000 in
theorem mX8_figureIn (l : Launch) (G : zG) {N n : Nat} {f : zF} {r : Int32} {a0 : Nat} {a1 : Int32} (h : fX8_figureIn N n f a0 a1 = some r) : zM l G yX8_figureIn cX8_figureIn 3 (some .int) 0 n f [zr G a0, .int a1] (some (.int r)) f := by
  refine zM.of (by decide) (Nat.le_of_ble_eq_true rfl) ?_
  intro p e s m args below meth c locs ls B hS hl
  have he := B.1
  have hb := B.2.1
  have hl : lv_has ls 3 [(0, zr G a0), (1, .int a1)] := hl
  unfold fX8_figureIn at h
  generalize s.heap = H at hS ⊢
  refine lv_iconst (v := (0 : Int32)) he hb dX8_figureIn_0 (by decide) ?_
  refine lv_istore_n (lv' := [(2, _), (0, _), (1, _)]) he hb dX8_figureIn_1 rfl hl (by decide) rfl (fun ls hl => ?_)
  exact gX8_figureIn_2 l B N _ _ _ _ _ _ h hS (lv_sub hl [1, 2, 0] rfl)
theorem dX8_lookerIn_0 : decode cX8_lookerIn 0 = .ok (.iconst 0, 1) := by decide +kernel
theorem dX8_lookerIn_1 : decode cX8_lookerIn 1 = .ok (.istore_n 2, 1) := by decide +kernel
theorem dX8_lookerIn_2 : decode cX8_lookerIn 2 = .ok (.iload_n 2, 1) := by decide +kernel
theorem dX8_lookerIn_3 : decode cX8_lookerIn 3 = .ok (.aload_n 0, 1) := by decide +kernel
theorem dX8_lookerIn_4 : decode cX8_lookerIn 4 = .ok (.getfield 33, 3) := by decide +kernel
theorem dX8_lookerIn_7 : decode cX8_lookerIn 7 = .ok (.getfield 84, 3) := by decide +kernel
theorem dX8_lookerIn_10 : decode cX8_lookerIn 10 = .ok (.if_icmp .ge 30, 3) := by decide +kernel
theorem dX8_lookerIn_13 : decode cX8_lookerIn 13 = .ok (.iload_n 2, 1) := by decide +kernel
theorem dX8_lookerIn_14 : decode cX8_lookerIn 14 = .ok (.aload_n 0, 1) := by decide +kernel
theorem dX8_lookerIn_15 : decode cX8_lookerIn 15 = .ok (.getfield 21, 3) := by decide +kernel
theorem dX8_lookerIn_18 : decode cX8_lookerIn 18 = .ok (.arraylength, 1) := by decide +kernel
theorem dX8_lookerIn_19 : decode cX8_lookerIn 19 = .ok (.if_icmp .ge 21, 3) := by decide +kernel
theorem dX8_lookerIn_22 : decode cX8_lookerIn 22 = .ok (.aload_n 0, 1) := by decide +kernel
theorem dX8_lookerIn_23 : decode cX8_lookerIn 23 = .ok (.getfield 21, 3) := by decide +kernel
theorem dX8_lookerIn_26 : decode cX8_lookerIn 26 = .ok (.iload_n 2, 1) := by decide +kernel
theorem dX8_lookerIn_27 : decode cX8_lookerIn 27 = .ok (.iaload, 1) := by decide +kernel
theorem dX8_lookerIn_28 : decode cX8_lookerIn 28 = .ok (.iload_n 1, 1) := by decide +kernel
theorem dX8_lookerIn_29 : decode cX8_lookerIn 29 = .ok (.if_icmp .ne 5, 3) := by decide +kernel
theorem dX8_lookerIn_32 : decode cX8_lookerIn 32 = .ok (.iload_n 2, 1) := by decide +kernel
theorem dX8_lookerIn_33 : decode cX8_lookerIn 33 = .ok (.ireturn, 1) := by decide +kernel
theorem dX8_lookerIn_34 : decode cX8_lookerIn 34 = .ok (.iinc 2 1, 3) := by decide +kernel
theorem dX8_lookerIn_37 : decode cX8_lookerIn 37 = .ok (.goto (-35), 3) := by decide +kernel
theorem dX8_lookerIn_40 : decode cX8_lookerIn 40 = .ok (.iconst (-1), 1) := by decide +kernel
theorem dX8_lookerIn_41 : decode cX8_lookerIn 41 = .ok (.ireturn, 1) := by decide +kernel
def fX8_lookerIn_2 (N n : Nat) (f : zF) : Nat → Nat → Int32 → Int32 → Option Int32
  | 0, _, _, _ => none
  | k + 1, a0, a1, a2 =>
    ((zgR n f 8 a0 0).bind fun x1 => ((zgI n f 2 x1 4).bind fun x2 => (if x2 ≤ a2 then some (-1 : Int32) else ((zgR n f 8 a0 5).bind fun x3 => ((zlen n f 0 x3).bind fun x4 => (if x4 ≤ a2 then some (-1 : Int32) else ((zgR n f 8 a0 5).bind fun x5 => ((zlI n f 0 x5 a2).bind fun x6 => (if x6 = a1 then some a2 else (fX8_lookerIn_2 N n f k a0 a1 (a2 + 1)))))))))))
set_option maxRecDepth 100000 in
set_option maxHeartbeats 4000000 in
theorem gX8_lookerIn_2 (l : Launch) {G : zG} {p : Program} {e : Env} {s : State} {m : MethodId} {args : Array Value} {below : List Frame} {meth : Method} {c : Code} {f : zF} {N n : Nat} {r : Int32} (B : zB G p s m args meth c RX8 cX8_lookerIn 3 (some .int)) : ∀ (k : Nat), ∀ (a0 : Nat) (a1 : Int32) (a2 : Int32) (H : Heap) (locs : List Loc) (ls : Array Slot), fX8_lookerIn_2 N n f k a0 a1 a2 = some r → zS G n f H locs → lv_has ls 3 [(0, zr G a0), (1, .int a1), (2, .int a2)] → W p l e (zrm 0) s m args below meth c H locs 0 0 (MQ below (zQc G n f (some (.int r))) args s 0 0 (zA G)) (F0 m 2 ls []) := by
  have he := B.1
  have hb := B.2.1
  intro k
  induction k with
  | zero =>
    intro a0 a1 a2 H locs ls h
    unfold fX8_lookerIn_2 at h
    cases h
  | succ k ih =>
    intro a0 a1 a2 H locs ls h hS hl
    unfold fX8_lookerIn_2 at h
    refine lv_iload_n he hb dX8_lookerIn_2 rfl (lv_at hl 2 rfl) ?_
    refine z_aload_n he hb dX8_lookerIn_3 rfl (lv_at hl 0 rfl) (zref_r _ _) ?_
    obtain ⟨x1, hx, h⟩ := zob h
    refine z_getR (ci := 8) (T := TX8) (N := 9) (j := 0) B hS hx rfl zin_X8 (by decide) zk_248 dX8_lookerIn_4 ?_
    obtain ⟨x2, hx, h⟩ := zob h
    refine z_getI (ci := 2) (T := TX2) (N := 15) (j := 4) B hS hx rfl zin_X2 (by decide) zk_171 dX8_lookerIn_7 ?_
    refine lv_icmp_ge (tgt := 40) he hb dX8_lookerIn_10 (by decide) (fun hc => ?_) (fun hc => ?_)
    · rw [if_pos hc] at h
      refine lv_iconst (v := (-1 : Int32)) he hb dX8_lookerIn_40 (by decide) ?_
      obtain rfl := Option.some.inj h
      exact z_iret B hS dX8_lookerIn_41
    · rw [if_neg hc] at h
      refine lv_iload_n he hb dX8_lookerIn_13 rfl (lv_at hl 2 rfl) ?_
      refine z_aload_n he hb dX8_lookerIn_14 rfl (lv_at hl 0 rfl) (zref_r _ _) ?_
      obtain ⟨x3, hx, h⟩ := zob h
      refine z_getR (ci := 8) (T := TX8) (N := 9) (j := 5) B hS hx rfl zin_X8 (by decide) zk_264 dX8_lookerIn_15 ?_
      obtain ⟨x4, hx, h⟩ := zob h
      refine z_len B hS hx rfl dX8_lookerIn_18 ?_
      refine lv_icmp_ge (tgt := 40) he hb dX8_lookerIn_19 (by decide) (fun hc => ?_) (fun hc => ?_)
      · rw [if_pos hc] at h
        refine lv_iconst (v := (-1 : Int32)) he hb dX8_lookerIn_40 (by decide) ?_
        obtain rfl := Option.some.inj h
        exact z_iret B hS dX8_lookerIn_41
      · rw [if_neg hc] at h
        refine z_aload_n he hb dX8_lookerIn_22 rfl (lv_at hl 0 rfl) (zref_r _ _) ?_
        obtain ⟨x5, hx, h⟩ := zob h
        refine z_getR (ci := 8) (T := TX8) (N := 9) (j := 5) B hS hx rfl zin_X8 (by decide) zk_264 dX8_lookerIn_23 ?_
        refine lv_iload_n he hb dX8_lookerIn_26 rfl (lv_at hl 2 rfl) ?_
        obtain ⟨x6, hx, h⟩ := zob h
        refine z_ildI B hS hx dX8_lookerIn_27 ?_
        refine lv_iload_n he hb dX8_lookerIn_28 rfl (lv_at hl 1 rfl) ?_
        refine lv_icmp_ne (tgt := 34) he hb dX8_lookerIn_29 (by decide) (fun hc => ?_) (fun hc => ?_)
        · rw [if_neg hc] at h
          refine lv_iinc (v := (a2 + 1)) (lv' := [(2, _), (0, _), (1, _)]) he hb dX8_lookerIn_34 hl (k := 2) rfl rfl (by decide) rfl (fun ls hl => ?_)
          refine lv_goto (tgt := 2) he hb dX8_lookerIn_37 (by decide) ?_
          exact ih _ _ _ _ _ _ h hS (lv_sub hl [1, 2, 0] rfl)
        · rw [if_pos hc] at h
          refine lv_iload_n he hb dX8_lookerIn_32 rfl (lv_at hl 2 rfl) ?_
          obtain rfl := Option.some.inj h
          exact z_iret B hS dX8_lookerIn_33
def fX8_lookerIn (N n : Nat) (f : zF) (a0 : Nat) (a1 : Int32) : Option Int32 :=
    (fX8_lookerIn_2 N n f N a0 a1 (0 : Int32))
set_option maxRecDepth 100000 in
set_option maxHeartbeats 4000000 in
theorem mX8_lookerIn (l : Launch) (G : zG) {N n : Nat} {f : zF} {r : Int32} {a0 : Nat} {a1 : Int32} (h : fX8_lookerIn N n f a0 a1 = some r) : zM l G yX8_lookerIn cX8_lookerIn 3 (some .int) 0 n f [zr G a0, .int a1] (some (.int r)) f := by
  refine zM.of (by decide) (Nat.le_of_ble_eq_true rfl) ?_
  intro p e s m args below meth c locs ls B hS hl
  have he := B.1
  have hb := B.2.1
  have hl : lv_has ls 3 [(0, zr G a0), (1, .int a1)] := hl
  unfold fX8_lookerIn at h
  generalize s.heap = H at hS ⊢
  refine lv_iconst (v := (0 : Int32)) he hb dX8_lookerIn_0 (by decide) ?_
  refine lv_istore_n (lv' := [(2, _), (0, _), (1, _)]) he hb dX8_lookerIn_1 rfl hl (by decide) rfl (fun ls hl => ?_)
  exact gX8_lookerIn_2 l B N _ _ _ _ _ _ h hS (lv_sub hl [1, 2, 0] rfl)
theorem dX8_hasSomebody_0 : decode cX8_hasSomebody 0 = .ok (.aload_n 0, 1) := by decide +kernel
theorem dX8_hasSomebody_1 : decode cX8_hasSomebody 1 = .ok (.iload_n 1, 1) := by decide +kernel
theorem dX8_hasSomebody_2 : decode cX8_hasSomebody 2 = .ok (.invokevirtual 87, 3) := by decide +kernel
theorem dX8_hasSomebody_5 : decode cX8_hasSomebody 5 = .ok (.iconst (-1), 1) := by decide +kernel
theorem dX8_hasSomebody_6 : decode cX8_hasSomebody 6 = .ok (.if_icmp .ne 12, 3) := by decide +kernel
theorem dX8_hasSomebody_9 : decode cX8_hasSomebody 9 = .ok (.aload_n 0, 1) := by decide +kernel
theorem dX8_hasSomebody_10 : decode cX8_hasSomebody 10 = .ok (.iload_n 1, 1) := by decide +kernel
theorem dX8_hasSomebody_11 : decode cX8_hasSomebody 11 = .ok (.invokevirtual 90, 3) := by decide +kernel
theorem dX8_hasSomebody_14 : decode cX8_hasSomebody 14 = .ok (.iconst (-1), 1) := by decide +kernel
theorem dX8_hasSomebody_15 : decode cX8_hasSomebody 15 = .ok (.if_icmp .eq 7, 3) := by decide +kernel
theorem dX8_hasSomebody_18 : decode cX8_hasSomebody 18 = .ok (.iconst 1, 1) := by decide +kernel
theorem dX8_hasSomebody_19 : decode cX8_hasSomebody 19 = .ok (.goto 4, 3) := by decide +kernel
theorem dX8_hasSomebody_22 : decode cX8_hasSomebody 22 = .ok (.iconst 0, 1) := by decide +kernel
theorem dX8_hasSomebody_23 : decode cX8_hasSomebody 23 = .ok (.ireturn, 1) := by decide +kernel
def fX8_hasSomebody (N n : Nat) (f : zF) (a0 : Nat) (a1 : Int32) : Option Int32 :=
    ((zck n f 8 a0).bind fun _ => ((fX8_figureIn N n f a0 a1).bind fun x1 => (if x1 = (-1 : Int32) then ((zck n f 8 a0).bind fun _ => ((fX8_lookerIn N n f a0 a1).bind fun x2 => (if x2 = (-1 : Int32) then zbl (0 : Int32) else zbl (1 : Int32)))) else zbl (1 : Int32))))
set_option maxRecDepth 100000 in
set_option maxHeartbeats 4000000 in
theorem mX8_hasSomebody (l : Launch) (G : zG) {N n : Nat} {f : zF} {r : Int32} {a0 : Nat} {a1 : Int32} (h : fX8_hasSomebody N n f a0 a1 = some r) : zM l G yX8_hasSomebody cX8_hasSomebody 2 (some .boolean) 1 n f [zr G a0, .int a1] (some (.int r)) f := by
  refine zM.of (by decide) (Nat.le_of_ble_eq_true rfl) ?_
  intro p e s m args below meth c locs ls B hS hl
  have he := B.1
  have hb := B.2.1
  have hl : lv_has ls 2 [(0, zr G a0), (1, .int a1)] := hl
  unfold fX8_hasSomebody at h
  generalize s.heap = H at hS ⊢
  refine z_aload_n he hb dX8_hasSomebody_0 rfl (lv_at hl 0 rfl) (zref_r _ _) ?_
  refine lv_iload_n he hb dX8_hasSomebody_1 rfl (lv_at hl 1 rfl) ?_
  obtain ⟨_, hc, h⟩ := zob h
  obtain ⟨x1, hx, h⟩ := zob h
  refine z_callV (ci := 8) (T := TX8) (N := 9) (rest := []) B hS (mX8_figureIn l G hx) zy_X8_figureIn zk_645 (by decide) hc rfl rfl hl rfl (Nat.le_of_ble_eq_true rfl) dX8_hasSomebody_2 (kk := (fun H locs hS => ?_))
  refine lv_iconst (v := (-1 : Int32)) he hb dX8_hasSomebody_5 (by decide) ?_
  refine lv_icmp_ne (tgt := 18) he hb dX8_hasSomebody_6 (by decide) (fun hc => ?_) (fun hc => ?_)
  · rw [if_neg hc] at h
    refine lv_iconst (v := (1 : Int32)) he hb dX8_hasSomebody_18 (by decide) ?_
    refine lv_goto (tgt := 23) he hb dX8_hasSomebody_19 (by decide) ?_
    obtain ⟨hz, rfl⟩ := zbl_i h
    exact z_zret B hS hz dX8_hasSomebody_23
  · rw [if_pos hc] at h
    refine z_aload_n he hb dX8_hasSomebody_9 rfl (lv_at hl 0 rfl) (zref_r _ _) ?_
    refine lv_iload_n he hb dX8_hasSomebody_10 rfl (lv_at hl 1 rfl) ?_
    obtain ⟨_, hc, h⟩ := zob h
    obtain ⟨x2, hx, h⟩ := zob h
    refine z_callV (ci := 8) (T := TX8) (N := 9) (rest := []) B hS (mX8_lookerIn l G hx) zy_X8_lookerIn zk_649 (by decide) hc rfl rfl hl rfl (Nat.le_of_ble_eq_true rfl) dX8_hasSomebody_11 (kk := (fun H locs hS => ?_))
    refine lv_iconst (v := (-1 : Int32)) he hb dX8_hasSomebody_14 (by decide) ?_
    refine lv_icmp_eq (tgt := 22) he hb dX8_hasSomebody_15 (by decide) (fun hc => ?_) (fun hc => ?_)
    · rw [if_pos hc] at h
      refine lv_iconst (v := (0 : Int32)) he hb dX8_hasSomebody_22 (by decide) ?_
      obtain ⟨hz, rfl⟩ := zbl_i h
      exact z_zret B hS hz dX8_hasSomebody_23
    · rw [if_neg hc] at h
      refine lv_iconst (v := (1 : Int32)) he hb dX8_hasSomebody_18 (by decide) ?_
      refine lv_goto (tgt := 23) he hb dX8_hasSomebody_19 (by decide) ?_
      obtain ⟨hz, rfl⟩ := zbl_i h
      exact z_zret B hS hz dX8_hasSomebody_23
theorem dX8_walkTo_0 : decode cX8_walkTo 0 = .ok (.aload_n 0, 1) := by decide +kernel
theorem dX8_walkTo_1 : decode cX8_walkTo 1 = .ok (.getfield 33, 3) := by decide +kernel
theorem dX8_walkTo_4 : decode cX8_walkTo 4 = .ok (.aload_n 0, 1) := by decide +kernel
theorem dX8_walkTo_5 : decode cX8_walkTo 5 = .ok (.getfield 21, 3) := by decide +kernel
theorem dX8_walkTo_8 : decode cX8_walkTo 8 = .ok (.iload_n 1, 1) := by decide +kernel
theorem dX8_walkTo_9 : decode cX8_walkTo 9 = .ok (.invokestatic 57, 3) := by decide +kernel
theorem dX8_walkTo_12 : decode cX8_walkTo 12 = .ok (.iload_n 2, 1) := by decide +kernel
theorem dX8_walkTo_13 : decode cX8_walkTo 13 = .ok (.invokevirtual 109, 3) := by decide +kernel
theorem dX8_walkTo_16 : decode cX8_walkTo 16 = .ok (.istore_n 3, 1) := by decide +kernel
theorem dX8_walkTo_17 : decode cX8_walkTo 17 = .ok (.iload_n 3, 1) := by decide +kernel
theorem dX8_walkTo_18 : decode cX8_walkTo 18 = .ok (.iconst (-1), 1) := by decide +kernel
theorem dX8_walkTo_19 : decode cX8_walkTo 19 = .ok (.if_icmp .ne 5, 3) := by decide +kernel
theorem dX8_walkTo_22 : decode cX8_walkTo 22 = .ok (.iconst 1, 1) := by decide +kernel
theorem dX8_walkTo_23 : decode cX8_walkTo 23 = .ok (.ireturn, 1) := by decide +kernel
theorem dX8_walkTo_24 : decode cX8_walkTo 24 = .ok (.aload_n 0, 1) := by decide +kernel
theorem dX8_walkTo_25 : decode cX8_walkTo 25 = .ok (.getfield 33, 3) := by decide +kernel
theorem dX8_walkTo_28 : decode cX8_walkTo 28 = .ok (.iload_n 3, 1) := by decide +kernel
theorem dX8_walkTo_29 : decode cX8_walkTo 29 = .ok (.invokevirtual 105, 3) := by decide +kernel
theorem dX8_walkTo_32 : decode cX8_walkTo 32 = .ok (.ifCond .eq 5, 3) := by decide +kernel
theorem dX8_walkTo_35 : decode cX8_walkTo 35 = .ok (.iconst 2, 1) := by decide +kernel
theorem dX8_walkTo_36 : decode cX8_walkTo 36 = .ok (.ireturn, 1) := by decide +kernel
theorem dX8_walkTo_37 : decode cX8_walkTo 37 = .ok (.aload_n 0, 1) := by decide +kernel
theorem dX8_walkTo_38 : decode cX8_walkTo 38 = .ok (.iload_n 3, 1) := by decide +kernel
theorem dX8_walkTo_39 : decode cX8_walkTo 39 = .ok (.invokevirtual 136, 3) := by decide +kernel
theorem dX8_walkTo_42 : decode cX8_walkTo 42 = .ok (.ifCond .eq 5, 3) := by decide +kernel
theorem dX8_walkTo_45 : decode cX8_walkTo 45 = .ok (.iconst 3, 1) := by decide +kernel
theorem dX8_walkTo_46 : decode cX8_walkTo 46 = .ok (.ireturn, 1) := by decide +kernel
theorem dX8_walkTo_47 : decode cX8_walkTo 47 = .ok (.aload_n 0, 1) := by decide +kernel
theorem dX8_walkTo_48 : decode cX8_walkTo 48 = .ok (.getfield 21, 3) := by decide +kernel
theorem dX8_walkTo_51 : decode cX8_walkTo 51 = .ok (.iload_n 1, 1) := by decide +kernel
theorem dX8_walkTo_52 : decode cX8_walkTo 52 = .ok (.iload_n 3, 1) := by decide +kernel
theorem dX8_walkTo_53 : decode cX8_walkTo 53 = .ok (.invokestatic 61, 3) := by decide +kernel
theorem dX8_walkTo_56 : decode cX8_walkTo 56 = .ok (.iconst 0, 1) := by decide +kernel
theorem dX8_walkTo_57 : decode cX8_walkTo 57 = .ok (.ireturn, 1) := by decide +kernel
def fX8_walkTo (N n : Nat) (f : zF) (a0 : Nat) (a1 : Int32) (a2 : Int32) : Option (zF × Int32) :=
    ((zgR n f 8 a0 0).bind fun x1 => ((zgR n f 8 a0 5).bind fun x2 => ((fX11_at N n f x2 a1).bind fun x3 => ((zck n f 2 x1).bind fun _ => ((fX2_beside N n f x1 x3 a2).bind fun x4 => (if x4 = (-1 : Int32) then some (f, (1 : Int32)) else ((zgR n f 8 a0 0).bind fun x5 => ((zck n f 2 x5).bind fun _ => ((fX2_hasHedge N n f x5 x4).bind fun x6 => (if x6 = 0 then ((zck n f 8 a0).bind fun _ => ((fX8_hasSomebody N n f a0 x4).bind fun x7 => (if x7 = 0 then ((zgR n f 8 a0 5).bind fun x8 => ((fX11_put N n f x8 a1 x4).bind fun f9 => some (f9, (0 : Int32)))) else some (f, (3 : Int32))))) else some (f, (2 : Int32))))))))))))
set_option maxRecDepth 100000 in
set_option maxHeartbeats 4000000 in
theorem mX8_walkTo (l : Launch) (G : zG) {N n : Nat} {f : zF} {f9 : zF} {r : Int32} {a0 : Nat} {a1 : Int32} {a2 : Int32} (h : fX8_walkTo N n f a0 a1 a2 = some (f9, r)) : zM l G yX8_walkTo cX8_walkTo 4 (some .int) 2 n f [zr G a0, .int a1, .int a2] (some (.int r)) f9 := by
  refine zM.of (by decide) (Nat.le_of_ble_eq_true rfl) ?_
  intro p e s m args below meth c locs ls B hS hl
  have he := B.1
  have hb := B.2.1
  have hl : lv_has ls 4 [(0, zr G a0), (1, .int a1), (2, .int a2)] := hl
  unfold fX8_walkTo at h
  generalize s.heap = H at hS ⊢
  refine z_aload_n he hb dX8_walkTo_0 rfl (lv_at hl 0 rfl) (zref_r _ _) ?_
  obtain ⟨x1, hx, h⟩ := zob h
  refine z_getR (ci := 8) (T := TX8) (N := 9) (j := 0) B hS hx rfl zin_X8 (by decide) zk_248 dX8_walkTo_1 ?_
  refine z_aload_n he hb dX8_walkTo_4 rfl (lv_at hl 0 rfl) (zref_r _ _) ?_
  obtain ⟨x2, hx, h⟩ := zob h
  refine z_getR (ci := 8) (T := TX8) (N := 9) (j := 5) B hS hx rfl zin_X8 (by decide) zk_264 dX8_walkTo_5 ?_
  refine lv_iload_n he hb dX8_walkTo_8 rfl (lv_at hl 1 rfl) ?_
  obtain ⟨x3, hx, h⟩ := zob h
  refine z_callN (rest := [_]) B hS (mX11_at l G hx) zy_X11_at zkn_710 (by decide) rfl hl rfl (Nat.le_of_ble_eq_true rfl) dX8_walkTo_9 (kk := (fun H locs hS => ?_))
  refine lv_iload_n he hb dX8_walkTo_12 rfl (lv_at hl 2 rfl) ?_
  obtain ⟨_, hc, h⟩ := zob h
  obtain ⟨x4, hx, h⟩ := zob h
  refine z_callV (ci := 2) (T := TX2) (N := 15) (rest := []) B hS (mX2_beside l G hx) zy_X2_beside zk_772 (by decide) hc rfl rfl hl rfl (Nat.le_of_ble_eq_true rfl) dX8_walkTo_13 (kk := (fun H locs hS => ?_))
  refine lv_istore_n (lv' := [(3, _), (0, _), (1, _), (2, _)]) he hb dX8_walkTo_16 rfl hl (by decide) rfl (fun ls hl => ?_)
  refine lv_iload_n he hb dX8_walkTo_17 rfl (lv_at hl 0 rfl) ?_
  refine lv_iconst (v := (-1 : Int32)) he hb dX8_walkTo_18 (by decide) ?_
  refine lv_icmp_ne (tgt := 24) he hb dX8_walkTo_19 (by decide) (fun hc => ?_) (fun hc => ?_)
  · rw [if_neg hc] at h
    refine z_aload_n he hb dX8_walkTo_24 rfl (lv_at hl 1 rfl) (zref_r _ _) ?_
    obtain ⟨x5, hx, h⟩ := zob h
    refine z_getR (ci := 8) (T := TX8) (N := 9) (j := 0) B hS hx rfl zin_X8 (by decide) zk_248 dX8_walkTo_25 ?_
    refine lv_iload_n he hb dX8_walkTo_28 rfl (lv_at hl 0 rfl) ?_
    obtain ⟨_, hc, h⟩ := zob h
    obtain ⟨x6, hx, h⟩ := zob h
    refine z_callV (ci := 2) (T := TX2) (N := 15) (rest := []) B hS (mX2_hasHedge l G hx) zy_X2_hasHedge zk_771 (by decide) hc rfl rfl hl rfl (Nat.le_of_ble_eq_true rfl) dX8_walkTo_29 (kk := (fun H locs hS => ?_))
    refine lv_if_eq (tgt := 37) he hb dX8_walkTo_32 (by decide) (fun hc => ?_) (fun hc => ?_)
    · rw [if_pos hc] at h
      refine z_aload_n he hb dX8_walkTo_37 rfl (lv_at hl 1 rfl) (zref_r _ _) ?_
      refine lv_iload_n he hb dX8_walkTo_38 rfl (lv_at hl 0 rfl) ?_
      obtain ⟨_, hc, h⟩ := zob h
      obtain ⟨x7, hx, h⟩ := zob h
      refine z_callV (ci := 8) (T := TX8) (N := 9) (rest := []) B hS (mX8_hasSomebody l G hx) zy_X8_hasSomebody zk_855 (by decide) hc rfl rfl hl rfl (Nat.le_of_ble_eq_true rfl) dX8_walkTo_39 (kk := (fun H locs hS => ?_))
      refine lv_if_eq (tgt := 47) he hb dX8_walkTo_42 (by decide) (fun hc => ?_) (fun hc => ?_)
      · rw [if_pos hc] at h
        refine z_aload_n he hb dX8_walkTo_47 rfl (lv_at hl 1 rfl) (zref_r _ _) ?_
        obtain ⟨x8, hx, h⟩ := zob h
        refine z_getR (ci := 8) (T := TX8) (N := 9) (j := 5) B hS hx rfl zin_X8 (by decide) zk_264 dX8_walkTo_48 ?_
        refine lv_iload_n he hb dX8_walkTo_51 rfl (lv_at hl 2 rfl) ?_
        refine lv_iload_n he hb dX8_walkTo_52 rfl (lv_at hl 0 rfl) ?_
        obtain ⟨f9, hx, h⟩ := zob h
        refine z_callN (rest := []) B hS (mX11_put l G hx) zy_X11_put zkn_711 (by decide) rfl hl rfl (Nat.le_of_ble_eq_true rfl) dX8_walkTo_53 (kk := (fun H locs hS => ?_))
        refine lv_iconst (v := (0 : Int32)) he hb dX8_walkTo_56 (by decide) ?_
        obtain ⟨rfl, rfl⟩ := Prod.mk.inj (Option.some.inj h)
        exact z_iret B hS dX8_walkTo_57
      · rw [if_neg hc] at h
        refine lv_iconst (v := (3 : Int32)) he hb dX8_walkTo_45 (by decide) ?_
        obtain ⟨rfl, rfl⟩ := Prod.mk.inj (Option.some.inj h)
        exact z_iret B hS dX8_walkTo_46
    · rw [if_neg hc] at h
      refine lv_iconst (v := (2 : Int32)) he hb dX8_walkTo_35 (by decide) ?_
      obtain ⟨rfl, rfl⟩ := Prod.mk.inj (Option.some.inj h)
      exact z_iret B hS dX8_walkTo_36
  · rw [if_pos hc] at h
    refine lv_iconst (v := (1 : Int32)) he hb dX8_walkTo_22 (by decide) ?_
    obtain ⟨rfl, rfl⟩ := Prod.mk.inj (Option.some.inj h)
    exact z_iret B hS dX8_walkTo_23
theorem dX8_setEyes_0 : decode cX8_setEyes 0 = .ok (.aload_n 0, 1) := by decide +kernel
theorem dX8_setEyes_1 : decode cX8_setEyes 1 = .ok (.getfield 27, 3) := by decide +kernel
theorem dX8_setEyes_4 : decode cX8_setEyes 4 = .ok (.iload_n 1, 1) := by decide +kernel
theorem dX8_setEyes_5 : decode cX8_setEyes 5 = .ok (.invokestatic 57, 3) := by decide +kernel
theorem dX8_setEyes_8 : decode cX8_setEyes 8 = .ok (.iload_n 2, 1) := by decide +kernel
theorem dX8_setEyes_9 : decode cX8_setEyes 9 = .ok (.if_icmp .ne 5, 3) := by decide +kernel
theorem dX8_setEyes_12 : decode cX8_setEyes 12 = .ok (.iconst 1, 1) := by decide +kernel
theorem dX8_setEyes_13 : decode cX8_setEyes 13 = .ok (.ireturn, 1) := by decide +kernel
theorem dX8_setEyes_14 : decode cX8_setEyes 14 = .ok (.aload_n 0, 1) := by decide +kernel
theorem dX8_setEyes_15 : decode cX8_setEyes 15 = .ok (.getfield 27, 3) := by decide +kernel
theorem dX8_setEyes_18 : decode cX8_setEyes 18 = .ok (.iload_n 1, 1) := by decide +kernel
theorem dX8_setEyes_19 : decode cX8_setEyes 19 = .ok (.iload_n 2, 1) := by decide +kernel
theorem dX8_setEyes_20 : decode cX8_setEyes 20 = .ok (.invokestatic 61, 3) := by decide +kernel
theorem dX8_setEyes_23 : decode cX8_setEyes 23 = .ok (.iconst 0, 1) := by decide +kernel
theorem dX8_setEyes_24 : decode cX8_setEyes 24 = .ok (.ireturn, 1) := by decide +kernel
def fX8_setEyes (N n : Nat) (f : zF) (a0 : Nat) (a1 : Int32) (a2 : Int32) : Option (zF × Int32) :=
    ((zgR n f 8 a0 7).bind fun x1 => ((fX11_at N n f x1 a1).bind fun x2 => (if x2 = a2 then some (f, (1 : Int32)) else ((zgR n f 8 a0 7).bind fun x3 => ((fX11_put N n f x3 a1 a2).bind fun f4 => some (f4, (0 : Int32)))))))
set_option maxRecDepth 100000 in
set_option maxHeartbeats 4000000 in
theorem mX8_setEyes (l : Launch) (G : zG) {N n : Nat} {f : zF} {f9 : zF} {r : Int32} {a0 : Nat} {a1 : Int32} {a2 : Int32} (h : fX8_setEyes N n f a0 a1 a2 = some (f9, r)) : zM l G yX8_setEyes cX8_setEyes 3 (some .int) 1 n f [zr G a0, .int a1, .int a2] (some (.int r)) f9 := by
  refine zM.of (by decide) (Nat.le_of_ble_eq_true rfl) ?_
  intro p e s m args below meth c locs ls B hS hl
  have he := B.1
  have hb := B.2.1
  have hl : lv_has ls 3 [(0, zr G a0), (1, .int a1), (2, .int a2)] := hl
  unfold fX8_setEyes at h
  generalize s.heap = H at hS ⊢
  refine z_aload_n he hb dX8_setEyes_0 rfl (lv_at hl 0 rfl) (zref_r _ _) ?_
  obtain ⟨x1, hx, h⟩ := zob h
  refine z_getR (ci := 8) (T := TX8) (N := 9) (j := 7) B hS hx rfl zin_X8 (by decide) zk_270 dX8_setEyes_1 ?_
  refine lv_iload_n he hb dX8_setEyes_4 rfl (lv_at hl 1 rfl) ?_
  obtain ⟨x2, hx, h⟩ := zob h
  refine z_callN (rest := []) B hS (mX11_at l G hx) zy_X11_at zkn_710 (by decide) rfl hl rfl (Nat.le_of_ble_eq_true rfl) dX8_setEyes_5 (kk := (fun H locs hS => ?_))
  refine lv_iload_n he hb dX8_setEyes_8 rfl (lv_at hl 2 rfl) ?_
  refine lv_icmp_ne (tgt := 14) he hb dX8_setEyes_9 (by decide) (fun hc => ?_) (fun hc => ?_)
  · rw [if_neg hc] at h
    refine z_aload_n he hb dX8_setEyes_14 rfl (lv_at hl 0 rfl) (zref_r _ _) ?_
    obtain ⟨x3, hx, h⟩ := zob h
    refine z_getR (ci := 8) (T := TX8) (N := 9) (j := 7) B hS hx rfl zin_X8 (by decide) zk_270 dX8_setEyes_15 ?_
    refine lv_iload_n he hb dX8_setEyes_18 rfl (lv_at hl 1 rfl) ?_
    refine lv_iload_n he hb dX8_setEyes_19 rfl (lv_at hl 2 rfl) ?_
    obtain ⟨f4, hx, h⟩ := zob h
    refine z_callN (rest := []) B hS (mX11_put l G hx) zy_X11_put zkn_711 (by decide) rfl hl rfl (Nat.le_of_ble_eq_true rfl) dX8_setEyes_20 (kk := (fun H locs hS => ?_))
    refine lv_iconst (v := (0 : Int32)) he hb dX8_setEyes_23 (by decide) ?_
    obtain ⟨rfl, rfl⟩ := Prod.mk.inj (Option.some.inj h)
    exact z_iret B hS dX8_setEyes_24
  · rw [if_pos hc] at h
    refine lv_iconst (v := (1 : Int32)) he hb dX8_setEyes_12 (by decide) ?_
    obtain ⟨rfl, rfl⟩ := Prod.mk.inj (Option.some.inj h)
    exact z_iret B hS dX8_setEyes_13
theorem dX8_looks_0 : decode cX8_looks 0 = .ok (.aload_n 0, 1) := by decide +kernel
theorem dX8_looks_1 : decode cX8_looks 1 = .ok (.getfield 37, 3) := by decide +kernel
theorem dX8_looks_4 : decode cX8_looks 4 = .ok (.aload_n 0, 1) := by decide +kernel
theorem dX8_looks_5 : decode cX8_looks 5 = .ok (.getfield 33, 3) := by decide +kernel
theorem dX8_looks_8 : decode cX8_looks 8 = .ok (.getfield 93, 3) := by decide +kernel
theorem dX8_looks_11 : decode cX8_looks 11 = .ok (.iload_n 1, 1) := by decide +kernel
theorem dX8_looks_12 : decode cX8_looks 12 = .ok (.invokestatic 57, 3) := by decide +kernel
theorem dX8_looks_15 : decode cX8_looks 15 = .ok (.isub, 1) := by decide +kernel
theorem dX8_looks_16 : decode cX8_looks 16 = .ok (.bipush 24, 2) := by decide +kernel
theorem dX8_looks_18 : decode cX8_looks 18 = .ok (.invokestatic 96, 3) := by decide +kernel
theorem dX8_looks_21 : decode cX8_looks 21 = .ok (.istore_n 2, 1) := by decide +kernel
theorem dX8_looks_22 : decode cX8_looks 22 = .ok (.aload_n 0, 1) := by decide +kernel
theorem dX8_looks_23 : decode cX8_looks 23 = .ok (.getfield 27, 3) := by decide +kernel
theorem dX8_looks_26 : decode cX8_looks 26 = .ok (.iload_n 1, 1) := by decide +kernel
theorem dX8_looks_27 : decode cX8_looks 27 = .ok (.invokestatic 57, 3) := by decide +kernel
theorem dX8_looks_30 : decode cX8_looks 30 = .ok (.ifCond .ne 22, 3) := by decide +kernel
theorem dX8_looks_33 : decode cX8_looks 33 = .ok (.iload_n 2, 1) := by decide +kernel
theorem dX8_looks_34 : decode cX8_looks 34 = .ok (.aload_n 0, 1) := by decide +kernel
theorem dX8_looks_35 : decode cX8_looks 35 = .ok (.getfield 33, 3) := by decide +kernel
theorem dX8_looks_38 : decode cX8_looks 38 = .ok (.getfield 102, 3) := by decide +kernel
theorem dX8_looks_41 : decode cX8_looks 41 = .ok (.iload_n 1, 1) := by decide +kernel
theorem dX8_looks_42 : decode cX8_looks 42 = .ok (.invokestatic 57, 3) := by decide +kernel
theorem dX8_looks_45 : decode cX8_looks 45 = .ok (.if_icmp .ge 7, 3) := by decide +kernel
theorem dX8_looks_48 : decode cX8_looks 48 = .ok (.iconst 1, 1) := by decide +kernel
theorem dX8_looks_49 : decode cX8_looks 49 = .ok (.goto 4, 3) := by decide +kernel
theorem dX8_looks_52 : decode cX8_looks 52 = .ok (.iconst 0, 1) := by decide +kernel
theorem dX8_looks_53 : decode cX8_looks 53 = .ok (.ireturn, 1) := by decide +kernel
def fX8_looks (N n : Nat) (f : zF) (a0 : Nat) (a1 : Int32) : Option Int32 :=
    ((zgI n f 8 a0 1).bind fun x1 => ((zgR n f 8 a0 0).bind fun x2 => ((zgR n f 2 x2 13).bind fun x3 => ((fX11_at N n f x3 a1).bind fun x4 => ((fJ9_floorMod_7cf53 N n f (x1 - x4) (24 : Int32)).bind fun x5 => ((zgR n f 8 a0 7).bind fun x6 => ((fX11_at N n f x6 a1).bind fun x7 => (if x7 = 0 then ((zgR n f 8 a0 0).bind fun x8 => ((zgR n f 2 x8 14).bind fun x9 => ((fX11_at N n f x9 a1).bind fun x10 => (if x10 ≤ x5 then zbl (0 : Int32) else zbl (1 : Int32))))) else zbl (0 : Int32)))))))))
set_option maxRecDepth 100000 in
set_option maxHeartbeats 4000000 in
theorem mX8_looks (l : Launch) (G : zG) {N n : Nat} {f : zF} {r : Int32} {a0 : Nat} {a1 : Int32} (h : fX8_looks N n f a0 a1 = some r) : zM l G yX8_looks cX8_looks 3 (some .boolean) 1 n f [zr G a0, .int a1] (some (.int r)) f := by
  refine zM.of (by decide) (Nat.le_of_ble_eq_true rfl) ?_
  intro p e s m args below meth c locs ls B hS hl
  have he := B.1
  have hb := B.2.1
  have hl : lv_has ls 3 [(0, zr G a0), (1, .int a1)] := hl
  unfold fX8_looks at h
  generalize s.heap = H at hS ⊢
  refine z_aload_n he hb dX8_looks_0 rfl (lv_at hl 0 rfl) (zref_r _ _) ?_
  obtain ⟨x1, hx, h⟩ := zob h
  refine z_getI (ci := 8) (T := TX8) (N := 9) (j := 1) B hS hx rfl zin_X8 (by decide) zk_250 dX8_looks_1 ?_
  refine z_aload_n he hb dX8_looks_4 rfl (lv_at hl 0 rfl) (zref_r _ _) ?_
  obtain ⟨x2, hx, h⟩ := zob h
  refine z_getR (ci := 8) (T := TX8) (N := 9) (j := 0) B hS hx rfl zin_X8 (by decide) zk_248 dX8_looks_5 ?_
  obtain ⟨x3, hx, h⟩ := zob h
  refine z_getR (ci := 2) (T := TX2) (N := 15) (j := 13) B hS hx rfl zin_X2 (by decide) zk_205 dX8_looks_8 ?_
  refine lv_iload_n he hb dX8_looks_11 rfl (lv_at hl 1 rfl) ?_
  obtain ⟨x4, hx, h⟩ := zob h
  refine z_callN (rest := [_]) B hS (mX11_at l G hx) zy_X11_at zkn_710 (by decide) rfl hl rfl (Nat.le_of_ble_eq_true rfl) dX8_looks_12 (kk := (fun H locs hS => ?_))
  refine lv_isub he hb dX8_looks_15 ?_
  refine lv_bipush (v := (24 : Int32)) he hb dX8_looks_16 (by decide) ?_
  obtain ⟨x5, hx, h⟩ := zob h
  refine z_callT (rest := []) B hS (mJ9_floorMod_7cf53 l G hx) zy_J9_floorMod_7cf53 zk_760 (by decide) rfl hl rfl (Nat.le_of_ble_eq_true rfl) dX8_looks_18 (kk := (fun H locs hS => ?_))
  refine lv_istore_n (lv' := [(2, _), (0, _), (1, _)]) he hb dX8_looks_21 rfl hl (by decide) rfl (fun ls hl => ?_)
  refine z_aload_n he hb dX8_looks_22 rfl (lv_at hl 1 rfl) (zref_r _ _) ?_
  obtain ⟨x6, hx, h⟩ := zob h
  refine z_getR (ci := 8) (T := TX8) (N := 9) (j := 7) B hS hx rfl zin_X8 (by decide) zk_270 dX8_looks_23 ?_
  refine lv_iload_n he hb dX8_looks_26 rfl (lv_at hl 2 rfl) ?_
  obtain ⟨x7, hx, h⟩ := zob h
  refine z_callN (rest := []) B hS (mX11_at l G hx) zy_X11_at zkn_710 (by decide) rfl hl rfl (Nat.le_of_ble_eq_true rfl) dX8_looks_27 (kk := (fun H locs hS => ?_))
  refine lv_if_ne (tgt := 52) he hb dX8_looks_30 (by decide) (fun hc => ?_) (fun hc => ?_)
  · rw [if_neg hc] at h
    refine lv_iconst (v := (0 : Int32)) he hb dX8_looks_52 (by decide) ?_
    obtain ⟨hz, rfl⟩ := zbl_i h
    exact z_zret B hS hz dX8_looks_53
  · rw [if_pos hc] at h
    refine lv_iload_n he hb dX8_looks_33 rfl (lv_at hl 0 rfl) ?_
    refine z_aload_n he hb dX8_looks_34 rfl (lv_at hl 1 rfl) (zref_r _ _) ?_
    obtain ⟨x8, hx, h⟩ := zob h
    refine z_getR (ci := 8) (T := TX8) (N := 9) (j := 0) B hS hx rfl zin_X8 (by decide) zk_248 dX8_looks_35 ?_
    obtain ⟨x9, hx, h⟩ := zob h
    refine z_getR (ci := 2) (T := TX2) (N := 15) (j := 14) B hS hx rfl zin_X2 (by decide) zk_208 dX8_looks_38 ?_
    refine lv_iload_n he hb dX8_looks_41 rfl (lv_at hl 2 rfl) ?_
    obtain ⟨x10, hx, h⟩ := zob h
    refine z_callN (rest := [_]) B hS (mX11_at l G hx) zy_X11_at zkn_710 (by decide) rfl hl rfl (Nat.le_of_ble_eq_true rfl) dX8_looks_42 (kk := (fun H locs hS => ?_))
    refine lv_icmp_ge (tgt := 52) he hb dX8_looks_45 (by decide) (fun hc => ?_) (fun hc => ?_)
    · rw [if_pos hc] at h
      refine lv_iconst (v := (0 : Int32)) he hb dX8_looks_52 (by decide) ?_
      obtain ⟨hz, rfl⟩ := zbl_i h
      exact z_zret B hS hz dX8_looks_53
    · rw [if_neg hc] at h
      refine lv_iconst (v := (1 : Int32)) he hb dX8_looks_48 (by decide) ?_
      refine lv_goto (tgt := 53) he hb dX8_looks_49 (by decide) ?_
      obtain ⟨hz, rfl⟩ := zbl_i h
      exact z_zret B hS hz dX8_looks_53
theorem dX8_isInSight_0 : decode cX8_isInSight 0 = .ok (.aload_n 0, 1) := by decide +kernel
theorem dX8_isInSight_1 : decode cX8_isInSight 1 = .ok (.getfield 21, 3) := by decide +kernel
theorem dX8_isInSight_4 : decode cX8_isInSight 4 = .ok (.iload_n 1, 1) := by decide +kernel
theorem dX8_isInSight_5 : decode cX8_isInSight 5 = .ok (.invokestatic 57, 3) := by decide +kernel
theorem dX8_isInSight_8 : decode cX8_isInSight 8 = .ok (.istore 4, 2) := by decide +kernel
theorem dX8_isInSight_10 : decode cX8_isInSight 10 = .ok (.iload_n 2, 1) := by decide +kernel
theorem dX8_isInSight_11 : decode cX8_isInSight 11 = .ok (.iconst 2, 1) := by decide +kernel
theorem dX8_isInSight_12 : decode cX8_isInSight 12 = .ok (.irem, 1) := by decide +kernel
theorem dX8_isInSight_13 : decode cX8_isInSight 13 = .ok (.ifCond .ne 23, 3) := by decide +kernel
theorem dX8_isInSight_16 : decode cX8_isInSight 16 = .ok (.iload 4, 2) := by decide +kernel
theorem dX8_isInSight_18 : decode cX8_isInSight 18 = .ok (.bipush 9, 2) := by decide +kernel
theorem dX8_isInSight_20 : decode cX8_isInSight 20 = .ok (.idiv, 1) := by decide +kernel
theorem dX8_isInSight_21 : decode cX8_isInSight 21 = .ok (.iload_n 3, 1) := by decide +kernel
theorem dX8_isInSight_22 : decode cX8_isInSight 22 = .ok (.bipush 9, 2) := by decide +kernel
theorem dX8_isInSight_24 : decode cX8_isInSight 24 = .ok (.idiv, 1) := by decide +kernel
theorem dX8_isInSight_25 : decode cX8_isInSight 25 = .ok (.if_icmp .ne 7, 3) := by decide +kernel
theorem dX8_isInSight_28 : decode cX8_isInSight 28 = .ok (.iconst 1, 1) := by decide +kernel
theorem dX8_isInSight_29 : decode cX8_isInSight 29 = .ok (.goto 24, 3) := by decide +kernel
theorem dX8_isInSight_32 : decode cX8_isInSight 32 = .ok (.iconst 0, 1) := by decide +kernel
theorem dX8_isInSight_33 : decode cX8_isInSight 33 = .ok (.goto 20, 3) := by decide +kernel
theorem dX8_isInSight_36 : decode cX8_isInSight 36 = .ok (.iload 4, 2) := by decide +kernel
theorem dX8_isInSight_38 : decode cX8_isInSight 38 = .ok (.bipush 9, 2) := by decide +kernel
theorem dX8_isInSight_40 : decode cX8_isInSight 40 = .ok (.irem, 1) := by decide +kernel
theorem dX8_isInSight_41 : decode cX8_isInSight 41 = .ok (.iload_n 3, 1) := by decide +kernel
theorem dX8_isInSight_42 : decode cX8_isInSight 42 = .ok (.bipush 9, 2) := by decide +kernel
theorem dX8_isInSight_44 : decode cX8_isInSight 44 = .ok (.irem, 1) := by decide +kernel
theorem dX8_isInSight_45 : decode cX8_isInSight 45 = .ok (.if_icmp .ne 7, 3) := by decide +kernel
theorem dX8_isInSight_48 : decode cX8_isInSight 48 = .ok (.iconst 1, 1) := by decide +kernel
theorem dX8_isInSight_49 : decode cX8_isInSight 49 = .ok (.goto 4, 3) := by decide +kernel
theorem dX8_isInSight_52 : decode cX8_isInSight 52 = .ok (.iconst 0, 1) := by decide +kernel
theorem dX8_isInSight_53 : decode cX8_isInSight 53 = .ok (.istore 5, 2) := by decide +kernel
theorem dX8_isInSight_55 : decode cX8_isInSight 55 = .ok (.iconst 0, 1) := by decide +kernel
theorem dX8_isInSight_56 : decode cX8_isInSight 56 = .ok (.istore 6, 2) := by decide +kernel
theorem dX8_isInSight_58 : decode cX8_isInSight 58 = .ok (.iload 5, 2) := by decide +kernel
theorem dX8_isInSight_60 : decode cX8_isInSight 60 = .ok (.ifCond .eq 54, 3) := by decide +kernel
theorem dX8_isInSight_63 : decode cX8_isInSight 63 = .ok (.iload 6, 2) := by decide +kernel
theorem dX8_isInSight_65 : decode cX8_isInSight 65 = .ok (.bipush 9, 2) := by decide +kernel
theorem dX8_isInSight_67 : decode cX8_isInSight 67 = .ok (.if_icmp .ge 47, 3) := by decide +kernel
theorem dX8_isInSight_70 : decode cX8_isInSight 70 = .ok (.iload 4, 2) := by decide +kernel
theorem dX8_isInSight_72 : decode cX8_isInSight 72 = .ok (.iconst (-1), 1) := by decide +kernel
theorem dX8_isInSight_73 : decode cX8_isInSight 73 = .ok (.if_icmp .eq 41, 3) := by decide +kernel
theorem dX8_isInSight_76 : decode cX8_isInSight 76 = .ok (.aload_n 0, 1) := by decide +kernel
theorem dX8_isInSight_77 : decode cX8_isInSight 77 = .ok (.getfield 33, 3) := by decide +kernel
theorem dX8_isInSight_80 : decode cX8_isInSight 80 = .ok (.iload 4, 2) := by decide +kernel
theorem dX8_isInSight_82 : decode cX8_isInSight 82 = .ok (.invokevirtual 105, 3) := by decide +kernel
theorem dX8_isInSight_85 : decode cX8_isInSight 85 = .ok (.ifCond .ne 29, 3) := by decide +kernel
theorem dX8_isInSight_88 : decode cX8_isInSight 88 = .ok (.iload 4, 2) := by decide +kernel
theorem dX8_isInSight_90 : decode cX8_isInSight 90 = .ok (.iload_n 3, 1) := by decide +kernel
theorem dX8_isInSight_91 : decode cX8_isInSight 91 = .ok (.if_icmp .ne 5, 3) := by decide +kernel
theorem dX8_isInSight_94 : decode cX8_isInSight 94 = .ok (.iconst 1, 1) := by decide +kernel
theorem dX8_isInSight_95 : decode cX8_isInSight 95 = .ok (.ireturn, 1) := by decide +kernel
theorem dX8_isInSight_96 : decode cX8_isInSight 96 = .ok (.aload_n 0, 1) := by decide +kernel
theorem dX8_isInSight_97 : decode cX8_isInSight 97 = .ok (.getfield 33, 3) := by decide +kernel
theorem dX8_isInSight_100 : decode cX8_isInSight 100 = .ok (.iload 4, 2) := by decide +kernel
theorem dX8_isInSight_102 : decode cX8_isInSight 102 = .ok (.iload_n 2, 1) := by decide +kernel
theorem dX8_isInSight_103 : decode cX8_isInSight 103 = .ok (.invokevirtual 109, 3) := by decide +kernel
theorem dX8_isInSight_106 : decode cX8_isInSight 106 = .ok (.istore 4, 2) := by decide +kernel
theorem dX8_isInSight_108 : decode cX8_isInSight 108 = .ok (.iinc 6 1, 3) := by decide +kernel
theorem dX8_isInSight_111 : decode cX8_isInSight 111 = .ok (.goto (-53), 3) := by decide +kernel
theorem dX8_isInSight_114 : decode cX8_isInSight 114 = .ok (.iconst 0, 1) := by decide +kernel
theorem dX8_isInSight_115 : decode cX8_isInSight 115 = .ok (.ireturn, 1) := by decide +kernel
def fX8_isInSight_58 (N n : Nat) (f : zF) : Nat → Nat → Int32 → Int32 → Int32 → Int32 → Int32 → Option Int32
  | 0, _, _, _, _, _, _ => none
  | k + 1, a0, a2, a3, a4, a5, a6 =>
    (if a5 = 0 then zbl (0 : Int32) else (if (9 : Int32) ≤ a6 then zbl (0 : Int32) else (if a4 = (-1 : Int32) then zbl (0 : Int32) else ((zgR n f 8 a0 0).bind fun x3 => ((zck n f 2 x3).bind fun _ => ((fX2_hasHedge N n f x3 a4).bind fun x4 => (if x4 = 0 then (if a4 = a3 then zbl (1 : Int32) else ((zgR n f 8 a0 0).bind fun x5 => ((zck n f 2 x5).bind fun _ => ((fX2_beside N n f x5 a4 a2).bind fun x6 => (fX8_isInSight_58 N n f k a0 a2 a3 x6 a5 (a6 + 1)))))) else zbl (0 : Int32))))))))
set_option maxRecDepth 100000 in
set_option maxHeartbeats 4000000 in
theorem gX8_isInSight_58 (l : Launch) {G : zG} {p : Program} {e : Env} {s : State} {m : MethodId} {args : Array Value} {below : List Frame} {meth : Method} {c : Code} {f : zF} {N n : Nat} {r : Int32} (B : zB G p s m args meth c RX8 cX8_isInSight 7 (some .boolean)) : ∀ (k : Nat), ∀ (a0 : Nat) (a2 : Int32) (a3 : Int32) (a4 : Int32) (a5 : Int32) (a6 : Int32) (H : Heap) (locs : List Loc) (ls : Array Slot), fX8_isInSight_58 N n f k a0 a2 a3 a4 a5 a6 = some r → zS G n f H locs → lv_has ls 7 [(0, zr G a0), (2, .int a2), (3, .int a3), (4, .int a4), (5, .int a5), (6, .int a6)] → W p l e (zrm 1) s m args below meth c H locs 0 0 (MQ below (zQc G n f (some (.int r))) args s 0 0 (zA G)) (F0 m 58 ls []) := by
  have he := B.1
  have hb := B.2.1
  intro k
  induction k with
  | zero =>
    intro a0 a2 a3 a4 a5 a6 H locs ls h
    unfold fX8_isInSight_58 at h
    cases h
  | succ k ih =>
    intro a0 a2 a3 a4 a5 a6 H locs ls h hS hl
    unfold fX8_isInSight_58 at h
    refine lv_iload he hb dX8_isInSight_58 (lv_at hl 4 rfl) ?_
    refine lv_if_eq (tgt := 114) he hb dX8_isInSight_60 (by decide) (fun hc => ?_) (fun hc => ?_)
    · rw [if_pos hc] at h
      refine lv_iconst (v := (0 : Int32)) he hb dX8_isInSight_114 (by decide) ?_
      obtain ⟨hz, rfl⟩ := zbl_i h
      exact z_zret B hS hz dX8_isInSight_115
    · rw [if_neg hc] at h
      refine lv_iload he hb dX8_isInSight_63 (lv_at hl 5 rfl) ?_
      refine lv_bipush (v := (9 : Int32)) he hb dX8_isInSight_65 (by decide) ?_
      refine lv_icmp_ge (tgt := 114) he hb dX8_isInSight_67 (by decide) (fun hc => ?_) (fun hc => ?_)
      · rw [if_pos hc] at h
        refine lv_iconst (v := (0 : Int32)) he hb dX8_isInSight_114 (by decide) ?_
        obtain ⟨hz, rfl⟩ := zbl_i h
        exact z_zret B hS hz dX8_isInSight_115
      · rw [if_neg hc] at h
        refine lv_iload he hb dX8_isInSight_70 (lv_at hl 3 rfl) ?_
        refine lv_iconst (v := (-1 : Int32)) he hb dX8_isInSight_72 (by decide) ?_
        refine lv_icmp_eq (tgt := 114) he hb dX8_isInSight_73 (by decide) (fun hc => ?_) (fun hc => ?_)
        · rw [if_pos hc] at h
          refine lv_iconst (v := (0 : Int32)) he hb dX8_isInSight_114 (by decide) ?_
          obtain ⟨hz, rfl⟩ := zbl_i h
          exact z_zret B hS hz dX8_isInSight_115
        · rw [if_neg hc] at h
          refine z_aload_n he hb dX8_isInSight_76 rfl (lv_at hl 0 rfl) (zref_r _ _) ?_
          obtain ⟨x3, hx, h⟩ := zob h
          refine z_getR (ci := 8) (T := TX8) (N := 9) (j := 0) B hS hx rfl zin_X8 (by decide) zk_248 dX8_isInSight_77 ?_
          refine lv_iload he hb dX8_isInSight_80 (lv_at hl 3 rfl) ?_
          obtain ⟨_, hc, h⟩ := zob h
          obtain ⟨x4, hx, h⟩ := zob h
          refine z_callV (ci := 2) (T := TX2) (N := 15) (rest := []) B hS (mX2_hasHedge l G hx) zy_X2_hasHedge zk_771 (by decide) hc rfl rfl hl rfl (Nat.le_of_ble_eq_true rfl) dX8_isInSight_82 (kk := (fun H locs hS => ?_))
          refine lv_if_ne (tgt := 114) he hb dX8_isInSight_85 (by decide) (fun hc => ?_) (fun hc => ?_)
          · rw [if_neg hc] at h
            refine lv_iconst (v := (0 : Int32)) he hb dX8_isInSight_114 (by decide) ?_
            obtain ⟨hz, rfl⟩ := zbl_i h
            exact z_zret B hS hz dX8_isInSight_115
          · rw [if_pos hc] at h
            refine lv_iload he hb dX8_isInSight_88 (lv_at hl 3 rfl) ?_
            refine lv_iload_n he hb dX8_isInSight_90 rfl (lv_at hl 2 rfl) ?_
            refine lv_icmp_ne (tgt := 96) he hb dX8_isInSight_91 (by decide) (fun hc => ?_) (fun hc => ?_)
            · rw [if_neg hc] at h
              refine z_aload_n he hb dX8_isInSight_96 rfl (lv_at hl 0 rfl) (zref_r _ _) ?_
              obtain ⟨x5, hx, h⟩ := zob h
              refine z_getR (ci := 8) (T := TX8) (N := 9) (j := 0) B hS hx rfl zin_X8 (by decide) zk_248 dX8_isInSight_97 ?_
              refine lv_iload he hb dX8_isInSight_100 (lv_at hl 3 rfl) ?_
              refine lv_iload_n he hb dX8_isInSight_102 rfl (lv_at hl 1 rfl) ?_
              obtain ⟨_, hc, h⟩ := zob h
              obtain ⟨x6, hx, h⟩ := zob h
              refine z_callV (ci := 2) (T := TX2) (N := 15) (rest := []) B hS (mX2_beside l G hx) zy_X2_beside zk_772 (by decide) hc rfl rfl hl rfl (Nat.le_of_ble_eq_true rfl) dX8_isInSight_103 (kk := (fun H locs hS => ?_))
              refine lv_istore (lv' := [(4, _), (0, _), (2, _), (3, _), (5, _), (6, _)]) he hb dX8_isInSight_106 hl (by decide) rfl (fun ls hl => ?_)
              refine lv_iinc (v := (a6 + 1)) (lv' := [(6, _), (4, _), (0, _), (2, _), (3, _), (5, _)]) he hb dX8_isInSight_108 hl (k := 5) rfl rfl (by decide) rfl (fun ls hl => ?_)
              refine lv_goto (tgt := 58) he hb dX8_isInSight_111 (by decide) ?_
              exact ih _ _ _ _ _ _ _ _ _ h hS (lv_sub hl [2, 3, 4, 1, 5, 0] rfl)
            · rw [if_pos hc] at h
              refine lv_iconst (v := (1 : Int32)) he hb dX8_isInSight_94 (by decide) ?_
              obtain ⟨hz, rfl⟩ := zbl_i h
              exact z_zret B hS hz dX8_isInSight_95
def fX8_isInSight_53 (N n : Nat) (f : zF) (a0 : Nat) (a2 : Int32) (a3 : Int32) (a4 : Int32) (t0 : Int32) : Option Int32 :=
    (fX8_isInSight_58 N n f N a0 a2 a3 a4 t0 (0 : Int32))
set_option maxRecDepth 100000 in
set_option maxHeartbeats 4000000 in
theorem gX8_isInSight_53 (l : Launch) {G : zG} {p : Program} {e : Env} {s : State} {m : MethodId} {args : Array Value} {below : List Frame} {meth : Method} {c : Code} {f : zF} {N n : Nat} {r : Int32} (B : zB G p s m args meth c RX8 cX8_isInSight 7 (some .boolean)) : ∀ (a0 : Nat) (a2 : Int32) (a3 : Int32) (a4 : Int32) (t0 : Int32) (H : Heap) (locs : List Loc) (ls : Array Slot), fX8_isInSight_53 N n f a0 a2 a3 a4 t0 = some r → zS G n f H locs → lv_has ls 7 [(0, zr G a0), (2, .int a2), (3, .int a3), (4, .int a4)] → W p l e (zrm 1) s m args below meth c H locs 0 0 (MQ below (zQc G n f (some (.int r))) args s 0 0 (zA G)) (F0 m 53 ls [.int t0]) := by
  have he := B.1
  have hb := B.2.1
  intro a0 a2 a3 a4 t0 H locs ls h hS hl
  unfold fX8_isInSight_53 at h
  refine lv_istore (lv' := [(5, _), (0, _), (2, _), (3, _), (4, _)]) he hb dX8_isInSight_53 hl (by decide) rfl (fun ls hl => ?_)
  refine lv_iconst (v := (0 : Int32)) he hb dX8_isInSight_55 (by decide) ?_
  refine lv_istore (lv' := [(6, _), (5, _), (0, _), (2, _), (3, _), (4, _)]) he hb dX8_isInSight_56 hl (by decide) rfl (fun ls hl => ?_)
  exact gX8_isInSight_58 l B N _ _ _ _ _ _ _ _ _ h hS (lv_sub hl [2, 3, 4, 5, 1, 0] rfl)
def fX8_isInSight (N n : Nat) (f : zF) (a0 : Nat) (a1 : Int32) (a2 : Int32) (a3 : Int32) : Option Int32 :=
    ((zgR n f 8 a0 5).bind fun x1 => ((fX11_at N n f x1 a1).bind fun x2 => (if (zrem a2 (2 : Int32)) = 0 then (if (x2 / (9 : Int32)) = (a3 / (9 : Int32)) then (fX8_isInSight_53 N n f a0 a2 a3 x2 (1 : Int32)) else (fX8_isInSight_53 N n f a0 a2 a3 x2 (0 : Int32))) else (if (zrem x2 (9 : Int32)) = (zrem a3 (9 : Int32)) then (fX8_isInSight_53 N n f a0 a2 a3 x2 (1 : Int32)) else (fX8_isInSight_53 N n f a0 a2 a3 x2 (0 : Int32))))))
set_option maxRecDepth 100000 in
set_option maxHeartbeats 4000000 in
theorem mX8_isInSight (l : Launch) (G : zG) {N n : Nat} {f : zF} {r : Int32} {a0 : Nat} {a1 : Int32} {a2 : Int32} {a3 : Int32} (h : fX8_isInSight N n f a0 a1 a2 a3 = some r) : zM l G yX8_isInSight cX8_isInSight 7 (some .boolean) 1 n f [zr G a0, .int a1, .int a2, .int a3] (some (.int r)) f := by
  refine zM.of (by decide) (Nat.le_of_ble_eq_true rfl) ?_
  intro p e s m args below meth c locs ls B hS hl
  have he := B.1
  have hb := B.2.1
  have hl : lv_has ls 7 [(0, zr G a0), (1, .int a1), (2, .int a2), (3, .int a3)] := hl
  unfold fX8_isInSight at h
  generalize s.heap = H at hS ⊢
  refine z_aload_n he hb dX8_isInSight_0 rfl (lv_at hl 0 rfl) (zref_r _ _) ?_
  obtain ⟨x1, hx, h⟩ := zob h
  refine z_getR (ci := 8) (T := TX8) (N := 9) (j := 5) B hS hx rfl zin_X8 (by decide) zk_264 dX8_isInSight_1 ?_
  refine lv_iload_n he hb dX8_isInSight_4 rfl (lv_at hl 1 rfl) ?_
  obtain ⟨x2, hx, h⟩ := zob h
  refine z_callN (rest := []) B hS (mX11_at l G hx) zy_X11_at zkn_710 (by decide) rfl hl rfl (Nat.le_of_ble_eq_true rfl) dX8_isInSight_5 (kk := (fun H locs hS => ?_))
  refine lv_istore (lv' := [(4, _), (0, _), (1, _), (2, _), (3, _)]) he hb dX8_isInSight_8 hl (by decide) rfl (fun ls hl => ?_)
  refine lv_iload_n he hb dX8_isInSight_10 rfl (lv_at hl 3 rfl) ?_
  refine lv_iconst (v := (2 : Int32)) he hb dX8_isInSight_11 (by decide) ?_
  refine z_irem he hb dX8_isInSight_12 (by decide) ?_
  refine lv_if_ne (tgt := 36) he hb dX8_isInSight_13 (by decide) (fun hc => ?_) (fun hc => ?_)
  · rw [if_neg hc] at h
    refine lv_iload he hb dX8_isInSight_36 (lv_at hl 0 rfl) ?_
    refine lv_bipush (v := (9 : Int32)) he hb dX8_isInSight_38 (by decide) ?_
    refine z_irem he hb dX8_isInSight_40 (by decide) ?_
    refine lv_iload_n he hb dX8_isInSight_41 rfl (lv_at hl 4 rfl) ?_
    refine lv_bipush (v := (9 : Int32)) he hb dX8_isInSight_42 (by decide) ?_
    refine z_irem he hb dX8_isInSight_44 (by decide) ?_
    refine lv_icmp_ne (tgt := 52) he hb dX8_isInSight_45 (by decide) (fun hc => ?_) (fun hc => ?_)
    · rw [if_neg hc] at h
      refine lv_iconst (v := (0 : Int32)) he hb dX8_isInSight_52 (by decide) ?_
      exact gX8_isInSight_53 l B _ _ _ _ _ _ _ _ h hS (lv_sub hl [1, 3, 4, 0] rfl)
    · rw [if_pos hc] at h
      refine lv_iconst (v := (1 : Int32)) he hb dX8_isInSight_48 (by decide) ?_
      refine lv_goto (tgt := 53) he hb dX8_isInSight_49 (by decide) ?_
      exact gX8_isInSight_53 l B _ _ _ _ _ _ _ _ h hS (lv_sub hl [1, 3, 4, 0] rfl)
  · rw [if_pos hc] at h
    refine lv_iload he hb dX8_isInSight_16 (lv_at hl 0 rfl) ?_
    refine lv_bipush (v := (9 : Int32)) he hb dX8_isInSight_18 (by decide) ?_
    refine lv_idiv he hb dX8_isInSight_20 (by decide) ?_
    refine lv_iload_n he hb dX8_isInSight_21 rfl (lv_at hl 4 rfl) ?_
    refine lv_bipush (v := (9 : Int32)) he hb dX8_isInSight_22 (by decide) ?_
    refine lv_idiv he hb dX8_isInSight_24 (by decide) ?_
    refine lv_icmp_ne (tgt := 32) he hb dX8_isInSight_25 (by decide) (fun hc => ?_) (fun hc => ?_)
    · rw [if_neg hc] at h
      refine lv_iconst (v := (0 : Int32)) he hb dX8_isInSight_32 (by decide) ?_
      refine lv_goto (tgt := 53) he hb dX8_isInSight_33 (by decide) ?_
      exact gX8_isInSight_53 l B _ _ _ _ _ _ _ _ h hS (lv_sub hl [1, 3, 4, 0] rfl)
    · rw [if_pos hc] at h
      refine lv_iconst (v := (1 : Int32)) he hb dX8_isInSight_28 (by decide) ?_
      refine lv_goto (tgt := 53) he hb dX8_isInSight_29 (by decide) ?_
      exact gX8_isInSight_53 l B _ _ _ _ _ _ _ _ h hS (lv_sub hl [1, 3, 4, 0] rfl)
theorem dX8_seers_0 : decode cX8_seers 0 = .ok (.iconst 0, 1) := by decide +kernel
theorem dX8_seers_1 : decode cX8_seers 1 = .ok (.istore_n 2, 1) := by decide +kernel
theorem dX8_seers_2 : decode cX8_seers 2 = .ok (.aload_n 0, 1) := by decide +kernel
theorem dX8_seers_3 : decode cX8_seers 3 = .ok (.getfield 9, 3) := by decide +kernel
theorem dX8_seers_6 : decode cX8_seers 6 = .ok (.iload_n 1, 1) := by decide +kernel
theorem dX8_seers_7 : decode cX8_seers 7 = .ok (.invokestatic 57, 3) := by decide +kernel
theorem dX8_seers_10 : decode cX8_seers 10 = .ok (.istore_n 3, 1) := by decide +kernel
theorem dX8_seers_11 : decode cX8_seers 11 = .ok (.iconst 0, 1) := by decide +kernel
theorem dX8_seers_12 : decode cX8_seers 12 = .ok (.istore 4, 2) := by decide +kernel
theorem dX8_seers_14 : decode cX8_seers 14 = .ok (.iload 4, 2) := by decide +kernel
theorem dX8_seers_16 : decode cX8_seers 16 = .ok (.aload_n 0, 1) := by decide +kernel
theorem dX8_seers_17 : decode cX8_seers 17 = .ok (.getfield 33, 3) := by decide +kernel
theorem dX8_seers_20 : decode cX8_seers 20 = .ok (.getfield 84, 3) := by decide +kernel
theorem dX8_seers_23 : decode cX8_seers 23 = .ok (.if_icmp .ge 44, 3) := by decide +kernel
theorem dX8_seers_26 : decode cX8_seers 26 = .ok (.aload_n 0, 1) := by decide +kernel
theorem dX8_seers_27 : decode cX8_seers 27 = .ok (.iload 4, 2) := by decide +kernel
theorem dX8_seers_29 : decode cX8_seers 29 = .ok (.invokevirtual 116, 3) := by decide +kernel
theorem dX8_seers_32 : decode cX8_seers 32 = .ok (.ifCond .eq 29, 3) := by decide +kernel
theorem dX8_seers_35 : decode cX8_seers 35 = .ok (.aload_n 0, 1) := by decide +kernel
theorem dX8_seers_36 : decode cX8_seers 36 = .ok (.iload 4, 2) := by decide +kernel
theorem dX8_seers_38 : decode cX8_seers 38 = .ok (.aload_n 0, 1) := by decide +kernel
theorem dX8_seers_39 : decode cX8_seers 39 = .ok (.getfield 24, 3) := by decide +kernel
theorem dX8_seers_42 : decode cX8_seers 42 = .ok (.iload 4, 2) := by decide +kernel
theorem dX8_seers_44 : decode cX8_seers 44 = .ok (.invokestatic 57, 3) := by decide +kernel
theorem dX8_seers_47 : decode cX8_seers 47 = .ok (.iload_n 3, 1) := by decide +kernel
theorem dX8_seers_48 : decode cX8_seers 48 = .ok (.invokevirtual 112, 3) := by decide +kernel
theorem dX8_seers_51 : decode cX8_seers 51 = .ok (.ifCond .eq 10, 3) := by decide +kernel
theorem dX8_seers_54 : decode cX8_seers 54 = .ok (.iload_n 2, 1) := by decide +kernel
theorem dX8_seers_55 : decode cX8_seers 55 = .ok (.iconst 1, 1) := by decide +kernel
theorem dX8_seers_56 : decode cX8_seers 56 = .ok (.iload 4, 2) := by decide +kernel
theorem dX8_seers_58 : decode cX8_seers 58 = .ok (.ishl, 1) := by decide +kernel
theorem dX8_seers_59 : decode cX8_seers 59 = .ok (.ior, 1) := by decide +kernel
theorem dX8_seers_60 : decode cX8_seers 60 = .ok (.istore_n 2, 1) := by decide +kernel
theorem dX8_seers_61 : decode cX8_seers 61 = .ok (.iinc 4 1, 3) := by decide +kernel
theorem dX8_seers_64 : decode cX8_seers 64 = .ok (.goto (-50), 3) := by decide +kernel
theorem dX8_seers_67 : decode cX8_seers 67 = .ok (.iload_n 2, 1) := by decide +kernel
theorem dX8_seers_68 : decode cX8_seers 68 = .ok (.ireturn, 1) := by decide +kernel
def fX8_seers_61 (r14 : Nat → Int32 → Int32 → Int32 → Option Int32) (N n : Nat) (f : zF) (a0 : Nat) (a2 : Int32) (a3 : Int32) (a4 : Int32) : Option Int32 :=
    (r14 a0 a2 a3 (a4 + 1))
set_option maxRecDepth 100000 in
set_option maxHeartbeats 4000000 in
theorem gX8_seers_61 (l : Launch) {G : zG} {p : Program} {e : Env} {s : State} {m : MethodId} {args : Array Value} {below : List Frame} {meth : Method} {c : Code} {f : zF} {N n : Nat} {r : Int32} {r14 : Nat → Int32 → Int32 → Int32 → Option Int32} (B : zB G p s m args meth c RX8 cX8_seers 5 (some .int)) (hr14 : ∀ (a0 : Nat) (a2 : Int32) (a3 : Int32) (a4 : Int32) (H : Heap) (locs : List Loc) (ls : Array Slot), r14 a0 a2 a3 a4 = some r → zS G n f H locs → lv_has ls 5 [(0, zr G a0), (2, .int a2), (3, .int a3), (4, .int a4)] → W p l e (zrm 2) s m args below meth c H locs 0 0 (MQ below (zQc G n f (some (.int r))) args s 0 0 (zA G)) (F0 m 14 ls [])) : ∀ (a0 : Nat) (a2 : Int32) (a3 : Int32) (a4 : Int32) (H : Heap) (locs : List Loc) (ls : Array Slot), fX8_seers_61 r14 N n f a0 a2 a3 a4 = some r → zS G n f H locs → lv_has ls 5 [(0, zr G a0), (2, .int a2), (3, .int a3), (4, .int a4)] → W p l e (zrm 2) s m args below meth c H locs 0 0 (MQ below (zQc G n f (some (.int r))) args s 0 0 (zA G)) (F0 m 61 ls []) := by
  have he := B.1
  have hb := B.2.1
  intro a0 a2 a3 a4 H locs ls h hS hl
  unfold fX8_seers_61 at h
  refine lv_iinc (v := (a4 + 1)) (lv' := [(4, _), (0, _), (2, _), (3, _)]) he hb dX8_seers_61 hl (k := 3) rfl rfl (by decide) rfl (fun ls hl => ?_)
  refine lv_goto (tgt := 14) he hb dX8_seers_64 (by decide) ?_
  exact hr14 _ _ _ _ _ _ _ h hS (lv_sub hl [1, 2, 3, 0] rfl)
def fX8_seers_14 (N n : Nat) (f : zF) : Nat → Nat → Int32 → Int32 → Int32 → Option Int32
  | 0, _, _, _, _ => none
  | k + 1, a0, a2, a3, a4 =>
    ((zgR n f 8 a0 0).bind fun x3 => ((zgI n f 2 x3 4).bind fun x4 => (if x4 ≤ a4 then some a2 else ((zck n f 8 a0).bind fun _ => ((fX8_looks N n f a0 a4).bind fun x5 => (if x5 = 0 then (fX8_seers_61 (fX8_seers_14 N n f k) N n f a0 a2 a3 a4) else ((zgR n f 8 a0 6).bind fun x6 => ((fX11_at N n f x6 a4).bind fun x7 => ((zck n f 8 a0).bind fun _ => ((fX8_isInSight N n f a0 a4 x7 a3).bind fun x8 => (if x8 = 0 then (fX8_seers_61 (fX8_seers_14 N n f k) N n f a0 a2 a3 a4) else (fX8_seers_61 (fX8_seers_14 N n f k) N n f a0 (a2 ||| (zishl (1 : Int32) a4)) a3 a4))))))))))))
set_option maxRecDepth 100000 in
set_option maxHeartbeats 4000000 in
theorem gX8_seers_14 (l : Launch) {G : zG} {p : Program} {e : Env} {s : State} {m : MethodId} {args : Array Value} {below : List Frame} {meth : Method} {c : Code} {f : zF} {N n : Nat} {r : Int32} (B : zB G p s m args meth c RX8 cX8_seers 5 (some .int)) : ∀ (k : Nat), ∀ (a0 : Nat) (a2 : Int32) (a3 : Int32) (a4 : Int32) (H : Heap) (locs : List Loc) (ls : Array Slot), fX8_seers_14 N n f k a0 a2 a3 a4 = some r → zS G n f H locs → lv_has ls 5 [(0, zr G a0), (2, .int a2), (3, .int a3), (4, .int a4)] → W p l e (zrm 2) s m args below meth c H locs 0 0 (MQ below (zQc G n f (some (.int r))) args s 0 0 (zA G)) (F0 m 14 ls []) := by
  have he := B.1
  have hb := B.2.1
  intro k
  induction k with
  | zero =>
    intro a0 a2 a3 a4 H locs ls h
    unfold fX8_seers_14 at h
    cases h
  | succ k ih =>
    intro a0 a2 a3 a4 H locs ls h hS hl
    unfold fX8_seers_14 at h
    refine lv_iload he hb dX8_seers_14 (lv_at hl 3 rfl) ?_
    refine z_aload_n he hb dX8_seers_16 rfl (lv_at hl 0 rfl) (zref_r _ _) ?_
    obtain ⟨x3, hx, h⟩ := zob h
    refine z_getR (ci := 8) (T := TX8) (N := 9) (j := 0) B hS hx rfl zin_X8 (by decide) zk_248 dX8_seers_17 ?_
    obtain ⟨x4, hx, h⟩ := zob h
    refine z_getI (ci := 2) (T := TX2) (N := 15) (j := 4) B hS hx rfl zin_X2 (by decide) zk_171 dX8_seers_20 ?_
    refine lv_icmp_ge (tgt := 67) he hb dX8_seers_23 (by decide) (fun hc => ?_) (fun hc => ?_)
    · rw [if_pos hc] at h
      refine lv_iload_n he hb dX8_seers_67 rfl (lv_at hl 1 rfl) ?_
      obtain rfl := Option.some.inj h
      exact z_iret B hS dX8_seers_68
    · rw [if_neg hc] at h
      refine z_aload_n he hb dX8_seers_26 rfl (lv_at hl 0 rfl) (zref_r _ _) ?_
      refine lv_iload he hb dX8_seers_27 (lv_at hl 3 rfl) ?_
      obtain ⟨_, hc, h⟩ := zob h
      obtain ⟨x5, hx, h⟩ := zob h
      refine z_callV (ci := 8) (T := TX8) (N := 9) (rest := []) B hS (mX8_looks l G hx) zy_X8_looks zk_798 (by decide) hc rfl rfl hl rfl (Nat.le_of_ble_eq_true rfl) dX8_seers_29 (kk := (fun H locs hS => ?_))
      refine lv_if_eq (tgt := 61) he hb dX8_seers_32 (by decide) (fun hc => ?_) (fun hc => ?_)
      · rw [if_pos hc] at h
        exact gX8_seers_61 l B ih _ _ _ _ _ _ _ h hS (lv_sub hl [0, 1, 2, 3] rfl)
      · rw [if_neg hc] at h
        refine z_aload_n he hb dX8_seers_35 rfl (lv_at hl 0 rfl) (zref_r _ _) ?_
        refine lv_iload he hb dX8_seers_36 (lv_at hl 3 rfl) ?_
        refine z_aload_n he hb dX8_seers_38 rfl (lv_at hl 0 rfl) (zref_r _ _) ?_
        obtain ⟨x6, hx, h⟩ := zob h
        refine z_getR (ci := 8) (T := TX8) (N := 9) (j := 6) B hS hx rfl zin_X8 (by decide) zk_267 dX8_seers_39 ?_
        refine lv_iload he hb dX8_seers_42 (lv_at hl 3 rfl) ?_
        obtain ⟨x7, hx, h⟩ := zob h
        refine z_callN (rest := [_, _]) B hS (mX11_at l G hx) zy_X11_at zkn_710 (by decide) rfl hl rfl (Nat.le_of_ble_eq_true rfl) dX8_seers_44 (kk := (fun H locs hS => ?_))
        refine lv_iload_n he hb dX8_seers_47 rfl (lv_at hl 2 rfl) ?_
        obtain ⟨_, hc, h⟩ := zob h
        obtain ⟨x8, hx, h⟩ := zob h
        refine z_callV (ci := 8) (T := TX8) (N := 9) (rest := []) B hS (mX8_isInSight l G hx) zy_X8_isInSight zk_767 (by decide) hc rfl rfl hl rfl (Nat.le_of_ble_eq_true rfl) dX8_seers_48 (kk := (fun H locs hS => ?_))
        refine lv_if_eq (tgt := 61) he hb dX8_seers_51 (by decide) (fun hc => ?_) (fun hc => ?_)
        · rw [if_pos hc] at h
          exact gX8_seers_61 l B ih _ _ _ _ _ _ _ h hS (lv_sub hl [0, 1, 2, 3] rfl)
        · rw [if_neg hc] at h
          refine lv_iload_n he hb dX8_seers_54 rfl (lv_at hl 1 rfl) ?_
          refine lv_iconst (v := (1 : Int32)) he hb dX8_seers_55 (by decide) ?_
          refine lv_iload he hb dX8_seers_56 (lv_at hl 3 rfl) ?_
          refine z_ishl he hb dX8_seers_58 ?_
          refine lv_ior he hb dX8_seers_59 ?_
          refine lv_istore_n (lv' := [(2, _), (0, _), (3, _), (4, _)]) he hb dX8_seers_60 rfl hl (by decide) rfl (fun ls hl => ?_)
          exact gX8_seers_61 l B ih _ _ _ _ _ _ _ h hS (lv_sub hl [1, 0, 2, 3] rfl)
def fX8_seers (N n : Nat) (f : zF) (a0 : Nat) (a1 : Int32) : Option Int32 :=
    ((zgR n f 8 a0 2).bind fun x1 => ((fX11_at N n f x1 a1).bind fun x2 => (fX8_seers_14 N n f N a0 (0 : Int32) x2 (0 : Int32))))
set_option maxRecDepth 100000 in
set_option maxHeartbeats 4000000 in
theorem mX8_seers (l : Launch) (G : zG) {N n : Nat} {f : zF} {r : Int32} {a0 : Nat} {a1 : Int32} (h : fX8_seers N n f a0 a1 = some r) : zM l G yX8_seers cX8_seers 5 (some .int) 2 n f [zr G a0, .int a1] (some (.int r)) f := by
  refine zM.of (by decide) (Nat.le_of_ble_eq_true rfl) ?_
  intro p e s m args below meth c locs ls B hS hl
  have he := B.1
  have hb := B.2.1
  have hl : lv_has ls 5 [(0, zr G a0), (1, .int a1)] := hl
  unfold fX8_seers at h
  generalize s.heap = H at hS ⊢
  refine lv_iconst (v := (0 : Int32)) he hb dX8_seers_0 (by decide) ?_
  refine lv_istore_n (lv' := [(2, _), (0, _), (1, _)]) he hb dX8_seers_1 rfl hl (by decide) rfl (fun ls hl => ?_)
  refine z_aload_n he hb dX8_seers_2 rfl (lv_at hl 1 rfl) (zref_r _ _) ?_
  obtain ⟨x1, hx, h⟩ := zob h
  refine z_getR (ci := 8) (T := TX8) (N := 9) (j := 2) B hS hx rfl zin_X8 (by decide) zk_254 dX8_seers_3 ?_
  refine lv_iload_n he hb dX8_seers_6 rfl (lv_at hl 2 rfl) ?_
  obtain ⟨x2, hx, h⟩ := zob h
  refine z_callN (rest := []) B hS (mX11_at l G hx) zy_X11_at zkn_710 (by decide) rfl hl rfl (Nat.le_of_ble_eq_true rfl) dX8_seers_7 (kk := (fun H locs hS => ?_))
  refine lv_istore_n (lv' := [(3, _), (2, _), (0, _), (1, _)]) he hb dX8_seers_10 rfl hl (by decide) rfl (fun ls hl => ?_)
  refine lv_iconst (v := (0 : Int32)) he hb dX8_seers_11 (by decide) ?_
  refine lv_istore (lv' := [(4, _), (3, _), (2, _), (0, _), (1, _)]) he hb dX8_seers_12 hl (by decide) rfl (fun ls hl => ?_)
  exact gX8_seers_14 l B N _ _ _ _ _ _ _ h hS (lv_sub hl [3, 2, 1, 0] rfl)
theorem dX8_faceTo_0 : decode cX8_faceTo 0 = .ok (.aload_n 0, 1) := by decide +kernel
theorem dX8_faceTo_1 : decode cX8_faceTo 1 = .ok (.iload_n 1, 1) := by decide +kernel
theorem dX8_faceTo_2 : decode cX8_faceTo 2 = .ok (.invokevirtual 126, 3) := by decide +kernel
theorem dX8_faceTo_5 : decode cX8_faceTo 5 = .ok (.ifCond .eq 5, 3) := by decide +kernel
theorem dX8_faceTo_8 : decode cX8_faceTo 8 = .ok (.iconst 1, 1) := by decide +kernel
theorem dX8_faceTo_9 : decode cX8_faceTo 9 = .ok (.ireturn, 1) := by decide +kernel
theorem dX8_faceTo_10 : decode cX8_faceTo 10 = .ok (.aload_n 0, 1) := by decide +kernel
theorem dX8_faceTo_11 : decode cX8_faceTo 11 = .ok (.getfield 15, 3) := by decide +kernel
theorem dX8_faceTo_14 : decode cX8_faceTo 14 = .ok (.iload_n 1, 1) := by decide +kernel
theorem dX8_faceTo_15 : decode cX8_faceTo 15 = .ok (.invokestatic 57, 3) := by decide +kernel
theorem dX8_faceTo_18 : decode cX8_faceTo 18 = .ok (.iload_n 2, 1) := by decide +kernel
theorem dX8_faceTo_19 : decode cX8_faceTo 19 = .ok (.if_icmp .ne 5, 3) := by decide +kernel
theorem dX8_faceTo_22 : decode cX8_faceTo 22 = .ok (.iconst 2, 1) := by decide +kernel
theorem dX8_faceTo_23 : decode cX8_faceTo 23 = .ok (.ireturn, 1) := by decide +kernel
theorem dX8_faceTo_24 : decode cX8_faceTo 24 = .ok (.aload_n 0, 1) := by decide +kernel
theorem dX8_faceTo_25 : decode cX8_faceTo 25 = .ok (.getfield 15, 3) := by decide +kernel
theorem dX8_faceTo_28 : decode cX8_faceTo 28 = .ok (.iload_n 1, 1) := by decide +kernel
theorem dX8_faceTo_29 : decode cX8_faceTo 29 = .ok (.iload_n 2, 1) := by decide +kernel
theorem dX8_faceTo_30 : decode cX8_faceTo 30 = .ok (.invokestatic 61, 3) := by decide +kernel
theorem dX8_faceTo_33 : decode cX8_faceTo 33 = .ok (.iconst 0, 1) := by decide +kernel
theorem dX8_faceTo_34 : decode cX8_faceTo 34 = .ok (.ireturn, 1) := by decide +kernel
def fX8_faceTo (N n : Nat) (f : zF) (a0 : Nat) (a1 : Int32) (a2 : Int32) : Option (zF × Int32) :=
    ((zck n f 8 a0).bind fun _ => ((fX8_seers N n f a0 a1).bind fun x1 => (if x1 = 0 then ((zgR n f 8 a0 3).bind fun x2 => ((fX11_at N n f x2 a1).bind fun x3 => (if x3 = a2 then some (f, (2 : Int32)) else ((zgR n f 8 a0 3).bind fun x4 => ((fX11_put N n f x4 a1 a2).bind fun f5 => some (f5, (0 : Int32))))))) else some (f, (1 : Int32)))))
set_option maxRecDepth 100000 in
set_option maxHeartbeats 4000000 in
theorem mX8_faceTo (l : Launch) (G : zG) {N n : Nat} {f : zF} {f9 : zF} {r : Int32} {a0 : Nat} {a1 : Int32} {a2 : Int32} (h : fX8_faceTo N n f a0 a1 a2 = some (f9, r)) : zM l G yX8_faceTo cX8_faceTo 3 (some .int) 3 n f [zr G a0, .int a1, .int a2] (some (.int r)) f9 := by
  refine zM.of (by decide) (Nat.le_of_ble_eq_true rfl) ?_
  intro p e s m args below meth c locs ls B hS hl
  have he := B.1
  have hb := B.2.1
  have hl : lv_has ls 3 [(0, zr G a0), (1, .int a1), (2, .int a2)] := hl
  unfold fX8_faceTo at h
  generalize s.heap = H at hS ⊢
  refine z_aload_n he hb dX8_faceTo_0 rfl (lv_at hl 0 rfl) (zref_r _ _) ?_
  refine lv_iload_n he hb dX8_faceTo_1 rfl (lv_at hl 1 rfl) ?_
  obtain ⟨_, hc, h⟩ := zob h
  obtain ⟨x1, hx, h⟩ := zob h
  refine z_callV (ci := 8) (T := TX8) (N := 9) (rest := []) B hS (mX8_seers l G hx) zy_X8_seers zk_880 (by decide) hc rfl rfl hl rfl (Nat.le_of_ble_eq_true rfl) dX8_faceTo_2 (kk := (fun H locs hS => ?_))
  refine lv_if_eq (tgt := 10) he hb dX8_faceTo_5 (by decide) (fun hc => ?_) (fun hc => ?_)
  · rw [if_pos hc] at h
    refine z_aload_n he hb dX8_faceTo_10 rfl (lv_at hl 0 rfl) (zref_r _ _) ?_
    obtain ⟨x2, hx, h⟩ := zob h
    refine z_getR (ci := 8) (T := TX8) (N := 9) (j := 3) B hS hx rfl zin_X8 (by decide) zk_258 dX8_faceTo_11 ?_
    refine lv_iload_n he hb dX8_faceTo_14 rfl (lv_at hl 1 rfl) ?_
    obtain ⟨x3, hx, h⟩ := zob h
    refine z_callN (rest := []) B hS (mX11_at l G hx) zy_X11_at zkn_710 (by decide) rfl hl rfl (Nat.le_of_ble_eq_true rfl) dX8_faceTo_15 (kk := (fun H locs hS => ?_))
    refine lv_iload_n he hb dX8_faceTo_18 rfl (lv_at hl 2 rfl) ?_
    refine lv_icmp_ne (tgt := 24) he hb dX8_faceTo_19 (by decide) (fun hc => ?_) (fun hc => ?_)
    · rw [if_neg hc] at h
      refine z_aload_n he hb dX8_faceTo_24 rfl (lv_at hl 0 rfl) (zref_r _ _) ?_
      obtain ⟨x4, hx, h⟩ := zob h
      refine z_getR (ci := 8) (T := TX8) (N := 9) (j := 3) B hS hx rfl zin_X8 (by decide) zk_258 dX8_faceTo_25 ?_
      refine lv_iload_n he hb dX8_faceTo_28 rfl (lv_at hl 1 rfl) ?_
      refine lv_iload_n he hb dX8_faceTo_29 rfl (lv_at hl 2 rfl) ?_
      obtain ⟨f5, hx, h⟩ := zob h
      refine z_callN (rest := []) B hS (mX11_put l G hx) zy_X11_put zkn_711 (by decide) rfl hl rfl (Nat.le_of_ble_eq_true rfl) dX8_faceTo_30 (kk := (fun H locs hS => ?_))
      refine lv_iconst (v := (0 : Int32)) he hb dX8_faceTo_33 (by decide) ?_
      obtain ⟨rfl, rfl⟩ := Prod.mk.inj (Option.some.inj h)
      exact z_iret B hS dX8_faceTo_34
    · rw [if_pos hc] at h
      refine lv_iconst (v := (2 : Int32)) he hb dX8_faceTo_22 (by decide) ?_
      obtain ⟨rfl, rfl⟩ := Prod.mk.inj (Option.some.inj h)
      exact z_iret B hS dX8_faceTo_23
  · rw [if_neg hc] at h
    refine lv_iconst (v := (1 : Int32)) he hb dX8_faceTo_8 (by decide) ?_
    obtain ⟨rfl, rfl⟩ := Prod.mk.inj (Option.some.inj h)
    exact z_iret B hS dX8_faceTo_9
theorem dX8_canGo_0 : decode cX8_canGo 0 = .ok (.aload_n 0, 1) := by decide +kernel
theorem dX8_canGo_1 : decode cX8_canGo 1 = .ok (.getfield 33, 3) := by decide +kernel
theorem dX8_canGo_4 : decode cX8_canGo 4 = .ok (.aload_n 0, 1) := by decide +kernel
theorem dX8_canGo_5 : decode cX8_canGo 5 = .ok (.getfield 9, 3) := by decide +kernel
theorem dX8_canGo_8 : decode cX8_canGo 8 = .ok (.iload_n 1, 1) := by decide +kernel
theorem dX8_canGo_9 : decode cX8_canGo 9 = .ok (.invokestatic 57, 3) := by decide +kernel
theorem dX8_canGo_12 : decode cX8_canGo 12 = .ok (.aload_n 0, 1) := by decide +kernel
theorem dX8_canGo_13 : decode cX8_canGo 13 = .ok (.getfield 15, 3) := by decide +kernel
theorem dX8_canGo_16 : decode cX8_canGo 16 = .ok (.iload_n 1, 1) := by decide +kernel
theorem dX8_canGo_17 : decode cX8_canGo 17 = .ok (.invokestatic 57, 3) := by decide +kernel
theorem dX8_canGo_20 : decode cX8_canGo 20 = .ok (.invokevirtual 109, 3) := by decide +kernel
theorem dX8_canGo_23 : decode cX8_canGo 23 = .ok (.istore_n 2, 1) := by decide +kernel
theorem dX8_canGo_24 : decode cX8_canGo 24 = .ok (.iload_n 2, 1) := by decide +kernel
theorem dX8_canGo_25 : decode cX8_canGo 25 = .ok (.iconst (-1), 1) := by decide +kernel
theorem dX8_canGo_26 : decode cX8_canGo 26 = .ok (.if_icmp .eq 36, 3) := by decide +kernel
theorem dX8_canGo_29 : decode cX8_canGo 29 = .ok (.aload_n 0, 1) := by decide +kernel
theorem dX8_canGo_30 : decode cX8_canGo 30 = .ok (.getfield 33, 3) := by decide +kernel
theorem dX8_canGo_33 : decode cX8_canGo 33 = .ok (.iload_n 2, 1) := by decide +kernel
theorem dX8_canGo_34 : decode cX8_canGo 34 = .ok (.invokevirtual 105, 3) := by decide +kernel
theorem dX8_canGo_37 : decode cX8_canGo 37 = .ok (.ifCond .ne 25, 3) := by decide +kernel
theorem dX8_canGo_40 : decode cX8_canGo 40 = .ok (.aload_n 0, 1) := by decide +kernel
theorem dX8_canGo_41 : decode cX8_canGo 41 = .ok (.iload_n 2, 1) := by decide +kernel
theorem dX8_canGo_42 : decode cX8_canGo 42 = .ok (.invokevirtual 87, 3) := by decide +kernel
theorem dX8_canGo_45 : decode cX8_canGo 45 = .ok (.iconst (-1), 1) := by decide +kernel
theorem dX8_canGo_46 : decode cX8_canGo 46 = .ok (.if_icmp .ne 16, 3) := by decide +kernel
theorem dX8_canGo_49 : decode cX8_canGo 49 = .ok (.aload_n 0, 1) := by decide +kernel
theorem dX8_canGo_50 : decode cX8_canGo 50 = .ok (.iload_n 2, 1) := by decide +kernel
theorem dX8_canGo_51 : decode cX8_canGo 51 = .ok (.invokevirtual 90, 3) := by decide +kernel
theorem dX8_canGo_54 : decode cX8_canGo 54 = .ok (.iconst (-1), 1) := by decide +kernel
theorem dX8_canGo_55 : decode cX8_canGo 55 = .ok (.if_icmp .ne 7, 3) := by decide +kernel
theorem dX8_canGo_58 : decode cX8_canGo 58 = .ok (.iconst 1, 1) := by decide +kernel
theorem dX8_canGo_59 : decode cX8_canGo 59 = .ok (.goto 4, 3) := by decide +kernel
theorem dX8_canGo_62 : decode cX8_canGo 62 = .ok (.iconst 0, 1) := by decide +kernel
theorem dX8_canGo_63 : decode cX8_canGo 63 = .ok (.ireturn, 1) := by decide +kernel
def fX8_canGo (N n : Nat) (f : zF) (a0 : Nat) (a1 : Int32) : Option Int32 :=
    ((zgR n f 8 a0 0).bind fun x1 => ((zgR n f 8 a0 2).bind fun x2 => ((fX11_at N n f x2 a1).bind fun x3 => ((zgR n f 8 a0 3).bind fun x4 => ((fX11_at N n f x4 a1).bind fun x5 => ((zck n f 2 x1).bind fun _ => ((fX2_beside N n f x1 x3 x5).bind fun x6 => (if x6 = (-1 : Int32) then zbl (0 : Int32) else ((zgR n f 8 a0 0).bind fun x7 => ((zck n f 2 x7).bind fun _ => ((fX2_hasHedge N n f x7 x6).bind fun x8 => (if x8 = 0 then ((zck n f 8 a0).bind fun _ => ((fX8_figureIn N n f a0 x6).bind fun x9 => (if x9 = (-1 : Int32) then ((zck n f 8 a0).bind fun _ => ((fX8_lookerIn N n f a0 x6).bind fun x10 => (if x10 = (-1 : Int32) then zbl (1 : Int32) else zbl (0 : Int32)))) else zbl (0 : Int32)))) else zbl (0 : Int32)))))))))))))
set_option maxRecDepth 100000 in
set_option maxHeartbeats 4000000 in
theorem mX8_canGo (l : Launch) (G : zG) {N n : Nat} {f : zF} {r : Int32} {a0 : Nat} {a1 : Int32} (h : fX8_canGo N n f a0 a1 = some r) : zM l G yX8_canGo cX8_canGo 3 (some .boolean) 1 n f [zr G a0, .int a1] (some (.int r)) f := by
  refine zM.of (by decide) (Nat.le_of_ble_eq_true rfl) ?_
  intro p e s m args below meth c locs ls B hS hl
  have he := B.1
  have hb := B.2.1
  have hl : lv_has ls 3 [(0, zr G a0), (1, .int a1)] := hl
  unfold fX8_canGo at h
  generalize s.heap = H at hS ⊢
  refine z_aload_n he hb dX8_canGo_0 rfl (lv_at hl 0 rfl) (zref_r _ _) ?_
  obtain ⟨x1, hx, h⟩ := zob h
  refine z_getR (ci := 8) (T := TX8) (N := 9) (j := 0) B hS hx rfl zin_X8 (by decide) zk_248 dX8_canGo_1 ?_
  refine z_aload_n he hb dX8_canGo_4 rfl (lv_at hl 0 rfl) (zref_r _ _) ?_
  obtain ⟨x2, hx, h⟩ := zob h
  refine z_getR (ci := 8) (T := TX8) (N := 9) (j := 2) B hS hx rfl zin_X8 (by decide) zk_254 dX8_canGo_5 ?_
  refine lv_iload_n he hb dX8_canGo_8 rfl (lv_at hl 1 rfl) ?_
  obtain ⟨x3, hx, h⟩ := zob h
  refine z_callN (rest := [_]) B hS (mX11_at l G hx) zy_X11_at zkn_710 (by decide) rfl hl rfl (Nat.le_of_ble_eq_true rfl) dX8_canGo_9 (kk := (fun H locs hS => ?_))
  refine z_aload_n he hb dX8_canGo_12 rfl (lv_at hl 0 rfl) (zref_r _ _) ?_
  obtain ⟨x4, hx, h⟩ := zob h
  refine z_getR (ci := 8) (T := TX8) (N := 9) (j := 3) B hS hx rfl zin_X8 (by decide) zk_258 dX8_canGo_13 ?_
  refine lv_iload_n he hb dX8_canGo_16 rfl (lv_at hl 1 rfl) ?_
  obtain ⟨x5, hx, h⟩ := zob h
  refine z_callN (rest := [_, _]) B hS (mX11_at l G hx) zy_X11_at zkn_710 (by decide) rfl hl rfl (Nat.le_of_ble_eq_true rfl) dX8_canGo_17 (kk := (fun H locs hS => ?_))
  obtain ⟨_, hc, h⟩ := zob h
  obtain ⟨x6, hx, h⟩ := zob h
  refine z_callV (ci := 2) (T := TX2) (N := 15) (rest := []) B hS (mX2_beside l G hx) zy_X2_beside zk_772 (by decide) hc rfl rfl hl rfl (Nat.le_of_ble_eq_true rfl) dX8_canGo_20 (kk := (fun H locs hS => ?_))
  refine lv_istore_n (lv' := [(2, _), (0, _), (1, _)]) he hb dX8_canGo_23 rfl hl (by decide) rfl (fun ls hl => ?_)
  refine lv_iload_n he hb dX8_canGo_24 rfl (lv_at hl 0 rfl) ?_
  refine lv_iconst (v := (-1 : Int32)) he hb dX8_canGo_25 (by decide) ?_
  refine lv_icmp_eq (tgt := 62) he hb dX8_canGo_26 (by decide) (fun hc => ?_) (fun hc => ?_)
  · rw [if_pos hc] at h
    refine lv_iconst (v := (0 : Int32)) he hb dX8_canGo_62 (by decide) ?_
    obtain ⟨hz, rfl⟩ := zbl_i h
    exact z_zret B hS hz dX8_canGo_63
  · rw [if_neg hc] at h
    refine z_aload_n he hb dX8_canGo_29 rfl (lv_at hl 1 rfl) (zref_r _ _) ?_
    obtain ⟨x7, hx, h⟩ := zob h
    refine z_getR (ci := 8) (T := TX8) (N := 9) (j := 0) B hS hx rfl zin_X8 (by decide) zk_248 dX8_canGo_30 ?_
    refine lv_iload_n he hb dX8_canGo_33 rfl (lv_at hl 0 rfl) ?_
    obtain ⟨_, hc, h⟩ := zob h
    obtain ⟨x8, hx, h⟩ := zob h
    refine z_callV (ci := 2) (T := TX2) (N := 15) (rest := []) B hS (mX2_hasHedge l G hx) zy_X2_hasHedge zk_771 (by decide) hc rfl rfl hl rfl (Nat.le_of_ble_eq_true rfl) dX8_canGo_34 (kk := (fun H locs hS => ?_))
    refine lv_if_ne (tgt := 62) he hb dX8_canGo_37 (by decide) (fun hc => ?_) (fun hc => ?_)
    · rw [if_neg hc] at h
      refine lv_iconst (v := (0 : Int32)) he hb dX8_canGo_62 (by decide) ?_
      obtain ⟨hz, rfl⟩ := zbl_i h
      exact z_zret B hS hz dX8_canGo_63
    · rw [if_pos hc] at h
      refine z_aload_n he hb dX8_canGo_40 rfl (lv_at hl 1 rfl) (zref_r _ _) ?_
      refine lv_iload_n he hb dX8_canGo_41 rfl (lv_at hl 0 rfl) ?_
      obtain ⟨_, hc, h⟩ := zob h
      obtain ⟨x9, hx, h⟩ := zob h
      refine z_callV (ci := 8) (T := TX8) (N := 9) (rest := []) B hS (mX8_figureIn l G hx) zy_X8_figureIn zk_645 (by decide) hc rfl rfl hl rfl (Nat.le_of_ble_eq_true rfl) dX8_canGo_42 (kk := (fun H locs hS => ?_))
      refine lv_iconst (v := (-1 : Int32)) he hb dX8_canGo_45 (by decide) ?_
      refine lv_icmp_ne (tgt := 62) he hb dX8_canGo_46 (by decide) (fun hc => ?_) (fun hc => ?_)
      · rw [if_neg hc] at h
        refine lv_iconst (v := (0 : Int32)) he hb dX8_canGo_62 (by decide) ?_
        obtain ⟨hz, rfl⟩ := zbl_i h
        exact z_zret B hS hz dX8_canGo_63
      · rw [if_pos hc] at h
        refine z_aload_n he hb dX8_canGo_49 rfl (lv_at hl 1 rfl) (zref_r _ _) ?_
        refine lv_iload_n he hb dX8_canGo_50 rfl (lv_at hl 0 rfl) ?_
        obtain ⟨_, hc, h⟩ := zob h
        obtain ⟨x10, hx, h⟩ := zob h
        refine z_callV (ci := 8) (T := TX8) (N := 9) (rest := []) B hS (mX8_lookerIn l G hx) zy_X8_lookerIn zk_649 (by decide) hc rfl rfl hl rfl (Nat.le_of_ble_eq_true rfl) dX8_canGo_51 (kk := (fun H locs hS => ?_))
        refine lv_iconst (v := (-1 : Int32)) he hb dX8_canGo_54 (by decide) ?_
        refine lv_icmp_ne (tgt := 62) he hb dX8_canGo_55 (by decide) (fun hc => ?_) (fun hc => ?_)
        · rw [if_neg hc] at h
          refine lv_iconst (v := (0 : Int32)) he hb dX8_canGo_62 (by decide) ?_
          obtain ⟨hz, rfl⟩ := zbl_i h
          exact z_zret B hS hz dX8_canGo_63
        · rw [if_pos hc] at h
          refine lv_iconst (v := (1 : Int32)) he hb dX8_canGo_58 (by decide) ?_
          refine lv_goto (tgt := 63) he hb dX8_canGo_59 (by decide) ?_
          obtain ⟨hz, rfl⟩ := zbl_i h
          exact z_zret B hS hz dX8_canGo_63
theorem dX8_goOrTurn_0 : decode cX8_goOrTurn 0 = .ok (.aload_n 0, 1) := by decide +kernel
theorem dX8_goOrTurn_1 : decode cX8_goOrTurn 1 = .ok (.iload_n 1, 1) := by decide +kernel
theorem dX8_goOrTurn_2 : decode cX8_goOrTurn 2 = .ok (.invokevirtual 133, 3) := by decide +kernel
theorem dX8_goOrTurn_5 : decode cX8_goOrTurn 5 = .ok (.ifCond .eq 76, 3) := by decide +kernel
theorem dX8_goOrTurn_8 : decode cX8_goOrTurn 8 = .ok (.aload_n 0, 1) := by decide +kernel
theorem dX8_goOrTurn_9 : decode cX8_goOrTurn 9 = .ok (.getfield 33, 3) := by decide +kernel
theorem dX8_goOrTurn_12 : decode cX8_goOrTurn 12 = .ok (.aload_n 0, 1) := by decide +kernel
theorem dX8_goOrTurn_13 : decode cX8_goOrTurn 13 = .ok (.getfield 9, 3) := by decide +kernel
theorem dX8_goOrTurn_16 : decode cX8_goOrTurn 16 = .ok (.iload_n 1, 1) := by decide +kernel
theorem dX8_goOrTurn_17 : decode cX8_goOrTurn 17 = .ok (.invokestatic 57, 3) := by decide +kernel
theorem dX8_goOrTurn_20 : decode cX8_goOrTurn 20 = .ok (.aload_n 0, 1) := by decide +kernel
theorem dX8_goOrTurn_21 : decode cX8_goOrTurn 21 = .ok (.getfield 15, 3) := by decide +kernel
theorem dX8_goOrTurn_24 : decode cX8_goOrTurn 24 = .ok (.iload_n 1, 1) := by decide +kernel
theorem dX8_goOrTurn_25 : decode cX8_goOrTurn 25 = .ok (.invokestatic 57, 3) := by decide +kernel
theorem dX8_goOrTurn_28 : decode cX8_goOrTurn 28 = .ok (.invokevirtual 109, 3) := by decide +kernel
theorem dX8_goOrTurn_31 : decode cX8_goOrTurn 31 = .ok (.istore_n 2, 1) := by decide +kernel
theorem dX8_goOrTurn_32 : decode cX8_goOrTurn 32 = .ok (.aload_n 0, 1) := by decide +kernel
theorem dX8_goOrTurn_33 : decode cX8_goOrTurn 33 = .ok (.getfield 9, 3) := by decide +kernel
theorem dX8_goOrTurn_36 : decode cX8_goOrTurn 36 = .ok (.iload_n 1, 1) := by decide +kernel
theorem dX8_goOrTurn_37 : decode cX8_goOrTurn 37 = .ok (.iload_n 2, 1) := by decide +kernel
theorem dX8_goOrTurn_38 : decode cX8_goOrTurn 38 = .ok (.invokestatic 61, 3) := by decide +kernel
theorem dX8_goOrTurn_41 : decode cX8_goOrTurn 41 = .ok (.aload_n 0, 1) := by decide +kernel
theorem dX8_goOrTurn_42 : decode cX8_goOrTurn 42 = .ok (.getfield 18, 3) := by decide +kernel
theorem dX8_goOrTurn_45 : decode cX8_goOrTurn 45 = .ok (.iload_n 1, 1) := by decide +kernel
theorem dX8_goOrTurn_46 : decode cX8_goOrTurn 46 = .ok (.aload_n 0, 1) := by decide +kernel
theorem dX8_goOrTurn_47 : decode cX8_goOrTurn 47 = .ok (.getfield 18, 3) := by decide +kernel
theorem dX8_goOrTurn_50 : decode cX8_goOrTurn 50 = .ok (.iload_n 1, 1) := by decide +kernel
theorem dX8_goOrTurn_51 : decode cX8_goOrTurn 51 = .ok (.invokestatic 57, 3) := by decide +kernel
theorem dX8_goOrTurn_54 : decode cX8_goOrTurn 54 = .ok (.iconst 1, 1) := by decide +kernel
theorem dX8_goOrTurn_55 : decode cX8_goOrTurn 55 = .ok (.iadd, 1) := by decide +kernel
theorem dX8_goOrTurn_56 : decode cX8_goOrTurn 56 = .ok (.invokestatic 61, 3) := by decide +kernel
theorem dX8_goOrTurn_59 : decode cX8_goOrTurn 59 = .ok (.aload_n 0, 1) := by decide +kernel
theorem dX8_goOrTurn_60 : decode cX8_goOrTurn 60 = .ok (.getfield 30, 3) := by decide +kernel
theorem dX8_goOrTurn_63 : decode cX8_goOrTurn 63 = .ok (.iload_n 2, 1) := by decide +kernel
theorem dX8_goOrTurn_64 : decode cX8_goOrTurn 64 = .ok (.aload_n 0, 1) := by decide +kernel
theorem dX8_goOrTurn_65 : decode cX8_goOrTurn 65 = .ok (.getfield 33, 3) := by decide +kernel
theorem dX8_goOrTurn_68 : decode cX8_goOrTurn 68 = .ok (.getfield 68, 3) := by decide +kernel
theorem dX8_goOrTurn_71 : decode cX8_goOrTurn 71 = .ok (.iload_n 1, 1) := by decide +kernel
theorem dX8_goOrTurn_72 : decode cX8_goOrTurn 72 = .ok (.invokestatic 57, 3) := by decide +kernel
theorem dX8_goOrTurn_75 : decode cX8_goOrTurn 75 = .ok (.invokestatic 61, 3) := by decide +kernel
theorem dX8_goOrTurn_78 : decode cX8_goOrTurn 78 = .ok (.goto 23, 3) := by decide +kernel
theorem dX8_goOrTurn_81 : decode cX8_goOrTurn 81 = .ok (.aload_n 0, 1) := by decide +kernel
theorem dX8_goOrTurn_82 : decode cX8_goOrTurn 82 = .ok (.getfield 15, 3) := by decide +kernel
theorem dX8_goOrTurn_85 : decode cX8_goOrTurn 85 = .ok (.iload_n 1, 1) := by decide +kernel
theorem dX8_goOrTurn_86 : decode cX8_goOrTurn 86 = .ok (.aload_n 0, 1) := by decide +kernel
theorem dX8_goOrTurn_87 : decode cX8_goOrTurn 87 = .ok (.getfield 15, 3) := by decide +kernel
theorem dX8_goOrTurn_90 : decode cX8_goOrTurn 90 = .ok (.iload_n 1, 1) := by decide +kernel
theorem dX8_goOrTurn_91 : decode cX8_goOrTurn 91 = .ok (.invokestatic 57, 3) := by decide +kernel
theorem dX8_goOrTurn_94 : decode cX8_goOrTurn 94 = .ok (.iconst 1, 1) := by decide +kernel
theorem dX8_goOrTurn_95 : decode cX8_goOrTurn 95 = .ok (.iadd, 1) := by decide +kernel
theorem dX8_goOrTurn_96 : decode cX8_goOrTurn 96 = .ok (.iconst 3, 1) := by decide +kernel
theorem dX8_goOrTurn_97 : decode cX8_goOrTurn 97 = .ok (.iand, 1) := by decide +kernel
theorem dX8_goOrTurn_98 : decode cX8_goOrTurn 98 = .ok (.invokestatic 61, 3) := by decide +kernel
theorem dX8_goOrTurn_101 : decode cX8_goOrTurn 101 = .ok (.return_, 1) := by decide +kernel
def fX8_goOrTurn (N n : Nat) (f : zF) (a0 : Nat) (a1 : Int32) : Option zF :=
    ((zck n f 8 a0).bind fun _ => ((fX8_canGo N n f a0 a1).bind fun x1 => (if x1 = 0 then ((zgR n f 8 a0 3).bind fun x2 => ((zgR n f 8 a0 3).bind fun x3 => ((fX11_at N n f x3 a1).bind fun x4 => ((fX11_put N n f x2 a1 ((x4 + (1 : Int32)) &&& (3 : Int32))).bind fun f5 => some f5)))) else ((zgR n f 8 a0 0).bind fun x6 => ((zgR n f 8 a0 2).bind fun x7 => ((fX11_at N n f x7 a1).bind fun x8 => ((zgR n f 8 a0 3).bind fun x9 => ((fX11_at N n f x9 a1).bind fun x10 => ((zck n f 2 x6).bind fun _ => ((fX2_beside N n f x6 x8 x10).bind fun x11 => ((zgR n f 8 a0 2).bind fun x12 => ((fX11_put N n f x12 a1 x11).bind fun f13 => ((zgR n f13 8 a0 4).bind fun x14 => ((zgR n f13 8 a0 4).bind fun x15 => ((fX11_at N n f13 x15 a1).bind fun x16 => ((fX11_put N n f13 x14 a1 (x16 + (1 : Int32))).bind fun f17 => ((zgR n f17 8 a0 8).bind fun x18 => ((zgR n f17 8 a0 0).bind fun x19 => ((zgR n f17 2 x19 10).bind fun x20 => ((fX11_at N n f17 x20 a1).bind fun x21 => ((fX11_put N n f17 x18 x11 x21).bind fun f22 => some f22)))))))))))))))))))))
set_option maxRecDepth 100000 in
set_option maxHeartbeats 4000000 in
theorem mX8_goOrTurn (l : Launch) (G : zG) {N n : Nat} {f : zF} {f9 : zF} {a0 : Nat} {a1 : Int32} (h : fX8_goOrTurn N n f a0 a1 = some f9) : zM l G yX8_goOrTurn cX8_goOrTurn 3 (none) 2 n f [zr G a0, .int a1] (none) f9 := by
  refine zM.of (by decide) (Nat.le_of_ble_eq_true rfl) ?_
  intro p e s m args below meth c locs ls B hS hl
  have he := B.1
  have hb := B.2.1
  have hl : lv_has ls 3 [(0, zr G a0), (1, .int a1)] := hl
  unfold fX8_goOrTurn at h
  generalize s.heap = H at hS ⊢
  refine z_aload_n he hb dX8_goOrTurn_0 rfl (lv_at hl 0 rfl) (zref_r _ _) ?_
  refine lv_iload_n he hb dX8_goOrTurn_1 rfl (lv_at hl 1 rfl) ?_
  obtain ⟨_, hc, h⟩ := zob h
  obtain ⟨x1, hx, h⟩ := zob h
  refine z_callV (ci := 8) (T := TX8) (N := 9) (rest := []) B hS (mX8_canGo l G hx) zy_X8_canGo zk_896 (by decide) hc rfl rfl hl rfl (Nat.le_of_ble_eq_true rfl) dX8_goOrTurn_2 (kk := (fun H locs hS => ?_))
  refine lv_if_eq (tgt := 81) he hb dX8_goOrTurn_5 (by decide) (fun hc => ?_) (fun hc => ?_)
  · rw [if_pos hc] at h
    refine z_aload_n he hb dX8_goOrTurn_81 rfl (lv_at hl 0 rfl) (zref_r _ _) ?_
    obtain ⟨x2, hx, h⟩ := zob h
    refine z_getR (ci := 8) (T := TX8) (N := 9) (j := 3) B hS hx rfl zin_X8 (by decide) zk_258 dX8_goOrTurn_82 ?_
    refine lv_iload_n he hb dX8_goOrTurn_85 rfl (lv_at hl 1 rfl) ?_
    refine z_aload_n he hb dX8_goOrTurn_86 rfl (lv_at hl 0 rfl) (zref_r _ _) ?_
    obtain ⟨x3, hx, h⟩ := zob h
    refine z_getR (ci := 8) (T := TX8) (N := 9) (j := 3) B hS hx rfl zin_X8 (by decide) zk_258 dX8_goOrTurn_87 ?_
    refine lv_iload_n he hb dX8_goOrTurn_90 rfl (lv_at hl 1 rfl) ?_
    obtain ⟨x4, hx, h⟩ := zob h
    refine z_callN (rest := [_, _]) B hS (mX11_at l G hx) zy_X11_at zkn_710 (by decide) rfl hl rfl (Nat.le_of_ble_eq_true rfl) dX8_goOrTurn_91 (kk := (fun H locs hS => ?_))
    refine lv_iconst (v := (1 : Int32)) he hb dX8_goOrTurn_94 (by decide) ?_
    refine lv_iadd he hb dX8_goOrTurn_95 ?_
    refine lv_iconst (v := (3 : Int32)) he hb dX8_goOrTurn_96 (by decide) ?_
    refine lv_iand he hb dX8_goOrTurn_97 ?_
    obtain ⟨f5, hx, h⟩ := zob h
    refine z_callN (rest := []) B hS (mX11_put l G hx) zy_X11_put zkn_711 (by decide) rfl hl rfl (Nat.le_of_ble_eq_true rfl) dX8_goOrTurn_98 (kk := (fun H locs hS => ?_))
    obtain rfl := Option.some.inj h
    exact z_vret B hS dX8_goOrTurn_101
  · rw [if_neg hc] at h
    refine z_aload_n he hb dX8_goOrTurn_8 rfl (lv_at hl 0 rfl) (zref_r _ _) ?_
    obtain ⟨x6, hx, h⟩ := zob h
    refine z_getR (ci := 8) (T := TX8) (N := 9) (j := 0) B hS hx rfl zin_X8 (by decide) zk_248 dX8_goOrTurn_9 ?_
    refine z_aload_n he hb dX8_goOrTurn_12 rfl (lv_at hl 0 rfl) (zref_r _ _) ?_
    obtain ⟨x7, hx, h⟩ := zob h
    refine z_getR (ci := 8) (T := TX8) (N := 9) (j := 2) B hS hx rfl zin_X8 (by decide) zk_254 dX8_goOrTurn_13 ?_
    refine lv_iload_n he hb dX8_goOrTurn_16 rfl (lv_at hl 1 rfl) ?_
    obtain ⟨x8, hx, h⟩ := zob h
    refine z_callN (rest := [_]) B hS (mX11_at l G hx) zy_X11_at zkn_710 (by decide) rfl hl rfl (Nat.le_of_ble_eq_true rfl) dX8_goOrTurn_17 (kk := (fun H locs hS => ?_))
    refine z_aload_n he hb dX8_goOrTurn_20 rfl (lv_at hl 0 rfl) (zref_r _ _) ?_
    obtain ⟨x9, hx, h⟩ := zob h
    refine z_getR (ci := 8) (T := TX8) (N := 9) (j := 3) B hS hx rfl zin_X8 (by decide) zk_258 dX8_goOrTurn_21 ?_
    refine lv_iload_n he hb dX8_goOrTurn_24 rfl (lv_at hl 1 rfl) ?_
    obtain ⟨x10, hx, h⟩ := zob h
    refine z_callN (rest := [_, _]) B hS (mX11_at l G hx) zy_X11_at zkn_710 (by decide) rfl hl rfl (Nat.le_of_ble_eq_true rfl) dX8_goOrTurn_25 (kk := (fun H locs hS => ?_))
    obtain ⟨_, hc, h⟩ := zob h
    obtain ⟨x11, hx, h⟩ := zob h
    refine z_callV (ci := 2) (T := TX2) (N := 15) (rest := []) B hS (mX2_beside l G hx) zy_X2_beside zk_772 (by decide) hc rfl rfl hl rfl (Nat.le_of_ble_eq_true rfl) dX8_goOrTurn_28 (kk := (fun H locs hS => ?_))
    refine lv_istore_n (lv' := [(2, _), (0, _), (1, _)]) he hb dX8_goOrTurn_31 rfl hl (by decide) rfl (fun ls hl => ?_)
    refine z_aload_n he hb dX8_goOrTurn_32 rfl (lv_at hl 1 rfl) (zref_r _ _) ?_
    obtain ⟨x12, hx, h⟩ := zob h
    refine z_getR (ci := 8) (T := TX8) (N := 9) (j := 2) B hS hx rfl zin_X8 (by decide) zk_254 dX8_goOrTurn_33 ?_
    refine lv_iload_n he hb dX8_goOrTurn_36 rfl (lv_at hl 2 rfl) ?_
    refine lv_iload_n he hb dX8_goOrTurn_37 rfl (lv_at hl 0 rfl) ?_
    obtain ⟨f13, hx, h⟩ := zob h
    refine z_callN (rest := []) B hS (mX11_put l G hx) zy_X11_put zkn_711 (by decide) rfl hl rfl (Nat.le_of_ble_eq_true rfl) dX8_goOrTurn_38 (kk := (fun H locs hS => ?_))
    refine z_aload_n he hb dX8_goOrTurn_41 rfl (lv_at hl 1 rfl) (zref_r _ _) ?_
    obtain ⟨x14, hx, h⟩ := zob h
    refine z_getR (ci := 8) (T := TX8) (N := 9) (j := 4) B hS hx rfl zin_X8 (by decide) zk_261 dX8_goOrTurn_42 ?_
    refine lv_iload_n he hb dX8_goOrTurn_45 rfl (lv_at hl 2 rfl) ?_
    refine z_aload_n he hb dX8_goOrTurn_46 rfl (lv_at hl 1 rfl) (zref_r _ _) ?_
    obtain ⟨x15, hx, h⟩ := zob h
    refine z_getR (ci := 8) (T := TX8) (N := 9) (j := 4) B hS hx rfl zin_X8 (by decide) zk_261 dX8_goOrTurn_47 ?_
    refine lv_iload_n he hb dX8_goOrTurn_50 rfl (lv_at hl 2 rfl) ?_
    obtain ⟨x16, hx, h⟩ := zob h
    refine z_callN (rest := [_, _]) B hS (mX11_at l G hx) zy_X11_at zkn_710 (by decide) rfl hl rfl (Nat.le_of_ble_eq_true rfl) dX8_goOrTurn_51 (kk := (fun H locs hS => ?_))
    refine lv_iconst (v := (1 : Int32)) he hb dX8_goOrTurn_54 (by decide) ?_
    refine lv_iadd he hb dX8_goOrTurn_55 ?_
    obtain ⟨f17, hx, h⟩ := zob h
    refine z_callN (rest := []) B hS (mX11_put l G hx) zy_X11_put zkn_711 (by decide) rfl hl rfl (Nat.le_of_ble_eq_true rfl) dX8_goOrTurn_56 (kk := (fun H locs hS => ?_))
    refine z_aload_n he hb dX8_goOrTurn_59 rfl (lv_at hl 1 rfl) (zref_r _ _) ?_
    obtain ⟨x18, hx, h⟩ := zob h
    refine z_getR (ci := 8) (T := TX8) (N := 9) (j := 8) B hS hx rfl zin_X8 (by decide) zk_272 dX8_goOrTurn_60 ?_
    refine lv_iload_n he hb dX8_goOrTurn_63 rfl (lv_at hl 0 rfl) ?_
    refine z_aload_n he hb dX8_goOrTurn_64 rfl (lv_at hl 1 rfl) (zref_r _ _) ?_
    obtain ⟨x19, hx, h⟩ := zob h
    refine z_getR (ci := 8) (T := TX8) (N := 9) (j := 0) B hS hx rfl zin_X8 (by decide) zk_248 dX8_goOrTurn_65 ?_
    obtain ⟨x20, hx, h⟩ := zob h
    refine z_getR (ci := 2) (T := TX2) (N := 15) (j := 10) B hS hx rfl zin_X2 (by decide) zk_192 dX8_goOrTurn_68 ?_
    refine lv_iload_n he hb dX8_goOrTurn_71 rfl (lv_at hl 2 rfl) ?_
    obtain ⟨x21, hx, h⟩ := zob h
    refine z_callN (rest := [_, _]) B hS (mX11_at l G hx) zy_X11_at zkn_710 (by decide) rfl hl rfl (Nat.le_of_ble_eq_true rfl) dX8_goOrTurn_72 (kk := (fun H locs hS => ?_))
    obtain ⟨f22, hx, h⟩ := zob h
    refine z_callN (rest := []) B hS (mX11_put l G hx) zy_X11_put zkn_711 (by decide) rfl hl rfl (Nat.le_of_ble_eq_true rfl) dX8_goOrTurn_75 (kk := (fun H locs hS => ?_))
    refine lv_goto (tgt := 101) he hb dX8_goOrTurn_78 (by decide) ?_
    obtain rfl := Option.some.inj h
    exact z_vret B hS dX8_goOrTurn_101
theorem dX8_goHour_0 : decode cX8_goHour 0 = .ok (.iconst 0, 1) := by decide +kernel
theorem dX8_goHour_1 : decode cX8_goHour 1 = .ok (.istore_n 1, 1) := by decide +kernel
theorem dX8_goHour_2 : decode cX8_goHour 2 = .ok (.iload_n 1, 1) := by decide +kernel
theorem dX8_goHour_3 : decode cX8_goHour 3 = .ok (.aload_n 0, 1) := by decide +kernel
theorem dX8_goHour_4 : decode cX8_goHour 4 = .ok (.getfield 33, 3) := by decide +kernel
theorem dX8_goHour_7 : decode cX8_goHour 7 = .ok (.getfield 65, 3) := by decide +kernel
theorem dX8_goHour_10 : decode cX8_goHour 10 = .ok (.if_icmp .ge 45, 3) := by decide +kernel
theorem dX8_goHour_13 : decode cX8_goHour 13 = .ok (.aload_n 0, 1) := by decide +kernel
theorem dX8_goHour_14 : decode cX8_goHour 14 = .ok (.getfield 33, 3) := by decide +kernel
theorem dX8_goHour_17 : decode cX8_goHour 17 = .ok (.getfield 119, 3) := by decide +kernel
theorem dX8_goHour_20 : decode cX8_goHour 20 = .ok (.iload_n 1, 1) := by decide +kernel
theorem dX8_goHour_21 : decode cX8_goHour 21 = .ok (.invokestatic 57, 3) := by decide +kernel
theorem dX8_goHour_24 : decode cX8_goHour 24 = .ok (.aload_n 0, 1) := by decide +kernel
theorem dX8_goHour_25 : decode cX8_goHour 25 = .ok (.getfield 37, 3) := by decide +kernel
theorem dX8_goHour_28 : decode cX8_goHour 28 = .ok (.iconst 1, 1) := by decide +kernel
theorem dX8_goHour_29 : decode cX8_goHour 29 = .ok (.iadd, 1) := by decide +kernel
theorem dX8_goHour_30 : decode cX8_goHour 30 = .ok (.invokestatic 122, 3) := by decide +kernel
theorem dX8_goHour_33 : decode cX8_goHour 33 = .ok (.ifCond .eq 16, 3) := by decide +kernel
theorem dX8_goHour_36 : decode cX8_goHour 36 = .ok (.aload_n 0, 1) := by decide +kernel
theorem dX8_goHour_37 : decode cX8_goHour 37 = .ok (.iload_n 1, 1) := by decide +kernel
theorem dX8_goHour_38 : decode cX8_goHour 38 = .ok (.invokevirtual 126, 3) := by decide +kernel
theorem dX8_goHour_41 : decode cX8_goHour 41 = .ok (.ifCond .ne 8, 3) := by decide +kernel
theorem dX8_goHour_44 : decode cX8_goHour 44 = .ok (.aload_n 0, 1) := by decide +kernel
theorem dX8_goHour_45 : decode cX8_goHour 45 = .ok (.iload_n 1, 1) := by decide +kernel
theorem dX8_goHour_46 : decode cX8_goHour 46 = .ok (.invokevirtual 129, 3) := by decide +kernel
theorem dX8_goHour_49 : decode cX8_goHour 49 = .ok (.iinc 1 1, 3) := by decide +kernel
theorem dX8_goHour_52 : decode cX8_goHour 52 = .ok (.goto (-50), 3) := by decide +kernel
theorem dX8_goHour_55 : decode cX8_goHour 55 = .ok (.aload_n 0, 1) := by decide +kernel
theorem dX8_goHour_56 : decode cX8_goHour 56 = .ok (.dup, 1) := by decide +kernel
theorem dX8_goHour_57 : decode cX8_goHour 57 = .ok (.getfield 37, 3) := by decide +kernel
theorem dX8_goHour_60 : decode cX8_goHour 60 = .ok (.iconst 1, 1) := by decide +kernel
theorem dX8_goHour_61 : decode cX8_goHour 61 = .ok (.iadd, 1) := by decide +kernel
theorem dX8_goHour_62 : decode cX8_goHour 62 = .ok (.putfield 37, 3) := by decide +kernel
theorem dX8_goHour_65 : decode cX8_goHour 65 = .ok (.return_, 1) := by decide +kernel
def fX8_goHour_49 (r2 : zF → Nat → Int32 → Option zF) (N n : Nat) (f : zF) (a0 : Nat) (a1 : Int32) : Option zF :=
    (r2 f a0 (a1 + 1))
set_option maxRecDepth 100000 in
set_option maxHeartbeats 4000000 in
theorem gX8_goHour_49 (l : Launch) {G : zG} {p : Program} {e : Env} {s : State} {m : MethodId} {args : Array Value} {below : List Frame} {meth : Method} {c : Code} {N n : Nat} {f9 : zF} {r2 : zF → Nat → Int32 → Option zF} (B : zB G p s m args meth c RX8 cX8_goHour 2 (none)) (hr2 : ∀ (f : zF) (a0 : Nat) (a1 : Int32) (H : Heap) (locs : List Loc) (ls : Array Slot), r2 f a0 a1 = some f9 → zS G n f H locs → lv_has ls 2 [(0, zr G a0), (1, .int a1)] → W p l e (zrm 3) s m args below meth c H locs 0 0 (MQ below (zQc G n f9 (none)) args s 0 0 (zA G)) (F0 m 2 ls [])) : ∀ (f : zF) (a0 : Nat) (a1 : Int32) (H : Heap) (locs : List Loc) (ls : Array Slot), fX8_goHour_49 r2 N n f a0 a1 = some f9 → zS G n f H locs → lv_has ls 2 [(0, zr G a0), (1, .int a1)] → W p l e (zrm 3) s m args below meth c H locs 0 0 (MQ below (zQc G n f9 (none)) args s 0 0 (zA G)) (F0 m 49 ls []) := by
  have he := B.1
  have hb := B.2.1
  intro f a0 a1 H locs ls h hS hl
  unfold fX8_goHour_49 at h
  refine lv_iinc (v := (a1 + 1)) (lv' := [(1, _), (0, _)]) he hb dX8_goHour_49 hl (k := 1) rfl rfl (by decide) rfl (fun ls hl => ?_)
  refine lv_goto (tgt := 2) he hb dX8_goHour_52 (by decide) ?_
  exact hr2 _ _ _ _ _ _ h hS (lv_sub hl [1, 0] rfl)
def fX8_goHour_2 (N n : Nat) : Nat → zF → Nat → Int32 → Option zF
  | 0, _, _, _ => none
  | k + 1, f, a0, a1 =>
    ((zgR n f 8 a0 0).bind fun x1 => ((zgI n f 2 x1 3).bind fun x2 => (if x2 ≤ a1 then ((zgI n f 8 a0 1).bind fun x3 => ((zpI n f 8 a0 1 (x3 + (1 : Int32))).bind fun f4 => some f4)) else ((zgR n f 8 a0 0).bind fun x5 => ((zgR n f 2 x5 11).bind fun x6 => ((fX11_at N n f x6 a1).bind fun x7 => ((zgI n f 8 a0 1).bind fun x8 => ((fX11_divides N n f x7 (x8 + (1 : Int32))).bind fun x9 => (if x9 = 0 then (fX8_goHour_49 (fX8_goHour_2 N n k) N n f a0 a1) else ((zck n f 8 a0).bind fun _ => ((fX8_seers N n f a0 a1).bind fun x10 => (if x10 = 0 then ((zck n f 8 a0).bind fun _ => ((fX8_goOrTurn N n f a0 a1).bind fun f11 => (fX8_goHour_49 (fX8_goHour_2 N n k) N n f11 a0 a1))) else (fX8_goHour_49 (fX8_goHour_2 N n k) N n f a0 a1)))))))))))))
set_option maxRecDepth 100000 in
set_option maxHeartbeats 4000000 in
theorem gX8_goHour_2 (l : Launch) {G : zG} {p : Program} {e : Env} {s : State} {m : MethodId} {args : Array Value} {below : List Frame} {meth : Method} {c : Code} {N n : Nat} {f9 : zF} (B : zB G p s m args meth c RX8 cX8_goHour 2 (none)) : ∀ (k : Nat), ∀ (f : zF) (a0 : Nat) (a1 : Int32) (H : Heap) (locs : List Loc) (ls : Array Slot), fX8_goHour_2 N n k f a0 a1 = some f9 → zS G n f H locs → lv_has ls 2 [(0, zr G a0), (1, .int a1)] → W p l e (zrm 3) s m args below meth c H locs 0 0 (MQ below (zQc G n f9 (none)) args s 0 0 (zA G)) (F0 m 2 ls []) := by
  have he := B.1
  have hb := B.2.1
  intro k
  induction k with
  | zero =>
    intro f a0 a1 H locs ls h
    unfold fX8_goHour_2 at h
    cases h
  | succ k ih =>
    intro f a0 a1 H locs ls h hS hl
    unfold fX8_goHour_2 at h
    refine lv_iload_n he hb dX8_goHour_2 rfl (lv_at hl 1 rfl) ?_
    refine z_aload_n he hb dX8_goHour_3 rfl (lv_at hl 0 rfl) (zref_r _ _) ?_
    obtain ⟨x1, hx, h⟩ := zob h
    refine z_getR (ci := 8) (T := TX8) (N := 9) (j := 0) B hS hx rfl zin_X8 (by decide) zk_248 dX8_goHour_4 ?_
    obtain ⟨x2, hx, h⟩ := zob h
    refine z_getI (ci := 2) (T := TX2) (N := 15) (j := 3) B hS hx rfl zin_X2 (by decide) zk_165 dX8_goHour_7 ?_
    refine lv_icmp_ge (tgt := 55) he hb dX8_goHour_10 (by decide) (fun hc => ?_) (fun hc => ?_)
    · rw [if_pos hc] at h
      refine z_aload_n he hb dX8_goHour_55 rfl (lv_at hl 0 rfl) (zref_r _ _) ?_
      refine lv_dup he hb dX8_goHour_56 rfl ?_
      obtain ⟨x3, hx, h⟩ := zob h
      refine z_getI (ci := 8) (T := TX8) (N := 9) (j := 1) B hS hx rfl zin_X8 (by decide) zk_250 dX8_goHour_57 ?_
      refine lv_iconst (v := (1 : Int32)) he hb dX8_goHour_60 (by decide) ?_
      refine lv_iadd he hb dX8_goHour_61 ?_
      obtain ⟨f4, hx, h⟩ := zob h
      refine z_putI (ci := 8) (T := TX8) (N := 9) (j := 1) B hS hx rfl zin_X8 tyX8 tyX8_ok nmX8 (by decide) zk_250 rfl rfl dX8_goHour_62 (fun H locs hS => ?_)
      obtain rfl := Option.some.inj h
      exact z_vret B hS dX8_goHour_65
    · rw [if_neg hc] at h
      refine z_aload_n he hb dX8_goHour_13 rfl (lv_at hl 0 rfl) (zref_r _ _) ?_
      obtain ⟨x5, hx, h⟩ := zob h
      refine z_getR (ci := 8) (T := TX8) (N := 9) (j := 0) B hS hx rfl zin_X8 (by decide) zk_248 dX8_goHour_14 ?_
      obtain ⟨x6, hx, h⟩ := zob h
      refine z_getR (ci := 2) (T := TX2) (N := 15) (j := 11) B hS hx rfl zin_X2 (by decide) zk_200 dX8_goHour_17 ?_
      refine lv_iload_n he hb dX8_goHour_20 rfl (lv_at hl 1 rfl) ?_
      obtain ⟨x7, hx, h⟩ := zob h
      refine z_callN (rest := []) B hS (mX11_at l G hx) zy_X11_at zkn_710 (by decide) rfl hl rfl (Nat.le_of_ble_eq_true rfl) dX8_goHour_21 (kk := (fun H locs hS => ?_))
      refine z_aload_n he hb dX8_goHour_24 rfl (lv_at hl 0 rfl) (zref_r _ _) ?_
      obtain ⟨x8, hx, h⟩ := zob h
      refine z_getI (ci := 8) (T := TX8) (N := 9) (j := 1) B hS hx rfl zin_X8 (by decide) zk_250 dX8_goHour_25 ?_
      refine lv_iconst (v := (1 : Int32)) he hb dX8_goHour_28 (by decide) ?_
      refine lv_iadd he hb dX8_goHour_29 ?_
      obtain ⟨x9, hx, h⟩ := zob h
      refine z_callN (rest := []) B hS (mX11_divides l G hx) zy_X11_divides zkn_889 (by decide) rfl hl rfl (Nat.le_of_ble_eq_true rfl) dX8_goHour_30 (kk := (fun H locs hS => ?_))
      refine lv_if_eq (tgt := 49) he hb dX8_goHour_33 (by decide) (fun hc => ?_) (fun hc => ?_)
      · rw [if_pos hc] at h
        exact gX8_goHour_49 l B ih _ _ _ _ _ _ h hS (lv_sub hl [0, 1] rfl)
      · rw [if_neg hc] at h
        refine z_aload_n he hb dX8_goHour_36 rfl (lv_at hl 0 rfl) (zref_r _ _) ?_
        refine lv_iload_n he hb dX8_goHour_37 rfl (lv_at hl 1 rfl) ?_
        obtain ⟨_, hc, h⟩ := zob h
        obtain ⟨x10, hx, h⟩ := zob h
        refine z_callV (ci := 8) (T := TX8) (N := 9) (rest := []) B hS (mX8_seers l G hx) zy_X8_seers zk_880 (by decide) hc rfl rfl hl rfl (Nat.le_of_ble_eq_true rfl) dX8_goHour_38 (kk := (fun H locs hS => ?_))
        refine lv_if_ne (tgt := 49) he hb dX8_goHour_41 (by decide) (fun hc => ?_) (fun hc => ?_)
        · rw [if_neg hc] at h
          exact gX8_goHour_49 l B ih _ _ _ _ _ _ h hS (lv_sub hl [0, 1] rfl)
        · rw [if_pos hc] at h
          refine z_aload_n he hb dX8_goHour_44 rfl (lv_at hl 0 rfl) (zref_r _ _) ?_
          refine lv_iload_n he hb dX8_goHour_45 rfl (lv_at hl 1 rfl) ?_
          obtain ⟨_, hc, h⟩ := zob h
          obtain ⟨f11, hx, h⟩ := zob h
          refine z_callV (ci := 8) (T := TX8) (N := 9) (rest := []) B hS (mX8_goOrTurn l G hx) zy_X8_goOrTurn zk_892 (by decide) hc rfl rfl hl rfl (Nat.le_of_ble_eq_true rfl) dX8_goHour_46 (kk := (fun H locs hS => ?_))
          exact gX8_goHour_49 l B ih _ _ _ _ _ _ h hS (lv_sub hl [0, 1] rfl)
def fX8_goHour (N n : Nat) (f : zF) (a0 : Nat) : Option zF :=
    (fX8_goHour_2 N n N f a0 (0 : Int32))
set_option maxRecDepth 100000 in
set_option maxHeartbeats 4000000 in
theorem mX8_goHour (l : Launch) (G : zG) {N n : Nat} {f : zF} {f9 : zF} {a0 : Nat} (h : fX8_goHour N n f a0 = some f9) : zM l G yX8_goHour cX8_goHour 2 (none) 3 n f [zr G a0] (none) f9 := by
  refine zM.of (by decide) (Nat.le_of_ble_eq_true rfl) ?_
  intro p e s m args below meth c locs ls B hS hl
  have he := B.1
  have hb := B.2.1
  have hl : lv_has ls 2 [(0, zr G a0)] := hl
  unfold fX8_goHour at h
  generalize s.heap = H at hS ⊢
  refine lv_iconst (v := (0 : Int32)) he hb dX8_goHour_0 (by decide) ?_
  refine lv_istore_n (lv' := [(1, _), (0, _)]) he hb dX8_goHour_1 rfl hl (by decide) rfl (fun ls hl => ?_)
  exact gX8_goHour_2 l B N _ _ _ _ _ _ h hS (lv_sub hl [1, 0] rfl)
theorem dX8_landOf_0 : decode cX8_landOf 0 = .ok (.iconst 0, 1) := by decide +kernel
theorem dX8_landOf_1 : decode cX8_landOf 1 = .ok (.istore_n 2, 1) := by decide +kernel
theorem dX8_landOf_2 : decode cX8_landOf 2 = .ok (.iconst 0, 1) := by decide +kernel
theorem dX8_landOf_3 : decode cX8_landOf 3 = .ok (.istore_n 3, 1) := by decide +kernel
theorem dX8_landOf_4 : decode cX8_landOf 4 = .ok (.iload_n 3, 1) := by decide +kernel
theorem dX8_landOf_5 : decode cX8_landOf 5 = .ok (.aload_n 0, 1) := by decide +kernel
theorem dX8_landOf_6 : decode cX8_landOf 6 = .ok (.getfield 30, 3) := by decide +kernel
theorem dX8_landOf_9 : decode cX8_landOf 9 = .ok (.arraylength, 1) := by decide +kernel
theorem dX8_landOf_10 : decode cX8_landOf 10 = .ok (.if_icmp .ge 22, 3) := by decide +kernel
theorem dX8_landOf_13 : decode cX8_landOf 13 = .ok (.aload_n 0, 1) := by decide +kernel
theorem dX8_landOf_14 : decode cX8_landOf 14 = .ok (.getfield 30, 3) := by decide +kernel
theorem dX8_landOf_17 : decode cX8_landOf 17 = .ok (.iload_n 3, 1) := by decide +kernel
theorem dX8_landOf_18 : decode cX8_landOf 18 = .ok (.iaload, 1) := by decide +kernel
theorem dX8_landOf_19 : decode cX8_landOf 19 = .ok (.iload_n 1, 1) := by decide +kernel
theorem dX8_landOf_20 : decode cX8_landOf 20 = .ok (.if_icmp .ne 6, 3) := by decide +kernel
theorem dX8_landOf_23 : decode cX8_landOf 23 = .ok (.iinc 2 1, 3) := by decide +kernel
theorem dX8_landOf_26 : decode cX8_landOf 26 = .ok (.iinc 3 1, 3) := by decide +kernel
theorem dX8_landOf_29 : decode cX8_landOf 29 = .ok (.goto (-25), 3) := by decide +kernel
theorem dX8_landOf_32 : decode cX8_landOf 32 = .ok (.iload_n 2, 1) := by decide +kernel
theorem dX8_landOf_33 : decode cX8_landOf 33 = .ok (.ireturn, 1) := by decide +kernel
def fX8_landOf_26 (r4 : Nat → Int32 → Int32 → Int32 → Option Int32) (N n : Nat) (f : zF) (a0 : Nat) (a1 : Int32) (a2 : Int32) (a3 : Int32) : Option Int32 :=
    (r4 a0 a1 a2 (a3 + 1))
set_option maxRecDepth 100000 in
set_option maxHeartbeats 4000000 in
theorem gX8_landOf_26 (l : Launch) {G : zG} {p : Program} {e : Env} {s : State} {m : MethodId} {args : Array Value} {below : List Frame} {meth : Method} {c : Code} {f : zF} {N n : Nat} {r : Int32} {r4 : Nat → Int32 → Int32 → Int32 → Option Int32} (B : zB G p s m args meth c RX8 cX8_landOf 4 (some .int)) (hr4 : ∀ (a0 : Nat) (a1 : Int32) (a2 : Int32) (a3 : Int32) (H : Heap) (locs : List Loc) (ls : Array Slot), r4 a0 a1 a2 a3 = some r → zS G n f H locs → lv_has ls 4 [(0, zr G a0), (1, .int a1), (2, .int a2), (3, .int a3)] → W p l e (zrm 0) s m args below meth c H locs 0 0 (MQ below (zQc G n f (some (.int r))) args s 0 0 (zA G)) (F0 m 4 ls [])) : ∀ (a0 : Nat) (a1 : Int32) (a2 : Int32) (a3 : Int32) (H : Heap) (locs : List Loc) (ls : Array Slot), fX8_landOf_26 r4 N n f a0 a1 a2 a3 = some r → zS G n f H locs → lv_has ls 4 [(0, zr G a0), (1, .int a1), (2, .int a2), (3, .int a3)] → W p l e (zrm 0) s m args below meth c H locs 0 0 (MQ below (zQc G n f (some (.int r))) args s 0 0 (zA G)) (F0 m 26 ls []) := by
  have he := B.1
  have hb := B.2.1
  intro a0 a1 a2 a3 H locs ls h hS hl
  unfold fX8_landOf_26 at h
  refine lv_iinc (v := (a3 + 1)) (lv' := [(3, _), (0, _), (1, _), (2, _)]) he hb dX8_landOf_26 hl (k := 3) rfl rfl (by decide) rfl (fun ls hl => ?_)
  refine lv_goto (tgt := 4) he hb dX8_landOf_29 (by decide) ?_
  exact hr4 _ _ _ _ _ _ _ h hS (lv_sub hl [1, 2, 3, 0] rfl)
def fX8_landOf_4 (N n : Nat) (f : zF) : Nat → Nat → Int32 → Int32 → Int32 → Option Int32
  | 0, _, _, _, _ => none
  | k + 1, a0, a1, a2, a3 =>
    ((zgR n f 8 a0 8).bind fun x1 => ((zlen n f 0 x1).bind fun x2 => (if x2 ≤ a3 then some a2 else ((zgR n f 8 a0 8).bind fun x3 => ((zlI n f 0 x3 a3).bind fun x4 => (if x4 = a1 then (fX8_landOf_26 (fX8_landOf_4 N n f k) N n f a0 a1 (a2 + 1) a3) else (fX8_landOf_26 (fX8_landOf_4 N n f k) N n f a0 a1 a2 a3)))))))
set_option maxRecDepth 100000 in
set_option maxHeartbeats 4000000 in
theorem gX8_landOf_4 (l : Launch) {G : zG} {p : Program} {e : Env} {s : State} {m : MethodId} {args : Array Value} {below : List Frame} {meth : Method} {c : Code} {f : zF} {N n : Nat} {r : Int32} (B : zB G p s m args meth c RX8 cX8_landOf 4 (some .int)) : ∀ (k : Nat), ∀ (a0 : Nat) (a1 : Int32) (a2 : Int32) (a3 : Int32) (H : Heap) (locs : List Loc) (ls : Array Slot), fX8_landOf_4 N n f k a0 a1 a2 a3 = some r → zS G n f H locs → lv_has ls 4 [(0, zr G a0), (1, .int a1), (2, .int a2), (3, .int a3)] → W p l e (zrm 0) s m args below meth c H locs 0 0 (MQ below (zQc G n f (some (.int r))) args s 0 0 (zA G)) (F0 m 4 ls []) := by
  have he := B.1
  have hb := B.2.1
  intro k
  induction k with
  | zero =>
    intro a0 a1 a2 a3 H locs ls h
    unfold fX8_landOf_4 at h
    cases h
  | succ k ih =>
    intro a0 a1 a2 a3 H locs ls h hS hl
    unfold fX8_landOf_4 at h
    refine lv_iload_n he hb dX8_landOf_4 rfl (lv_at hl 3 rfl) ?_
    refine z_aload_n he hb dX8_landOf_5 rfl (lv_at hl 0 rfl) (zref_r _ _) ?_
    obtain ⟨x1, hx, h⟩ := zob h
    refine z_getR (ci := 8) (T := TX8) (N := 9) (j := 8) B hS hx rfl zin_X8 (by decide) zk_272 dX8_landOf_6 ?_
    obtain ⟨x2, hx, h⟩ := zob h
    refine z_len B hS hx rfl dX8_landOf_9 ?_
    refine lv_icmp_ge (tgt := 32) he hb dX8_landOf_10 (by decide) (fun hc => ?_) (fun hc => ?_)
    · rw [if_pos hc] at h
      refine lv_iload_n he hb dX8_landOf_32 rfl (lv_at hl 2 rfl) ?_
      obtain rfl := Option.some.inj h
      exact z_iret B hS dX8_landOf_33
    · rw [if_neg hc] at h
      refine z_aload_n he hb dX8_landOf_13 rfl (lv_at hl 0 rfl) (zref_r _ _) ?_
      obtain ⟨x3, hx, h⟩ := zob h
      refine z_getR (ci := 8) (T := TX8) (N := 9) (j := 8) B hS hx rfl zin_X8 (by decide) zk_272 dX8_landOf_14 ?_
      refine lv_iload_n he hb dX8_landOf_17 rfl (lv_at hl 3 rfl) ?_
      obtain ⟨x4, hx, h⟩ := zob h
      refine z_ildI B hS hx dX8_landOf_18 ?_
      refine lv_iload_n he hb dX8_landOf_19 rfl (lv_at hl 1 rfl) ?_
      refine lv_icmp_ne (tgt := 26) he hb dX8_landOf_20 (by decide) (fun hc => ?_) (fun hc => ?_)
      · rw [if_neg hc] at h
        exact gX8_landOf_26 l B ih _ _ _ _ _ _ _ h hS (lv_sub hl [0, 1, 2, 3] rfl)
      · rw [if_pos hc] at h
        refine lv_iinc (v := (a2 + 1)) (lv' := [(2, _), (0, _), (1, _), (3, _)]) he hb dX8_landOf_23 hl (k := 2) rfl rfl (by decide) rfl (fun ls hl => ?_)
        exact gX8_landOf_26 l B ih _ _ _ _ _ _ _ h hS (lv_sub hl [1, 2, 0, 3] rfl)
def fX8_landOf (N n : Nat) (f : zF) (a0 : Nat) (a1 : Int32) : Option Int32 :=
    (fX8_landOf_4 N n f N a0 a1 (0 : Int32) (0 : Int32))
set_option maxRecDepth 100000 in
set_option maxHeartbeats 4000000 in
theorem mX8_landOf (l : Launch) (G : zG) {N n : Nat} {f : zF} {r : Int32} {a0 : Nat} {a1 : Int32} (h : fX8_landOf N n f a0 a1 = some r) : zM l G yX8_landOf cX8_landOf 4 (some .int) 0 n f [zr G a0, .int a1] (some (.int r)) f := by
  refine zM.of (by decide) (Nat.le_of_ble_eq_true rfl) ?_
  intro p e s m args below meth c locs ls B hS hl
  have he := B.1
  have hb := B.2.1
  have hl : lv_has ls 4 [(0, zr G a0), (1, .int a1)] := hl
  unfold fX8_landOf at h
  generalize s.heap = H at hS ⊢
  refine lv_iconst (v := (0 : Int32)) he hb dX8_landOf_0 (by decide) ?_
  refine lv_istore_n (lv' := [(2, _), (0, _), (1, _)]) he hb dX8_landOf_1 rfl hl (by decide) rfl (fun ls hl => ?_)
  refine lv_iconst (v := (0 : Int32)) he hb dX8_landOf_2 (by decide) ?_
  refine lv_istore_n (lv' := [(3, _), (2, _), (0, _), (1, _)]) he hb dX8_landOf_3 rfl hl (by decide) rfl (fun ls hl => ?_)
  exact gX8_landOf_4 l B N _ _ _ _ _ _ _ h hS (lv_sub hl [2, 3, 1, 0] rfl)
theorem dX8_begin_0 : decode cX8_begin 0 = .ok (.aload_n 0, 1) := by decide +kernel
theorem dX8_begin_1 : decode cX8_begin 1 = .ok (.iconst 0, 1) := by decide +kernel
theorem dX8_begin_2 : decode cX8_begin 2 = .ok (.putfield 37, 3) := by decide +kernel
theorem dX8_begin_5 : decode cX8_begin 5 = .ok (.aload_n 0, 1) := by decide +kernel
theorem dX8_begin_6 : decode cX8_begin 6 = .ok (.getfield 18, 3) := by decide +kernel
theorem dX8_begin_9 : decode cX8_begin 9 = .ok (.iconst 0, 1) := by decide +kernel
theorem dX8_begin_10 : decode cX8_begin 10 = .ok (.invokestatic 45, 3) := by decide +kernel
theorem dX8_begin_13 : decode cX8_begin 13 = .ok (.aload_n 0, 1) := by decide +kernel
theorem dX8_begin_14 : decode cX8_begin 14 = .ok (.getfield 27, 3) := by decide +kernel
theorem dX8_begin_17 : decode cX8_begin 17 = .ok (.iconst 0, 1) := by decide +kernel
theorem dX8_begin_18 : decode cX8_begin 18 = .ok (.invokestatic 45, 3) := by decide +kernel
theorem dX8_begin_21 : decode cX8_begin 21 = .ok (.aload_n 0, 1) := by decide +kernel
theorem dX8_begin_22 : decode cX8_begin 22 = .ok (.getfield 30, 3) := by decide +kernel
theorem dX8_begin_25 : decode cX8_begin 25 = .ok (.iconst (-1), 1) := by decide +kernel
theorem dX8_begin_26 : decode cX8_begin 26 = .ok (.invokestatic 45, 3) := by decide +kernel
theorem dX8_begin_29 : decode cX8_begin 29 = .ok (.iconst 0, 1) := by decide +kernel
theorem dX8_begin_30 : decode cX8_begin 30 = .ok (.istore_n 2, 1) := by decide +kernel
theorem dX8_begin_31 : decode cX8_begin 31 = .ok (.iload_n 2, 1) := by decide +kernel
theorem dX8_begin_32 : decode cX8_begin 32 = .ok (.aload_n 0, 1) := by decide +kernel
theorem dX8_begin_33 : decode cX8_begin 33 = .ok (.getfield 33, 3) := by decide +kernel
theorem dX8_begin_36 : decode cX8_begin 36 = .ok (.getfield 49, 3) := by decide +kernel
theorem dX8_begin_39 : decode cX8_begin 39 = .ok (.if_icmp .ge 46, 3) := by decide +kernel
theorem dX8_begin_42 : decode cX8_begin 42 = .ok (.iconst 0, 1) := by decide +kernel
theorem dX8_begin_43 : decode cX8_begin 43 = .ok (.istore_n 3, 1) := by decide +kernel
theorem dX8_begin_44 : decode cX8_begin 44 = .ok (.iload_n 3, 1) := by decide +kernel
theorem dX8_begin_45 : decode cX8_begin 45 = .ok (.aload_n 0, 1) := by decide +kernel
theorem dX8_begin_46 : decode cX8_begin 46 = .ok (.getfield 33, 3) := by decide +kernel
theorem dX8_begin_49 : decode cX8_begin 49 = .ok (.getfield 54, 3) := by decide +kernel
theorem dX8_begin_52 : decode cX8_begin 52 = .ok (.if_icmp .ge 27, 3) := by decide +kernel
theorem dX8_begin_55 : decode cX8_begin 55 = .ok (.aload_n 0, 1) := by decide +kernel
theorem dX8_begin_56 : decode cX8_begin 56 = .ok (.getfield 30, 3) := by decide +kernel
theorem dX8_begin_59 : decode cX8_begin 59 = .ok (.bipush 9, 2) := by decide +kernel
theorem dX8_begin_61 : decode cX8_begin 61 = .ok (.iload_n 2, 1) := by decide +kernel
theorem dX8_begin_62 : decode cX8_begin 62 = .ok (.imul, 1) := by decide +kernel
theorem dX8_begin_63 : decode cX8_begin 63 = .ok (.iload_n 3, 1) := by decide +kernel
theorem dX8_begin_64 : decode cX8_begin 64 = .ok (.iadd, 1) := by decide +kernel
theorem dX8_begin_65 : decode cX8_begin 65 = .ok (.aload_n 1, 1) := by decide +kernel
theorem dX8_begin_66 : decode cX8_begin 66 = .ok (.iload_n 2, 1) := by decide +kernel
theorem dX8_begin_67 : decode cX8_begin 67 = .ok (.invokestatic 57, 3) := by decide +kernel
theorem dX8_begin_70 : decode cX8_begin 70 = .ok (.invokestatic 61, 3) := by decide +kernel
theorem dX8_begin_73 : decode cX8_begin 73 = .ok (.iinc 3 1, 3) := by decide +kernel
theorem dX8_begin_76 : decode cX8_begin 76 = .ok (.goto (-32), 3) := by decide +kernel
theorem dX8_begin_79 : decode cX8_begin 79 = .ok (.iinc 2 1, 3) := by decide +kernel
theorem dX8_begin_82 : decode cX8_begin 82 = .ok (.goto (-51), 3) := by decide +kernel
theorem dX8_begin_85 : decode cX8_begin 85 = .ok (.iconst 0, 1) := by decide +kernel
theorem dX8_begin_86 : decode cX8_begin 86 = .ok (.istore_n 2, 1) := by decide +kernel
theorem dX8_begin_87 : decode cX8_begin 87 = .ok (.iload_n 2, 1) := by decide +kernel
theorem dX8_begin_88 : decode cX8_begin 88 = .ok (.aload_n 0, 1) := by decide +kernel
theorem dX8_begin_89 : decode cX8_begin 89 = .ok (.getfield 33, 3) := by decide +kernel
theorem dX8_begin_92 : decode cX8_begin 92 = .ok (.getfield 65, 3) := by decide +kernel
theorem dX8_begin_95 : decode cX8_begin 95 = .ok (.if_icmp .ge 54, 3) := by decide +kernel
theorem dX8_begin_98 : decode cX8_begin 98 = .ok (.aload_n 0, 1) := by decide +kernel
theorem dX8_begin_99 : decode cX8_begin 99 = .ok (.getfield 30, 3) := by decide +kernel
theorem dX8_begin_102 : decode cX8_begin 102 = .ok (.aload_n 0, 1) := by decide +kernel
theorem dX8_begin_103 : decode cX8_begin 103 = .ok (.getfield 9, 3) := by decide +kernel
theorem dX8_begin_106 : decode cX8_begin 106 = .ok (.iload_n 2, 1) := by decide +kernel
theorem dX8_begin_107 : decode cX8_begin 107 = .ok (.invokestatic 57, 3) := by decide +kernel
theorem dX8_begin_110 : decode cX8_begin 110 = .ok (.aload_n 0, 1) := by decide +kernel
theorem dX8_begin_111 : decode cX8_begin 111 = .ok (.getfield 33, 3) := by decide +kernel
theorem dX8_begin_114 : decode cX8_begin 114 = .ok (.getfield 68, 3) := by decide +kernel
theorem dX8_begin_117 : decode cX8_begin 117 = .ok (.iload_n 2, 1) := by decide +kernel
theorem dX8_begin_118 : decode cX8_begin 118 = .ok (.invokestatic 57, 3) := by decide +kernel
theorem dX8_begin_121 : decode cX8_begin 121 = .ok (.invokestatic 61, 3) := by decide +kernel
theorem dX8_begin_124 : decode cX8_begin 124 = .ok (.aload_n 0, 1) := by decide +kernel
theorem dX8_begin_125 : decode cX8_begin 125 = .ok (.getfield 33, 3) := by decide +kernel
theorem dX8_begin_128 : decode cX8_begin 128 = .ok (.getfield 71, 3) := by decide +kernel
theorem dX8_begin_131 : decode cX8_begin 131 = .ok (.iload_n 2, 1) := by decide +kernel
theorem dX8_begin_132 : decode cX8_begin 132 = .ok (.aload_n 0, 1) := by decide +kernel
theorem dX8_begin_133 : decode cX8_begin 133 = .ok (.getfield 9, 3) := by decide +kernel
theorem dX8_begin_136 : decode cX8_begin 136 = .ok (.iload_n 2, 1) := by decide +kernel
theorem dX8_begin_137 : decode cX8_begin 137 = .ok (.invokestatic 57, 3) := by decide +kernel
theorem dX8_begin_140 : decode cX8_begin 140 = .ok (.invokestatic 61, 3) := by decide +kernel
theorem dX8_begin_143 : decode cX8_begin 143 = .ok (.iinc 2 1, 3) := by decide +kernel
theorem dX8_begin_146 : decode cX8_begin 146 = .ok (.goto (-59), 3) := by decide +kernel
theorem dX8_begin_149 : decode cX8_begin 149 = .ok (.iconst 0, 1) := by decide +kernel
theorem dX8_begin_150 : decode cX8_begin 150 = .ok (.istore_n 2, 1) := by decide +kernel
theorem dX8_begin_151 : decode cX8_begin 151 = .ok (.iload_n 2, 1) := by decide +kernel
theorem dX8_begin_152 : decode cX8_begin 152 = .ok (.aload_n 0, 1) := by decide +kernel
theorem dX8_begin_153 : decode cX8_begin 153 = .ok (.getfield 33, 3) := by decide +kernel
theorem dX8_begin_156 : decode cX8_begin 156 = .ok (.getfield 74, 3) := by decide +kernel
theorem dX8_begin_159 : decode cX8_begin 159 = .ok (.if_icmp .ge 25, 3) := by decide +kernel
theorem dX8_begin_162 : decode cX8_begin 162 = .ok (.aload_n 0, 1) := by decide +kernel
theorem dX8_begin_163 : decode cX8_begin 163 = .ok (.getfield 33, 3) := by decide +kernel
theorem dX8_begin_166 : decode cX8_begin 166 = .ok (.getfield 77, 3) := by decide +kernel
theorem dX8_begin_169 : decode cX8_begin 169 = .ok (.iload_n 2, 1) := by decide +kernel
theorem dX8_begin_170 : decode cX8_begin 170 = .ok (.aload_n 0, 1) := by decide +kernel
theorem dX8_begin_171 : decode cX8_begin 171 = .ok (.iload_n 2, 1) := by decide +kernel
theorem dX8_begin_172 : decode cX8_begin 172 = .ok (.invokevirtual 80, 3) := by decide +kernel
theorem dX8_begin_175 : decode cX8_begin 175 = .ok (.invokestatic 61, 3) := by decide +kernel
theorem dX8_begin_178 : decode cX8_begin 178 = .ok (.iinc 2 1, 3) := by decide +kernel
theorem dX8_begin_181 : decode cX8_begin 181 = .ok (.goto (-30), 3) := by decide +kernel
theorem dX8_begin_184 : decode cX8_begin 184 = .ok (.return_, 1) := by decide +kernel
def fX8_begin_151 (N n : Nat) : Nat → zF → Nat → Int32 → Option zF
  | 0, _, _, _ => none
  | k + 1, f, a0, a2 =>
    ((zgR n f 8 a0 0).bind fun x12 => ((zgI n f 2 x12 2).bind fun x13 => (if x13 ≤ a2 then some f else ((zgR n f 8 a0 0).bind fun x14 => ((zgR n f 2 x14 9).bind fun x15 => ((zck n f 8 a0).bind fun _ => ((fX8_landOf N n f a0 a2).bind fun x16 => ((fX11_put N n f x15 a2 x16).bind fun f17 => (fX8_begin_151 N n k f17 a0 (a2 + 1))))))))))
set_option maxRecDepth 100000 in
set_option maxHeartbeats 4000000 in
theorem gX8_begin_151 (l : Launch) {G : zG} {p : Program} {e : Env} {s : State} {m : MethodId} {args : Array Value} {below : List Frame} {meth : Method} {c : Code} {N n : Nat} {f9 : zF} (B : zB G p s m args meth c RX8 cX8_begin 4 (none)) : ∀ (k : Nat), ∀ (f : zF) (a0 : Nat) (a2 : Int32) (H : Heap) (locs : List Loc) (ls : Array Slot), fX8_begin_151 N n k f a0 a2 = some f9 → zS G n f H locs → lv_has ls 4 [(0, zr G a0), (2, .int a2)] → W p l e (zrm 1) s m args below meth c H locs 0 0 (MQ below (zQc G n f9 (none)) args s 0 0 (zA G)) (F0 m 151 ls []) := by
  have he := B.1
  have hb := B.2.1
  intro k
  induction k with
  | zero =>
    intro f a0 a2 H locs ls h
    unfold fX8_begin_151 at h
    cases h
  | succ k ih =>
    intro f a0 a2 H locs ls h hS hl
    unfold fX8_begin_151 at h
    refine lv_iload_n he hb dX8_begin_151 rfl (lv_at hl 1 rfl) ?_
    refine z_aload_n he hb dX8_begin_152 rfl (lv_at hl 0 rfl) (zref_r _ _) ?_
    obtain ⟨x12, hx, h⟩ := zob h
    refine z_getR (ci := 8) (T := TX8) (N := 9) (j := 0) B hS hx rfl zin_X8 (by decide) zk_248 dX8_begin_153 ?_
    obtain ⟨x13, hx, h⟩ := zob h
    refine z_getI (ci := 2) (T := TX2) (N := 15) (j := 2) B hS hx rfl zin_X2 (by decide) zk_159 dX8_begin_156 ?_
    refine lv_icmp_ge (tgt := 184) he hb dX8_begin_159 (by decide) (fun hc => ?_) (fun hc => ?_)
    · rw [if_pos hc] at h
      obtain rfl := Option.some.inj h
      exact z_vret B hS dX8_begin_184
    · rw [if_neg hc] at h
      refine z_aload_n he hb dX8_begin_162 rfl (lv_at hl 0 rfl) (zref_r _ _) ?_
      obtain ⟨x14, hx, h⟩ := zob h
      refine z_getR (ci := 8) (T := TX8) (N := 9) (j := 0) B hS hx rfl zin_X8 (by decide) zk_248 dX8_begin_163 ?_
      obtain ⟨x15, hx, h⟩ := zob h
      refine z_getR (ci := 2) (T := TX2) (N := 15) (j := 9) B hS hx rfl zin_X2 (by decide) zk_189 dX8_begin_166 ?_
      refine lv_iload_n he hb dX8_begin_169 rfl (lv_at hl 1 rfl) ?_
      refine z_aload_n he hb dX8_begin_170 rfl (lv_at hl 0 rfl) (zref_r _ _) ?_
      refine lv_iload_n he hb dX8_begin_171 rfl (lv_at hl 1 rfl) ?_
      obtain ⟨_, hc, h⟩ := zob h
      obtain ⟨x16, hx, h⟩ := zob h
      refine z_callV (ci := 8) (T := TX8) (N := 9) (rest := [_, _]) B hS (mX8_landOf l G hx) zy_X8_landOf zk_712 (by decide) hc rfl rfl hl rfl (Nat.le_of_ble_eq_true rfl) dX8_begin_172 (kk := (fun H locs hS => ?_))
      obtain ⟨f17, hx, h⟩ := zob h
      refine z_callN (rest := []) B hS (mX11_put l G hx) zy_X11_put zkn_711 (by decide) rfl hl rfl (Nat.le_of_ble_eq_true rfl) dX8_begin_175 (kk := (fun H locs hS => ?_))
      refine lv_iinc (v := (a2 + 1)) (lv' := [(2, _), (0, _)]) he hb dX8_begin_178 hl (k := 1) rfl rfl (by decide) rfl (fun ls hl => ?_)
      refine lv_goto (tgt := 151) he hb dX8_begin_181 (by decide) ?_
      exact ih _ _ _ _ _ _ h hS (lv_sub hl [1, 0] rfl)
def fX8_begin_87 (N n : Nat) : Nat → zF → Nat → Int32 → Option zF
  | 0, _, _, _ => none
  | k + 1, f, a0, a2 =>
    ((zgR n f 8 a0 0).bind fun x10 => ((zgI n f 2 x10 3).bind fun x11 => (if x11 ≤ a2 then (fX8_begin_151 N n N f a0 (0 : Int32)) else ((zgR n f 8 a0 8).bind fun x18 => ((zgR n f 8 a0 2).bind fun x19 => ((fX11_at N n f x19 a2).bind fun x20 => ((zgR n f 8 a0 0).bind fun x21 => ((zgR n f 2 x21 10).bind fun x22 => ((fX11_at N n f x22 a2).bind fun x23 => ((fX11_put N n f x18 x20 x23).bind fun f24 => ((zgR n f24 8 a0 0).bind fun x25 => ((zgR n f24 2 x25 12).bind fun x26 => ((zgR n f24 8 a0 2).bind fun x27 => ((fX11_at N n f24 x27 a2).bind fun x28 => ((fX11_put N n f24 x26 a2 x28).bind fun f29 => (fX8_begin_87 N n k f29 a0 (a2 + 1)))))))))))))))))
set_option maxRecDepth 100000 in
set_option maxHeartbeats 4000000 in
theorem gX8_begin_87 (l : Launch) {G : zG} {p : Program} {e : Env} {s : State} {m : MethodId} {args : Array Value} {below : List Frame} {meth : Method} {c : Code} {N n : Nat} {f9 : zF} (B : zB G p s m args meth c RX8 cX8_begin 4 (none)) : ∀ (k : Nat), ∀ (f : zF) (a0 : Nat) (a2 : Int32) (H : Heap) (locs : List Loc) (ls : Array Slot), fX8_begin_87 N n k f a0 a2 = some f9 → zS G n f H locs → lv_has ls 4 [(0, zr G a0), (2, .int a2)] → W p l e (zrm 1) s m args below meth c H locs 0 0 (MQ below (zQc G n f9 (none)) args s 0 0 (zA G)) (F0 m 87 ls []) := by
  have he := B.1
  have hb := B.2.1
  intro k
  induction k with
  | zero =>
    intro f a0 a2 H locs ls h
    unfold fX8_begin_87 at h
    cases h
  | succ k ih =>
    intro f a0 a2 H locs ls h hS hl
    unfold fX8_begin_87 at h
    refine lv_iload_n he hb dX8_begin_87 rfl (lv_at hl 1 rfl) ?_
    refine z_aload_n he hb dX8_begin_88 rfl (lv_at hl 0 rfl) (zref_r _ _) ?_
    obtain ⟨x10, hx, h⟩ := zob h
    refine z_getR (ci := 8) (T := TX8) (N := 9) (j := 0) B hS hx rfl zin_X8 (by decide) zk_248 dX8_begin_89 ?_
    obtain ⟨x11, hx, h⟩ := zob h
    refine z_getI (ci := 2) (T := TX2) (N := 15) (j := 3) B hS hx rfl zin_X2 (by decide) zk_165 dX8_begin_92 ?_
    refine lv_icmp_ge (tgt := 149) he hb dX8_begin_95 (by decide) (fun hc => ?_) (fun hc => ?_)
    · rw [if_pos hc] at h
      refine lv_iconst (v := (0 : Int32)) he hb dX8_begin_149 (by decide) ?_
      refine lv_istore_n (lv' := [(2, _), (0, _)]) he hb dX8_begin_150 rfl hl (by decide) rfl (fun ls hl => ?_)
      exact gX8_begin_151 l B N _ _ _ _ _ _ h hS (lv_sub hl [1, 0] rfl)
    · rw [if_neg hc] at h
      refine z_aload_n he hb dX8_begin_98 rfl (lv_at hl 0 rfl) (zref_r _ _) ?_
      obtain ⟨x18, hx, h⟩ := zob h
      refine z_getR (ci := 8) (T := TX8) (N := 9) (j := 8) B hS hx rfl zin_X8 (by decide) zk_272 dX8_begin_99 ?_
      refine z_aload_n he hb dX8_begin_102 rfl (lv_at hl 0 rfl) (zref_r _ _) ?_
      obtain ⟨x19, hx, h⟩ := zob h
      refine z_getR (ci := 8) (T := TX8) (N := 9) (j := 2) B hS hx rfl zin_X8 (by decide) zk_254 dX8_begin_103 ?_
      refine lv_iload_n he hb dX8_begin_106 rfl (lv_at hl 1 rfl) ?_
      obtain ⟨x20, hx, h⟩ := zob h
      refine z_callN (rest := [_]) B hS (mX11_at l G hx) zy_X11_at zkn_710 (by decide) rfl hl rfl (Nat.le_of_ble_eq_true rfl) dX8_begin_107 (kk := (fun H locs hS => ?_))
      refine z_aload_n he hb dX8_begin_110 rfl (lv_at hl 0 rfl) (zref_r _ _) ?_
      obtain ⟨x21, hx, h⟩ := zob h
      refine z_getR (ci := 8) (T := TX8) (N := 9) (j := 0) B hS hx rfl zin_X8 (by decide) zk_248 dX8_begin_111 ?_
      obtain ⟨x22, hx, h⟩ := zob h
      refine z_getR (ci := 2) (T := TX2) (N := 15) (j := 10) B hS hx rfl zin_X2 (by decide) zk_192 dX8_begin_114 ?_
      refine lv_iload_n he hb dX8_begin_117 rfl (lv_at hl 1 rfl) ?_
      obtain ⟨x23, hx, h⟩ := zob h
      refine z_callN (rest := [_, _]) B hS (mX11_at l G hx) zy_X11_at zkn_710 (by decide) rfl hl rfl (Nat.le_of_ble_eq_true rfl) dX8_begin_118 (kk := (fun H locs hS => ?_))
      obtain ⟨f24, hx, h⟩ := zob h
      refine z_callN (rest := []) B hS (mX11_put l G hx) zy_X11_put zkn_711 (by decide) rfl hl rfl (Nat.le_of_ble_eq_true rfl) dX8_begin_121 (kk := (fun H locs hS => ?_))
      refine z_aload_n he hb dX8_begin_124 rfl (lv_at hl 0 rfl) (zref_r _ _) ?_
      obtain ⟨x25, hx, h⟩ := zob h
      refine z_getR (ci := 8) (T := TX8) (N := 9) (j := 0) B hS hx rfl zin_X8 (by decide) zk_248 dX8_begin_125 ?_
      obtain ⟨x26, hx, h⟩ := zob h
      refine z_getR (ci := 2) (T := TX2) (N := 15) (j := 12) B hS hx rfl zin_X2 (by decide) zk_202 dX8_begin_128 ?_
      refine lv_iload_n he hb dX8_begin_131 rfl (lv_at hl 1 rfl) ?_
      refine z_aload_n he hb dX8_begin_132 rfl (lv_at hl 0 rfl) (zref_r _ _) ?_
      obtain ⟨x27, hx, h⟩ := zob h
      refine z_getR (ci := 8) (T := TX8) (N := 9) (j := 2) B hS hx rfl zin_X8 (by decide) zk_254 dX8_begin_133 ?_
      refine lv_iload_n he hb dX8_begin_136 rfl (lv_at hl 1 rfl) ?_
      obtain ⟨x28, hx, h⟩ := zob h
      refine z_callN (rest := [_, _]) B hS (mX11_at l G hx) zy_X11_at zkn_710 (by decide) rfl hl rfl (Nat.le_of_ble_eq_true rfl) dX8_begin_137 (kk := (fun H locs hS => ?_))
      obtain ⟨f29, hx, h⟩ := zob h
      refine z_callN (rest := []) B hS (mX11_put l G hx) zy_X11_put zkn_711 (by decide) rfl hl rfl (Nat.le_of_ble_eq_true rfl) dX8_begin_140 (kk := (fun H locs hS => ?_))
      refine lv_iinc (v := (a2 + 1)) (lv' := [(2, _), (0, _)]) he hb dX8_begin_143 hl (k := 1) rfl rfl (by decide) rfl (fun ls hl => ?_)
      refine lv_goto (tgt := 87) he hb dX8_begin_146 (by decide) ?_
      exact ih _ _ _ _ _ _ h hS (lv_sub hl [1, 0] rfl)
def fX8_begin_44 (r31 : zF → Nat → Nat → Int32 → Option zF) (N n : Nat) : Nat → zF → Nat → Nat → Int32 → Int32 → Option zF
  | 0, _, _, _, _, _ => none
  | k + 1, f, a0, a1, a2, a3 =>
    ((zgR n f 8 a0 0).bind fun x30 => ((zgI n f 2 x30 0).bind fun x31 => (if x31 ≤ a3 then (r31 f a0 a1 (a2 + 1)) else ((zgR n f 8 a0 8).bind fun x32 => ((fX11_at N n f a1 a2).bind fun x33 => ((fX11_put N n f x32 (((9 : Int32) * a2) + a3) x33).bind fun f34 => (fX8_begin_44 r31 N n k f34 a0 a1 a2 (a3 + 1))))))))
set_option maxRecDepth 100000 in
set_option maxHeartbeats 4000000 in
theorem gX8_begin_44 (l : Launch) {G : zG} {p : Program} {e : Env} {s : State} {m : MethodId} {args : Array Value} {below : List Frame} {meth : Method} {c : Code} {N n : Nat} {f9 : zF} {r31 : zF → Nat → Nat → Int32 → Option zF} (B : zB G p s m args meth c RX8 cX8_begin 4 (none)) (hr31 : ∀ (f : zF) (a0 : Nat) (a1 : Nat) (a2 : Int32) (H : Heap) (locs : List Loc) (ls : Array Slot), r31 f a0 a1 a2 = some f9 → zS G n f H locs → lv_has ls 4 [(0, zr G a0), (1, zr G a1), (2, .int a2)] → W p l e (zrm 1) s m args below meth c H locs 0 0 (MQ below (zQc G n f9 (none)) args s 0 0 (zA G)) (F0 m 31 ls [])) : ∀ (k : Nat), ∀ (f : zF) (a0 : Nat) (a1 : Nat) (a2 : Int32) (a3 : Int32) (H : Heap) (locs : List Loc) (ls : Array Slot), fX8_begin_44 r31 N n k f a0 a1 a2 a3 = some f9 → zS G n f H locs → lv_has ls 4 [(0, zr G a0), (1, zr G a1), (2, .int a2), (3, .int a3)] → W p l e (zrm 1) s m args below meth c H locs 0 0 (MQ below (zQc G n f9 (none)) args s 0 0 (zA G)) (F0 m 44 ls []) := by
  have he := B.1
  have hb := B.2.1
  intro k
  induction k with
  | zero =>
    intro f a0 a1 a2 a3 H locs ls h
    unfold fX8_begin_44 at h
    cases h
  | succ k ih =>
    intro f a0 a1 a2 a3 H locs ls h hS hl
    unfold fX8_begin_44 at h
    refine lv_iload_n he hb dX8_begin_44 rfl (lv_at hl 3 rfl) ?_
    refine z_aload_n he hb dX8_begin_45 rfl (lv_at hl 0 rfl) (zref_r _ _) ?_
    obtain ⟨x30, hx, h⟩ := zob h
    refine z_getR (ci := 8) (T := TX8) (N := 9) (j := 0) B hS hx rfl zin_X8 (by decide) zk_248 dX8_begin_46 ?_
    obtain ⟨x31, hx, h⟩ := zob h
    refine z_getI (ci := 2) (T := TX2) (N := 15) (j := 0) B hS hx rfl zin_X2 (by decide) zk_152 dX8_begin_49 ?_
    refine lv_icmp_ge (tgt := 79) he hb dX8_begin_52 (by decide) (fun hc => ?_) (fun hc => ?_)
    · rw [if_pos hc] at h
      refine lv_iinc (v := (a2 + 1)) (lv' := [(2, _), (0, _), (1, _), (3, _)]) he hb dX8_begin_79 hl (k := 2) rfl rfl (by decide) rfl (fun ls hl => ?_)
      refine lv_goto (tgt := 31) he hb dX8_begin_82 (by decide) ?_
      exact hr31 _ _ _ _ _ _ _ h hS (lv_sub hl [1, 2, 0] rfl)
    · rw [if_neg hc] at h
      refine z_aload_n he hb dX8_begin_55 rfl (lv_at hl 0 rfl) (zref_r _ _) ?_
      obtain ⟨x32, hx, h⟩ := zob h
      refine z_getR (ci := 8) (T := TX8) (N := 9) (j := 8) B hS hx rfl zin_X8 (by decide) zk_272 dX8_begin_56 ?_
      refine lv_bipush (v := (9 : Int32)) he hb dX8_begin_59 (by decide) ?_
      refine lv_iload_n he hb dX8_begin_61 rfl (lv_at hl 2 rfl) ?_
      refine lv_imul he hb dX8_begin_62 ?_
      refine lv_iload_n he hb dX8_begin_63 rfl (lv_at hl 3 rfl) ?_
      refine lv_iadd he hb dX8_begin_64 ?_
      refine z_aload_n he hb dX8_begin_65 rfl (lv_at hl 1 rfl) (zref_r _ _) ?_
      refine lv_iload_n he hb dX8_begin_66 rfl (lv_at hl 2 rfl) ?_
      obtain ⟨x33, hx, h⟩ := zob h
      refine z_callN (rest := [_, _]) B hS (mX11_at l G hx) zy_X11_at zkn_710 (by decide) rfl hl rfl (Nat.le_of_ble_eq_true rfl) dX8_begin_67 (kk := (fun H locs hS => ?_))
      obtain ⟨f34, hx, h⟩ := zob h
      refine z_callN (rest := []) B hS (mX11_put l G hx) zy_X11_put zkn_711 (by decide) rfl hl rfl (Nat.le_of_ble_eq_true rfl) dX8_begin_70 (kk := (fun H locs hS => ?_))
      refine lv_iinc (v := (a3 + 1)) (lv' := [(3, _), (0, _), (1, _), (2, _)]) he hb dX8_begin_73 hl (k := 3) rfl rfl (by decide) rfl (fun ls hl => ?_)
      refine lv_goto (tgt := 44) he hb dX8_begin_76 (by decide) ?_
      exact ih _ _ _ _ _ _ _ _ h hS (lv_sub hl [1, 2, 3, 0] rfl)
def fX8_begin_31 (N n : Nat) : Nat → zF → Nat → Nat → Int32 → Option zF
  | 0, _, _, _, _ => none
  | k + 1, f, a0, a1, a2 =>
    ((zgR n f 8 a0 0).bind fun x8 => ((zgI n f 2 x8 1).bind fun x9 => (if x9 ≤ a2 then (fX8_begin_87 N n N f a0 (0 : Int32)) else (fX8_begin_44 (fX8_begin_31 N n k) N n N f a0 a1 a2 (0 : Int32)))))
set_option maxRecDepth 100000 in
set_option maxHeartbeats 4000000 in
theorem gX8_begin_31 (l : Launch) {G : zG} {p : Program} {e : Env} {s : State} {m : MethodId} {args : Array Value} {below : List Frame} {meth : Method} {c : Code} {N n : Nat} {f9 : zF} (B : zB G p s m args meth c RX8 cX8_begin 4 (none)) : ∀ (k : Nat), ∀ (f : zF) (a0 : Nat) (a1 : Nat) (a2 : Int32) (H : Heap) (locs : List Loc) (ls : Array Slot), fX8_begin_31 N n k f a0 a1 a2 = some f9 → zS G n f H locs → lv_has ls 4 [(0, zr G a0), (1, zr G a1), (2, .int a2)] → W p l e (zrm 1) s m args below meth c H locs 0 0 (MQ below (zQc G n f9 (none)) args s 0 0 (zA G)) (F0 m 31 ls []) := by
  have he := B.1
  have hb := B.2.1
  intro k
  induction k with
  | zero =>
    intro f a0 a1 a2 H locs ls h
    unfold fX8_begin_31 at h
    cases h
  | succ k ih =>
    intro f a0 a1 a2 H locs ls h hS hl
    unfold fX8_begin_31 at h
    refine lv_iload_n he hb dX8_begin_31 rfl (lv_at hl 2 rfl) ?_
    refine z_aload_n he hb dX8_begin_32 rfl (lv_at hl 0 rfl) (zref_r _ _) ?_
    obtain ⟨x8, hx, h⟩ := zob h
    refine z_getR (ci := 8) (T := TX8) (N := 9) (j := 0) B hS hx rfl zin_X8 (by decide) zk_248 dX8_begin_33 ?_
    obtain ⟨x9, hx, h⟩ := zob h
    refine z_getI (ci := 2) (T := TX2) (N := 15) (j := 1) B hS hx rfl zin_X2 (by decide) zk_155 dX8_begin_36 ?_
    refine lv_icmp_ge (tgt := 85) he hb dX8_begin_39 (by decide) (fun hc => ?_) (fun hc => ?_)
    · rw [if_pos hc] at h
      refine lv_iconst (v := (0 : Int32)) he hb dX8_begin_85 (by decide) ?_
      refine lv_istore_n (lv' := [(2, _), (0, _), (1, _)]) he hb dX8_begin_86 rfl hl (by decide) rfl (fun ls hl => ?_)
      exact gX8_begin_87 l B N _ _ _ _ _ _ h hS (lv_sub hl [1, 0] rfl)
    · rw [if_neg hc] at h
      refine lv_iconst (v := (0 : Int32)) he hb dX8_begin_42 (by decide) ?_
      refine lv_istore_n (lv' := [(3, _), (0, _), (1, _), (2, _)]) he hb dX8_begin_43 rfl hl (by decide) rfl (fun ls hl => ?_)
      exact gX8_begin_44 l B ih N _ _ _ _ _ _ _ _ h hS (lv_sub hl [1, 2, 3, 0] rfl)
def fX8_begin (N n : Nat) (f : zF) (a0 : Nat) (a1 : Nat) : Option zF :=
    ((zpI n f 8 a0 1 (0 : Int32)).bind fun f1 => ((zgR n f1 8 a0 4).bind fun x2 => ((fX11_fill N n f1 x2 (0 : Int32)).bind fun f3 => ((zgR n f3 8 a0 7).bind fun x4 => ((fX11_fill N n f3 x4 (0 : Int32)).bind fun f5 => ((zgR n f5 8 a0 8).bind fun x6 => ((fX11_fill N n f5 x6 (-1 : Int32)).bind fun f7 => (fX8_begin_31 N n N f7 a0 a1 (0 : Int32)))))))))
set_option maxRecDepth 100000 in
set_option maxHeartbeats 4000000 in
theorem mX8_begin (l : Launch) (G : zG) {N n : Nat} {f : zF} {f9 : zF} {a0 : Nat} {a1 : Nat} (h : fX8_begin N n f a0 a1 = some f9) : zM l G yX8_begin cX8_begin 4 (none) 1 n f [zr G a0, zr G a1] (none) f9 := by
  refine zM.of (by decide) (Nat.le_of_ble_eq_true rfl) ?_
  intro p e s m args below meth c locs ls B hS hl
  have he := B.1
  have hb := B.2.1
  have hl : lv_has ls 4 [(0, zr G a0), (1, zr G a1)] := hl
  unfold fX8_begin at h
  generalize s.heap = H at hS ⊢
  refine z_aload_n he hb dX8_begin_0 rfl (lv_at hl 0 rfl) (zref_r _ _) ?_
  refine lv_iconst (v := (0 : Int32)) he hb dX8_begin_1 (by decide) ?_
  obtain ⟨f1, hx, h⟩ := zob h
  refine z_putI (ci := 8) (T := TX8) (N := 9) (j := 1) B hS hx rfl zin_X8 tyX8 tyX8_ok nmX8 (by decide) zk_250 rfl rfl dX8_begin_2 (fun H locs hS => ?_)
  refine z_aload_n he hb dX8_begin_5 rfl (lv_at hl 0 rfl) (zref_r _ _) ?_
  obtain ⟨x2, hx, h⟩ := zob h
  refine z_getR (ci := 8) (T := TX8) (N := 9) (j := 4) B hS hx rfl zin_X8 (by decide) zk_261 dX8_begin_6 ?_
  refine lv_iconst (v := (0 : Int32)) he hb dX8_begin_9 (by decide) ?_
  obtain ⟨f3, hx, h⟩ := zob h
  refine z_callN (rest := []) B hS (mX11_fill l G hx) zy_X11_fill zkn_709 (by decide) rfl hl rfl (Nat.le_of_ble_eq_true rfl) dX8_begin_10 (kk := (fun H locs hS => ?_))
  refine z_aload_n he hb dX8_begin_13 rfl (lv_at hl 0 rfl) (zref_r _ _) ?_
  obtain ⟨x4, hx, h⟩ := zob h
  refine z_getR (ci := 8) (T := TX8) (N := 9) (j := 7) B hS hx rfl zin_X8 (by decide) zk_270 dX8_begin_14 ?_
  refine lv_iconst (v := (0 : Int32)) he hb dX8_begin_17 (by decide) ?_
  obtain ⟨f5, hx, h⟩ := zob h
  refine z_callN (rest := []) B hS (mX11_fill l G hx) zy_X11_fill zkn_709 (by decide) rfl hl rfl (Nat.le_of_ble_eq_true rfl) dX8_begin_18 (kk := (fun H locs hS => ?_))
  refine z_aload_n he hb dX8_begin_21 rfl (lv_at hl 0 rfl) (zref_r _ _) ?_
  obtain ⟨x6, hx, h⟩ := zob h
  refine z_getR (ci := 8) (T := TX8) (N := 9) (j := 8) B hS hx rfl zin_X8 (by decide) zk_272 dX8_begin_22 ?_
  refine lv_iconst (v := (-1 : Int32)) he hb dX8_begin_25 (by decide) ?_
  obtain ⟨f7, hx, h⟩ := zob h
  refine z_callN (rest := []) B hS (mX11_fill l G hx) zy_X11_fill zkn_709 (by decide) rfl hl rfl (Nat.le_of_ble_eq_true rfl) dX8_begin_26 (kk := (fun H locs hS => ?_))
  refine lv_iconst (v := (0 : Int32)) he hb dX8_begin_29 (by decide) ?_
  refine lv_istore_n (lv' := [(2, _), (0, _), (1, _)]) he hb dX8_begin_30 rfl hl (by decide) rfl (fun ls hl => ?_)
  exact gX8_begin_31 l B N _ _ _ _ _ _ _ h hS (lv_sub hl [1, 2, 0] rfl)
theorem dX8_copyFrom_0 : decode cX8_copyFrom 0 = .ok (.aload_n 0, 1) := by decide +kernel
theorem dX8_copyFrom_1 : decode cX8_copyFrom 1 = .ok (.aload_n 1, 1) := by decide +kernel
theorem dX8_copyFrom_2 : decode cX8_copyFrom 2 = .ok (.getfield 37, 3) := by decide +kernel
theorem dX8_copyFrom_5 : decode cX8_copyFrom 5 = .ok (.putfield 37, 3) := by decide +kernel
theorem dX8_copyFrom_8 : decode cX8_copyFrom 8 = .ok (.aload_n 1, 1) := by decide +kernel
theorem dX8_copyFrom_9 : decode cX8_copyFrom 9 = .ok (.getfield 9, 3) := by decide +kernel
theorem dX8_copyFrom_12 : decode cX8_copyFrom 12 = .ok (.aload_n 0, 1) := by decide +kernel
theorem dX8_copyFrom_13 : decode cX8_copyFrom 13 = .ok (.getfield 9, 3) := by decide +kernel
theorem dX8_copyFrom_16 : decode cX8_copyFrom 16 = .ok (.invokestatic 41, 3) := by decide +kernel
theorem dX8_copyFrom_19 : decode cX8_copyFrom 19 = .ok (.aload_n 1, 1) := by decide +kernel
theorem dX8_copyFrom_20 : decode cX8_copyFrom 20 = .ok (.getfield 15, 3) := by decide +kernel
theorem dX8_copyFrom_23 : decode cX8_copyFrom 23 = .ok (.aload_n 0, 1) := by decide +kernel
theorem dX8_copyFrom_24 : decode cX8_copyFrom 24 = .ok (.getfield 15, 3) := by decide +kernel
theorem dX8_copyFrom_27 : decode cX8_copyFrom 27 = .ok (.invokestatic 41, 3) := by decide +kernel
theorem dX8_copyFrom_30 : decode cX8_copyFrom 30 = .ok (.aload_n 1, 1) := by decide +kernel
theorem dX8_copyFrom_31 : decode cX8_copyFrom 31 = .ok (.getfield 18, 3) := by decide +kernel
theorem dX8_copyFrom_34 : decode cX8_copyFrom 34 = .ok (.aload_n 0, 1) := by decide +kernel
theorem dX8_copyFrom_35 : decode cX8_copyFrom 35 = .ok (.getfield 18, 3) := by decide +kernel
theorem dX8_copyFrom_38 : decode cX8_copyFrom 38 = .ok (.invokestatic 41, 3) := by decide +kernel
theorem dX8_copyFrom_41 : decode cX8_copyFrom 41 = .ok (.aload_n 1, 1) := by decide +kernel
theorem dX8_copyFrom_42 : decode cX8_copyFrom 42 = .ok (.getfield 21, 3) := by decide +kernel
theorem dX8_copyFrom_45 : decode cX8_copyFrom 45 = .ok (.aload_n 0, 1) := by decide +kernel
theorem dX8_copyFrom_46 : decode cX8_copyFrom 46 = .ok (.getfield 21, 3) := by decide +kernel
theorem dX8_copyFrom_49 : decode cX8_copyFrom 49 = .ok (.invokestatic 41, 3) := by decide +kernel
theorem dX8_copyFrom_52 : decode cX8_copyFrom 52 = .ok (.aload_n 1, 1) := by decide +kernel
theorem dX8_copyFrom_53 : decode cX8_copyFrom 53 = .ok (.getfield 24, 3) := by decide +kernel
theorem dX8_copyFrom_56 : decode cX8_copyFrom 56 = .ok (.aload_n 0, 1) := by decide +kernel
theorem dX8_copyFrom_57 : decode cX8_copyFrom 57 = .ok (.getfield 24, 3) := by decide +kernel
theorem dX8_copyFrom_60 : decode cX8_copyFrom 60 = .ok (.invokestatic 41, 3) := by decide +kernel
theorem dX8_copyFrom_63 : decode cX8_copyFrom 63 = .ok (.aload_n 1, 1) := by decide +kernel
theorem dX8_copyFrom_64 : decode cX8_copyFrom 64 = .ok (.getfield 27, 3) := by decide +kernel
theorem dX8_copyFrom_67 : decode cX8_copyFrom 67 = .ok (.aload_n 0, 1) := by decide +kernel
theorem dX8_copyFrom_68 : decode cX8_copyFrom 68 = .ok (.getfield 27, 3) := by decide +kernel
theorem dX8_copyFrom_71 : decode cX8_copyFrom 71 = .ok (.invokestatic 41, 3) := by decide +kernel
theorem dX8_copyFrom_74 : decode cX8_copyFrom 74 = .ok (.aload_n 1, 1) := by decide +kernel
theorem dX8_copyFrom_75 : decode cX8_copyFrom 75 = .ok (.getfield 30, 3) := by decide +kernel
theorem dX8_copyFrom_78 : decode cX8_copyFrom 78 = .ok (.aload_n 0, 1) := by decide +kernel
theorem dX8_copyFrom_79 : decode cX8_copyFrom 79 = .ok (.getfield 30, 3) := by decide +kernel
theorem dX8_copyFrom_82 : decode cX8_copyFrom 82 = .ok (.invokestatic 41, 3) := by decide +kernel
theorem dX8_copyFrom_85 : decode cX8_copyFrom 85 = .ok (.return_, 1) := by decide +kernel
def fX8_copyFrom (N n : Nat) (f : zF) (a0 : Nat) (a1 : Nat) : Option zF :=
    ((zgI n f 8 a1 1).bind fun x1 => ((zpI n f 8 a0 1 x1).bind fun f2 => ((zgR n f2 8 a1 2).bind fun x3 => ((zgR n f2 8 a0 2).bind fun x4 => ((fX11_copy N n f2 x3 x4).bind fun f5 => ((zgR n f5 8 a1 3).bind fun x6 => ((zgR n f5 8 a0 3).bind fun x7 => ((fX11_copy N n f5 x6 x7).bind fun f8 => ((zgR n f8 8 a1 4).bind fun x9 => ((zgR n f8 8 a0 4).bind fun x10 => ((fX11_copy N n f8 x9 x10).bind fun f11 => ((zgR n f11 8 a1 5).bind fun x12 => ((zgR n f11 8 a0 5).bind fun x13 => ((fX11_copy N n f11 x12 x13).bind fun f14 => ((zgR n f14 8 a1 6).bind fun x15 => ((zgR n f14 8 a0 6).bind fun x16 => ((fX11_copy N n f14 x15 x16).bind fun f17 => ((zgR n f17 8 a1 7).bind fun x18 => ((zgR n f17 8 a0 7).bind fun x19 => ((fX11_copy N n f17 x18 x19).bind fun f20 => ((zgR n f20 8 a1 8).bind fun x21 => ((zgR n f20 8 a0 8).bind fun x22 => ((fX11_copy N n f20 x21 x22).bind fun f23 => some f23)))))))))))))))))))))))
set_option maxRecDepth 100000 in
set_option maxHeartbeats 4000000 in
theorem mX8_copyFrom (l : Launch) (G : zG) {N n : Nat} {f : zF} {f9 : zF} {a0 : Nat} {a1 : Nat} (h : fX8_copyFrom N n f a0 a1 = some f9) : zM l G yX8_copyFrom cX8_copyFrom 2 (none) 2 n f [zr G a0, zr G a1] (none) f9 := by
  refine zM.of (by decide) (Nat.le_of_ble_eq_true rfl) ?_
  intro p e s m args below meth c locs ls B hS hl
  have he := B.1
  have hb := B.2.1
  have hl : lv_has ls 2 [(0, zr G a0), (1, zr G a1)] := hl
  unfold fX8_copyFrom at h
  generalize s.heap = H at hS ⊢
  refine z_aload_n he hb dX8_copyFrom_0 rfl (lv_at hl 0 rfl) (zref_r _ _) ?_
  refine z_aload_n he hb dX8_copyFrom_1 rfl (lv_at hl 1 rfl) (zref_r _ _) ?_
  obtain ⟨x1, hx, h⟩ := zob h
  refine z_getI (ci := 8) (T := TX8) (N := 9) (j := 1) B hS hx rfl zin_X8 (by decide) zk_250 dX8_copyFrom_2 ?_
  obtain ⟨f2, hx, h⟩ := zob h
  refine z_putI (ci := 8) (T := TX8) (N := 9) (j := 1) B hS hx rfl zin_X8 tyX8 tyX8_ok nmX8 (by decide) zk_250 rfl rfl dX8_copyFrom_5 (fun H locs hS => ?_)
  refine z_aload_n he hb dX8_copyFrom_8 rfl (lv_at hl 1 rfl) (zref_r _ _) ?_
  obtain ⟨x3, hx, h⟩ := zob h
  refine z_getR (ci := 8) (T := TX8) (N := 9) (j := 2) B hS hx rfl zin_X8 (by decide) zk_254 dX8_copyFrom_9 ?_
  refine z_aload_n he hb dX8_copyFrom_12 rfl (lv_at hl 0 rfl) (zref_r _ _) ?_
  obtain ⟨x4, hx, h⟩ := zob h
  refine z_getR (ci := 8) (T := TX8) (N := 9) (j := 2) B hS hx rfl zin_X8 (by decide) zk_254 dX8_copyFrom_13 ?_
  obtain ⟨f5, hx, h⟩ := zob h
  refine z_callN (rest := []) B hS (mX11_copy l G hx) zy_X11_copy zkn_734 (by decide) rfl hl rfl (Nat.le_of_ble_eq_true rfl) dX8_copyFrom_16 (kk := (fun H locs hS => ?_))
  refine z_aload_n he hb dX8_copyFrom_19 rfl (lv_at hl 1 rfl) (zref_r _ _) ?_
  obtain ⟨x6, hx, h⟩ := zob h
  refine z_getR (ci := 8) (T := TX8) (N := 9) (j := 3) B hS hx rfl zin_X8 (by decide) zk_258 dX8_copyFrom_20 ?_
  refine z_aload_n he hb dX8_copyFrom_23 rfl (lv_at hl 0 rfl) (zref_r _ _) ?_
  obtain ⟨x7, hx, h⟩ := zob h
  refine z_getR (ci := 8) (T := TX8) (N := 9) (j := 3) B hS hx rfl zin_X8 (by decide) zk_258 dX8_copyFrom_24 ?_
  obtain ⟨f8, hx, h⟩ := zob h
  refine z_callN (rest := []) B hS (mX11_copy l G hx) zy_X11_copy zkn_734 (by decide) rfl hl rfl (Nat.le_of_ble_eq_true rfl) dX8_copyFrom_27 (kk := (fun H locs hS => ?_))
  refine z_aload_n he hb dX8_copyFrom_30 rfl (lv_at hl 1 rfl) (zref_r _ _) ?_
  obtain ⟨x9, hx, h⟩ := zob h
  refine z_getR (ci := 8) (T := TX8) (N := 9) (j := 4) B hS hx rfl zin_X8 (by decide) zk_261 dX8_copyFrom_31 ?_
  refine z_aload_n he hb dX8_copyFrom_34 rfl (lv_at hl 0 rfl) (zref_r _ _) ?_
  obtain ⟨x10, hx, h⟩ := zob h
  refine z_getR (ci := 8) (T := TX8) (N := 9) (j := 4) B hS hx rfl zin_X8 (by decide) zk_261 dX8_copyFrom_35 ?_
  obtain ⟨f11, hx, h⟩ := zob h
  refine z_callN (rest := []) B hS (mX11_copy l G hx) zy_X11_copy zkn_734 (by decide) rfl hl rfl (Nat.le_of_ble_eq_true rfl) dX8_copyFrom_38 (kk := (fun H locs hS => ?_))
  refine z_aload_n he hb dX8_copyFrom_41 rfl (lv_at hl 1 rfl) (zref_r _ _) ?_
  obtain ⟨x12, hx, h⟩ := zob h
  refine z_getR (ci := 8) (T := TX8) (N := 9) (j := 5) B hS hx rfl zin_X8 (by decide) zk_264 dX8_copyFrom_42 ?_
  refine z_aload_n he hb dX8_copyFrom_45 rfl (lv_at hl 0 rfl) (zref_r _ _) ?_
  obtain ⟨x13, hx, h⟩ := zob h
  refine z_getR (ci := 8) (T := TX8) (N := 9) (j := 5) B hS hx rfl zin_X8 (by decide) zk_264 dX8_copyFrom_46 ?_
  obtain ⟨f14, hx, h⟩ := zob h
  refine z_callN (rest := []) B hS (mX11_copy l G hx) zy_X11_copy zkn_734 (by decide) rfl hl rfl (Nat.le_of_ble_eq_true rfl) dX8_copyFrom_49 (kk := (fun H locs hS => ?_))
  refine z_aload_n he hb dX8_copyFrom_52 rfl (lv_at hl 1 rfl) (zref_r _ _) ?_
  obtain ⟨x15, hx, h⟩ := zob h
  refine z_getR (ci := 8) (T := TX8) (N := 9) (j := 6) B hS hx rfl zin_X8 (by decide) zk_267 dX8_copyFrom_53 ?_
  refine z_aload_n he hb dX8_copyFrom_56 rfl (lv_at hl 0 rfl) (zref_r _ _) ?_
  obtain ⟨x16, hx, h⟩ := zob h
  refine z_getR (ci := 8) (T := TX8) (N := 9) (j := 6) B hS hx rfl zin_X8 (by decide) zk_267 dX8_copyFrom_57 ?_
  obtain ⟨f17, hx, h⟩ := zob h
  refine z_callN (rest := []) B hS (mX11_copy l G hx) zy_X11_copy zkn_734 (by decide) rfl hl rfl (Nat.le_of_ble_eq_true rfl) dX8_copyFrom_60 (kk := (fun H locs hS => ?_))
  refine z_aload_n he hb dX8_copyFrom_63 rfl (lv_at hl 1 rfl) (zref_r _ _) ?_
  obtain ⟨x18, hx, h⟩ := zob h
  refine z_getR (ci := 8) (T := TX8) (N := 9) (j := 7) B hS hx rfl zin_X8 (by decide) zk_270 dX8_copyFrom_64 ?_
  refine z_aload_n he hb dX8_copyFrom_67 rfl (lv_at hl 0 rfl) (zref_r _ _) ?_
  obtain ⟨x19, hx, h⟩ := zob h
  refine z_getR (ci := 8) (T := TX8) (N := 9) (j := 7) B hS hx rfl zin_X8 (by decide) zk_270 dX8_copyFrom_68 ?_
  obtain ⟨f20, hx, h⟩ := zob h
  refine z_callN (rest := []) B hS (mX11_copy l G hx) zy_X11_copy zkn_734 (by decide) rfl hl rfl (Nat.le_of_ble_eq_true rfl) dX8_copyFrom_71 (kk := (fun H locs hS => ?_))
  refine z_aload_n he hb dX8_copyFrom_74 rfl (lv_at hl 1 rfl) (zref_r _ _) ?_
  obtain ⟨x21, hx, h⟩ := zob h
  refine z_getR (ci := 8) (T := TX8) (N := 9) (j := 8) B hS hx rfl zin_X8 (by decide) zk_272 dX8_copyFrom_75 ?_
  refine z_aload_n he hb dX8_copyFrom_78 rfl (lv_at hl 0 rfl) (zref_r _ _) ?_
  obtain ⟨x22, hx, h⟩ := zob h
  refine z_getR (ci := 8) (T := TX8) (N := 9) (j := 8) B hS hx rfl zin_X8 (by decide) zk_272 dX8_copyFrom_79 ?_
  obtain ⟨f23, hx, h⟩ := zob h
  refine z_callN (rest := []) B hS (mX11_copy l G hx) zy_X11_copy zkn_734 (by decide) rfl hl rfl (Nat.le_of_ble_eq_true rfl) dX8_copyFrom_82 (kk := (fun H locs hS => ?_))
  obtain rfl := Option.some.inj h
  exact z_vret B hS dX8_copyFrom_85
theorem dX8_sight_0 : decode cX8_sight 0 = .ok (.iconst 0, 1) := by decide +kernel
theorem dX8_sight_1 : decode cX8_sight 1 = .ok (.istore_n 3, 1) := by decide +kernel
theorem dX8_sight_2 : decode cX8_sight 2 = .ok (.iconst 0, 1) := by decide +kernel
theorem dX8_sight_3 : decode cX8_sight 3 = .ok (.istore 4, 2) := by decide +kernel
theorem dX8_sight_5 : decode cX8_sight 5 = .ok (.iload 4, 2) := by decide +kernel
theorem dX8_sight_7 : decode cX8_sight 7 = .ok (.aload_n 0, 1) := by decide +kernel
theorem dX8_sight_8 : decode cX8_sight 8 = .ok (.getfield 33, 3) := by decide +kernel
theorem dX8_sight_11 : decode cX8_sight 11 = .ok (.getfield 65, 3) := by decide +kernel
theorem dX8_sight_14 : decode cX8_sight 14 = .ok (.if_icmp .ge 34, 3) := by decide +kernel
theorem dX8_sight_17 : decode cX8_sight 17 = .ok (.aload_n 0, 1) := by decide +kernel
theorem dX8_sight_18 : decode cX8_sight 18 = .ok (.iload_n 1, 1) := by decide +kernel
theorem dX8_sight_19 : decode cX8_sight 19 = .ok (.iload_n 2, 1) := by decide +kernel
theorem dX8_sight_20 : decode cX8_sight 20 = .ok (.aload_n 0, 1) := by decide +kernel
theorem dX8_sight_21 : decode cX8_sight 21 = .ok (.getfield 9, 3) := by decide +kernel
theorem dX8_sight_24 : decode cX8_sight 24 = .ok (.iload 4, 2) := by decide +kernel
theorem dX8_sight_26 : decode cX8_sight 26 = .ok (.invokestatic 57, 3) := by decide +kernel
theorem dX8_sight_29 : decode cX8_sight 29 = .ok (.invokevirtual 112, 3) := by decide +kernel
theorem dX8_sight_32 : decode cX8_sight 32 = .ok (.ifCond .eq 10, 3) := by decide +kernel
theorem dX8_sight_35 : decode cX8_sight 35 = .ok (.iload_n 3, 1) := by decide +kernel
theorem dX8_sight_36 : decode cX8_sight 36 = .ok (.iconst 1, 1) := by decide +kernel
theorem dX8_sight_37 : decode cX8_sight 37 = .ok (.iload 4, 2) := by decide +kernel
theorem dX8_sight_39 : decode cX8_sight 39 = .ok (.ishl, 1) := by decide +kernel
theorem dX8_sight_40 : decode cX8_sight 40 = .ok (.ior, 1) := by decide +kernel
theorem dX8_sight_41 : decode cX8_sight 41 = .ok (.istore_n 3, 1) := by decide +kernel
theorem dX8_sight_42 : decode cX8_sight 42 = .ok (.iinc 4 1, 3) := by decide +kernel
theorem dX8_sight_45 : decode cX8_sight 45 = .ok (.goto (-40), 3) := by decide +kernel
theorem dX8_sight_48 : decode cX8_sight 48 = .ok (.iload_n 3, 1) := by decide +kernel
theorem dX8_sight_49 : decode cX8_sight 49 = .ok (.ireturn, 1) := by decide +kernel
def fX8_sight_42 (r5 : Nat → Int32 → Int32 → Int32 → Int32 → Option Int32) (N n : Nat) (f : zF) (a0 : Nat) (a1 : Int32) (a2 : Int32) (a3 : Int32) (a4 : Int32) : Option Int32 :=
    (r5 a0 a1 a2 a3 (a4 + 1))
set_option maxRecDepth 100000 in
set_option maxHeartbeats 4000000 in
theorem gX8_sight_42 (l : Launch) {G : zG} {p : Program} {e : Env} {s : State} {m : MethodId} {args : Array Value} {below : List Frame} {meth : Method} {c : Code} {f : zF} {N n : Nat} {r : Int32} {r5 : Nat → Int32 → Int32 → Int32 → Int32 → Option Int32} (B : zB G p s m args meth c RX8 cX8_sight 5 (some .int)) (hr5 : ∀ (a0 : Nat) (a1 : Int32) (a2 : Int32) (a3 : Int32) (a4 : Int32) (H : Heap) (locs : List Loc) (ls : Array Slot), r5 a0 a1 a2 a3 a4 = some r → zS G n f H locs → lv_has ls 5 [(0, zr G a0), (1, .int a1), (2, .int a2), (3, .int a3), (4, .int a4)] → W p l e (zrm 2) s m args below meth c H locs 0 0 (MQ below (zQc G n f (some (.int r))) args s 0 0 (zA G)) (F0 m 5 ls [])) : ∀ (a0 : Nat) (a1 : Int32) (a2 : Int32) (a3 : Int32) (a4 : Int32) (H : Heap) (locs : List Loc) (ls : Array Slot), fX8_sight_42 r5 N n f a0 a1 a2 a3 a4 = some r → zS G n f H locs → lv_has ls 5 [(0, zr G a0), (1, .int a1), (2, .int a2), (3, .int a3), (4, .int a4)] → W p l e (zrm 2) s m args below meth c H locs 0 0 (MQ below (zQc G n f (some (.int r))) args s 0 0 (zA G)) (F0 m 42 ls []) := by
  have he := B.1
  have hb := B.2.1
  intro a0 a1 a2 a3 a4 H locs ls h hS hl
  unfold fX8_sight_42 at h
  refine lv_iinc (v := (a4 + 1)) (lv' := [(4, _), (0, _), (1, _), (2, _), (3, _)]) he hb dX8_sight_42 hl (k := 4) rfl rfl (by decide) rfl (fun ls hl => ?_)
  refine lv_goto (tgt := 5) he hb dX8_sight_45 (by decide) ?_
  exact hr5 _ _ _ _ _ _ _ _ h hS (lv_sub hl [1, 2, 3, 4, 0] rfl)
def fX8_sight_5 (N n : Nat) (f : zF) : Nat → Nat → Int32 → Int32 → Int32 → Int32 → Option Int32
  | 0, _, _, _, _, _ => none
  | k + 1, a0, a1, a2, a3, a4 =>
    ((zgR n f 8 a0 0).bind fun x1 => ((zgI n f 2 x1 3).bind fun x2 => (if x2 ≤ a4 then some a3 else ((zgR n f 8 a0 2).bind fun x3 => ((fX11_at N n f x3 a4).bind fun x4 => ((zck n f 8 a0).bind fun _ => ((fX8_isInSight N n f a0 a1 a2 x4).bind fun x5 => (if x5 = 0 then (fX8_sight_42 (fX8_sight_5 N n f k) N n f a0 a1 a2 a3 a4) else (fX8_sight_42 (fX8_sight_5 N n f k) N n f a0 a1 a2 (a3 ||| (zishl (1 : Int32) a4)) a4)))))))))
set_option maxRecDepth 100000 in
set_option maxHeartbeats 4000000 in
theorem gX8_sight_5 (l : Launch) {G : zG} {p : Program} {e : Env} {s : State} {m : MethodId} {args : Array Value} {below : List Frame} {meth : Method} {c : Code} {f : zF} {N n : Nat} {r : Int32} (B : zB G p s m args meth c RX8 cX8_sight 5 (some .int)) : ∀ (k : Nat), ∀ (a0 : Nat) (a1 : Int32) (a2 : Int32) (a3 : Int32) (a4 : Int32) (H : Heap) (locs : List Loc) (ls : Array Slot), fX8_sight_5 N n f k a0 a1 a2 a3 a4 = some r → zS G n f H locs → lv_has ls 5 [(0, zr G a0), (1, .int a1), (2, .int a2), (3, .int a3), (4, .int a4)] → W p l e (zrm 2) s m args below meth c H locs 0 0 (MQ below (zQc G n f (some (.int r))) args s 0 0 (zA G)) (F0 m 5 ls []) := by
  have he := B.1
  have hb := B.2.1
  intro k
  induction k with
  | zero =>
    intro a0 a1 a2 a3 a4 H locs ls h
    unfold fX8_sight_5 at h
    cases h
  | succ k ih =>
    intro a0 a1 a2 a3 a4 H locs ls h hS hl
    unfold fX8_sight_5 at h
    refine lv_iload he hb dX8_sight_5 (lv_at hl 4 rfl) ?_
    refine z_aload_n he hb dX8_sight_7 rfl (lv_at hl 0 rfl) (zref_r _ _) ?_
    obtain ⟨x1, hx, h⟩ := zob h
    refine z_getR (ci := 8) (T := TX8) (N := 9) (j := 0) B hS hx rfl zin_X8 (by decide) zk_248 dX8_sight_8 ?_
    obtain ⟨x2, hx, h⟩ := zob h
    refine z_getI (ci := 2) (T := TX2) (N := 15) (j := 3) B hS hx rfl zin_X2 (by decide) zk_165 dX8_sight_11 ?_
    refine lv_icmp_ge (tgt := 48) he hb dX8_sight_14 (by decide) (fun hc => ?_) (fun hc => ?_)
    · rw [if_pos hc] at h
      refine lv_iload_n he hb dX8_sight_48 rfl (lv_at hl 3 rfl) ?_
      obtain rfl := Option.some.inj h
      exact z_iret B hS dX8_sight_49
    · rw [if_neg hc] at h
      refine z_aload_n he hb dX8_sight_17 rfl (lv_at hl 0 rfl) (zref_r _ _) ?_
      refine lv_iload_n he hb dX8_sight_18 rfl (lv_at hl 1 rfl) ?_
      refine lv_iload_n he hb dX8_sight_19 rfl (lv_at hl 2 rfl) ?_
      refine z_aload_n he hb dX8_sight_20 rfl (lv_at hl 0 rfl) (zref_r _ _) ?_
      obtain ⟨x3, hx, h⟩ := zob h
      refine z_getR (ci := 8) (T := TX8) (N := 9) (j := 2) B hS hx rfl zin_X8 (by decide) zk_254 dX8_sight_21 ?_
      refine lv_iload he hb dX8_sight_24 (lv_at hl 4 rfl) ?_
      obtain ⟨x4, hx, h⟩ := zob h
      refine z_callN (rest := [_, _, _]) B hS (mX11_at l G hx) zy_X11_at zkn_710 (by decide) rfl hl rfl (Nat.le_of_ble_eq_true rfl) dX8_sight_26 (kk := (fun H locs hS => ?_))
      obtain ⟨_, hc, h⟩ := zob h
      obtain ⟨x5, hx, h⟩ := zob h
      refine z_callV (ci := 8) (T := TX8) (N := 9) (rest := []) B hS (mX8_isInSight l G hx) zy_X8_isInSight zk_767 (by decide) hc rfl rfl hl rfl (Nat.le_of_ble_eq_true rfl) dX8_sight_29 (kk := (fun H locs hS => ?_))
      refine lv_if_eq (tgt := 42) he hb dX8_sight_32 (by decide) (fun hc => ?_) (fun hc => ?_)
      · rw [if_pos hc] at h
        exact gX8_sight_42 l B ih _ _ _ _ _ _ _ _ h hS (lv_sub hl [0, 1, 2, 3, 4] rfl)
      · rw [if_neg hc] at h
        refine lv_iload_n he hb dX8_sight_35 rfl (lv_at hl 3 rfl) ?_
        refine lv_iconst (v := (1 : Int32)) he hb dX8_sight_36 (by decide) ?_
        refine lv_iload he hb dX8_sight_37 (lv_at hl 4 rfl) ?_
        refine z_ishl he hb dX8_sight_39 ?_
        refine lv_ior he hb dX8_sight_40 ?_
        refine lv_istore_n (lv' := [(3, _), (0, _), (1, _), (2, _), (4, _)]) he hb dX8_sight_41 rfl hl (by decide) rfl (fun ls hl => ?_)
        exact gX8_sight_42 l B ih _ _ _ _ _ _ _ _ h hS (lv_sub hl [1, 2, 3, 0, 4] rfl)
def fX8_sight (N n : Nat) (f : zF) (a0 : Nat) (a1 : Int32) (a2 : Int32) : Option Int32 :=
    (fX8_sight_5 N n f N a0 a1 a2 (0 : Int32) (0 : Int32))
set_option maxRecDepth 100000 in
set_option maxHeartbeats 4000000 in
theorem mX8_sight (l : Launch) (G : zG) {N n : Nat} {f : zF} {r : Int32} {a0 : Nat} {a1 : Int32} {a2 : Int32} (h : fX8_sight N n f a0 a1 a2 = some r) : zM l G yX8_sight cX8_sight 5 (some .int) 2 n f [zr G a0, .int a1, .int a2] (some (.int r)) f := by
  refine zM.of (by decide) (Nat.le_of_ble_eq_true rfl) ?_
  intro p e s m args below meth c locs ls B hS hl
  have he := B.1
  have hb := B.2.1
  have hl : lv_has ls 5 [(0, zr G a0), (1, .int a1), (2, .int a2)] := hl
  unfold fX8_sight at h
  generalize s.heap = H at hS ⊢
  refine lv_iconst (v := (0 : Int32)) he hb dX8_sight_0 (by decide) ?_
  refine lv_istore_n (lv' := [(3, _), (0, _), (1, _), (2, _)]) he hb dX8_sight_1 rfl hl (by decide) rfl (fun ls hl => ?_)
  refine lv_iconst (v := (0 : Int32)) he hb dX8_sight_2 (by decide) ?_
  refine lv_istore (lv' := [(4, _), (3, _), (0, _), (1, _), (2, _)]) he hb dX8_sight_3 hl (by decide) rfl (fun ls hl => ?_)
  exact gX8_sight_5 l B N _ _ _ _ _ _ _ _ h hS (lv_sub hl [2, 3, 4, 1, 0] rfl)
theorem dX8_nextSeed_0 : decode cX8_nextSeed 0 = .ok (.iload_n 0, 1) := by decide +kernel
theorem dX8_nextSeed_1 : decode cX8_nextSeed 1 = .ok (.ldc 154, 2) := by decide +kernel
theorem dX8_nextSeed_3 : decode cX8_nextSeed 3 = .ok (.imul, 1) := by decide +kernel
theorem dX8_nextSeed_4 : decode cX8_nextSeed 4 = .ok (.sipush 12345, 3) := by decide +kernel
theorem dX8_nextSeed_7 : decode cX8_nextSeed 7 = .ok (.iadd, 1) := by decide +kernel
theorem dX8_nextSeed_8 : decode cX8_nextSeed 8 = .ok (.ireturn, 1) := by decide +kernel
def fX8_nextSeed (N n : Nat) (f : zF) (a0 : Int32) : Option Int32 :=
    some ((a0 * (1103515245 : Int32)) + (12345 : Int32))
set_option maxRecDepth 100000 in
set_option maxHeartbeats 4000000 in
theorem mX8_nextSeed (l : Launch) (G : zG) {N n : Nat} {f : zF} {r : Int32} {a0 : Int32} (h : fX8_nextSeed N n f a0 = some r) : zM l G yX8_nextSeed cX8_nextSeed 1 (some .int) 0 n f [.int a0] (some (.int r)) f := by
  refine zM.of (by decide) (Nat.le_of_ble_eq_true rfl) ?_
  intro p e s m args below meth c locs ls B hS hl
  have he := B.1
  have hb := B.2.1
  have hl : lv_has ls 1 [(0, .int a0)] := hl
  unfold fX8_nextSeed at h
  generalize s.heap = H at hS ⊢
  refine lv_iload_n he hb dX8_nextSeed_0 rfl (lv_at hl 0 rfl) ?_
  refine lv_ldc (v := (1103515245 : Int32)) he hb B.2.2.2.1 (B.2.2.2.2.1 _ zk_1063) dX8_nextSeed_1 ?_
  refine lv_imul he hb dX8_nextSeed_3 ?_
  refine lv_sipush (v := (12345 : Int32)) he hb dX8_nextSeed_4 (by decide) ?_
  refine lv_iadd he hb dX8_nextSeed_7 ?_
  obtain rfl := Option.some.inj h
  exact z_iret B hS dX8_nextSeed_8
theorem dX8_goDrawnHour_0 : decode cX8_goDrawnHour 0 = .ok (.iload_n 1, 1) := by decide +kernel
theorem dX8_goDrawnHour_1 : decode cX8_goDrawnHour 1 = .ok (.istore_n 2, 1) := by decide +kernel
theorem dX8_goDrawnHour_2 : decode cX8_goDrawnHour 2 = .ok (.iconst 0, 1) := by decide +kernel
theorem dX8_goDrawnHour_3 : decode cX8_goDrawnHour 3 = .ok (.istore_n 3, 1) := by decide +kernel
theorem dX8_goDrawnHour_4 : decode cX8_goDrawnHour 4 = .ok (.iload_n 3, 1) := by decide +kernel
theorem dX8_goDrawnHour_5 : decode cX8_goDrawnHour 5 = .ok (.aload_n 0, 1) := by decide +kernel
theorem dX8_goDrawnHour_6 : decode cX8_goDrawnHour 6 = .ok (.getfield 33, 3) := by decide +kernel
theorem dX8_goDrawnHour_9 : decode cX8_goDrawnHour 9 = .ok (.getfield 84, 3) := by decide +kernel
theorem dX8_goDrawnHour_12 : decode cX8_goDrawnHour 12 = .ok (.if_icmp .ge 88, 3) := by decide +kernel
theorem dX8_goDrawnHour_15 : decode cX8_goDrawnHour 15 = .ok (.iload_n 2, 1) := by decide +kernel
theorem dX8_goDrawnHour_16 : decode cX8_goDrawnHour 16 = .ok (.invokestatic 139, 3) := by decide +kernel
theorem dX8_goDrawnHour_19 : decode cX8_goDrawnHour 19 = .ok (.istore_n 2, 1) := by decide +kernel
theorem dX8_goDrawnHour_20 : decode cX8_goDrawnHour 20 = .ok (.iload_n 2, 1) := by decide +kernel
theorem dX8_goDrawnHour_21 : decode cX8_goDrawnHour 21 = .ok (.bipush 8, 2) := by decide +kernel
theorem dX8_goDrawnHour_23 : decode cX8_goDrawnHour 23 = .ok (.iushr, 1) := by decide +kernel
theorem dX8_goDrawnHour_24 : decode cX8_goDrawnHour 24 = .ok (.bipush 8, 2) := by decide +kernel
theorem dX8_goDrawnHour_26 : decode cX8_goDrawnHour 26 = .ok (.irem, 1) := by decide +kernel
theorem dX8_goDrawnHour_27 : decode cX8_goDrawnHour 27 = .ok (.istore 4, 2) := by decide +kernel
theorem dX8_goDrawnHour_29 : decode cX8_goDrawnHour 29 = .ok (.iload 4, 2) := by decide +kernel
theorem dX8_goDrawnHour_31 : decode cX8_goDrawnHour 31 = .ok (.iconst 4, 1) := by decide +kernel
theorem dX8_goDrawnHour_32 : decode cX8_goDrawnHour 32 = .ok (.if_icmp .ge 14, 3) := by decide +kernel
theorem dX8_goDrawnHour_35 : decode cX8_goDrawnHour 35 = .ok (.aload_n 0, 1) := by decide +kernel
theorem dX8_goDrawnHour_36 : decode cX8_goDrawnHour 36 = .ok (.iload_n 3, 1) := by decide +kernel
theorem dX8_goDrawnHour_37 : decode cX8_goDrawnHour 37 = .ok (.iload 4, 2) := by decide +kernel
theorem dX8_goDrawnHour_39 : decode cX8_goDrawnHour 39 = .ok (.invokevirtual 142, 3) := by decide +kernel
theorem dX8_goDrawnHour_42 : decode cX8_goDrawnHour 42 = .ok (.pop, 1) := by decide +kernel
theorem dX8_goDrawnHour_43 : decode cX8_goDrawnHour 43 = .ok (.goto 51, 3) := by decide +kernel
theorem dX8_goDrawnHour_46 : decode cX8_goDrawnHour 46 = .ok (.iload 4, 2) := by decide +kernel
theorem dX8_goDrawnHour_48 : decode cX8_goDrawnHour 48 = .ok (.iconst 4, 1) := by decide +kernel
theorem dX8_goDrawnHour_49 : decode cX8_goDrawnHour 49 = .ok (.if_icmp .ne 22, 3) := by decide +kernel
theorem dX8_goDrawnHour_52 : decode cX8_goDrawnHour 52 = .ok (.aload_n 0, 1) := by decide +kernel
theorem dX8_goDrawnHour_53 : decode cX8_goDrawnHour 53 = .ok (.iload_n 3, 1) := by decide +kernel
theorem dX8_goDrawnHour_54 : decode cX8_goDrawnHour 54 = .ok (.iconst 1, 1) := by decide +kernel
theorem dX8_goDrawnHour_55 : decode cX8_goDrawnHour 55 = .ok (.aload_n 0, 1) := by decide +kernel
theorem dX8_goDrawnHour_56 : decode cX8_goDrawnHour 56 = .ok (.getfield 27, 3) := by decide +kernel
theorem dX8_goDrawnHour_59 : decode cX8_goDrawnHour 59 = .ok (.iload_n 3, 1) := by decide +kernel
theorem dX8_goDrawnHour_60 : decode cX8_goDrawnHour 60 = .ok (.invokestatic 57, 3) := by decide +kernel
theorem dX8_goDrawnHour_63 : decode cX8_goDrawnHour 63 = .ok (.isub, 1) := by decide +kernel
theorem dX8_goDrawnHour_64 : decode cX8_goDrawnHour 64 = .ok (.invokevirtual 145, 3) := by decide +kernel
theorem dX8_goDrawnHour_67 : decode cX8_goDrawnHour 67 = .ok (.pop, 1) := by decide +kernel
theorem dX8_goDrawnHour_68 : decode cX8_goDrawnHour 68 = .ok (.goto 26, 3) := by decide +kernel
theorem dX8_goDrawnHour_71 : decode cX8_goDrawnHour 71 = .ok (.iload 4, 2) := by decide +kernel
theorem dX8_goDrawnHour_73 : decode cX8_goDrawnHour 73 = .ok (.iconst 5, 1) := by decide +kernel
theorem dX8_goDrawnHour_74 : decode cX8_goDrawnHour 74 = .ok (.if_icmp .ne 20, 3) := by decide +kernel
theorem dX8_goDrawnHour_77 : decode cX8_goDrawnHour 77 = .ok (.iload_n 2, 1) := by decide +kernel
theorem dX8_goDrawnHour_78 : decode cX8_goDrawnHour 78 = .ok (.invokestatic 139, 3) := by decide +kernel
theorem dX8_goDrawnHour_81 : decode cX8_goDrawnHour 81 = .ok (.istore_n 2, 1) := by decide +kernel
theorem dX8_goDrawnHour_82 : decode cX8_goDrawnHour 82 = .ok (.aload_n 0, 1) := by decide +kernel
theorem dX8_goDrawnHour_83 : decode cX8_goDrawnHour 83 = .ok (.iload_n 3, 1) := by decide +kernel
theorem dX8_goDrawnHour_84 : decode cX8_goDrawnHour 84 = .ok (.iload_n 2, 1) := by decide +kernel
theorem dX8_goDrawnHour_85 : decode cX8_goDrawnHour 85 = .ok (.bipush 8, 2) := by decide +kernel
theorem dX8_goDrawnHour_87 : decode cX8_goDrawnHour 87 = .ok (.iushr, 1) := by decide +kernel
theorem dX8_goDrawnHour_88 : decode cX8_goDrawnHour 88 = .ok (.iconst 4, 1) := by decide +kernel
theorem dX8_goDrawnHour_89 : decode cX8_goDrawnHour 89 = .ok (.irem, 1) := by decide +kernel
theorem dX8_goDrawnHour_90 : decode cX8_goDrawnHour 90 = .ok (.invokevirtual 148, 3) := by decide +kernel
theorem dX8_goDrawnHour_93 : decode cX8_goDrawnHour 93 = .ok (.pop, 1) := by decide +kernel
theorem dX8_goDrawnHour_94 : decode cX8_goDrawnHour 94 = .ok (.iinc 3 1, 3) := by decide +kernel
theorem dX8_goDrawnHour_97 : decode cX8_goDrawnHour 97 = .ok (.goto (-93), 3) := by decide +kernel
theorem dX8_goDrawnHour_100 : decode cX8_goDrawnHour 100 = .ok (.aload_n 0, 1) := by decide +kernel
theorem dX8_goDrawnHour_101 : decode cX8_goDrawnHour 101 = .ok (.invokevirtual 151, 3) := by decide +kernel
theorem dX8_goDrawnHour_104 : decode cX8_goDrawnHour 104 = .ok (.iload_n 2, 1) := by decide +kernel
theorem dX8_goDrawnHour_105 : decode cX8_goDrawnHour 105 = .ok (.ireturn, 1) := by decide +kernel
def fX8_goDrawnHour_94 (r4 : zF → Nat → Int32 → Int32 → Option (zF × Int32)) (N n : Nat) (f : zF) (a0 : Nat) (a2 : Int32) (a3 : Int32) : Option (zF × Int32) :=
    (r4 f a0 a2 (a3 + 1))
set_option maxRecDepth 100000 in
set_option maxHeartbeats 4000000 in
theorem gX8_goDrawnHour_94 (l : Launch) {G : zG} {p : Program} {e : Env} {s : State} {m : MethodId} {args : Array Value} {below : List Frame} {meth : Method} {c : Code} {N n : Nat} {f9 : zF} {r : Int32} {r4 : zF → Nat → Int32 → Int32 → Option (zF × Int32)} (B : zB G p s m args meth c RX8 cX8_goDrawnHour 5 (some .int)) (hr4 : ∀ (f : zF) (a0 : Nat) (a2 : Int32) (a3 : Int32) (H : Heap) (locs : List Loc) (ls : Array Slot), r4 f a0 a2 a3 = some (f9, r) → zS G n f H locs → lv_has ls 5 [(0, zr G a0), (2, .int a2), (3, .int a3)] → W p l e (zrm 4) s m args below meth c H locs 0 0 (MQ below (zQc G n f9 (some (.int r))) args s 0 0 (zA G)) (F0 m 4 ls [])) : ∀ (f : zF) (a0 : Nat) (a2 : Int32) (a3 : Int32) (H : Heap) (locs : List Loc) (ls : Array Slot), fX8_goDrawnHour_94 r4 N n f a0 a2 a3 = some (f9, r) → zS G n f H locs → lv_has ls 5 [(0, zr G a0), (2, .int a2), (3, .int a3)] → W p l e (zrm 4) s m args below meth c H locs 0 0 (MQ below (zQc G n f9 (some (.int r))) args s 0 0 (zA G)) (F0 m 94 ls []) := by
  have he := B.1
  have hb := B.2.1
  intro f a0 a2 a3 H locs ls h hS hl
  unfold fX8_goDrawnHour_94 at h
  refine lv_iinc (v := (a3 + 1)) (lv' := [(3, _), (0, _), (2, _)]) he hb dX8_goDrawnHour_94 hl (k := 2) rfl rfl (by decide) rfl (fun ls hl => ?_)
  refine lv_goto (tgt := 4) he hb dX8_goDrawnHour_97 (by decide) ?_
  exact hr4 _ _ _ _ _ _ _ h hS (lv_sub hl [1, 2, 0] rfl)
def fX8_goDrawnHour_4 (N n : Nat) : Nat → zF → Nat → Int32 → Int32 → Option (zF × Int32)
  | 0, _, _, _, _ => none
  | k + 1, f, a0, a2, a3 =>
    ((zgR n f 8 a0 0).bind fun x1 => ((zgI n f 2 x1 4).bind fun x2 => (if x2 ≤ a3 then ((zck n f 8 a0).bind fun _ => ((fX8_goHour N n f a0).bind fun f3 => some (f3, a2))) else ((fX8_nextSeed N n f a2).bind fun x4 => (if (4 : Int32) ≤ (zrem (ziushr x4 (8 : Int32)) (8 : Int32)) then (if (zrem (ziushr x4 (8 : Int32)) (8 : Int32)) = (4 : Int32) then ((zgR n f 8 a0 7).bind fun x8 => ((fX11_at N n f x8 a3).bind fun x9 => ((zck n f 8 a0).bind fun _ => (zbd (fX8_setEyes N n f a0 a3 ((1 : Int32) - x9)) fun f11 x10 => (fX8_goDrawnHour_94 (fX8_goDrawnHour_4 N n k) N n f11 a0 x4 a3))))) else (if (zrem (ziushr x4 (8 : Int32)) (8 : Int32)) = (5 : Int32) then ((fX8_nextSeed N n f x4).bind fun x5 => ((zck n f 8 a0).bind fun _ => (zbd (fX8_walkTo N n f a0 a3 (zrem (ziushr x5 (8 : Int32)) (4 : Int32))) fun f7 x6 => (fX8_goDrawnHour_94 (fX8_goDrawnHour_4 N n k) N n f7 a0 x5 a3)))) else (fX8_goDrawnHour_94 (fX8_goDrawnHour_4 N n k) N n f a0 x4 a3))) else ((zck n f 8 a0).bind fun _ => (zbd (fX8_turnTo N n f a0 a3 (zrem (ziushr x4 (8 : Int32)) (8 : Int32))) fun f13 x12 => (fX8_goDrawnHour_94 (fX8_goDrawnHour_4 N n k) N n f13 a0 x4 a3))))))))
set_option maxRecDepth 100000 in
set_option maxHeartbeats 4000000 in
theorem gX8_goDrawnHour_4 (l : Launch) {G : zG} {p : Program} {e : Env} {s : State} {m : MethodId} {args : Array Value} {below : List Frame} {meth : Method} {c : Code} {N n : Nat} {f9 : zF} {r : Int32} (B : zB G p s m args meth c RX8 cX8_goDrawnHour 5 (some .int)) : ∀ (k : Nat), ∀ (f : zF) (a0 : Nat) (a2 : Int32) (a3 : Int32) (H : Heap) (locs : List Loc) (ls : Array Slot), fX8_goDrawnHour_4 N n k f a0 a2 a3 = some (f9, r) → zS G n f H locs → lv_has ls 5 [(0, zr G a0), (2, .int a2), (3, .int a3)] → W p l e (zrm 4) s m args below meth c H locs 0 0 (MQ below (zQc G n f9 (some (.int r))) args s 0 0 (zA G)) (F0 m 4 ls []) := by
  have he := B.1
  have hb := B.2.1
  intro k
  induction k with
  | zero =>
    intro f a0 a2 a3 H locs ls h
    unfold fX8_goDrawnHour_4 at h
    cases h
  | succ k ih =>
    intro f a0 a2 a3 H locs ls h hS hl
    unfold fX8_goDrawnHour_4 at h
    refine lv_iload_n he hb dX8_goDrawnHour_4 rfl (lv_at hl 2 rfl) ?_
    refine z_aload_n he hb dX8_goDrawnHour_5 rfl (lv_at hl 0 rfl) (zref_r _ _) ?_
    obtain ⟨x1, hx, h⟩ := zob h
    refine z_getR (ci := 8) (T := TX8) (N := 9) (j := 0) B hS hx rfl zin_X8 (by decide) zk_248 dX8_goDrawnHour_6 ?_
    obtain ⟨x2, hx, h⟩ := zob h
    refine z_getI (ci := 2) (T := TX2) (N := 15) (j := 4) B hS hx rfl zin_X2 (by decide) zk_171 dX8_goDrawnHour_9 ?_
    refine lv_icmp_ge (tgt := 100) he hb dX8_goDrawnHour_12 (by decide) (fun hc => ?_) (fun hc => ?_)
    · rw [if_pos hc] at h
      refine z_aload_n he hb dX8_goDrawnHour_100 rfl (lv_at hl 0 rfl) (zref_r _ _) ?_
      obtain ⟨_, hc, h⟩ := zob h
      obtain ⟨f3, hx, h⟩ := zob h
      refine z_callV (ci := 8) (T := TX8) (N := 9) (rest := []) B hS (mX8_goHour l G hx) zy_X8_goHour zk_1067 (by decide) hc rfl rfl hl rfl (Nat.le_of_ble_eq_true rfl) dX8_goDrawnHour_101 (kk := (fun H locs hS => ?_))
      refine lv_iload_n he hb dX8_goDrawnHour_104 rfl (lv_at hl 1 rfl) ?_
      obtain ⟨rfl, rfl⟩ := Prod.mk.inj (Option.some.inj h)
      exact z_iret B hS dX8_goDrawnHour_105
    · rw [if_neg hc] at h
      refine lv_iload_n he hb dX8_goDrawnHour_15 rfl (lv_at hl 1 rfl) ?_
      obtain ⟨x4, hx, h⟩ := zob h
      refine z_callS (rest := []) B hS (mX8_nextSeed l G hx) zy_X8_nextSeed zk_1060 (by decide) rfl hl rfl (Nat.le_of_ble_eq_true rfl) dX8_goDrawnHour_16 (kk := (fun H locs hS => ?_))
      refine lv_istore_n (lv' := [(2, _), (0, _), (3, _)]) he hb dX8_goDrawnHour_19 rfl hl (by decide) rfl (fun ls hl => ?_)
      refine lv_iload_n he hb dX8_goDrawnHour_20 rfl (lv_at hl 0 rfl) ?_
      refine lv_bipush (v := (8 : Int32)) he hb dX8_goDrawnHour_21 (by decide) ?_
      refine z_iushr he hb dX8_goDrawnHour_23 ?_
      refine lv_bipush (v := (8 : Int32)) he hb dX8_goDrawnHour_24 (by decide) ?_
      refine z_irem he hb dX8_goDrawnHour_26 (by decide) ?_
      refine lv_istore (lv' := [(4, _), (2, _), (0, _), (3, _)]) he hb dX8_goDrawnHour_27 hl (by decide) rfl (fun ls hl => ?_)
      refine lv_iload he hb dX8_goDrawnHour_29 (lv_at hl 0 rfl) ?_
      refine lv_iconst (v := (4 : Int32)) he hb dX8_goDrawnHour_31 (by decide) ?_
      refine lv_icmp_ge (tgt := 46) he hb dX8_goDrawnHour_32 (by decide) (fun hc => ?_) (fun hc => ?_)
      · rw [if_pos hc] at h
        refine lv_iload he hb dX8_goDrawnHour_46 (lv_at hl 0 rfl) ?_
        refine lv_iconst (v := (4 : Int32)) he hb dX8_goDrawnHour_48 (by decide) ?_
        refine lv_icmp_ne (tgt := 71) he hb dX8_goDrawnHour_49 (by decide) (fun hc => ?_) (fun hc => ?_)
        · rw [if_neg hc] at h
          refine lv_iload he hb dX8_goDrawnHour_71 (lv_at hl 0 rfl) ?_
          refine lv_iconst (v := (5 : Int32)) he hb dX8_goDrawnHour_73 (by decide) ?_
          refine lv_icmp_ne (tgt := 94) he hb dX8_goDrawnHour_74 (by decide) (fun hc => ?_) (fun hc => ?_)
          · rw [if_neg hc] at h
            exact gX8_goDrawnHour_94 l B ih _ _ _ _ _ _ _ h hS (lv_sub hl [2, 1, 3] rfl)
          · rw [if_pos hc] at h
            refine lv_iload_n he hb dX8_goDrawnHour_77 rfl (lv_at hl 1 rfl) ?_
            obtain ⟨x5, hx, h⟩ := zob h
            refine z_callS (rest := []) B hS (mX8_nextSeed l G hx) zy_X8_nextSeed zk_1060 (by decide) rfl hl rfl (Nat.le_of_ble_eq_true rfl) dX8_goDrawnHour_78 (kk := (fun H locs hS => ?_))
            refine lv_istore_n (lv' := [(2, _), (4, _), (0, _), (3, _)]) he hb dX8_goDrawnHour_81 rfl hl (by decide) rfl (fun ls hl => ?_)
            refine z_aload_n he hb dX8_goDrawnHour_82 rfl (lv_at hl 2 rfl) (zref_r _ _) ?_
            refine lv_iload_n he hb dX8_goDrawnHour_83 rfl (lv_at hl 3 rfl) ?_
            refine lv_iload_n he hb dX8_goDrawnHour_84 rfl (lv_at hl 0 rfl) ?_
            refine lv_bipush (v := (8 : Int32)) he hb dX8_goDrawnHour_85 (by decide) ?_
            refine z_iushr he hb dX8_goDrawnHour_87 ?_
            refine lv_iconst (v := (4 : Int32)) he hb dX8_goDrawnHour_88 (by decide) ?_
            refine z_irem he hb dX8_goDrawnHour_89 (by decide) ?_
            obtain ⟨_, hc, h⟩ := zob h
            obtain ⟨f7, x6, hx, h⟩ := zbd_i h
            refine z_callV (ci := 8) (T := TX8) (N := 9) (rest := []) B hS (mX8_walkTo l G hx) zy_X8_walkTo zk_1066 (by decide) hc rfl rfl hl rfl (Nat.le_of_ble_eq_true rfl) dX8_goDrawnHour_90 (kk := (fun H locs hS => ?_))
            refine lv_pop he hb dX8_goDrawnHour_93 rfl ?_
            exact gX8_goDrawnHour_94 l B ih _ _ _ _ _ _ _ h hS (lv_sub hl [2, 0, 3] rfl)
        · rw [if_pos hc] at h
          refine z_aload_n he hb dX8_goDrawnHour_52 rfl (lv_at hl 2 rfl) (zref_r _ _) ?_
          refine lv_iload_n he hb dX8_goDrawnHour_53 rfl (lv_at hl 3 rfl) ?_
          refine lv_iconst (v := (1 : Int32)) he hb dX8_goDrawnHour_54 (by decide) ?_
          refine z_aload_n he hb dX8_goDrawnHour_55 rfl (lv_at hl 2 rfl) (zref_r _ _) ?_
          obtain ⟨x8, hx, h⟩ := zob h
          refine z_getR (ci := 8) (T := TX8) (N := 9) (j := 7) B hS hx rfl zin_X8 (by decide) zk_270 dX8_goDrawnHour_56 ?_
          refine lv_iload_n he hb dX8_goDrawnHour_59 rfl (lv_at hl 3 rfl) ?_
          obtain ⟨x9, hx, h⟩ := zob h
          refine z_callN (rest := [_, _, _]) B hS (mX11_at l G hx) zy_X11_at zkn_710 (by decide) rfl hl rfl (Nat.le_of_ble_eq_true rfl) dX8_goDrawnHour_60 (kk := (fun H locs hS => ?_))
          refine lv_isub he hb dX8_goDrawnHour_63 ?_
          obtain ⟨_, hc, h⟩ := zob h
          obtain ⟨f11, x10, hx, h⟩ := zbd_i h
          refine z_callV (ci := 8) (T := TX8) (N := 9) (rest := []) B hS (mX8_setEyes l G hx) zy_X8_setEyes zk_1065 (by decide) hc rfl rfl hl rfl (Nat.le_of_ble_eq_true rfl) dX8_goDrawnHour_64 (kk := (fun H locs hS => ?_))
          refine lv_pop he hb dX8_goDrawnHour_67 rfl ?_
          refine lv_goto (tgt := 94) he hb dX8_goDrawnHour_68 (by decide) ?_
          exact gX8_goDrawnHour_94 l B ih _ _ _ _ _ _ _ h hS (lv_sub hl [2, 1, 3] rfl)
      · rw [if_neg hc] at h
        refine z_aload_n he hb dX8_goDrawnHour_35 rfl (lv_at hl 2 rfl) (zref_r _ _) ?_
        refine lv_iload_n he hb dX8_goDrawnHour_36 rfl (lv_at hl 3 rfl) ?_
        refine lv_iload he hb dX8_goDrawnHour_37 (lv_at hl 0 rfl) ?_
        obtain ⟨_, hc, h⟩ := zob h
        obtain ⟨f13, x12, hx, h⟩ := zbd_i h
        refine z_callV (ci := 8) (T := TX8) (N := 9) (rest := []) B hS (mX8_turnTo l G hx) zy_X8_turnTo zk_1064 (by decide) hc rfl rfl hl rfl (Nat.le_of_ble_eq_true rfl) dX8_goDrawnHour_39 (kk := (fun H locs hS => ?_))
        refine lv_pop he hb dX8_goDrawnHour_42 rfl ?_
        refine lv_goto (tgt := 94) he hb dX8_goDrawnHour_43 (by decide) ?_
        exact gX8_goDrawnHour_94 l B ih _ _ _ _ _ _ _ h hS (lv_sub hl [2, 1, 3] rfl)
def fX8_goDrawnHour (N n : Nat) (f : zF) (a0 : Nat) (a1 : Int32) : Option (zF × Int32) :=
    (fX8_goDrawnHour_4 N n N f a0 a1 (0 : Int32))
set_option maxRecDepth 100000 in
set_option maxHeartbeats 4000000 in
theorem mX8_goDrawnHour (l : Launch) (G : zG) {N n : Nat} {f : zF} {f9 : zF} {r : Int32} {a0 : Nat} {a1 : Int32} (h : fX8_goDrawnHour N n f a0 a1 = some (f9, r)) : zM l G yX8_goDrawnHour cX8_goDrawnHour 5 (some .int) 4 n f [zr G a0, .int a1] (some (.int r)) f9 := by
  refine zM.of (by decide) (Nat.le_of_ble_eq_true rfl) ?_
  intro p e s m args below meth c locs ls B hS hl
  have he := B.1
  have hb := B.2.1
  have hl : lv_has ls 5 [(0, zr G a0), (1, .int a1)] := hl
  unfold fX8_goDrawnHour at h
  generalize s.heap = H at hS ⊢
  refine lv_iload_n he hb dX8_goDrawnHour_0 rfl (lv_at hl 1 rfl) ?_
  refine lv_istore_n (lv' := [(2, _), (0, _), (1, _)]) he hb dX8_goDrawnHour_1 rfl hl (by decide) rfl (fun ls hl => ?_)
  refine lv_iconst (v := (0 : Int32)) he hb dX8_goDrawnHour_2 (by decide) ?_
  refine lv_istore_n (lv' := [(3, _), (2, _), (0, _), (1, _)]) he hb dX8_goDrawnHour_3 rfl hl (by decide) rfl (fun ls hl => ?_)
  exact gX8_goDrawnHour_4 l B N _ _ _ _ _ _ _ h hS (lv_sub hl [2, 1, 0] rfl)
