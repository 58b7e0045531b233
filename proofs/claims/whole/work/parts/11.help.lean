/-! methods: what they do to the small heap, and that their bytecode does it -/
theorem dX11_put_0 : decode cX11_put 0 = .ok (.iload_n 1, 1) := by decide +kernel
theorem dX11_put_1 : decode cX11_put 1 = .ok (.ifCond .lt 13, 3) := by decide +kernel
theorem dX11_put_4 : decode cX11_put 4 = .ok (.iload_n 1, 1) := by decide +kernel
theorem dX11_put_5 : decode cX11_put 5 = .ok (.aload_n 0, 1) := by decide +kernel
theorem dX11_put_6 : decode cX11_put 6 = .ok (.arraylength, 1) := by decide +kernel
theorem dX11_put_7 : decode cX11_put 7 = .ok (.if_icmp .ge 7, 3) := by decide +kernel
theorem dX11_put_10 : decode cX11_put 10 = .ok (.aload_n 0, 1) := by decide +kernel
theorem dX11_put_11 : decode cX11_put 11 = .ok (.iload_n 1, 1) := by decide +kernel
theorem dX11_put_12 : decode cX11_put 12 = .ok (.iload_n 2, 1) := by decide +kernel
theorem dX11_put_13 : decode cX11_put 13 = .ok (.iastore, 1) := by decide +kernel
theorem dX11_put_14 : decode cX11_put 14 = .ok (.return_, 1) := by decide +kernel
def fX11_put (N n : Nat) (f : zF) (a0 : Nat) (a1 : Int32) (a2 : Int32) : Option zF :=
    (if a1 < 0 then some f else ((zlen n f 0 a0).bind fun x1 => (if x1 ≤ a1 then some f else ((zsI n f 0 a0 a1 a2).bind fun f2 => some f2))))
set_option maxRecDepth 100000 in
set_option maxHeartbeats 4000000 in
theorem mX11_put (l : Launch) (G : zG) {N n : Nat} {f : zF} {f9 : zF} {a0 : Nat} {a1 : Int32} {a2 : Int32} (h : fX11_put N n f a0 a1 a2 = some f9) : zM l G yX11_put cX11_put 3 (none) 0 n f [zr G a0, .int a1, .int a2] (none) f9 := by
  refine zM.of (by decide) (Nat.le_of_ble_eq_true rfl) ?_
  intro p e s m args below meth c locs ls B hS hl
  have he := B.1
  have hb := B.2.1
  have hl : lv_has ls 3 [(0, zr G a0), (1, .int a1), (2, .int a2)] := hl
  unfold fX11_put at h
  generalize s.heap = H at hS ⊢
  refine lv_iload_n he hb dX11_put_0 rfl (lv_at hl 1 rfl) ?_
  refine lv_if_lt (tgt := 14) he hb dX11_put_1 (by decide) (fun hc => ?_) (fun hc => ?_)
  · rw [if_pos hc] at h
    obtain rfl := Option.some.inj h
    exact z_vret B hS dX11_put_14
  · rw [if_neg hc] at h
    refine lv_iload_n he hb dX11_put_4 rfl (lv_at hl 1 rfl) ?_
    refine z_aload_n he hb dX11_put_5 rfl (lv_at hl 0 rfl) (zref_r _ _) ?_
    obtain ⟨x1, hx, h⟩ := zob h
    refine z_len B hS hx rfl dX11_put_6 ?_
    refine lv_icmp_ge (tgt := 14) he hb dX11_put_7 (by decide) (fun hc => ?_) (fun hc => ?_)
    · rw [if_pos hc] at h
      obtain rfl := Option.some.inj h
      exact z_vret B hS dX11_put_14
    · rw [if_neg hc] at h
      refine z_aload_n he hb dX11_put_10 rfl (lv_at hl 0 rfl) (zref_r _ _) ?_
      refine lv_iload_n he hb dX11_put_11 rfl (lv_at hl 1 rfl) ?_
      refine lv_iload_n he hb dX11_put_12 rfl (lv_at hl 2 rfl) ?_
      obtain ⟨f2, hx, h⟩ := zob h
      refine z_istI B hS hx dX11_put_13 (fun H locs hS => ?_)
      obtain rfl := Option.some.inj h
      exact z_vret B hS dX11_put_14
theorem dX11_at_0 : decode cX11_at 0 = .ok (.iload_n 1, 1) := by decide +kernel
theorem dX11_at_1 : decode cX11_at 1 = .ok (.ifCond .lt 15, 3) := by decide +kernel
theorem dX11_at_4 : decode cX11_at 4 = .ok (.iload_n 1, 1) := by decide +kernel
theorem dX11_at_5 : decode cX11_at 5 = .ok (.aload_n 0, 1) := by decide +kernel
theorem dX11_at_6 : decode cX11_at 6 = .ok (.arraylength, 1) := by decide +kernel
theorem dX11_at_7 : decode cX11_at 7 = .ok (.if_icmp .ge 9, 3) := by decide +kernel
theorem dX11_at_10 : decode cX11_at 10 = .ok (.aload_n 0, 1) := by decide +kernel
theorem dX11_at_11 : decode cX11_at 11 = .ok (.iload_n 1, 1) := by decide +kernel
theorem dX11_at_12 : decode cX11_at 12 = .ok (.iaload, 1) := by decide +kernel
theorem dX11_at_13 : decode cX11_at 13 = .ok (.goto 4, 3) := by decide +kernel
theorem dX11_at_16 : decode cX11_at 16 = .ok (.iconst 0, 1) := by decide +kernel
theorem dX11_at_17 : decode cX11_at 17 = .ok (.ireturn, 1) := by decide +kernel
def fX11_at (N n : Nat) (f : zF) (a0 : Nat) (a1 : Int32) : Option Int32 :=
    (if a1 < 0 then some (0 : Int32) else ((zlen n f 0 a0).bind fun x1 => (if x1 ≤ a1 then some (0 : Int32) else ((zlI n f 0 a0 a1).bind fun x2 => some x2))))
set_option maxRecDepth 100000 in
set_option maxHeartbeats 4000000 in
theorem mX11_at (l : Launch) (G : zG) {N n : Nat} {f : zF} {r : Int32} {a0 : Nat} {a1 : Int32} (h : fX11_at N n f a0 a1 = some r) : zM l G yX11_at cX11_at 2 (some .int) 0 n f [zr G a0, .int a1] (some (.int r)) f := by
  refine zM.of (by decide) (Nat.le_of_ble_eq_true rfl) ?_
  intro p e s m args below meth c locs ls B hS hl
  have he := B.1
  have hb := B.2.1
  have hl : lv_has ls 2 [(0, zr G a0), (1, .int a1)] := hl
  unfold fX11_at at h
  generalize s.heap = H at hS ⊢
  refine lv_iload_n he hb dX11_at_0 rfl (lv_at hl 1 rfl) ?_
  refine lv_if_lt (tgt := 16) he hb dX11_at_1 (by decide) (fun hc => ?_) (fun hc => ?_)
  · rw [if_pos hc] at h
    refine lv_iconst (v := (0 : Int32)) he hb dX11_at_16 (by decide) ?_
    obtain rfl := Option.some.inj h
    exact z_iret B hS dX11_at_17
  · rw [if_neg hc] at h
    refine lv_iload_n he hb dX11_at_4 rfl (lv_at hl 1 rfl) ?_
    refine z_aload_n he hb dX11_at_5 rfl (lv_at hl 0 rfl) (zref_r _ _) ?_
    obtain ⟨x1, hx, h⟩ := zob h
    refine z_len B hS hx rfl dX11_at_6 ?_
    refine lv_icmp_ge (tgt := 16) he hb dX11_at_7 (by decide) (fun hc => ?_) (fun hc => ?_)
    · rw [if_pos hc] at h
      refine lv_iconst (v := (0 : Int32)) he hb dX11_at_16 (by decide) ?_
      obtain rfl := Option.some.inj h
      exact z_iret B hS dX11_at_17
    · rw [if_neg hc] at h
      refine z_aload_n he hb dX11_at_10 rfl (lv_at hl 0 rfl) (zref_r _ _) ?_
      refine lv_iload_n he hb dX11_at_11 rfl (lv_at hl 1 rfl) ?_
      obtain ⟨x2, hx, h⟩ := zob h
      refine z_ildI B hS hx dX11_at_12 ?_
      refine lv_goto (tgt := 17) he hb dX11_at_13 (by decide) ?_
      obtain rfl := Option.some.inj h
      exact z_iret B hS dX11_at_17
theorem dX11_placeOf_0 : decode cX11_placeOf 0 = .ok (.iconst 0, 1) := by decide +kernel
theorem dX11_placeOf_1 : decode cX11_placeOf 1 = .ok (.istore 4, 2) := by decide +kernel
theorem dX11_placeOf_3 : decode cX11_placeOf 3 = .ok (.iload 4, 2) := by decide +kernel
theorem dX11_placeOf_5 : decode cX11_placeOf 5 = .ok (.iload_n 1, 1) := by decide +kernel
theorem dX11_placeOf_6 : decode cX11_placeOf 6 = .ok (.if_icmp .ge 28, 3) := by decide +kernel
theorem dX11_placeOf_9 : decode cX11_placeOf 9 = .ok (.iload 4, 2) := by decide +kernel
theorem dX11_placeOf_11 : decode cX11_placeOf 11 = .ok (.aload_n 0, 1) := by decide +kernel
theorem dX11_placeOf_12 : decode cX11_placeOf 12 = .ok (.arraylength, 1) := by decide +kernel
theorem dX11_placeOf_13 : decode cX11_placeOf 13 = .ok (.if_icmp .ge 21, 3) := by decide +kernel
theorem dX11_placeOf_16 : decode cX11_placeOf 16 = .ok (.aload_n 0, 1) := by decide +kernel
theorem dX11_placeOf_17 : decode cX11_placeOf 17 = .ok (.iload 4, 2) := by decide +kernel
theorem dX11_placeOf_19 : decode cX11_placeOf 19 = .ok (.laload, 1) := by decide +kernel
theorem dX11_placeOf_20 : decode cX11_placeOf 20 = .ok (.lload_n 2, 1) := by decide +kernel
theorem dX11_placeOf_21 : decode cX11_placeOf 21 = .ok (.lcmp, 1) := by decide +kernel
theorem dX11_placeOf_22 : decode cX11_placeOf 22 = .ok (.ifCond .ne 6, 3) := by decide +kernel
theorem dX11_placeOf_25 : decode cX11_placeOf 25 = .ok (.iload 4, 2) := by decide +kernel
theorem dX11_placeOf_27 : decode cX11_placeOf 27 = .ok (.ireturn, 1) := by decide +kernel
theorem dX11_placeOf_28 : decode cX11_placeOf 28 = .ok (.iinc 4 1, 3) := by decide +kernel
theorem dX11_placeOf_31 : decode cX11_placeOf 31 = .ok (.goto (-28), 3) := by decide +kernel
theorem dX11_placeOf_34 : decode cX11_placeOf 34 = .ok (.iconst (-1), 1) := by decide +kernel
theorem dX11_placeOf_35 : decode cX11_placeOf 35 = .ok (.ireturn, 1) := by decide +kernel
def fX11_placeOf_3 (N n : Nat) (f : zF) : Nat → Nat → Int32 → Int64 → Int32 → Option Int32
  | 0, _, _, _, _ => none
  | k + 1, a0, a1, a2, a4 =>
    (if a1 ≤ a4 then some (-1 : Int32) else ((zlen n f 1 a0).bind fun x1 => (if x1 ≤ a4 then some (-1 : Int32) else ((zlL n f 1 a0 a4).bind fun x2 => (if (lg_cmp x2 a2) = 0 then some a4 else (fX11_placeOf_3 N n f k a0 a1 a2 (a4 + 1)))))))
set_option maxRecDepth 100000 in
set_option maxHeartbeats 4000000 in
theorem gX11_placeOf_3 (l : Launch) {G : zG} {p : Program} {e : Env} {s : State} {m : MethodId} {args : Array Value} {below : List Frame} {meth : Method} {c : Code} {f : zF} {N n : Nat} {r : Int32} (B : zB G p s m args meth c RX11 cX11_placeOf 5 (some .int)) : ∀ (k : Nat), ∀ (a0 : Nat) (a1 : Int32) (a2 : Int64) (a4 : Int32) (H : Heap) (locs : List Loc) (ls : Array Slot), fX11_placeOf_3 N n f k a0 a1 a2 a4 = some r → zS G n f H locs → lv_has ls 5 [(0, zr G a0), (1, .int a1), (2, .long a2), (4, .int a4)] → W p l e (zrm 0) s m args below meth c H locs 0 0 (MQ below (zQc G n f (some (.int r))) args s 0 0 (zA G)) (F0 m 3 ls []) := by
  have he := B.1
  have hb := B.2.1
  intro k
  induction k with
  | zero =>
    intro a0 a1 a2 a4 H locs ls h
    unfold fX11_placeOf_3 at h
    cases h
  | succ k ih =>
    intro a0 a1 a2 a4 H locs ls h hS hl
    unfold fX11_placeOf_3 at h
    refine lv_iload he hb dX11_placeOf_3 (lv_at hl 3 rfl) ?_
    refine lv_iload_n he hb dX11_placeOf_5 rfl (lv_at hl 1 rfl) ?_
    refine lv_icmp_ge (tgt := 34) he hb dX11_placeOf_6 (by decide) (fun hc => ?_) (fun hc => ?_)
    · rw [if_pos hc] at h
      refine lv_iconst (v := (-1 : Int32)) he hb dX11_placeOf_34 (by decide) ?_
      obtain rfl := Option.some.inj h
      exact z_iret B hS dX11_placeOf_35
    · rw [if_neg hc] at h
      refine lv_iload he hb dX11_placeOf_9 (lv_at hl 3 rfl) ?_
      refine z_aload_n he hb dX11_placeOf_11 rfl (lv_at hl 0 rfl) (zref_r _ _) ?_
      obtain ⟨x1, hx, h⟩ := zob h
      refine z_len B hS hx rfl dX11_placeOf_12 ?_
      refine lv_icmp_ge (tgt := 34) he hb dX11_placeOf_13 (by decide) (fun hc => ?_) (fun hc => ?_)
      · rw [if_pos hc] at h
        refine lv_iconst (v := (-1 : Int32)) he hb dX11_placeOf_34 (by decide) ?_
        obtain rfl := Option.some.inj h
        exact z_iret B hS dX11_placeOf_35
      · rw [if_neg hc] at h
        refine z_aload_n he hb dX11_placeOf_16 rfl (lv_at hl 0 rfl) (zref_r _ _) ?_
        refine lv_iload he hb dX11_placeOf_17 (lv_at hl 3 rfl) ?_
        obtain ⟨x2, hx, h⟩ := zob h
        refine z_ildL B hS hx dX11_placeOf_19 ?_
        refine lv_lload_n he hb dX11_placeOf_20 rfl (lv_at hl 2 rfl) ?_
        refine W.lcmp he hb dX11_placeOf_21 ?_
        refine lv_if_ne (tgt := 28) he hb dX11_placeOf_22 (by decide) (fun hc => ?_) (fun hc => ?_)
        · rw [if_neg hc] at h
          refine lv_iinc (v := (a4 + 1)) (lv' := [(4, _), (0, _), (1, _), (2, _)]) he hb dX11_placeOf_28 hl (k := 3) rfl rfl (by decide) rfl (fun ls hl => ?_)
          refine lv_goto (tgt := 3) he hb dX11_placeOf_31 (by decide) ?_
          exact ih _ _ _ _ _ _ _ h hS (lv_sub hl [1, 2, 3, 0] rfl)
        · rw [if_pos hc] at h
          refine lv_iload he hb dX11_placeOf_25 (lv_at hl 3 rfl) ?_
          obtain rfl := Option.some.inj h
          exact z_iret B hS dX11_placeOf_27
def fX11_placeOf (N n : Nat) (f : zF) (a0 : Nat) (a1 : Int32) (a2 : Int64) : Option Int32 :=
    (fX11_placeOf_3 N n f N a0 a1 a2 (0 : Int32))
set_option maxRecDepth 100000 in
set_option maxHeartbeats 4000000 in
theorem mX11_placeOf (l : Launch) (G : zG) {N n : Nat} {f : zF} {r : Int32} {a0 : Nat} {a1 : Int32} {a2 : Int64} (h : fX11_placeOf N n f a0 a1 a2 = some r) : zM l G yX11_placeOf cX11_placeOf 5 (some .int) 0 n f [zr G a0, .int a1, .long a2] (some (.int r)) f := by
  refine zM.of (by decide) (Nat.le_of_ble_eq_true rfl) ?_
  intro p e s m args below meth c locs ls B hS hl
  have he := B.1
  have hb := B.2.1
  have hl : lv_has ls 5 [(0, zr G a0), (1, .int a1), (2, .long a2)] := hl
  unfold fX11_placeOf at h
  generalize s.heap = H at hS ⊢
  refine lv_iconst (v := (0 : Int32)) he hb dX11_placeOf_0 (by decide) ?_
  refine lv_istore (lv' := [(4, _), (0, _), (1, _), (2, _)]) he hb dX11_placeOf_1 hl (by decide) rfl (fun ls hl => ?_)
  exact gX11_placeOf_3 l B N _ _ _ _ _ _ _ h hS (lv_sub hl [1, 2, 3, 0] rfl)
theorem dX11_isSide_0 : decode cX11_isSide 0 = .ok (.iload_n 0, 1) := by decide +kernel
theorem dX11_isSide_1 : decode cX11_isSide 1 = .ok (.ifCond .lt 12, 3) := by decide +kernel
theorem dX11_isSide_4 : decode cX11_isSide 4 = .ok (.iload_n 0, 1) := by decide +kernel
theorem dX11_isSide_5 : decode cX11_isSide 5 = .ok (.iconst 4, 1) := by decide +kernel
theorem dX11_isSide_6 : decode cX11_isSide 6 = .ok (.if_icmp .ge 7, 3) := by decide +kernel
theorem dX11_isSide_9 : decode cX11_isSide 9 = .ok (.iconst 1, 1) := by decide +kernel
theorem dX11_isSide_10 : decode cX11_isSide 10 = .ok (.goto 4, 3) := by decide +kernel
theorem dX11_isSide_13 : decode cX11_isSide 13 = .ok (.iconst 0, 1) := by decide +kernel
theorem dX11_isSide_14 : decode cX11_isSide 14 = .ok (.ireturn, 1) := by decide +kernel
def fX11_isSide (N n : Nat) (f : zF) (a0 : Int32) : Option Int32 :=
    (if a0 < 0 then zbl (0 : Int32) else (if (4 : Int32) ≤ a0 then zbl (0 : Int32) else zbl (1 : Int32)))
set_option maxRecDepth 100000 in
set_option maxHeartbeats 4000000 in
theorem mX11_isSide (l : Launch) (G : zG) {N n : Nat} {f : zF} {r : Int32} {a0 : Int32} (h : fX11_isSide N n f a0 = some r) : zM l G yX11_isSide cX11_isSide 1 (some .boolean) 0 n f [.int a0] (some (.int r)) f := by
  refine zM.of (by decide) (Nat.le_of_ble_eq_true rfl) ?_
  intro p e s m args below meth c locs ls B hS hl
  have he := B.1
  have hb := B.2.1
  have hl : lv_has ls 1 [(0, .int a0)] := hl
  unfold fX11_isSide at h
  generalize s.heap = H at hS ⊢
  refine lv_iload_n he hb dX11_isSide_0 rfl (lv_at hl 0 rfl) ?_
  refine lv_if_lt (tgt := 13) he hb dX11_isSide_1 (by decide) (fun hc => ?_) (fun hc => ?_)
  · rw [if_pos hc] at h
    refine lv_iconst (v := (0 : Int32)) he hb dX11_isSide_13 (by decide) ?_
    obtain ⟨hz, rfl⟩ := zbl_i h
    exact z_zret B hS hz dX11_isSide_14
  · rw [if_neg hc] at h
    refine lv_iload_n he hb dX11_isSide_4 rfl (lv_at hl 0 rfl) ?_
    refine lv_iconst (v := (4 : Int32)) he hb dX11_isSide_5 (by decide) ?_
    refine lv_icmp_ge (tgt := 13) he hb dX11_isSide_6 (by decide) (fun hc => ?_) (fun hc => ?_)
    · rw [if_pos hc] at h
      refine lv_iconst (v := (0 : Int32)) he hb dX11_isSide_13 (by decide) ?_
      obtain ⟨hz, rfl⟩ := zbl_i h
      exact z_zret B hS hz dX11_isSide_14
    · rw [if_neg hc] at h
      refine lv_iconst (v := (1 : Int32)) he hb dX11_isSide_9 (by decide) ?_
      refine lv_goto (tgt := 14) he hb dX11_isSide_10 (by decide) ?_
      obtain ⟨hz, rfl⟩ := zbl_i h
      exact z_zret B hS hz dX11_isSide_14
theorem dX11_divides_0 : decode cX11_divides 0 = .ok (.iload_n 0, 1) := by decide +kernel
theorem dX11_divides_1 : decode cX11_divides 1 = .ok (.ifCond .le 13, 3) := by decide +kernel
theorem dX11_divides_4 : decode cX11_divides 4 = .ok (.iload_n 1, 1) := by decide +kernel
theorem dX11_divides_5 : decode cX11_divides 5 = .ok (.iload_n 0, 1) := by decide +kernel
theorem dX11_divides_6 : decode cX11_divides 6 = .ok (.irem, 1) := by decide +kernel
theorem dX11_divides_7 : decode cX11_divides 7 = .ok (.ifCond .ne 7, 3) := by decide +kernel
theorem dX11_divides_10 : decode cX11_divides 10 = .ok (.iconst 1, 1) := by decide +kernel
theorem dX11_divides_11 : decode cX11_divides 11 = .ok (.goto 4, 3) := by decide +kernel
theorem dX11_divides_14 : decode cX11_divides 14 = .ok (.iconst 0, 1) := by decide +kernel
theorem dX11_divides_15 : decode cX11_divides 15 = .ok (.ireturn, 1) := by decide +kernel
def fX11_divides (N n : Nat) (f : zF) (a0 : Int32) (a1 : Int32) : Option Int32 :=
    (if a0 ≤ 0 then zbl (0 : Int32) else ((znz a0).bind fun _ => (if (zrem a1 a0) = 0 then zbl (1 : Int32) else zbl (0 : Int32))))
set_option maxRecDepth 100000 in
set_option maxHeartbeats 4000000 in
theorem mX11_divides (l : Launch) (G : zG) {N n : Nat} {f : zF} {r : Int32} {a0 : Int32} {a1 : Int32} (h : fX11_divides N n f a0 a1 = some r) : zM l G yX11_divides cX11_divides 2 (some .boolean) 0 n f [.int a0, .int a1] (some (.int r)) f := by
  refine zM.of (by decide) (Nat.le_of_ble_eq_true rfl) ?_
  intro p e s m args below meth c locs ls B hS hl
  have he := B.1
  have hb := B.2.1
  have hl : lv_has ls 2 [(0, .int a0), (1, .int a1)] := hl
  unfold fX11_divides at h
  generalize s.heap = H at hS ⊢
  refine lv_iload_n he hb dX11_divides_0 rfl (lv_at hl 0 rfl) ?_
  refine lv_if_le (tgt := 14) he hb dX11_divides_1 (by decide) (fun hc => ?_) (fun hc => ?_)
  · rw [if_pos hc] at h
    refine lv_iconst (v := (0 : Int32)) he hb dX11_divides_14 (by decide) ?_
    obtain ⟨hz, rfl⟩ := zbl_i h
    exact z_zret B hS hz dX11_divides_15
  · rw [if_neg hc] at h
    refine lv_iload_n he hb dX11_divides_4 rfl (lv_at hl 1 rfl) ?_
    refine lv_iload_n he hb dX11_divides_5 rfl (lv_at hl 0 rfl) ?_
    obtain ⟨_, hx, h⟩ := zob h
    refine z_irem he hb dX11_divides_6 (znz_i hx) ?_
    refine lv_if_ne (tgt := 14) he hb dX11_divides_7 (by decide) (fun hc => ?_) (fun hc => ?_)
    · rw [if_neg hc] at h
      refine lv_iconst (v := (0 : Int32)) he hb dX11_divides_14 (by decide) ?_
      obtain ⟨hz, rfl⟩ := zbl_i h
      exact z_zret B hS hz dX11_divides_15
    · rw [if_pos hc] at h
      refine lv_iconst (v := (1 : Int32)) he hb dX11_divides_10 (by decide) ?_
      refine lv_goto (tgt := 15) he hb dX11_divides_11 (by decide) ?_
      obtain ⟨hz, rfl⟩ := zbl_i h
      exact z_zret B hS hz dX11_divides_15
theorem dX11_fill_0 : decode cX11_fill 0 = .ok (.iconst 0, 1) := by decide +kernel
theorem dX11_fill_1 : decode cX11_fill 1 = .ok (.istore_n 2, 1) := by decide +kernel
theorem dX11_fill_2 : decode cX11_fill 2 = .ok (.iload_n 2, 1) := by decide +kernel
theorem dX11_fill_3 : decode cX11_fill 3 = .ok (.aload_n 0, 1) := by decide +kernel
theorem dX11_fill_4 : decode cX11_fill 4 = .ok (.arraylength, 1) := by decide +kernel
theorem dX11_fill_5 : decode cX11_fill 5 = .ok (.if_icmp .ge 13, 3) := by decide +kernel
theorem dX11_fill_8 : decode cX11_fill 8 = .ok (.aload_n 0, 1) := by decide +kernel
theorem dX11_fill_9 : decode cX11_fill 9 = .ok (.iload_n 2, 1) := by decide +kernel
theorem dX11_fill_10 : decode cX11_fill 10 = .ok (.iload_n 1, 1) := by decide +kernel
theorem dX11_fill_11 : decode cX11_fill 11 = .ok (.iastore, 1) := by decide +kernel
theorem dX11_fill_12 : decode cX11_fill 12 = .ok (.iinc 2 1, 3) := by decide +kernel
theorem dX11_fill_15 : decode cX11_fill 15 = .ok (.goto (-13), 3) := by decide +kernel
theorem dX11_fill_18 : decode cX11_fill 18 = .ok (.return_, 1) := by decide +kernel
def fX11_fill_2 (N n : Nat) : Nat → zF → Nat → Int32 → Int32 → Option zF
  | 0, _, _, _, _ => none
  | k + 1, f, a0, a1, a2 =>
    ((zlen n f 0 a0).bind fun x1 => (if x1 ≤ a2 then some f else ((zsI n f 0 a0 a2 a1).bind fun f2 => (fX11_fill_2 N n k f2 a0 a1 (a2 + 1)))))
set_option maxRecDepth 100000 in
set_option maxHeartbeats 4000000 in
theorem gX11_fill_2 (l : Launch) {G : zG} {p : Program} {e : Env} {s : State} {m : MethodId} {args : Array Value} {below : List Frame} {meth : Method} {c : Code} {N n : Nat} {f9 : zF} (B : zB G p s m args meth c RX11 cX11_fill 3 (none)) : ∀ (k : Nat), ∀ (f : zF) (a0 : Nat) (a1 : Int32) (a2 : Int32) (H : Heap) (locs : List Loc) (ls : Array Slot), fX11_fill_2 N n k f a0 a1 a2 = some f9 → zS G n f H locs → lv_has ls 3 [(0, zr G a0), (1, .int a1), (2, .int a2)] → W p l e (zrm 0) s m args below meth c H locs 0 0 (MQ below (zQc G n f9 (none)) args s 0 0 (zA G)) (F0 m 2 ls []) := by
  have he := B.1
  have hb := B.2.1
  intro k
  induction k with
  | zero =>
    intro f a0 a1 a2 H locs ls h
    unfold fX11_fill_2 at h
    cases h
  | succ k ih =>
    intro f a0 a1 a2 H locs ls h hS hl
    unfold fX11_fill_2 at h
    refine lv_iload_n he hb dX11_fill_2 rfl (lv_at hl 2 rfl) ?_
    refine z_aload_n he hb dX11_fill_3 rfl (lv_at hl 0 rfl) (zref_r _ _) ?_
    obtain ⟨x1, hx, h⟩ := zob h
    refine z_len B hS hx rfl dX11_fill_4 ?_
    refine lv_icmp_ge (tgt := 18) he hb dX11_fill_5 (by decide) (fun hc => ?_) (fun hc => ?_)
    · rw [if_pos hc] at h
      obtain rfl := Option.some.inj h
      exact z_vret B hS dX11_fill_18
    · rw [if_neg hc] at h
      refine z_aload_n he hb dX11_fill_8 rfl (lv_at hl 0 rfl) (zref_r _ _) ?_
      refine lv_iload_n he hb dX11_fill_9 rfl (lv_at hl 2 rfl) ?_
      refine lv_iload_n he hb dX11_fill_10 rfl (lv_at hl 1 rfl) ?_
      obtain ⟨f2, hx, h⟩ := zob h
      refine z_istI B hS hx dX11_fill_11 (fun H locs hS => ?_)
      refine lv_iinc (v := (a2 + 1)) (lv' := [(2, _), (0, _), (1, _)]) he hb dX11_fill_12 hl (k := 2) rfl rfl (by decide) rfl (fun ls hl => ?_)
      refine lv_goto (tgt := 2) he hb dX11_fill_15 (by decide) ?_
      exact ih _ _ _ _ _ _ _ h hS (lv_sub hl [1, 2, 0] rfl)
def fX11_fill (N n : Nat) (f : zF) (a0 : Nat) (a1 : Int32) : Option zF :=
    (fX11_fill_2 N n N f a0 a1 (0 : Int32))
set_option maxRecDepth 100000 in
set_option maxHeartbeats 4000000 in
theorem mX11_fill (l : Launch) (G : zG) {N n : Nat} {f : zF} {f9 : zF} {a0 : Nat} {a1 : Int32} (h : fX11_fill N n f a0 a1 = some f9) : zM l G yX11_fill cX11_fill 3 (none) 0 n f [zr G a0, .int a1] (none) f9 := by
  refine zM.of (by decide) (Nat.le_of_ble_eq_true rfl) ?_
  intro p e s m args below meth c locs ls B hS hl
  have he := B.1
  have hb := B.2.1
  have hl : lv_has ls 3 [(0, zr G a0), (1, .int a1)] := hl
  unfold fX11_fill at h
  generalize s.heap = H at hS ⊢
  refine lv_iconst (v := (0 : Int32)) he hb dX11_fill_0 (by decide) ?_
  refine lv_istore_n (lv' := [(2, _), (0, _), (1, _)]) he hb dX11_fill_1 rfl hl (by decide) rfl (fun ls hl => ?_)
  exact gX11_fill_2 l B N _ _ _ _ _ _ _ h hS (lv_sub hl [1, 2, 0] rfl)
theorem dX11_copyNames_0 : decode cX11_copyNames 0 = .ok (.aload_n 0, 1) := by decide +kernel
theorem dX11_copyNames_1 : decode cX11_copyNames 1 = .ok (.iconst 0, 1) := by decide +kernel
theorem dX11_copyNames_2 : decode cX11_copyNames 2 = .ok (.aload_n 1, 1) := by decide +kernel
theorem dX11_copyNames_3 : decode cX11_copyNames 3 = .ok (.iconst 0, 1) := by decide +kernel
theorem dX11_copyNames_4 : decode cX11_copyNames 4 = .ok (.aload_n 0, 1) := by decide +kernel
theorem dX11_copyNames_5 : decode cX11_copyNames 5 = .ok (.arraylength, 1) := by decide +kernel
theorem dX11_copyNames_6 : decode cX11_copyNames 6 = .ok (.aload_n 1, 1) := by decide +kernel
theorem dX11_copyNames_7 : decode cX11_copyNames 7 = .ok (.arraylength, 1) := by decide +kernel
theorem dX11_copyNames_8 : decode cX11_copyNames 8 = .ok (.invokestatic 410, 3) := by decide +kernel
theorem dX11_copyNames_11 : decode cX11_copyNames 11 = .ok (.invokestatic 415, 3) := by decide +kernel
theorem dX11_copyNames_14 : decode cX11_copyNames 14 = .ok (.return_, 1) := by decide +kernel
def fX11_copyNames (N n : Nat) (f : zF) (a0 : Nat) (a1 : Nat) : Option zF :=
    ((zlen n f 1 a0).bind fun x1 => ((zlen n f 1 a1).bind fun x2 => ((fJ9_min_7cf53 N n f x1 x2).bind fun x3 => ((zcpL n f a0 (0 : Int32) a1 (0 : Int32) x3).bind fun f4 => some f4))))
set_option maxRecDepth 100000 in
set_option maxHeartbeats 4000000 in
theorem mX11_copyNames (l : Launch) (G : zG) {N n : Nat} {f : zF} {f9 : zF} {a0 : Nat} {a1 : Nat} (h : fX11_copyNames N n f a0 a1 = some f9) : zM l G yX11_copyNames cX11_copyNames 2 (none) 1 n f [zr G a0, zr G a1] (none) f9 := by
  refine zM.of (by decide) (Nat.le_of_ble_eq_true rfl) ?_
  intro p e s m args below meth c locs ls B hS hl
  have he := B.1
  have hb := B.2.1
  have hl : lv_has ls 2 [(0, zr G a0), (1, zr G a1)] := hl
  unfold fX11_copyNames at h
  generalize s.heap = H at hS ⊢
  refine z_aload_n he hb dX11_copyNames_0 rfl (lv_at hl 0 rfl) (zref_r _ _) ?_
  refine lv_iconst (v := (0 : Int32)) he hb dX11_copyNames_1 (by decide) ?_
  refine z_aload_n he hb dX11_copyNames_2 rfl (lv_at hl 1 rfl) (zref_r _ _) ?_
  refine lv_iconst (v := (0 : Int32)) he hb dX11_copyNames_3 (by decide) ?_
  refine z_aload_n he hb dX11_copyNames_4 rfl (lv_at hl 0 rfl) (zref_r _ _) ?_
  obtain ⟨x1, hx, h⟩ := zob h
  refine z_len B hS hx rfl dX11_copyNames_5 ?_
  refine z_aload_n he hb dX11_copyNames_6 rfl (lv_at hl 1 rfl) (zref_r _ _) ?_
  obtain ⟨x2, hx, h⟩ := zob h
  refine z_len B hS hx rfl dX11_copyNames_7 ?_
  obtain ⟨x3, hx, h⟩ := zob h
  refine z_callT (rest := [_, _, _, _]) B hS (mJ9_min_7cf53 l G hx) zy_J9_min_7cf53 zk_723 (by decide) rfl hl rfl (Nat.le_of_ble_eq_true rfl) dX11_copyNames_8 (kk := (fun H locs hS => ?_))
  obtain ⟨f4, hx, h⟩ := zob h
  refine z_cpL B hS hx zk_724 zcpw hl (by decide) dX11_copyNames_11 (fun H locs hS => ?_)
  obtain rfl := Option.some.inj h
  exact z_vret B hS dX11_copyNames_14
theorem dX11_copy_0 : decode cX11_copy 0 = .ok (.aload_n 0, 1) := by decide +kernel
theorem dX11_copy_1 : decode cX11_copy 1 = .ok (.iconst 0, 1) := by decide +kernel
theorem dX11_copy_2 : decode cX11_copy 2 = .ok (.aload_n 1, 1) := by decide +kernel
theorem dX11_copy_3 : decode cX11_copy 3 = .ok (.iconst 0, 1) := by decide +kernel
theorem dX11_copy_4 : decode cX11_copy 4 = .ok (.aload_n 0, 1) := by decide +kernel
theorem dX11_copy_5 : decode cX11_copy 5 = .ok (.arraylength, 1) := by decide +kernel
theorem dX11_copy_6 : decode cX11_copy 6 = .ok (.aload_n 1, 1) := by decide +kernel
theorem dX11_copy_7 : decode cX11_copy 7 = .ok (.arraylength, 1) := by decide +kernel
theorem dX11_copy_8 : decode cX11_copy 8 = .ok (.invokestatic 410, 3) := by decide +kernel
theorem dX11_copy_11 : decode cX11_copy 11 = .ok (.invokestatic 415, 3) := by decide +kernel
theorem dX11_copy_14 : decode cX11_copy 14 = .ok (.return_, 1) := by decide +kernel
def fX11_copy (N n : Nat) (f : zF) (a0 : Nat) (a1 : Nat) : Option zF :=
    ((zlen n f 0 a0).bind fun x1 => ((zlen n f 0 a1).bind fun x2 => ((fJ9_min_7cf53 N n f x1 x2).bind fun x3 => ((zcpI n f a0 (0 : Int32) a1 (0 : Int32) x3).bind fun f4 => some f4))))
set_option maxRecDepth 100000 in
set_option maxHeartbeats 4000000 in
theorem mX11_copy (l : Launch) (G : zG) {N n : Nat} {f : zF} {f9 : zF} {a0 : Nat} {a1 : Nat} (h : fX11_copy N n f a0 a1 = some f9) : zM l G yX11_copy cX11_copy 2 (none) 1 n f [zr G a0, zr G a1] (none) f9 := by
  refine zM.of (by decide) (Nat.le_of_ble_eq_true rfl) ?_
  intro p e s m args below meth c locs ls B hS hl
  have he := B.1
  have hb := B.2.1
  have hl : lv_has ls 2 [(0, zr G a0), (1, zr G a1)] := hl
  unfold fX11_copy at h
  generalize s.heap = H at hS ⊢
  refine z_aload_n he hb dX11_copy_0 rfl (lv_at hl 0 rfl) (zref_r _ _) ?_
  refine lv_iconst (v := (0 : Int32)) he hb dX11_copy_1 (by decide) ?_
  refine z_aload_n he hb dX11_copy_2 rfl (lv_at hl 1 rfl) (zref_r _ _) ?_
  refine lv_iconst (v := (0 : Int32)) he hb dX11_copy_3 (by decide) ?_
  refine z_aload_n he hb dX11_copy_4 rfl (lv_at hl 0 rfl) (zref_r _ _) ?_
  obtain ⟨x1, hx, h⟩ := zob h
  refine z_len B hS hx rfl dX11_copy_5 ?_
  refine z_aload_n he hb dX11_copy_6 rfl (lv_at hl 1 rfl) (zref_r _ _) ?_
  obtain ⟨x2, hx, h⟩ := zob h
  refine z_len B hS hx rfl dX11_copy_7 ?_
  obtain ⟨x3, hx, h⟩ := zob h
  refine z_callT (rest := [_, _, _, _]) B hS (mJ9_min_7cf53 l G hx) zy_J9_min_7cf53 zk_723 (by decide) rfl hl rfl (Nat.le_of_ble_eq_true rfl) dX11_copy_8 (kk := (fun H locs hS => ?_))
  obtain ⟨f4, hx, h⟩ := zob h
  refine z_cpI B hS hx zk_724 zcpw hl (by decide) dX11_copy_11 (fun H locs hS => ?_)
  obtain rfl := Option.some.inj h
  exact z_vret B hS dX11_copy_14
theorem dX11_putName_0 : decode cX11_putName 0 = .ok (.iload_n 1, 1) := by decide +kernel
theorem dX11_putName_1 : decode cX11_putName 1 = .ok (.ifCond .lt 13, 3) := by decide +kernel
theorem dX11_putName_4 : decode cX11_putName 4 = .ok (.iload_n 1, 1) := by decide +kernel
theorem dX11_putName_5 : decode cX11_putName 5 = .ok (.aload_n 0, 1) := by decide +kernel
theorem dX11_putName_6 : decode cX11_putName 6 = .ok (.arraylength, 1) := by decide +kernel
theorem dX11_putName_7 : decode cX11_putName 7 = .ok (.if_icmp .ge 7, 3) := by decide +kernel
theorem dX11_putName_10 : decode cX11_putName 10 = .ok (.aload_n 0, 1) := by decide +kernel
theorem dX11_putName_11 : decode cX11_putName 11 = .ok (.iload_n 1, 1) := by decide +kernel
theorem dX11_putName_12 : decode cX11_putName 12 = .ok (.lload_n 2, 1) := by decide +kernel
theorem dX11_putName_13 : decode cX11_putName 13 = .ok (.lastore, 1) := by decide +kernel
theorem dX11_putName_14 : decode cX11_putName 14 = .ok (.return_, 1) := by decide +kernel
def fX11_putName (N n : Nat) (f : zF) (a0 : Nat) (a1 : Int32) (a2 : Int64) : Option zF :=
    (if a1 < 0 then some f else ((zlen n f 1 a0).bind fun x1 => (if x1 ≤ a1 then some f else ((zsL n f 1 a0 a1 a2).bind fun f2 => some f2))))
set_option maxRecDepth 100000 in
set_option maxHeartbeats 4000000 in
theorem mX11_putName (l : Launch) (G : zG) {N n : Nat} {f : zF} {f9 : zF} {a0 : Nat} {a1 : Int32} {a2 : Int64} (h : fX11_putName N n f a0 a1 a2 = some f9) : zM l G yX11_putName cX11_putName 4 (none) 0 n f [zr G a0, .int a1, .long a2] (none) f9 := by
  refine zM.of (by decide) (Nat.le_of_ble_eq_true rfl) ?_
  intro p e s m args below meth c locs ls B hS hl
  have he := B.1
  have hb := B.2.1
  have hl : lv_has ls 4 [(0, zr G a0), (1, .int a1), (2, .long a2)] := hl
  unfold fX11_putName at h
  generalize s.heap = H at hS ⊢
  refine lv_iload_n he hb dX11_putName_0 rfl (lv_at hl 1 rfl) ?_
  refine lv_if_lt (tgt := 14) he hb dX11_putName_1 (by decide) (fun hc => ?_) (fun hc => ?_)
  · rw [if_pos hc] at h
    obtain rfl := Option.some.inj h
    exact z_vret B hS dX11_putName_14
  · rw [if_neg hc] at h
    refine lv_iload_n he hb dX11_putName_4 rfl (lv_at hl 1 rfl) ?_
    refine z_aload_n he hb dX11_putName_5 rfl (lv_at hl 0 rfl) (zref_r _ _) ?_
    obtain ⟨x1, hx, h⟩ := zob h
    refine z_len B hS hx rfl dX11_putName_6 ?_
    refine lv_icmp_ge (tgt := 14) he hb dX11_putName_7 (by decide) (fun hc => ?_) (fun hc => ?_)
    · rw [if_pos hc] at h
      obtain rfl := Option.some.inj h
      exact z_vret B hS dX11_putName_14
    · rw [if_neg hc] at h
      refine z_aload_n he hb dX11_putName_10 rfl (lv_at hl 0 rfl) (zref_r _ _) ?_
      refine lv_iload_n he hb dX11_putName_11 rfl (lv_at hl 1 rfl) ?_
      refine lv_lload_n he hb dX11_putName_12 rfl (lv_at hl 2 rfl) ?_
      obtain ⟨f2, hx, h⟩ := zob h
      refine z_istL B hS hx dX11_putName_13 (fun H locs hS => ?_)
      obtain rfl := Option.some.inj h
      exact z_vret B hS dX11_putName_14
theorem dX11_commonDivisor_0 : decode cX11_commonDivisor 0 = .ok (.iload_n 0, 1) := by decide +kernel
theorem dX11_commonDivisor_1 : decode cX11_commonDivisor 1 = .ok (.istore_n 2, 1) := by decide +kernel
theorem dX11_commonDivisor_2 : decode cX11_commonDivisor 2 = .ok (.iload_n 1, 1) := by decide +kernel
theorem dX11_commonDivisor_3 : decode cX11_commonDivisor 3 = .ok (.istore_n 3, 1) := by decide +kernel
theorem dX11_commonDivisor_4 : decode cX11_commonDivisor 4 = .ok (.iconst 0, 1) := by decide +kernel
theorem dX11_commonDivisor_5 : decode cX11_commonDivisor 5 = .ok (.istore 4, 2) := by decide +kernel
theorem dX11_commonDivisor_7 : decode cX11_commonDivisor 7 = .ok (.iload 4, 2) := by decide +kernel
theorem dX11_commonDivisor_9 : decode cX11_commonDivisor 9 = .ok (.bipush 64, 2) := by decide +kernel
theorem dX11_commonDivisor_11 : decode cX11_commonDivisor 11 = .ok (.if_icmp .ge 23, 3) := by decide +kernel
theorem dX11_commonDivisor_14 : decode cX11_commonDivisor 14 = .ok (.iload_n 3, 1) := by decide +kernel
theorem dX11_commonDivisor_15 : decode cX11_commonDivisor 15 = .ok (.ifCond .le 19, 3) := by decide +kernel
theorem dX11_commonDivisor_18 : decode cX11_commonDivisor 18 = .ok (.iload_n 2, 1) := by decide +kernel
theorem dX11_commonDivisor_19 : decode cX11_commonDivisor 19 = .ok (.iload_n 3, 1) := by decide +kernel
theorem dX11_commonDivisor_20 : decode cX11_commonDivisor 20 = .ok (.irem, 1) := by decide +kernel
theorem dX11_commonDivisor_21 : decode cX11_commonDivisor 21 = .ok (.istore 5, 2) := by decide +kernel
theorem dX11_commonDivisor_23 : decode cX11_commonDivisor 23 = .ok (.iload_n 3, 1) := by decide +kernel
theorem dX11_commonDivisor_24 : decode cX11_commonDivisor 24 = .ok (.istore_n 2, 1) := by decide +kernel
theorem dX11_commonDivisor_25 : decode cX11_commonDivisor 25 = .ok (.iload 5, 2) := by decide +kernel
theorem dX11_commonDivisor_27 : decode cX11_commonDivisor 27 = .ok (.istore_n 3, 1) := by decide +kernel
theorem dX11_commonDivisor_28 : decode cX11_commonDivisor 28 = .ok (.iinc 4 1, 3) := by decide +kernel
theorem dX11_commonDivisor_31 : decode cX11_commonDivisor 31 = .ok (.goto (-24), 3) := by decide +kernel
theorem dX11_commonDivisor_34 : decode cX11_commonDivisor 34 = .ok (.iload_n 2, 1) := by decide +kernel
theorem dX11_commonDivisor_35 : decode cX11_commonDivisor 35 = .ok (.ireturn, 1) := by decide +kernel
def fX11_commonDivisor_7 (N n : Nat) (f : zF) : Nat → Int32 → Int32 → Int32 → Option Int32
  | 0, _, _, _ => none
  | k + 1, a2, a3, a4 =>
    (if (64 : Int32) ≤ a4 then some a2 else (if a3 ≤ 0 then some a2 else ((znz a3).bind fun _ => (fX11_commonDivisor_7 N n f k a3 (zrem a2 a3) (a4 + 1)))))
set_option maxRecDepth 100000 in
set_option maxHeartbeats 4000000 in
theorem gX11_commonDivisor_7 (l : Launch) {G : zG} {p : Program} {e : Env} {s : State} {m : MethodId} {args : Array Value} {below : List Frame} {meth : Method} {c : Code} {f : zF} {N n : Nat} {r : Int32} (B : zB G p s m args meth c RX11 cX11_commonDivisor 6 (some .int)) : ∀ (k : Nat), ∀ (a2 : Int32) (a3 : Int32) (a4 : Int32) (H : Heap) (locs : List Loc) (ls : Array Slot), fX11_commonDivisor_7 N n f k a2 a3 a4 = some r → zS G n f H locs → lv_has ls 6 [(2, .int a2), (3, .int a3), (4, .int a4)] → W p l e (zrm 0) s m args below meth c H locs 0 0 (MQ below (zQc G n f (some (.int r))) args s 0 0 (zA G)) (F0 m 7 ls []) := by
  have he := B.1
  have hb := B.2.1
  intro k
  induction k with
  | zero =>
    intro a2 a3 a4 H locs ls h
    unfold fX11_commonDivisor_7 at h
    cases h
  | succ k ih =>
    intro a2 a3 a4 H locs ls h hS hl
    unfold fX11_commonDivisor_7 at h
    refine lv_iload he hb dX11_commonDivisor_7 (lv_at hl 2 rfl) ?_
    refine lv_bipush (v := (64 : Int32)) he hb dX11_commonDivisor_9 (by decide) ?_
    refine lv_icmp_ge (tgt := 34) he hb dX11_commonDivisor_11 (by decide) (fun hc => ?_) (fun hc => ?_)
    · rw [if_pos hc] at h
      refine lv_iload_n he hb dX11_commonDivisor_34 rfl (lv_at hl 0 rfl) ?_
      obtain rfl := Option.some.inj h
      exact z_iret B hS dX11_commonDivisor_35
    · rw [if_neg hc] at h
      refine lv_iload_n he hb dX11_commonDivisor_14 rfl (lv_at hl 1 rfl) ?_
      refine lv_if_le (tgt := 34) he hb dX11_commonDivisor_15 (by decide) (fun hc => ?_) (fun hc => ?_)
      · rw [if_pos hc] at h
        refine lv_iload_n he hb dX11_commonDivisor_34 rfl (lv_at hl 0 rfl) ?_
        obtain rfl := Option.some.inj h
        exact z_iret B hS dX11_commonDivisor_35
      · rw [if_neg hc] at h
        refine lv_iload_n he hb dX11_commonDivisor_18 rfl (lv_at hl 0 rfl) ?_
        refine lv_iload_n he hb dX11_commonDivisor_19 rfl (lv_at hl 1 rfl) ?_
        obtain ⟨_, hx, h⟩ := zob h
        refine z_irem he hb dX11_commonDivisor_20 (znz_i hx) ?_
        refine lv_istore (lv' := [(5, _), (2, _), (3, _), (4, _)]) he hb dX11_commonDivisor_21 hl (by decide) rfl (fun ls hl => ?_)
        refine lv_iload_n he hb dX11_commonDivisor_23 rfl (lv_at hl 2 rfl) ?_
        refine lv_istore_n (lv' := [(2, _), (5, _), (3, _), (4, _)]) he hb dX11_commonDivisor_24 rfl hl (by decide) rfl (fun ls hl => ?_)
        refine lv_iload he hb dX11_commonDivisor_25 (lv_at hl 1 rfl) ?_
        refine lv_istore_n (lv' := [(3, _), (2, _), (5, _), (4, _)]) he hb dX11_commonDivisor_27 rfl hl (by decide) rfl (fun ls hl => ?_)
        refine lv_iinc (v := (a4 + 1)) (lv' := [(4, _), (3, _), (2, _), (5, _)]) he hb dX11_commonDivisor_28 hl (k := 3) rfl rfl (by decide) rfl (fun ls hl => ?_)
        refine lv_goto (tgt := 7) he hb dX11_commonDivisor_31 (by decide) ?_
        exact ih _ _ _ _ _ _ h hS (lv_sub hl [2, 1, 0] rfl)
def fX11_commonDivisor (N n : Nat) (f : zF) (a0 : Int32) (a1 : Int32) : Option Int32 :=
    (fX11_commonDivisor_7 N n f N a0 a1 (0 : Int32))
set_option maxRecDepth 100000 in
set_option maxHeartbeats 4000000 in
theorem mX11_commonDivisor (l : Launch) (G : zG) {N n : Nat} {f : zF} {r : Int32} {a0 : Int32} {a1 : Int32} (h : fX11_commonDivisor N n f a0 a1 = some r) : zM l G yX11_commonDivisor cX11_commonDivisor 6 (some .int) 0 n f [.int a0, .int a1] (some (.int r)) f := by
  refine zM.of (by decide) (Nat.le_of_ble_eq_true rfl) ?_
  intro p e s m args below meth c locs ls B hS hl
  have he := B.1
  have hb := B.2.1
  have hl : lv_has ls 6 [(0, .int a0), (1, .int a1)] := hl
  unfold fX11_commonDivisor at h
  generalize s.heap = H at hS ⊢
  refine lv_iload_n he hb dX11_commonDivisor_0 rfl (lv_at hl 0 rfl) ?_
  refine lv_istore_n (lv' := [(2, _), (0, _), (1, _)]) he hb dX11_commonDivisor_1 rfl hl (by decide) rfl (fun ls hl => ?_)
  refine lv_iload_n he hb dX11_commonDivisor_2 rfl (lv_at hl 2 rfl) ?_
  refine lv_istore_n (lv' := [(3, _), (2, _), (0, _), (1, _)]) he hb dX11_commonDivisor_3 rfl hl (by decide) rfl (fun ls hl => ?_)
  refine lv_iconst (v := (0 : Int32)) he hb dX11_commonDivisor_4 (by decide) ?_
  refine lv_istore (lv' := [(4, _), (3, _), (2, _), (0, _), (1, _)]) he hb dX11_commonDivisor_5 hl (by decide) rfl (fun ls hl => ?_)
  exact gX11_commonDivisor_7 l B N _ _ _ _ _ _ h hS (lv_sub hl [2, 1, 0] rfl)
theorem dX11_nameAt_0 : decode cX11_nameAt 0 = .ok (.iload_n 1, 1) := by decide +kernel
theorem dX11_nameAt_1 : decode cX11_nameAt 1 = .ok (.ifCond .lt 15, 3) := by decide +kernel
theorem dX11_nameAt_4 : decode cX11_nameAt 4 = .ok (.iload_n 1, 1) := by decide +kernel
theorem dX11_nameAt_5 : decode cX11_nameAt 5 = .ok (.aload_n 0, 1) := by decide +kernel
theorem dX11_nameAt_6 : decode cX11_nameAt 6 = .ok (.arraylength, 1) := by decide +kernel
theorem dX11_nameAt_7 : decode cX11_nameAt 7 = .ok (.if_icmp .ge 9, 3) := by decide +kernel
theorem dX11_nameAt_10 : decode cX11_nameAt 10 = .ok (.aload_n 0, 1) := by decide +kernel
theorem dX11_nameAt_11 : decode cX11_nameAt 11 = .ok (.iload_n 1, 1) := by decide +kernel
theorem dX11_nameAt_12 : decode cX11_nameAt 12 = .ok (.laload, 1) := by decide +kernel
theorem dX11_nameAt_13 : decode cX11_nameAt 13 = .ok (.goto 4, 3) := by decide +kernel
theorem dX11_nameAt_16 : decode cX11_nameAt 16 = .ok (.lconst 0, 1) := by decide +kernel
theorem dX11_nameAt_17 : decode cX11_nameAt 17 = .ok (.lreturn, 1) := by decide +kernel
def fX11_nameAt_16 (N n : Nat) (f : zF) : Option Int64 :=
    some (0 : Int64)
set_option maxRecDepth 100000 in
set_option maxHeartbeats 4000000 in
theorem gX11_nameAt_16 (l : Launch) {G : zG} {p : Program} {e : Env} {s : State} {m : MethodId} {args : Array Value} {below : List Frame} {meth : Method} {c : Code} {f : zF} {N n : Nat} {r : Int64} (B : zB G p s m args meth c RX11 cX11_nameAt 2 (some .long)) : ∀ (H : Heap) (locs : List Loc) (ls : Array Slot), fX11_nameAt_16 N n f  = some r → zS G n f H locs → lv_has ls 2 [] → W p l e (zrm 0) s m args below meth c H locs 0 0 (MQ below (zQc G n f (some (.long r))) args s 0 0 (zA G)) (F0 m 16 ls []) := by
  have he := B.1
  have hb := B.2.1
  intro  H locs ls h hS hl
  unfold fX11_nameAt_16 at h
  refine lv_lconst (v := (0 : Int64)) he hb dX11_nameAt_16 (by decide) ?_
  obtain rfl := Option.some.inj h
  exact z_lret B hS dX11_nameAt_17
def fX11_nameAt (N n : Nat) (f : zF) (a0 : Nat) (a1 : Int32) : Option Int64 :=
    (if a1 < 0 then (fX11_nameAt_16 N n f ) else ((zlen n f 1 a0).bind fun x1 => (if x1 ≤ a1 then (fX11_nameAt_16 N n f ) else ((zlL n f 1 a0 a1).bind fun x2 => some x2))))
set_option maxRecDepth 100000 in
set_option maxHeartbeats 4000000 in
theorem mX11_nameAt (l : Launch) (G : zG) {N n : Nat} {f : zF} {r : Int64} {a0 : Nat} {a1 : Int32} (h : fX11_nameAt N n f a0 a1 = some r) : zM l G yX11_nameAt cX11_nameAt 2 (some .long) 0 n f [zr G a0, .int a1] (some (.long r)) f := by
  refine zM.of (by decide) (Nat.le_of_ble_eq_true rfl) ?_
  intro p e s m args below meth c locs ls B hS hl
  have he := B.1
  have hb := B.2.1
  have hl : lv_has ls 2 [(0, zr G a0), (1, .int a1)] := hl
  unfold fX11_nameAt at h
  generalize s.heap = H at hS ⊢
  refine lv_iload_n he hb dX11_nameAt_0 rfl (lv_at hl 1 rfl) ?_
  refine lv_if_lt (tgt := 16) he hb dX11_nameAt_1 (by decide) (fun hc => ?_) (fun hc => ?_)
  · rw [if_pos hc] at h
    exact gX11_nameAt_16 l B  _ _ _ h hS (lv_sub hl [] rfl)
  · rw [if_neg hc] at h
    refine lv_iload_n he hb dX11_nameAt_4 rfl (lv_at hl 1 rfl) ?_
    refine z_aload_n he hb dX11_nameAt_5 rfl (lv_at hl 0 rfl) (zref_r _ _) ?_
    obtain ⟨x1, hx, h⟩ := zob h
    refine z_len B hS hx rfl dX11_nameAt_6 ?_
    refine lv_icmp_ge (tgt := 16) he hb dX11_nameAt_7 (by decide) (fun hc => ?_) (fun hc => ?_)
    · rw [if_pos hc] at h
      exact gX11_nameAt_16 l B  _ _ _ h hS (lv_sub hl [] rfl)
    · rw [if_neg hc] at h
      refine z_aload_n he hb dX11_nameAt_10 rfl (lv_at hl 0 rfl) (zref_r _ _) ?_
      refine lv_iload_n he hb dX11_nameAt_11 rfl (lv_at hl 1 rfl) ?_
      obtain ⟨x2, hx, h⟩ := zob h
      refine z_ildL B hS hx dX11_nameAt_12 ?_
      refine lv_goto (tgt := 17) he hb dX11_nameAt_13 (by decide) ?_
      obtain rfl := Option.some.inj h
      exact z_lret B hS dX11_nameAt_17
