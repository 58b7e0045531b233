/-! methods: what they do to the small heap, and that their bytecode does it -/
theorem dX12_said_0 : decode cX12_said 0 = .ok (.aload_n 0, 1) := by decide +kernel
theorem dX12_said_1 : decode cX12_said 1 = .ok (.iconst 0, 1) := by decide +kernel
theorem dX12_said_2 : decode cX12_said 2 = .ok (.putfield 1, 3) := by decide +kernel
theorem dX12_said_5 : decode cX12_said 5 = .ok (.aload_n 0, 1) := by decide +kernel
theorem dX12_said_6 : decode cX12_said 6 = .ok (.getfield 33, 3) := by decide +kernel
theorem dX12_said_9 : decode cX12_said 9 = .ok (.sipush 250, 3) := by decide +kernel
theorem dX12_said_12 : decode cX12_said 12 = .ok (.iaload, 1) := by decide +kernel
theorem dX12_said_13 : decode cX12_said 13 = .ok (.ifCond .eq 8, 3) := by decide +kernel
theorem dX12_said_16 : decode cX12_said 16 = .ok (.iload_n 1, 1) := by decide +kernel
theorem dX12_said_17 : decode cX12_said 17 = .ok (.iconst (-1), 1) := by decide +kernel
theorem dX12_said_18 : decode cX12_said 18 = .ok (.if_icmp .ge 5, 3) := by decide +kernel
theorem dX12_said_21 : decode cX12_said 21 = .ok (.iconst (-1), 1) := by decide +kernel
theorem dX12_said_22 : decode cX12_said 22 = .ok (.ireturn, 1) := by decide +kernel
theorem dX12_said_23 : decode cX12_said 23 = .ok (.iconst 0, 1) := by decide +kernel
theorem dX12_said_24 : decode cX12_said 24 = .ok (.istore_n 2, 1) := by decide +kernel
theorem dX12_said_25 : decode cX12_said 25 = .ok (.iconst 0, 1) := by decide +kernel
theorem dX12_said_26 : decode cX12_said 26 = .ok (.istore_n 3, 1) := by decide +kernel
theorem dX12_said_27 : decode cX12_said 27 = .ok (.iload_n 3, 1) := by decide +kernel
theorem dX12_said_28 : decode cX12_said 28 = .ok (.aload_n 0, 1) := by decide +kernel
theorem dX12_said_29 : decode cX12_said 29 = .ok (.getfield 33, 3) := by decide +kernel
theorem dX12_said_32 : decode cX12_said 32 = .ok (.iconst 3, 1) := by decide +kernel
theorem dX12_said_33 : decode cX12_said 33 = .ok (.iaload, 1) := by decide +kernel
theorem dX12_said_34 : decode cX12_said 34 = .ok (.if_icmp .ge 30, 3) := by decide +kernel
theorem dX12_said_37 : decode cX12_said 37 = .ok (.aload_n 0, 1) := by decide +kernel
theorem dX12_said_38 : decode cX12_said 38 = .ok (.iload_n 3, 1) := by decide +kernel
theorem dX12_said_39 : decode cX12_said 39 = .ok (.invokevirtual 491, 3) := by decide +kernel
theorem dX12_said_42 : decode cX12_said 42 = .ok (.ifCond .ne 6, 3) := by decide +kernel
theorem dX12_said_45 : decode cX12_said 45 = .ok (.goto 13, 3) := by decide +kernel
theorem dX12_said_48 : decode cX12_said 48 = .ok (.iload_n 2, 1) := by decide +kernel
theorem dX12_said_49 : decode cX12_said 49 = .ok (.iload_n 1, 1) := by decide +kernel
theorem dX12_said_50 : decode cX12_said 50 = .ok (.if_icmp .ne 5, 3) := by decide +kernel
theorem dX12_said_53 : decode cX12_said 53 = .ok (.iload_n 3, 1) := by decide +kernel
theorem dX12_said_54 : decode cX12_said 54 = .ok (.ireturn, 1) := by decide +kernel
theorem dX12_said_55 : decode cX12_said 55 = .ok (.iinc 2 1, 3) := by decide +kernel
theorem dX12_said_58 : decode cX12_said 58 = .ok (.iinc 3 1, 3) := by decide +kernel
theorem dX12_said_61 : decode cX12_said 61 = .ok (.goto (-34), 3) := by decide +kernel
theorem dX12_said_64 : decode cX12_said 64 = .ok (.iload_n 1, 1) := by decide +kernel
theorem dX12_said_65 : decode cX12_said 65 = .ok (.iconst (-1), 1) := by decide +kernel
theorem dX12_said_66 : decode cX12_said 66 = .ok (.if_icmp .ne 7, 3) := by decide +kernel
theorem dX12_said_69 : decode cX12_said 69 = .ok (.iload_n 2, 1) := by decide +kernel
theorem dX12_said_70 : decode cX12_said 70 = .ok (.goto 4, 3) := by decide +kernel
theorem dX12_said_73 : decode cX12_said 73 = .ok (.iconst (-1), 1) := by decide +kernel
theorem dX12_said_74 : decode cX12_said 74 = .ok (.ireturn, 1) := by decide +kernel
def fX12_said_58 (r27 : zF → Nat → Int32 → Int32 → Int32 → Option (zF × Int32)) (N n : Nat) (f : zF) (a0 : Nat) (a1 : Int32) (a2 : Int32) (a3 : Int32) : Option (zF × Int32) :=
    (r27 f a0 a1 a2 (a3 + 1))
set_option maxRecDepth 100000 in
set_option maxHeartbeats 4000000 in
theorem gX12_said_58 (l : Launch) {G : zG} {p : Program} {e : Env} {s : State} {m : MethodId} {args : Array Value} {below : List Frame} {meth : Method} {c : Code} {N n : Nat} {f9 : zF} {r : Int32} {r27 : zF → Nat → Int32 → Int32 → Int32 → Option (zF × Int32)} (B : zB G p s m args meth c RX12 cX12_said 4 (some .int)) (hr27 : ∀ (f : zF) (a0 : Nat) (a1 : Int32) (a2 : Int32) (a3 : Int32) (H : Heap) (locs : List Loc) (ls : Array Slot), r27 f a0 a1 a2 a3 = some (f9, r) → zS G n f H locs → lv_has ls 4 [(0, zr G a0), (1, .int a1), (2, .int a2), (3, .int a3)] → W p l e (zrm 8) s m args below meth c H locs 0 0 (MQ below (zQc G n f9 (some (.int r))) args s 0 0 (zA G)) (F0 m 27 ls [])) : ∀ (f : zF) (a0 : Nat) (a1 : Int32) (a2 : Int32) (a3 : Int32) (H : Heap) (locs : List Loc) (ls : Array Slot), fX12_said_58 r27 N n f a0 a1 a2 a3 = some (f9, r) → zS G n f H locs → lv_has ls 4 [(0, zr G a0), (1, .int a1), (2, .int a2), (3, .int a3)] → W p l e (zrm 8) s m args below meth c H locs 0 0 (MQ below (zQc G n f9 (some (.int r))) args s 0 0 (zA G)) (F0 m 58 ls []) := by
  have he := B.1
  have hb := B.2.1
  intro f a0 a1 a2 a3 H locs ls h hS hl
  unfold fX12_said_58 at h
  refine lv_iinc (v := (a3 + 1)) (lv' := [(3, _), (0, _), (1, _), (2, _)]) he hb dX12_said_58 hl (k := 3) rfl rfl (by decide) rfl (fun ls hl => ?_)
  refine lv_goto (tgt := 27) he hb dX12_said_61 (by decide) ?_
  exact hr27 _ _ _ _ _ _ _ _ h hS (lv_sub hl [1, 2, 3, 0] rfl)
def fX12_said_27 (N n : Nat) : Nat → zF → Nat → Int32 → Int32 → Int32 → Option (zF × Int32)
  | 0, _, _, _, _, _ => none
  | k + 1, f, a0, a1, a2, a3 =>
    ((zgR n f 12 a0 6).bind fun x4 => ((zlI n f 0 x4 (3 : Int32)).bind fun x5 => (if x5 ≤ a3 then (if a1 = (-1 : Int32) then some (f, a2) else some (f, (-1 : Int32))) else ((zck n f 12 a0).bind fun _ => (zbd (fX12_isSaid N n f a0 a3) fun f7 x6 => (if x6 = 0 then (fX12_said_58 (fX12_said_27 N n k) N n f7 a0 a1 a2 a3) else (if a2 = a1 then some (f7, a3) else (fX12_said_58 (fX12_said_27 N n k) N n f7 a0 a1 (a2 + 1) a3))))))))
set_option maxRecDepth 100000 in
set_option maxHeartbeats 4000000 in
theorem gX12_said_27 (l : Launch) {G : zG} {p : Program} {e : Env} {s : State} {m : MethodId} {args : Array Value} {below : List Frame} {meth : Method} {c : Code} {N n : Nat} {f9 : zF} {r : Int32} (B : zB G p s m args meth c RX12 cX12_said 4 (some .int)) : ∀ (k : Nat), ∀ (f : zF) (a0 : Nat) (a1 : Int32) (a2 : Int32) (a3 : Int32) (H : Heap) (locs : List Loc) (ls : Array Slot), fX12_said_27 N n k f a0 a1 a2 a3 = some (f9, r) → zS G n f H locs → lv_has ls 4 [(0, zr G a0), (1, .int a1), (2, .int a2), (3, .int a3)] → W p l e (zrm 8) s m args below meth c H locs 0 0 (MQ below (zQc G n f9 (some (.int r))) args s 0 0 (zA G)) (F0 m 27 ls []) := by
  have he := B.1
  have hb := B.2.1
  intro k
  induction k with
  | zero =>
    intro f a0 a1 a2 a3 H locs ls h
    unfold fX12_said_27 at h
    cases h
  | succ k ih =>
    intro f a0 a1 a2 a3 H locs ls h hS hl
    unfold fX12_said_27 at h
    refine lv_iload_n he hb dX12_said_27 rfl (lv_at hl 3 rfl) ?_
    refine z_aload_n he hb dX12_said_28 rfl (lv_at hl 0 rfl) (zref_r _ _) ?_
    obtain ⟨x4, hx, h⟩ := zob h
    refine z_getR (ci := 12) (T := TX12) (N := 50) (j := 6) B hS hx rfl zin_X12 (by decide) zk_1353 dX12_said_29 ?_
    refine lv_iconst (v := (3 : Int32)) he hb dX12_said_32 (by decide) ?_
    obtain ⟨x5, hx, h⟩ := zob h
    refine z_ildI B hS hx dX12_said_33 ?_
    refine lv_icmp_ge (tgt := 64) he hb dX12_said_34 (by decide) (fun hc => ?_) (fun hc => ?_)
    · rw [if_pos hc] at h
      refine lv_iload_n he hb dX12_said_64 rfl (lv_at hl 1 rfl) ?_
      refine lv_iconst (v := (-1 : Int32)) he hb dX12_said_65 (by decide) ?_
      refine lv_icmp_ne (tgt := 73) he hb dX12_said_66 (by decide) (fun hc => ?_) (fun hc => ?_)
      · rw [if_neg hc] at h
        refine lv_iconst (v := (-1 : Int32)) he hb dX12_said_73 (by decide) ?_
        obtain ⟨rfl, rfl⟩ := Prod.mk.inj (Option.some.inj h)
        exact z_iret B hS dX12_said_74
      · rw [if_pos hc] at h
        refine lv_iload_n he hb dX12_said_69 rfl (lv_at hl 2 rfl) ?_
        refine lv_goto (tgt := 74) he hb dX12_said_70 (by decide) ?_
        obtain ⟨rfl, rfl⟩ := Prod.mk.inj (Option.some.inj h)
        exact z_iret B hS dX12_said_74
    · rw [if_neg hc] at h
      refine z_aload_n he hb dX12_said_37 rfl (lv_at hl 0 rfl) (zref_r _ _) ?_
      refine lv_iload_n he hb dX12_said_38 rfl (lv_at hl 3 rfl) ?_
      obtain ⟨_, hc, h⟩ := zob h
      obtain ⟨f7, x6, hx, h⟩ := zbd_i h
      refine z_callV (ci := 12) (T := TX12) (N := 50) (rest := []) B hS (mX12_isSaid l G hx) zy_X12_isSaid zk_1957 (by decide) hc rfl rfl hl rfl (Nat.le_of_ble_eq_true rfl) dX12_said_39 (kk := (fun H locs hS => ?_))
      refine lv_if_ne (tgt := 48) he hb dX12_said_42 (by decide) (fun hc => ?_) (fun hc => ?_)
      · rw [if_neg hc] at h
        refine lv_iload_n he hb dX12_said_48 rfl (lv_at hl 2 rfl) ?_
        refine lv_iload_n he hb dX12_said_49 rfl (lv_at hl 1 rfl) ?_
        refine lv_icmp_ne (tgt := 55) he hb dX12_said_50 (by decide) (fun hc => ?_) (fun hc => ?_)
        · rw [if_neg hc] at h
          refine lv_iinc (v := (a2 + 1)) (lv' := [(2, _), (0, _), (1, _), (3, _)]) he hb dX12_said_55 hl (k := 2) rfl rfl (by decide) rfl (fun ls hl => ?_)
          exact gX12_said_58 l B ih _ _ _ _ _ _ _ _ h hS (lv_sub hl [1, 2, 0, 3] rfl)
        · rw [if_pos hc] at h
          refine lv_iload_n he hb dX12_said_53 rfl (lv_at hl 3 rfl) ?_
          obtain ⟨rfl, rfl⟩ := Prod.mk.inj (Option.some.inj h)
          exact z_iret B hS dX12_said_54
      · rw [if_pos hc] at h
        refine lv_goto (tgt := 58) he hb dX12_said_45 (by decide) ?_
        exact gX12_said_58 l B ih _ _ _ _ _ _ _ _ h hS (lv_sub hl [0, 1, 2, 3] rfl)
def fX12_said (N n : Nat) (f : zF) (a0 : Nat) (a1 : Int32) : Option (zF × Int32) :=
    ((zpI n f 12 a0 0 (0 : Int32)).bind fun f1 => ((zgR n f1 12 a0 6).bind fun x2 => ((zlI n f1 0 x2 (250 : Int32)).bind fun x3 => (if x3 = 0 then some (f1, (-1 : Int32)) else (if (-1 : Int32) ≤ a1 then (fX12_said_27 N n N f1 a0 a1 (0 : Int32) (0 : Int32)) else some (f1, (-1 : Int32)))))))
set_option maxRecDepth 100000 in
set_option maxHeartbeats 4000000 in
theorem mX12_said (l : Launch) (G : zG) {N n : Nat} {f : zF} {f9 : zF} {r : Int32} {a0 : Nat} {a1 : Int32} (h : fX12_said N n f a0 a1 = some (f9, r)) : zM l G yX12_said cX12_said 4 (some .int) 8 n f [zr G a0, .int a1] (some (.int r)) f9 := by
  refine zM.of (by decide) (Nat.le_of_ble_eq_true rfl) ?_
  intro p e s m args below meth c locs ls B hS hl
  have he := B.1
  have hb := B.2.1
  have hl : lv_has ls 4 [(0, zr G a0), (1, .int a1)] := hl
  unfold fX12_said at h
  generalize s.heap = H at hS ⊢
  refine z_aload_n he hb dX12_said_0 rfl (lv_at hl 0 rfl) (zref_r _ _) ?_
  refine lv_iconst (v := (0 : Int32)) he hb dX12_said_1 (by decide) ?_
  obtain ⟨f1, hx, h⟩ := zob h
  refine z_putI (ci := 12) (T := TX12) (N := 50) (j := 0) B hS hx rfl zin_X12 tyX12 tyX12_ok nmX12 (by decide) zk_1347 rfl rfl dX12_said_2 (fun H locs hS => ?_)
  refine z_aload_n he hb dX12_said_5 rfl (lv_at hl 0 rfl) (zref_r _ _) ?_
  obtain ⟨x2, hx, h⟩ := zob h
  refine z_getR (ci := 12) (T := TX12) (N := 50) (j := 6) B hS hx rfl zin_X12 (by decide) zk_1353 dX12_said_6 ?_
  refine lv_sipush (v := (250 : Int32)) he hb dX12_said_9 (by decide) ?_
  obtain ⟨x3, hx, h⟩ := zob h
  refine z_ildI B hS hx dX12_said_12 ?_
  refine lv_if_eq (tgt := 21) he hb dX12_said_13 (by decide) (fun hc => ?_) (fun hc => ?_)
  · rw [if_pos hc] at h
    refine lv_iconst (v := (-1 : Int32)) he hb dX12_said_21 (by decide) ?_
    obtain ⟨rfl, rfl⟩ := Prod.mk.inj (Option.some.inj h)
    exact z_iret B hS dX12_said_22
  · rw [if_neg hc] at h
    refine lv_iload_n he hb dX12_said_16 rfl (lv_at hl 1 rfl) ?_
    refine lv_iconst (v := (-1 : Int32)) he hb dX12_said_17 (by decide) ?_
    refine lv_icmp_ge (tgt := 23) he hb dX12_said_18 (by decide) (fun hc => ?_) (fun hc => ?_)
    · rw [if_pos hc] at h
      refine lv_iconst (v := (0 : Int32)) he hb dX12_said_23 (by decide) ?_
      refine lv_istore_n (lv' := [(2, _), (0, _), (1, _)]) he hb dX12_said_24 rfl hl (by decide) rfl (fun ls hl => ?_)
      refine lv_iconst (v := (0 : Int32)) he hb dX12_said_25 (by decide) ?_
      refine lv_istore_n (lv' := [(3, _), (2, _), (0, _), (1, _)]) he hb dX12_said_26 rfl hl (by decide) rfl (fun ls hl => ?_)
      exact gX12_said_27 l B N _ _ _ _ _ _ _ _ h hS (lv_sub hl [2, 3, 1, 0] rfl)
    · rw [if_neg hc] at h
      refine lv_iconst (v := (-1 : Int32)) he hb dX12_said_21 (by decide) ?_
      obtain ⟨rfl, rfl⟩ := Prod.mk.inj (Option.some.inj h)
      exact z_iret B hS dX12_said_22
theorem dX12_image_0 : decode cX12_image 0 = .ok (.aload_n 0, 1) := by decide +kernel
theorem dX12_image_1 : decode cX12_image 1 = .ok (.iconst 0, 1) := by decide +kernel
theorem dX12_image_2 : decode cX12_image 2 = .ok (.putfield 1, 3) := by decide +kernel
theorem dX12_image_5 : decode cX12_image 5 = .ok (.iload_n 1, 1) := by decide +kernel
theorem dX12_image_6 : decode cX12_image 6 = .ok (.iconst 0, 1) := by decide +kernel
theorem dX12_image_7 : decode cX12_image 7 = .ok (.iconst 1, 1) := by decide +kernel
theorem dX12_image_8 : decode cX12_image 8 = .ok (.invokestatic 192, 3) := by decide +kernel
theorem dX12_image_11 : decode cX12_image 11 = .ok (.ifCond .ne 5, 3) := by decide +kernel
theorem dX12_image_14 : decode cX12_image 14 = .ok (.iconst 0, 1) := by decide +kernel
theorem dX12_image_15 : decode cX12_image 15 = .ok (.ireturn, 1) := by decide +kernel
theorem dX12_image_16 : decode cX12_image 16 = .ok (.iconst 0, 1) := by decide +kernel
theorem dX12_image_17 : decode cX12_image 17 = .ok (.istore_n 2, 1) := by decide +kernel
theorem dX12_image_18 : decode cX12_image 18 = .ok (.iload_n 2, 1) := by decide +kernel
theorem dX12_image_19 : decode cX12_image 19 = .ok (.sipush 431, 3) := by decide +kernel
theorem dX12_image_22 : decode cX12_image 22 = .ok (.if_icmp .ge 27, 3) := by decide +kernel
theorem dX12_image_25 : decode cX12_image 25 = .ok (.aload_n 0, 1) := by decide +kernel
theorem dX12_image_26 : decode cX12_image 26 = .ok (.getfield 84, 3) := by decide +kernel
theorem dX12_image_29 : decode cX12_image 29 = .ok (.sipush 431, 3) := by decide +kernel
theorem dX12_image_32 : decode cX12_image 32 = .ok (.iload_n 1, 1) := by decide +kernel
theorem dX12_image_33 : decode cX12_image 33 = .ok (.imul, 1) := by decide +kernel
theorem dX12_image_34 : decode cX12_image 34 = .ok (.iload_n 2, 1) := by decide +kernel
theorem dX12_image_35 : decode cX12_image 35 = .ok (.iadd, 1) := by decide +kernel
theorem dX12_image_36 : decode cX12_image 36 = .ok (.aload_n 0, 1) := by decide +kernel
theorem dX12_image_37 : decode cX12_image 37 = .ok (.getfield 33, 3) := by decide +kernel
theorem dX12_image_40 : decode cX12_image 40 = .ok (.iload_n 2, 1) := by decide +kernel
theorem dX12_image_41 : decode cX12_image 41 = .ok (.iaload, 1) := by decide +kernel
theorem dX12_image_42 : decode cX12_image 42 = .ok (.iastore, 1) := by decide +kernel
theorem dX12_image_43 : decode cX12_image 43 = .ok (.iinc 2 1, 3) := by decide +kernel
theorem dX12_image_46 : decode cX12_image 46 = .ok (.goto (-28), 3) := by decide +kernel
theorem dX12_image_49 : decode cX12_image 49 = .ok (.iconst 0, 1) := by decide +kernel
theorem dX12_image_50 : decode cX12_image 50 = .ok (.istore_n 2, 1) := by decide +kernel
theorem dX12_image_51 : decode cX12_image 51 = .ok (.iload_n 2, 1) := by decide +kernel
theorem dX12_image_52 : decode cX12_image 52 = .ok (.bipush 15, 2) := by decide +kernel
theorem dX12_image_54 : decode cX12_image 54 = .ok (.if_icmp .ge 26, 3) := by decide +kernel
theorem dX12_image_57 : decode cX12_image 57 = .ok (.aload_n 0, 1) := by decide +kernel
theorem dX12_image_58 : decode cX12_image 58 = .ok (.getfield 87, 3) := by decide +kernel
theorem dX12_image_61 : decode cX12_image 61 = .ok (.bipush 15, 2) := by decide +kernel
theorem dX12_image_63 : decode cX12_image 63 = .ok (.iload_n 1, 1) := by decide +kernel
theorem dX12_image_64 : decode cX12_image 64 = .ok (.imul, 1) := by decide +kernel
theorem dX12_image_65 : decode cX12_image 65 = .ok (.iload_n 2, 1) := by decide +kernel
theorem dX12_image_66 : decode cX12_image 66 = .ok (.iadd, 1) := by decide +kernel
theorem dX12_image_67 : decode cX12_image 67 = .ok (.aload_n 0, 1) := by decide +kernel
theorem dX12_image_68 : decode cX12_image 68 = .ok (.getfield 43, 3) := by decide +kernel
theorem dX12_image_71 : decode cX12_image 71 = .ok (.iload_n 2, 1) := by decide +kernel
theorem dX12_image_72 : decode cX12_image 72 = .ok (.laload, 1) := by decide +kernel
theorem dX12_image_73 : decode cX12_image 73 = .ok (.lastore, 1) := by decide +kernel
theorem dX12_image_74 : decode cX12_image 74 = .ok (.iinc 2 1, 3) := by decide +kernel
theorem dX12_image_77 : decode cX12_image 77 = .ok (.goto (-26), 3) := by decide +kernel
theorem dX12_image_80 : decode cX12_image 80 = .ok (.aload_n 0, 1) := by decide +kernel
theorem dX12_image_81 : decode cX12_image 81 = .ok (.getfield 90, 3) := by decide +kernel
theorem dX12_image_84 : decode cX12_image 84 = .ok (.iload_n 1, 1) := by decide +kernel
theorem dX12_image_85 : decode cX12_image 85 = .ok (.iconst 1, 1) := by decide +kernel
theorem dX12_image_86 : decode cX12_image 86 = .ok (.bastore, 1) := by decide +kernel
theorem dX12_image_87 : decode cX12_image 87 = .ok (.iconst 1, 1) := by decide +kernel
theorem dX12_image_88 : decode cX12_image 88 = .ok (.ireturn, 1) := by decide +kernel
def fX12_image_51 (N n : Nat) : Nat → zF → Nat → Int32 → Int32 → Option (zF × Int32)
  | 0, _, _, _, _ => none
  | k + 1, f, a0, a1, a2 =>
    (if (15 : Int32) ≤ a2 then ((zgR n f 12 a0 49).bind fun x3 => ((zsZ n f 3 x3 a1 (1 : Int32)).bind fun f4 => ((zbl (1 : Int32)).bind fun y => some (f4, y)))) else ((zgR n f 12 a0 48).bind fun x5 => ((zgR n f 12 a0 9).bind fun x6 => ((zlL n f 1 x6 a2).bind fun x7 => ((zsL n f 1 x5 (((15 : Int32) * a1) + a2) x7).bind fun f8 => (fX12_image_51 N n k f8 a0 a1 (a2 + 1)))))))
set_option maxRecDepth 100000 in
set_option maxHeartbeats 4000000 in
theorem gX12_image_51 (l : Launch) {G : zG} {p : Program} {e : Env} {s : State} {m : MethodId} {args : Array Value} {below : List Frame} {meth : Method} {c : Code} {N n : Nat} {f9 : zF} {r : Int32} (B : zB G p s m args meth c RX12 cX12_image 3 (some .boolean)) : ∀ (k : Nat), ∀ (f : zF) (a0 : Nat) (a1 : Int32) (a2 : Int32) (H : Heap) (locs : List Loc) (ls : Array Slot), fX12_image_51 N n k f a0 a1 a2 = some (f9, r) → zS G n f H locs → lv_has ls 3 [(0, zr G a0), (1, .int a1), (2, .int a2)] → W p l e (zrm 1) s m args below meth c H locs 0 0 (MQ below (zQc G n f9 (some (.int r))) args s 0 0 (zA G)) (F0 m 51 ls []) := by
  have he := B.1
  have hb := B.2.1
  intro k
  induction k with
  | zero =>
    intro f a0 a1 a2 H locs ls h
    unfold fX12_image_51 at h
    cases h
  | succ k ih =>
    intro f a0 a1 a2 H locs ls h hS hl
    unfold fX12_image_51 at h
    refine lv_iload_n he hb dX12_image_51 rfl (lv_at hl 2 rfl) ?_
    refine lv_bipush (v := (15 : Int32)) he hb dX12_image_52 (by decide) ?_
    refine lv_icmp_ge (tgt := 80) he hb dX12_image_54 (by decide) (fun hc => ?_) (fun hc => ?_)
    · rw [if_pos hc] at h
      refine z_aload_n he hb dX12_image_80 rfl (lv_at hl 0 rfl) (zref_r _ _) ?_
      obtain ⟨x3, hx, h⟩ := zob h
      refine z_getR (ci := 12) (T := TX12) (N := 50) (j := 49) B hS hx rfl zin_X12 (by decide) zk_1396 dX12_image_81 ?_
      refine lv_iload_n he hb dX12_image_84 rfl (lv_at hl 1 rfl) ?_
      refine lv_iconst (v := (1 : Int32)) he hb dX12_image_85 (by decide) ?_
      obtain ⟨f4, hx, h⟩ := zob h
      refine z_istZ B hS hx dX12_image_86 (fun H locs hS => ?_)
      refine lv_iconst (v := (1 : Int32)) he hb dX12_image_87 (by decide) ?_
      obtain ⟨y, hx, h⟩ := zob h
      obtain ⟨hz, rfl⟩ := zbl_i hx
      obtain ⟨rfl, rfl⟩ := Prod.mk.inj (Option.some.inj h)
      exact z_zret B hS hz dX12_image_88
    · rw [if_neg hc] at h
      refine z_aload_n he hb dX12_image_57 rfl (lv_at hl 0 rfl) (zref_r _ _) ?_
      obtain ⟨x5, hx, h⟩ := zob h
      refine z_getR (ci := 12) (T := TX12) (N := 50) (j := 48) B hS hx rfl zin_X12 (by decide) zk_1395 dX12_image_58 ?_
      refine lv_bipush (v := (15 : Int32)) he hb dX12_image_61 (by decide) ?_
      refine lv_iload_n he hb dX12_image_63 rfl (lv_at hl 1 rfl) ?_
      refine lv_imul he hb dX12_image_64 ?_
      refine lv_iload_n he hb dX12_image_65 rfl (lv_at hl 2 rfl) ?_
      refine lv_iadd he hb dX12_image_66 ?_
      refine z_aload_n he hb dX12_image_67 rfl (lv_at hl 0 rfl) (zref_r _ _) ?_
      obtain ⟨x6, hx, h⟩ := zob h
      refine z_getR (ci := 12) (T := TX12) (N := 50) (j := 9) B hS hx rfl zin_X12 (by decide) zk_1356 dX12_image_68 ?_
      refine lv_iload_n he hb dX12_image_71 rfl (lv_at hl 2 rfl) ?_
      obtain ⟨x7, hx, h⟩ := zob h
      refine z_ildL B hS hx dX12_image_72 ?_
      obtain ⟨f8, hx, h⟩ := zob h
      refine z_istL B hS hx dX12_image_73 (fun H locs hS => ?_)
      refine lv_iinc (v := (a2 + 1)) (lv' := [(2, _), (0, _), (1, _)]) he hb dX12_image_74 hl (k := 2) rfl rfl (by decide) rfl (fun ls hl => ?_)
      refine lv_goto (tgt := 51) he hb dX12_image_77 (by decide) ?_
      exact ih _ _ _ _ _ _ _ h hS (lv_sub hl [1, 2, 0] rfl)
def fX12_image_18 (N n : Nat) : Nat → zF → Nat → Int32 → Int32 → Option (zF × Int32)
  | 0, _, _, _, _ => none
  | k + 1, f, a0, a1, a2 =>
    (if (431 : Int32) ≤ a2 then (fX12_image_51 N n N f a0 a1 (0 : Int32)) else ((zgR n f 12 a0 47).bind fun x9 => ((zgR n f 12 a0 6).bind fun x10 => ((zlI n f 0 x10 a2).bind fun x11 => ((zsI n f 0 x9 (((431 : Int32) * a1) + a2) x11).bind fun f12 => (fX12_image_18 N n k f12 a0 a1 (a2 + 1)))))))
set_option maxRecDepth 100000 in
set_option maxHeartbeats 4000000 in
theorem gX12_image_18 (l : Launch) {G : zG} {p : Program} {e : Env} {s : State} {m : MethodId} {args : Array Value} {below : List Frame} {meth : Method} {c : Code} {N n : Nat} {f9 : zF} {r : Int32} (B : zB G p s m args meth c RX12 cX12_image 3 (some .boolean)) : ∀ (k : Nat), ∀ (f : zF) (a0 : Nat) (a1 : Int32) (a2 : Int32) (H : Heap) (locs : List Loc) (ls : Array Slot), fX12_image_18 N n k f a0 a1 a2 = some (f9, r) → zS G n f H locs → lv_has ls 3 [(0, zr G a0), (1, .int a1), (2, .int a2)] → W p l e (zrm 1) s m args below meth c H locs 0 0 (MQ below (zQc G n f9 (some (.int r))) args s 0 0 (zA G)) (F0 m 18 ls []) := by
  have he := B.1
  have hb := B.2.1
  intro k
  induction k with
  | zero =>
    intro f a0 a1 a2 H locs ls h
    unfold fX12_image_18 at h
    cases h
  | succ k ih =>
    intro f a0 a1 a2 H locs ls h hS hl
    unfold fX12_image_18 at h
    refine lv_iload_n he hb dX12_image_18 rfl (lv_at hl 2 rfl) ?_
    refine lv_sipush (v := (431 : Int32)) he hb dX12_image_19 (by decide) ?_
    refine lv_icmp_ge (tgt := 49) he hb dX12_image_22 (by decide) (fun hc => ?_) (fun hc => ?_)
    · rw [if_pos hc] at h
      refine lv_iconst (v := (0 : Int32)) he hb dX12_image_49 (by decide) ?_
      refine lv_istore_n (lv' := [(2, _), (0, _), (1, _)]) he hb dX12_image_50 rfl hl (by decide) rfl (fun ls hl => ?_)
      exact gX12_image_51 l B N _ _ _ _ _ _ _ h hS (lv_sub hl [1, 2, 0] rfl)
    · rw [if_neg hc] at h
      refine z_aload_n he hb dX12_image_25 rfl (lv_at hl 0 rfl) (zref_r _ _) ?_
      obtain ⟨x9, hx, h⟩ := zob h
      refine z_getR (ci := 12) (T := TX12) (N := 50) (j := 47) B hS hx rfl zin_X12 (by decide) zk_1394 dX12_image_26 ?_
      refine lv_sipush (v := (431 : Int32)) he hb dX12_image_29 (by decide) ?_
      refine lv_iload_n he hb dX12_image_32 rfl (lv_at hl 1 rfl) ?_
      refine lv_imul he hb dX12_image_33 ?_
      refine lv_iload_n he hb dX12_image_34 rfl (lv_at hl 2 rfl) ?_
      refine lv_iadd he hb dX12_image_35 ?_
      refine z_aload_n he hb dX12_image_36 rfl (lv_at hl 0 rfl) (zref_r _ _) ?_
      obtain ⟨x10, hx, h⟩ := zob h
      refine z_getR (ci := 12) (T := TX12) (N := 50) (j := 6) B hS hx rfl zin_X12 (by decide) zk_1353 dX12_image_37 ?_
      refine lv_iload_n he hb dX12_image_40 rfl (lv_at hl 2 rfl) ?_
      obtain ⟨x11, hx, h⟩ := zob h
      refine z_ildI B hS hx dX12_image_41 ?_
      obtain ⟨f12, hx, h⟩ := zob h
      refine z_istI B hS hx dX12_image_42 (fun H locs hS => ?_)
      refine lv_iinc (v := (a2 + 1)) (lv' := [(2, _), (0, _), (1, _)]) he hb dX12_image_43 hl (k := 2) rfl rfl (by decide) rfl (fun ls hl => ?_)
      refine lv_goto (tgt := 18) he hb dX12_image_46 (by decide) ?_
      exact ih _ _ _ _ _ _ _ h hS (lv_sub hl [1, 2, 0] rfl)
def fX12_image (N n : Nat) (f : zF) (a0 : Nat) (a1 : Int32) : Option (zF × Int32) :=
    ((zpI n f 12 a0 0 (0 : Int32)).bind fun f1 => ((fX12_isIn N n f1 a1 (0 : Int32) (1 : Int32)).bind fun x2 => (if x2 = 0 then ((zbl (0 : Int32)).bind fun y => some (f1, y)) else (fX12_image_18 N n N f1 a0 a1 (0 : Int32)))))
set_option maxRecDepth 100000 in
set_option maxHeartbeats 4000000 in
theorem mX12_image (l : Launch) (G : zG) {N n : Nat} {f : zF} {f9 : zF} {r : Int32} {a0 : Nat} {a1 : Int32} (h : fX12_image N n f a0 a1 = some (f9, r)) : zM l G yX12_image cX12_image 3 (some .boolean) 1 n f [zr G a0, .int a1] (some (.int r)) f9 := by
  refine zM.of (by decide) (Nat.le_of_ble_eq_true rfl) ?_
  intro p e s m args below meth c locs ls B hS hl
  have he := B.1
  have hb := B.2.1
  have hl : lv_has ls 3 [(0, zr G a0), (1, .int a1)] := hl
  unfold fX12_image at h
  generalize s.heap = H at hS ⊢
  refine z_aload_n he hb dX12_image_0 rfl (lv_at hl 0 rfl) (zref_r _ _) ?_
  refine lv_iconst (v := (0 : Int32)) he hb dX12_image_1 (by decide) ?_
  obtain ⟨f1, hx, h⟩ := zob h
  refine z_putI (ci := 12) (T := TX12) (N := 50) (j := 0) B hS hx rfl zin_X12 tyX12 tyX12_ok nmX12 (by decide) zk_1347 rfl rfl dX12_image_2 (fun H locs hS => ?_)
  refine lv_iload_n he hb dX12_image_5 rfl (lv_at hl 1 rfl) ?_
  refine lv_iconst (v := (0 : Int32)) he hb dX12_image_6 (by decide) ?_
  refine lv_iconst (v := (1 : Int32)) he hb dX12_image_7 (by decide) ?_
  obtain ⟨x2, hx, h⟩ := zob h
  refine z_callS (rest := []) B hS (mX12_isIn l G hx) zy_X12_isIn zk_1545 (by decide) rfl hl rfl (Nat.le_of_ble_eq_true rfl) dX12_image_8 (kk := (fun H locs hS => ?_))
  refine lv_if_ne (tgt := 16) he hb dX12_image_11 (by decide) (fun hc => ?_) (fun hc => ?_)
  · rw [if_neg hc] at h
    refine lv_iconst (v := (0 : Int32)) he hb dX12_image_16 (by decide) ?_
    refine lv_istore_n (lv' := [(2, _), (0, _), (1, _)]) he hb dX12_image_17 rfl hl (by decide) rfl (fun ls hl => ?_)
    exact gX12_image_18 l B N _ _ _ _ _ _ _ h hS (lv_sub hl [1, 2, 0] rfl)
  · rw [if_pos hc] at h
    refine lv_iconst (v := (0 : Int32)) he hb dX12_image_14 (by decide) ?_
    obtain ⟨y, hx, h⟩ := zob h
    obtain ⟨hz, rfl⟩ := zbl_i hx
    obtain ⟨rfl, rfl⟩ := Prod.mk.inj (Option.some.inj h)
    exact z_zret B hS hz dX12_image_15
theorem dX12_restore_0 : decode cX12_restore 0 = .ok (.aload_n 0, 1) := by decide +kernel
theorem dX12_restore_1 : decode cX12_restore 1 = .ok (.iconst 0, 1) := by decide +kernel
theorem dX12_restore_2 : decode cX12_restore 2 = .ok (.putfield 1, 3) := by decide +kernel
theorem dX12_restore_5 : decode cX12_restore 5 = .ok (.iload_n 1, 1) := by decide +kernel
theorem dX12_restore_6 : decode cX12_restore 6 = .ok (.iconst 0, 1) := by decide +kernel
theorem dX12_restore_7 : decode cX12_restore 7 = .ok (.iconst 1, 1) := by decide +kernel
theorem dX12_restore_8 : decode cX12_restore 8 = .ok (.invokestatic 192, 3) := by decide +kernel
theorem dX12_restore_11 : decode cX12_restore 11 = .ok (.ifCond .eq 12, 3) := by decide +kernel
theorem dX12_restore_14 : decode cX12_restore 14 = .ok (.aload_n 0, 1) := by decide +kernel
theorem dX12_restore_15 : decode cX12_restore 15 = .ok (.getfield 90, 3) := by decide +kernel
theorem dX12_restore_18 : decode cX12_restore 18 = .ok (.iload_n 1, 1) := by decide +kernel
theorem dX12_restore_19 : decode cX12_restore 19 = .ok (.baload, 1) := by decide +kernel
theorem dX12_restore_20 : decode cX12_restore 20 = .ok (.ifCond .ne 5, 3) := by decide +kernel
theorem dX12_restore_23 : decode cX12_restore 23 = .ok (.iconst 0, 1) := by decide +kernel
theorem dX12_restore_24 : decode cX12_restore 24 = .ok (.ireturn, 1) := by decide +kernel
theorem dX12_restore_25 : decode cX12_restore 25 = .ok (.iconst 0, 1) := by decide +kernel
theorem dX12_restore_26 : decode cX12_restore 26 = .ok (.istore_n 2, 1) := by decide +kernel
theorem dX12_restore_27 : decode cX12_restore 27 = .ok (.iload_n 2, 1) := by decide +kernel
theorem dX12_restore_28 : decode cX12_restore 28 = .ok (.sipush 431, 3) := by decide +kernel
theorem dX12_restore_31 : decode cX12_restore 31 = .ok (.if_icmp .ge 27, 3) := by decide +kernel
theorem dX12_restore_34 : decode cX12_restore 34 = .ok (.aload_n 0, 1) := by decide +kernel
theorem dX12_restore_35 : decode cX12_restore 35 = .ok (.getfield 33, 3) := by decide +kernel
theorem dX12_restore_38 : decode cX12_restore 38 = .ok (.iload_n 2, 1) := by decide +kernel
theorem dX12_restore_39 : decode cX12_restore 39 = .ok (.aload_n 0, 1) := by decide +kernel
theorem dX12_restore_40 : decode cX12_restore 40 = .ok (.getfield 84, 3) := by decide +kernel
theorem dX12_restore_43 : decode cX12_restore 43 = .ok (.sipush 431, 3) := by decide +kernel
theorem dX12_restore_46 : decode cX12_restore 46 = .ok (.iload_n 1, 1) := by decide +kernel
theorem dX12_restore_47 : decode cX12_restore 47 = .ok (.imul, 1) := by decide +kernel
theorem dX12_restore_48 : decode cX12_restore 48 = .ok (.iload_n 2, 1) := by decide +kernel
theorem dX12_restore_49 : decode cX12_restore 49 = .ok (.iadd, 1) := by decide +kernel
theorem dX12_restore_50 : decode cX12_restore 50 = .ok (.iaload, 1) := by decide +kernel
theorem dX12_restore_51 : decode cX12_restore 51 = .ok (.iastore, 1) := by decide +kernel
theorem dX12_restore_52 : decode cX12_restore 52 = .ok (.iinc 2 1, 3) := by decide +kernel
theorem dX12_restore_55 : decode cX12_restore 55 = .ok (.goto (-28), 3) := by decide +kernel
theorem dX12_restore_58 : decode cX12_restore 58 = .ok (.iconst 0, 1) := by decide +kernel
theorem dX12_restore_59 : decode cX12_restore 59 = .ok (.istore_n 2, 1) := by decide +kernel
theorem dX12_restore_60 : decode cX12_restore 60 = .ok (.iload_n 2, 1) := by decide +kernel
theorem dX12_restore_61 : decode cX12_restore 61 = .ok (.bipush 15, 2) := by decide +kernel
theorem dX12_restore_63 : decode cX12_restore 63 = .ok (.if_icmp .ge 26, 3) := by decide +kernel
theorem dX12_restore_66 : decode cX12_restore 66 = .ok (.aload_n 0, 1) := by decide +kernel
theorem dX12_restore_67 : decode cX12_restore 67 = .ok (.getfield 43, 3) := by decide +kernel
theorem dX12_restore_70 : decode cX12_restore 70 = .ok (.iload_n 2, 1) := by decide +kernel
theorem dX12_restore_71 : decode cX12_restore 71 = .ok (.aload_n 0, 1) := by decide +kernel
theorem dX12_restore_72 : decode cX12_restore 72 = .ok (.getfield 87, 3) := by decide +kernel
theorem dX12_restore_75 : decode cX12_restore 75 = .ok (.bipush 15, 2) := by decide +kernel
theorem dX12_restore_77 : decode cX12_restore 77 = .ok (.iload_n 1, 1) := by decide +kernel
theorem dX12_restore_78 : decode cX12_restore 78 = .ok (.imul, 1) := by decide +kernel
theorem dX12_restore_79 : decode cX12_restore 79 = .ok (.iload_n 2, 1) := by decide +kernel
theorem dX12_restore_80 : decode cX12_restore 80 = .ok (.iadd, 1) := by decide +kernel
theorem dX12_restore_81 : decode cX12_restore 81 = .ok (.laload, 1) := by decide +kernel
theorem dX12_restore_82 : decode cX12_restore 82 = .ok (.lastore, 1) := by decide +kernel
theorem dX12_restore_83 : decode cX12_restore 83 = .ok (.iinc 2 1, 3) := by decide +kernel
theorem dX12_restore_86 : decode cX12_restore 86 = .ok (.goto (-26), 3) := by decide +kernel
theorem dX12_restore_89 : decode cX12_restore 89 = .ok (.aload_n 0, 1) := by decide +kernel
theorem dX12_restore_90 : decode cX12_restore 90 = .ok (.iconst 0, 1) := by decide +kernel
theorem dX12_restore_91 : decode cX12_restore 91 = .ok (.putfield 274, 3) := by decide +kernel
theorem dX12_restore_94 : decode cX12_restore 94 = .ok (.iconst 1, 1) := by decide +kernel
theorem dX12_restore_95 : decode cX12_restore 95 = .ok (.ireturn, 1) := by decide +kernel
def fX12_restore_60 (N n : Nat) : Nat → zF → Nat → Int32 → Int32 → Option (zF × Int32)
  | 0, _, _, _, _ => none
  | k + 1, f, a0, a1, a2 =>
    (if (15 : Int32) ≤ a2 then ((zpI n f 12 a0 23 (0 : Int32)).bind fun f5 => ((zbl (1 : Int32)).bind fun y => some (f5, y))) else ((zgR n f 12 a0 9).bind fun x6 => ((zgR n f 12 a0 48).bind fun x7 => ((zlL n f 1 x7 (((15 : Int32) * a1) + a2)).bind fun x8 => ((zsL n f 1 x6 a2 x8).bind fun f9 => (fX12_restore_60 N n k f9 a0 a1 (a2 + 1)))))))
set_option maxRecDepth 100000 in
set_option maxHeartbeats 4000000 in
theorem gX12_restore_60 (l : Launch) {G : zG} {p : Program} {e : Env} {s : State} {m : MethodId} {args : Array Value} {below : List Frame} {meth : Method} {c : Code} {N n : Nat} {f9 : zF} {r : Int32} (B : zB G p s m args meth c RX12 cX12_restore 3 (some .boolean)) : ∀ (k : Nat), ∀ (f : zF) (a0 : Nat) (a1 : Int32) (a2 : Int32) (H : Heap) (locs : List Loc) (ls : Array Slot), fX12_restore_60 N n k f a0 a1 a2 = some (f9, r) → zS G n f H locs → lv_has ls 3 [(0, zr G a0), (1, .int a1), (2, .int a2)] → W p l e (zrm 1) s m args below meth c H locs 0 0 (MQ below (zQc G n f9 (some (.int r))) args s 0 0 (zA G)) (F0 m 60 ls []) := by
  have he := B.1
  have hb := B.2.1
  intro k
  induction k with
  | zero =>
    intro f a0 a1 a2 H locs ls h
    unfold fX12_restore_60 at h
    cases h
  | succ k ih =>
    intro f a0 a1 a2 H locs ls h hS hl
    unfold fX12_restore_60 at h
    refine lv_iload_n he hb dX12_restore_60 rfl (lv_at hl 2 rfl) ?_
    refine lv_bipush (v := (15 : Int32)) he hb dX12_restore_61 (by decide) ?_
    refine lv_icmp_ge (tgt := 89) he hb dX12_restore_63 (by decide) (fun hc => ?_) (fun hc => ?_)
    · rw [if_pos hc] at h
      refine z_aload_n he hb dX12_restore_89 rfl (lv_at hl 0 rfl) (zref_r _ _) ?_
      refine lv_iconst (v := (0 : Int32)) he hb dX12_restore_90 (by decide) ?_
      obtain ⟨f5, hx, h⟩ := zob h
      refine z_putI (ci := 12) (T := TX12) (N := 50) (j := 23) B hS hx rfl zin_X12 tyX12 tyX12_ok nmX12 (by decide) zk_1370 rfl rfl dX12_restore_91 (fun H locs hS => ?_)
      refine lv_iconst (v := (1 : Int32)) he hb dX12_restore_94 (by decide) ?_
      obtain ⟨y, hx, h⟩ := zob h
      obtain ⟨hz, rfl⟩ := zbl_i hx
      obtain ⟨rfl, rfl⟩ := Prod.mk.inj (Option.some.inj h)
      exact z_zret B hS hz dX12_restore_95
    · rw [if_neg hc] at h
      refine z_aload_n he hb dX12_restore_66 rfl (lv_at hl 0 rfl) (zref_r _ _) ?_
      obtain ⟨x6, hx, h⟩ := zob h
      refine z_getR (ci := 12) (T := TX12) (N := 50) (j := 9) B hS hx rfl zin_X12 (by decide) zk_1356 dX12_restore_67 ?_
      refine lv_iload_n he hb dX12_restore_70 rfl (lv_at hl 2 rfl) ?_
      refine z_aload_n he hb dX12_restore_71 rfl (lv_at hl 0 rfl) (zref_r _ _) ?_
      obtain ⟨x7, hx, h⟩ := zob h
      refine z_getR (ci := 12) (T := TX12) (N := 50) (j := 48) B hS hx rfl zin_X12 (by decide) zk_1395 dX12_restore_72 ?_
      refine lv_bipush (v := (15 : Int32)) he hb dX12_restore_75 (by decide) ?_
      refine lv_iload_n he hb dX12_restore_77 rfl (lv_at hl 1 rfl) ?_
      refine lv_imul he hb dX12_restore_78 ?_
      refine lv_iload_n he hb dX12_restore_79 rfl (lv_at hl 2 rfl) ?_
      refine lv_iadd he hb dX12_restore_80 ?_
      obtain ⟨x8, hx, h⟩ := zob h
      refine z_ildL B hS hx dX12_restore_81 ?_
      obtain ⟨f9, hx, h⟩ := zob h
      refine z_istL B hS hx dX12_restore_82 (fun H locs hS => ?_)
      refine lv_iinc (v := (a2 + 1)) (lv' := [(2, _), (0, _), (1, _)]) he hb dX12_restore_83 hl (k := 2) rfl rfl (by decide) rfl (fun ls hl => ?_)
      refine lv_goto (tgt := 60) he hb dX12_restore_86 (by decide) ?_
      exact ih _ _ _ _ _ _ _ h hS (lv_sub hl [1, 2, 0] rfl)
def fX12_restore_27 (N n : Nat) : Nat → zF → Nat → Int32 → Int32 → Option (zF × Int32)
  | 0, _, _, _, _ => none
  | k + 1, f, a0, a1, a2 =>
    (if (431 : Int32) ≤ a2 then (fX12_restore_60 N n N f a0 a1 (0 : Int32)) else ((zgR n f 12 a0 6).bind fun x10 => ((zgR n f 12 a0 47).bind fun x11 => ((zlI n f 0 x11 (((431 : Int32) * a1) + a2)).bind fun x12 => ((zsI n f 0 x10 a2 x12).bind fun f13 => (fX12_restore_27 N n k f13 a0 a1 (a2 + 1)))))))
set_option maxRecDepth 100000 in
set_option maxHeartbeats 4000000 in
theorem gX12_restore_27 (l : Launch) {G : zG} {p : Program} {e : Env} {s : State} {m : MethodId} {args : Array Value} {below : List Frame} {meth : Method} {c : Code} {N n : Nat} {f9 : zF} {r : Int32} (B : zB G p s m args meth c RX12 cX12_restore 3 (some .boolean)) : ∀ (k : Nat), ∀ (f : zF) (a0 : Nat) (a1 : Int32) (a2 : Int32) (H : Heap) (locs : List Loc) (ls : Array Slot), fX12_restore_27 N n k f a0 a1 a2 = some (f9, r) → zS G n f H locs → lv_has ls 3 [(0, zr G a0), (1, .int a1), (2, .int a2)] → W p l e (zrm 1) s m args below meth c H locs 0 0 (MQ below (zQc G n f9 (some (.int r))) args s 0 0 (zA G)) (F0 m 27 ls []) := by
  have he := B.1
  have hb := B.2.1
  intro k
  induction k with
  | zero =>
    intro f a0 a1 a2 H locs ls h
    unfold fX12_restore_27 at h
    cases h
  | succ k ih =>
    intro f a0 a1 a2 H locs ls h hS hl
    unfold fX12_restore_27 at h
    refine lv_iload_n he hb dX12_restore_27 rfl (lv_at hl 2 rfl) ?_
    refine lv_sipush (v := (431 : Int32)) he hb dX12_restore_28 (by decide) ?_
    refine lv_icmp_ge (tgt := 58) he hb dX12_restore_31 (by decide) (fun hc => ?_) (fun hc => ?_)
    · rw [if_pos hc] at h
      refine lv_iconst (v := (0 : Int32)) he hb dX12_restore_58 (by decide) ?_
      refine lv_istore_n (lv' := [(2, _), (0, _), (1, _)]) he hb dX12_restore_59 rfl hl (by decide) rfl (fun ls hl => ?_)
      exact gX12_restore_60 l B N _ _ _ _ _ _ _ h hS (lv_sub hl [1, 2, 0] rfl)
    · rw [if_neg hc] at h
      refine z_aload_n he hb dX12_restore_34 rfl (lv_at hl 0 rfl) (zref_r _ _) ?_
      obtain ⟨x10, hx, h⟩ := zob h
      refine z_getR (ci := 12) (T := TX12) (N := 50) (j := 6) B hS hx rfl zin_X12 (by decide) zk_1353 dX12_restore_35 ?_
      refine lv_iload_n he hb dX12_restore_38 rfl (lv_at hl 2 rfl) ?_
      refine z_aload_n he hb dX12_restore_39 rfl (lv_at hl 0 rfl) (zref_r _ _) ?_
      obtain ⟨x11, hx, h⟩ := zob h
      refine z_getR (ci := 12) (T := TX12) (N := 50) (j := 47) B hS hx rfl zin_X12 (by decide) zk_1394 dX12_restore_40 ?_
      refine lv_sipush (v := (431 : Int32)) he hb dX12_restore_43 (by decide) ?_
      refine lv_iload_n he hb dX12_restore_46 rfl (lv_at hl 1 rfl) ?_
      refine lv_imul he hb dX12_restore_47 ?_
      refine lv_iload_n he hb dX12_restore_48 rfl (lv_at hl 2 rfl) ?_
      refine lv_iadd he hb dX12_restore_49 ?_
      obtain ⟨x12, hx, h⟩ := zob h
      refine z_ildI B hS hx dX12_restore_50 ?_
      obtain ⟨f13, hx, h⟩ := zob h
      refine z_istI B hS hx dX12_restore_51 (fun H locs hS => ?_)
      refine lv_iinc (v := (a2 + 1)) (lv' := [(2, _), (0, _), (1, _)]) he hb dX12_restore_52 hl (k := 2) rfl rfl (by decide) rfl (fun ls hl => ?_)
      refine lv_goto (tgt := 27) he hb dX12_restore_55 (by decide) ?_
      exact ih _ _ _ _ _ _ _ h hS (lv_sub hl [1, 2, 0] rfl)
def fX12_restore (N n : Nat) (f : zF) (a0 : Nat) (a1 : Int32) : Option (zF × Int32) :=
    ((zpI n f 12 a0 0 (0 : Int32)).bind fun f1 => ((fX12_isIn N n f1 a1 (0 : Int32) (1 : Int32)).bind fun x2 => (if x2 = 0 then ((zbl (0 : Int32)).bind fun y => some (f1, y)) else ((zgR n f1 12 a0 49).bind fun x3 => ((zlI n f1 3 x3 a1).bind fun x4 => (if x4 = 0 then ((zbl (0 : Int32)).bind fun y => some (f1, y)) else (fX12_restore_27 N n N f1 a0 a1 (0 : Int32))))))))
set_option maxRecDepth 100000 in
set_option maxHeartbeats 4000000 in
theorem mX12_restore (l : Launch) (G : zG) {N n : Nat} {f : zF} {f9 : zF} {r : Int32} {a0 : Nat} {a1 : Int32} (h : fX12_restore N n f a0 a1 = some (f9, r)) : zM l G yX12_restore cX12_restore 3 (some .boolean) 1 n f [zr G a0, .int a1] (some (.int r)) f9 := by
  refine zM.of (by decide) (Nat.le_of_ble_eq_true rfl) ?_
  intro p e s m args below meth c locs ls B hS hl
  have he := B.1
  have hb := B.2.1
  have hl : lv_has ls 3 [(0, zr G a0), (1, .int a1)] := hl
  unfold fX12_restore at h
  generalize s.heap = H at hS ⊢
  refine z_aload_n he hb dX12_restore_0 rfl (lv_at hl 0 rfl) (zref_r _ _) ?_
  refine lv_iconst (v := (0 : Int32)) he hb dX12_restore_1 (by decide) ?_
  obtain ⟨f1, hx, h⟩ := zob h
  refine z_putI (ci := 12) (T := TX12) (N := 50) (j := 0) B hS hx rfl zin_X12 tyX12 tyX12_ok nmX12 (by decide) zk_1347 rfl rfl dX12_restore_2 (fun H locs hS => ?_)
  refine lv_iload_n he hb dX12_restore_5 rfl (lv_at hl 1 rfl) ?_
  refine lv_iconst (v := (0 : Int32)) he hb dX12_restore_6 (by decide) ?_
  refine lv_iconst (v := (1 : Int32)) he hb dX12_restore_7 (by decide) ?_
  obtain ⟨x2, hx, h⟩ := zob h
  refine z_callS (rest := []) B hS (mX12_isIn l G hx) zy_X12_isIn zk_1545 (by decide) rfl hl rfl (Nat.le_of_ble_eq_true rfl) dX12_restore_8 (kk := (fun H locs hS => ?_))
  refine lv_if_eq (tgt := 23) he hb dX12_restore_11 (by decide) (fun hc => ?_) (fun hc => ?_)
  · rw [if_pos hc] at h
    refine lv_iconst (v := (0 : Int32)) he hb dX12_restore_23 (by decide) ?_
    obtain ⟨y, hx, h⟩ := zob h
    obtain ⟨hz, rfl⟩ := zbl_i hx
    obtain ⟨rfl, rfl⟩ := Prod.mk.inj (Option.some.inj h)
    exact z_zret B hS hz dX12_restore_24
  · rw [if_neg hc] at h
    refine z_aload_n he hb dX12_restore_14 rfl (lv_at hl 0 rfl) (zref_r _ _) ?_
    obtain ⟨x3, hx, h⟩ := zob h
    refine z_getR (ci := 12) (T := TX12) (N := 50) (j := 49) B hS hx rfl zin_X12 (by decide) zk_1396 dX12_restore_15 ?_
    refine lv_iload_n he hb dX12_restore_18 rfl (lv_at hl 1 rfl) ?_
    obtain ⟨x4, hx, h⟩ := zob h
    refine z_ildZ B hS hx dX12_restore_19 ?_
    refine lv_if_ne (tgt := 25) he hb dX12_restore_20 (by decide) (fun hc => ?_) (fun hc => ?_)
    · rw [if_neg hc] at h
      refine lv_iconst (v := (0 : Int32)) he hb dX12_restore_25 (by decide) ?_
      refine lv_istore_n (lv' := [(2, _), (0, _), (1, _)]) he hb dX12_restore_26 rfl hl (by decide) rfl (fun ls hl => ?_)
      exact gX12_restore_27 l B N _ _ _ _ _ _ _ h hS (lv_sub hl [1, 2, 0] rfl)
    · rw [if_pos hc] at h
      refine lv_iconst (v := (0 : Int32)) he hb dX12_restore_23 (by decide) ?_
      obtain ⟨y, hx, h⟩ := zob h
      obtain ⟨hz, rfl⟩ := zbl_i hx
      obtain ⟨rfl, rfl⟩ := Prod.mk.inj (Option.some.inj h)
      exact z_zret B hS hz dX12_restore_24
theorem dX12_count_0 : decode cX12_count 0 = .ok (.aload_n 0, 1) := by decide +kernel
theorem dX12_count_1 : decode cX12_count 1 = .ok (.iconst 0, 1) := by decide +kernel
theorem dX12_count_2 : decode cX12_count 2 = .ok (.putfield 1, 3) := by decide +kernel
theorem dX12_count_5 : decode cX12_count 5 = .ok (.iload_n 1, 1) := by decide +kernel
theorem dX12_count_6 : decode cX12_count 6 = .ok (.iconst 5, 1) := by decide +kernel
theorem dX12_count_7 : decode cX12_count 7 = .ok (.if_icmp .ne 10, 3) := by decide +kernel
theorem dX12_count_10 : decode cX12_count 10 = .ok (.aload_n 0, 1) := by decide +kernel
theorem dX12_count_11 : decode cX12_count 11 = .ok (.getfield 7, 3) := by decide +kernel
theorem dX12_count_14 : decode cX12_count 14 = .ok (.goto 22, 3) := by decide +kernel
theorem dX12_count_17 : decode cX12_count 17 = .ok (.iload_n 1, 1) := by decide +kernel
theorem dX12_count_18 : decode cX12_count 18 = .ok (.iconst 0, 1) := by decide +kernel
theorem dX12_count_19 : decode cX12_count 19 = .ok (.iconst 4, 1) := by decide +kernel
theorem dX12_count_20 : decode cX12_count 20 = .ok (.invokestatic 192, 3) := by decide +kernel
theorem dX12_count_23 : decode cX12_count 23 = .ok (.ifCond .eq 12, 3) := by decide +kernel
theorem dX12_count_26 : decode cX12_count 26 = .ok (.aload_n 0, 1) := by decide +kernel
theorem dX12_count_27 : decode cX12_count 27 = .ok (.getfield 33, 3) := by decide +kernel
theorem dX12_count_30 : decode cX12_count 30 = .ok (.iload_n 1, 1) := by decide +kernel
theorem dX12_count_31 : decode cX12_count 31 = .ok (.iaload, 1) := by decide +kernel
theorem dX12_count_32 : decode cX12_count 32 = .ok (.goto 4, 3) := by decide +kernel
theorem dX12_count_35 : decode cX12_count 35 = .ok (.iconst (-1), 1) := by decide +kernel
theorem dX12_count_36 : decode cX12_count 36 = .ok (.ireturn, 1) := by decide +kernel
def fX12_count (N n : Nat) (f : zF) (a0 : Nat) (a1 : Int32) : Option (zF × Int32) :=
    ((zpI n f 12 a0 0 (0 : Int32)).bind fun f1 => (if a1 = (5 : Int32) then ((zgI n f1 12 a0 2).bind fun x5 => some (f1, x5)) else ((fX12_isIn N n f1 a1 (0 : Int32) (4 : Int32)).bind fun x2 => (if x2 = 0 then some (f1, (-1 : Int32)) else ((zgR n f1 12 a0 6).bind fun x3 => ((zlI n f1 0 x3 a1).bind fun x4 => some (f1, x4)))))))
set_option maxRecDepth 100000 in
set_option maxHeartbeats 4000000 in
theorem mX12_count (l : Launch) (G : zG) {N n : Nat} {f : zF} {f9 : zF} {r : Int32} {a0 : Nat} {a1 : Int32} (h : fX12_count N n f a0 a1 = some (f9, r)) : zM l G yX12_count cX12_count 2 (some .int) 1 n f [zr G a0, .int a1] (some (.int r)) f9 := by
  refine zM.of (by decide) (Nat.le_of_ble_eq_true rfl) ?_
  intro p e s m args below meth c locs ls B hS hl
  have he := B.1
  have hb := B.2.1
  have hl : lv_has ls 2 [(0, zr G a0), (1, .int a1)] := hl
  unfold fX12_count at h
  generalize s.heap = H at hS ⊢
  refine z_aload_n he hb dX12_count_0 rfl (lv_at hl 0 rfl) (zref_r _ _) ?_
  refine lv_iconst (v := (0 : Int32)) he hb dX12_count_1 (by decide) ?_
  obtain ⟨f1, hx, h⟩ := zob h
  refine z_putI (ci := 12) (T := TX12) (N := 50) (j := 0) B hS hx rfl zin_X12 tyX12 tyX12_ok nmX12 (by decide) zk_1347 rfl rfl dX12_count_2 (fun H locs hS => ?_)
  refine lv_iload_n he hb dX12_count_5 rfl (lv_at hl 1 rfl) ?_
  refine lv_iconst (v := (5 : Int32)) he hb dX12_count_6 (by decide) ?_
  refine lv_icmp_ne (tgt := 17) he hb dX12_count_7 (by decide) (fun hc => ?_) (fun hc => ?_)
  · rw [if_neg hc] at h
    refine lv_iload_n he hb dX12_count_17 rfl (lv_at hl 1 rfl) ?_
    refine lv_iconst (v := (0 : Int32)) he hb dX12_count_18 (by decide) ?_
    refine lv_iconst (v := (4 : Int32)) he hb dX12_count_19 (by decide) ?_
    obtain ⟨x2, hx, h⟩ := zob h
    refine z_callS (rest := []) B hS (mX12_isIn l G hx) zy_X12_isIn zk_1545 (by decide) rfl hl rfl (Nat.le_of_ble_eq_true rfl) dX12_count_20 (kk := (fun H locs hS => ?_))
    refine lv_if_eq (tgt := 35) he hb dX12_count_23 (by decide) (fun hc => ?_) (fun hc => ?_)
    · rw [if_pos hc] at h
      refine lv_iconst (v := (-1 : Int32)) he hb dX12_count_35 (by decide) ?_
      obtain ⟨rfl, rfl⟩ := Prod.mk.inj (Option.some.inj h)
      exact z_iret B hS dX12_count_36
    · rw [if_neg hc] at h
      refine z_aload_n he hb dX12_count_26 rfl (lv_at hl 0 rfl) (zref_r _ _) ?_
      obtain ⟨x3, hx, h⟩ := zob h
      refine z_getR (ci := 12) (T := TX12) (N := 50) (j := 6) B hS hx rfl zin_X12 (by decide) zk_1353 dX12_count_27 ?_
      refine lv_iload_n he hb dX12_count_30 rfl (lv_at hl 1 rfl) ?_
      obtain ⟨x4, hx, h⟩ := zob h
      refine z_ildI B hS hx dX12_count_31 ?_
      refine lv_goto (tgt := 36) he hb dX12_count_32 (by decide) ?_
      obtain ⟨rfl, rfl⟩ := Prod.mk.inj (Option.some.inj h)
      exact z_iret B hS dX12_count_36
  · rw [if_pos hc] at h
    refine z_aload_n he hb dX12_count_10 rfl (lv_at hl 0 rfl) (zref_r _ _) ?_
    obtain ⟨x5, hx, h⟩ := zob h
    refine z_getI (ci := 12) (T := TX12) (N := 50) (j := 2) B hS hx rfl zin_X12 (by decide) zk_1349 dX12_count_11 ?_
    refine lv_goto (tgt := 36) he hb dX12_count_14 (by decide) ?_
    obtain ⟨rfl, rfl⟩ := Prod.mk.inj (Option.some.inj h)
    exact z_iret B hS dX12_count_36
