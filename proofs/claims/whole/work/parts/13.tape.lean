/-! methods: what they do to the small heap, and that their bytecode does it -/
theorem dX9_signAt_0 : decode cX9_signAt 0 = .ok (.iload_n 1, 1) := by decide +kernel
theorem dX9_signAt_1 : decode cX9_signAt 1 = .ok (.ifCond .lt 33, 3) := by decide +kernel
theorem dX9_signAt_4 : decode cX9_signAt 4 = .ok (.iload_n 1, 1) := by decide +kernel
theorem dX9_signAt_5 : decode cX9_signAt 5 = .ok (.aload_n 0, 1) := by decide +kernel
theorem dX9_signAt_6 : decode cX9_signAt 6 = .ok (.getfield 35, 3) := by decide +kernel
theorem dX9_signAt_9 : decode cX9_signAt 9 = .ok (.if_icmp .ge 25, 3) := by decide +kernel
theorem dX9_signAt_12 : decode cX9_signAt 12 = .ok (.iload_n 1, 1) := by decide +kernel
theorem dX9_signAt_13 : decode cX9_signAt 13 = .ok (.aload_n 0, 1) := by decide +kernel
theorem dX9_signAt_14 : decode cX9_signAt 14 = .ok (.getfield 9, 3) := by decide +kernel
theorem dX9_signAt_17 : decode cX9_signAt 17 = .ok (.arraylength, 1) := by decide +kernel
theorem dX9_signAt_18 : decode cX9_signAt 18 = .ok (.if_icmp .ge 16, 3) := by decide +kernel
theorem dX9_signAt_21 : decode cX9_signAt 21 = .ok (.aload_n 0, 1) := by decide +kernel
theorem dX9_signAt_22 : decode cX9_signAt 22 = .ok (.getfield 9, 3) := by decide +kernel
theorem dX9_signAt_25 : decode cX9_signAt 25 = .ok (.iload_n 1, 1) := by decide +kernel
theorem dX9_signAt_26 : decode cX9_signAt 26 = .ok (.baload, 1) := by decide +kernel
theorem dX9_signAt_27 : decode cX9_signAt 27 = .ok (.sipush 255, 3) := by decide +kernel
theorem dX9_signAt_30 : decode cX9_signAt 30 = .ok (.iand, 1) := by decide +kernel
theorem dX9_signAt_31 : decode cX9_signAt 31 = .ok (.goto 4, 3) := by decide +kernel
theorem dX9_signAt_34 : decode cX9_signAt 34 = .ok (.iconst 0, 1) := by decide +kernel
theorem dX9_signAt_35 : decode cX9_signAt 35 = .ok (.ireturn, 1) := by decide +kernel
def fX9_signAt (N n : Nat) (f : zF) (a0 : Nat) (a1 : Int32) : Option Int32 :=
    (if a1 < 0 then some (0 : Int32) else ((zgI n f 9 a0 2).bind fun x1 => (if x1 ≤ a1 then some (0 : Int32) else ((zgR n f 9 a0 0).bind fun x2 => ((zlen n f 2 x2).bind fun x3 => (if x3 ≤ a1 then some (0 : Int32) else ((zgR n f 9 a0 0).bind fun x4 => ((zlI n f 2 x4 a1).bind fun x5 => some (x5 &&& (255 : Int32))))))))))
set_option maxRecDepth 100000 in
set_option maxHeartbeats 4000000 in
theorem mX9_signAt (l : Launch) (G : zG) {N n : Nat} {f : zF} {r : Int32} {a0 : Nat} {a1 : Int32} (h : fX9_signAt N n f a0 a1 = some r) : zM l G yX9_signAt cX9_signAt 2 (some .int) 0 n f [zr G a0, .int a1] (some (.int r)) f := by
  refine zM.of (by decide) (Nat.le_of_ble_eq_true rfl) ?_
  intro p e s m args below meth c locs ls B hS hl
  have he := B.1
  have hb := B.2.1
  have hl : lv_has ls 2 [(0, zr G a0), (1, .int a1)] := hl
  unfold fX9_signAt at h
  generalize s.heap = H at hS ⊢
  refine lv_iload_n he hb dX9_signAt_0 rfl (lv_at hl 1 rfl) ?_
  refine lv_if_lt (tgt := 34) he hb dX9_signAt_1 (by decide) (fun hc => ?_) (fun hc => ?_)
  · rw [if_pos hc] at h
    refine lv_iconst (v := (0 : Int32)) he hb dX9_signAt_34 (by decide) ?_
    obtain rfl := Option.some.inj h
    exact z_iret B hS dX9_signAt_35
  · rw [if_neg hc] at h
    refine lv_iload_n he hb dX9_signAt_4 rfl (lv_at hl 1 rfl) ?_
    refine z_aload_n he hb dX9_signAt_5 rfl (lv_at hl 0 rfl) (zref_r _ _) ?_
    obtain ⟨x1, hx, h⟩ := zob h
    refine z_getI (ci := 9) (T := TX9) (N := 12) (j := 2) B hS hx rfl zin_X9 (by decide) zk_96 dX9_signAt_6 ?_
    refine lv_icmp_ge (tgt := 34) he hb dX9_signAt_9 (by decide) (fun hc => ?_) (fun hc => ?_)
    · rw [if_pos hc] at h
      refine lv_iconst (v := (0 : Int32)) he hb dX9_signAt_34 (by decide) ?_
      obtain rfl := Option.some.inj h
      exact z_iret B hS dX9_signAt_35
    · rw [if_neg hc] at h
      refine lv_iload_n he hb dX9_signAt_12 rfl (lv_at hl 1 rfl) ?_
      refine z_aload_n he hb dX9_signAt_13 rfl (lv_at hl 0 rfl) (zref_r _ _) ?_
      obtain ⟨x2, hx, h⟩ := zob h
      refine z_getR (ci := 9) (T := TX9) (N := 12) (j := 0) B hS hx rfl zin_X9 (by decide) zk_91 dX9_signAt_14 ?_
      obtain ⟨x3, hx, h⟩ := zob h
      refine z_len B hS hx rfl dX9_signAt_17 ?_
      refine lv_icmp_ge (tgt := 34) he hb dX9_signAt_18 (by decide) (fun hc => ?_) (fun hc => ?_)
      · rw [if_pos hc] at h
        refine lv_iconst (v := (0 : Int32)) he hb dX9_signAt_34 (by decide) ?_
        obtain rfl := Option.some.inj h
        exact z_iret B hS dX9_signAt_35
      · rw [if_neg hc] at h
        refine z_aload_n he hb dX9_signAt_21 rfl (lv_at hl 0 rfl) (zref_r _ _) ?_
        obtain ⟨x4, hx, h⟩ := zob h
        refine z_getR (ci := 9) (T := TX9) (N := 12) (j := 0) B hS hx rfl zin_X9 (by decide) zk_91 dX9_signAt_22 ?_
        refine lv_iload_n he hb dX9_signAt_25 rfl (lv_at hl 1 rfl) ?_
        obtain ⟨x5, hx, h⟩ := zob h
        refine z_ildB B hS hx dX9_signAt_26 ?_
        refine lv_sipush (v := (255 : Int32)) he hb dX9_signAt_27 (by decide) ?_
        refine lv_iand he hb dX9_signAt_30 ?_
        refine lv_goto (tgt := 35) he hb dX9_signAt_31 (by decide) ?_
        obtain rfl := Option.some.inj h
        exact z_iret B hS dX9_signAt_35
theorem dX9_isBlank_0 : decode cX9_isBlank 0 = .ok (.iload_n 0, 1) := by decide +kernel
theorem dX9_isBlank_1 : decode cX9_isBlank 1 = .ok (.bipush 32, 2) := by decide +kernel
theorem dX9_isBlank_3 : decode cX9_isBlank 3 = .ok (.if_icmp .eq 9, 3) := by decide +kernel
theorem dX9_isBlank_6 : decode cX9_isBlank 6 = .ok (.iload_n 0, 1) := by decide +kernel
theorem dX9_isBlank_7 : decode cX9_isBlank 7 = .ok (.bipush 10, 2) := by decide +kernel
theorem dX9_isBlank_9 : decode cX9_isBlank 9 = .ok (.if_icmp .ne 7, 3) := by decide +kernel
theorem dX9_isBlank_12 : decode cX9_isBlank 12 = .ok (.iconst 1, 1) := by decide +kernel
theorem dX9_isBlank_13 : decode cX9_isBlank 13 = .ok (.goto 4, 3) := by decide +kernel
theorem dX9_isBlank_16 : decode cX9_isBlank 16 = .ok (.iconst 0, 1) := by decide +kernel
theorem dX9_isBlank_17 : decode cX9_isBlank 17 = .ok (.ireturn, 1) := by decide +kernel
def fX9_isBlank (N n : Nat) (f : zF) (a0 : Int32) : Option Int32 :=
    (if a0 = (32 : Int32) then zbl (1 : Int32) else (if a0 = (10 : Int32) then zbl (1 : Int32) else zbl (0 : Int32)))
set_option maxRecDepth 100000 in
set_option maxHeartbeats 4000000 in
theorem mX9_isBlank (l : Launch) (G : zG) {N n : Nat} {f : zF} {r : Int32} {a0 : Int32} (h : fX9_isBlank N n f a0 = some r) : zM l G yX9_isBlank cX9_isBlank 1 (some .boolean) 0 n f [.int a0] (some (.int r)) f := by
  refine zM.of (by decide) (Nat.le_of_ble_eq_true rfl) ?_
  intro p e s m args below meth c locs ls B hS hl
  have he := B.1
  have hb := B.2.1
  have hl : lv_has ls 1 [(0, .int a0)] := hl
  unfold fX9_isBlank at h
  generalize s.heap = H at hS ⊢
  refine lv_iload_n he hb dX9_isBlank_0 rfl (lv_at hl 0 rfl) ?_
  refine lv_bipush (v := (32 : Int32)) he hb dX9_isBlank_1 (by decide) ?_
  refine lv_icmp_eq (tgt := 12) he hb dX9_isBlank_3 (by decide) (fun hc => ?_) (fun hc => ?_)
  · rw [if_pos hc] at h
    refine lv_iconst (v := (1 : Int32)) he hb dX9_isBlank_12 (by decide) ?_
    refine lv_goto (tgt := 17) he hb dX9_isBlank_13 (by decide) ?_
    obtain ⟨hz, rfl⟩ := zbl_i h
    exact z_zret B hS hz dX9_isBlank_17
  · rw [if_neg hc] at h
    refine lv_iload_n he hb dX9_isBlank_6 rfl (lv_at hl 0 rfl) ?_
    refine lv_bipush (v := (10 : Int32)) he hb dX9_isBlank_7 (by decide) ?_
    refine lv_icmp_ne (tgt := 16) he hb dX9_isBlank_9 (by decide) (fun hc => ?_) (fun hc => ?_)
    · rw [if_neg hc] at h
      refine lv_iconst (v := (0 : Int32)) he hb dX9_isBlank_16 (by decide) ?_
      obtain ⟨hz, rfl⟩ := zbl_i h
      exact z_zret B hS hz dX9_isBlank_17
    · rw [if_pos hc] at h
      refine lv_iconst (v := (1 : Int32)) he hb dX9_isBlank_12 (by decide) ?_
      refine lv_goto (tgt := 17) he hb dX9_isBlank_13 (by decide) ?_
      obtain ⟨hz, rfl⟩ := zbl_i h
      exact z_zret B hS hz dX9_isBlank_17
theorem dX9_isTokenSign_0 : decode cX9_isTokenSign 0 = .ok (.iload_n 0, 1) := by decide +kernel
theorem dX9_isTokenSign_1 : decode cX9_isTokenSign 1 = .ok (.bipush 59, 2) := by decide +kernel
theorem dX9_isTokenSign_3 : decode cX9_isTokenSign 3 = .ok (.if_icmp .eq 27, 3) := by decide +kernel
theorem dX9_isTokenSign_6 : decode cX9_isTokenSign 6 = .ok (.iload_n 0, 1) := by decide +kernel
theorem dX9_isTokenSign_7 : decode cX9_isTokenSign 7 = .ok (.bipush 60, 2) := by decide +kernel
theorem dX9_isTokenSign_9 : decode cX9_isTokenSign 9 = .ok (.if_icmp .lt 9, 3) := by decide +kernel
theorem dX9_isTokenSign_12 : decode cX9_isTokenSign 12 = .ok (.iload_n 0, 1) := by decide +kernel
theorem dX9_isTokenSign_13 : decode cX9_isTokenSign 13 = .ok (.bipush 62, 2) := by decide +kernel
theorem dX9_isTokenSign_15 : decode cX9_isTokenSign 15 = .ok (.if_icmp .le 15, 3) := by decide +kernel
theorem dX9_isTokenSign_18 : decode cX9_isTokenSign 18 = .ok (.iload_n 0, 1) := by decide +kernel
theorem dX9_isTokenSign_19 : decode cX9_isTokenSign 19 = .ok (.bipush 40, 2) := by decide +kernel
theorem dX9_isTokenSign_21 : decode cX9_isTokenSign 21 = .ok (.if_icmp .eq 9, 3) := by decide +kernel
theorem dX9_isTokenSign_24 : decode cX9_isTokenSign 24 = .ok (.iload_n 0, 1) := by decide +kernel
theorem dX9_isTokenSign_25 : decode cX9_isTokenSign 25 = .ok (.bipush 41, 2) := by decide +kernel
theorem dX9_isTokenSign_27 : decode cX9_isTokenSign 27 = .ok (.if_icmp .ne 7, 3) := by decide +kernel
theorem dX9_isTokenSign_30 : decode cX9_isTokenSign 30 = .ok (.iconst 1, 1) := by decide +kernel
theorem dX9_isTokenSign_31 : decode cX9_isTokenSign 31 = .ok (.goto 4, 3) := by decide +kernel
theorem dX9_isTokenSign_34 : decode cX9_isTokenSign 34 = .ok (.iconst 0, 1) := by decide +kernel
theorem dX9_isTokenSign_35 : decode cX9_isTokenSign 35 = .ok (.ireturn, 1) := by decide +kernel
def fX9_isTokenSign_18 (N n : Nat) (f : zF) (a0 : Int32) : Option Int32 :=
    (if a0 = (40 : Int32) then zbl (1 : Int32) else (if a0 = (41 : Int32) then zbl (1 : Int32) else zbl (0 : Int32)))
set_option maxRecDepth 100000 in
set_option maxHeartbeats 4000000 in
theorem gX9_isTokenSign_18 (l : Launch) {G : zG} {p : Program} {e : Env} {s : State} {m : MethodId} {args : Array Value} {below : List Frame} {meth : Method} {c : Code} {f : zF} {N n : Nat} {r : Int32} (B : zB G p s m args meth c RX9 cX9_isTokenSign 1 (some .boolean)) : ∀ (a0 : Int32) (H : Heap) (locs : List Loc) (ls : Array Slot), fX9_isTokenSign_18 N n f a0 = some r → zS G n f H locs → lv_has ls 1 [(0, .int a0)] → W p l e (zrm 0) s m args below meth c H locs 0 0 (MQ below (zQc G n f (some (.int r))) args s 0 0 (zA G)) (F0 m 18 ls []) := by
  have he := B.1
  have hb := B.2.1
  intro a0 H locs ls h hS hl
  unfold fX9_isTokenSign_18 at h
  refine lv_iload_n he hb dX9_isTokenSign_18 rfl (lv_at hl 0 rfl) ?_
  refine lv_bipush (v := (40 : Int32)) he hb dX9_isTokenSign_19 (by decide) ?_
  refine lv_icmp_eq (tgt := 30) he hb dX9_isTokenSign_21 (by decide) (fun hc => ?_) (fun hc => ?_)
  · rw [if_pos hc] at h
    refine lv_iconst (v := (1 : Int32)) he hb dX9_isTokenSign_30 (by decide) ?_
    refine lv_goto (tgt := 35) he hb dX9_isTokenSign_31 (by decide) ?_
    obtain ⟨hz, rfl⟩ := zbl_i h
    exact z_zret B hS hz dX9_isTokenSign_35
  · rw [if_neg hc] at h
    refine lv_iload_n he hb dX9_isTokenSign_24 rfl (lv_at hl 0 rfl) ?_
    refine lv_bipush (v := (41 : Int32)) he hb dX9_isTokenSign_25 (by decide) ?_
    refine lv_icmp_ne (tgt := 34) he hb dX9_isTokenSign_27 (by decide) (fun hc => ?_) (fun hc => ?_)
    · rw [if_neg hc] at h
      refine lv_iconst (v := (0 : Int32)) he hb dX9_isTokenSign_34 (by decide) ?_
      obtain ⟨hz, rfl⟩ := zbl_i h
      exact z_zret B hS hz dX9_isTokenSign_35
    · rw [if_pos hc] at h
      refine lv_iconst (v := (1 : Int32)) he hb dX9_isTokenSign_30 (by decide) ?_
      refine lv_goto (tgt := 35) he hb dX9_isTokenSign_31 (by decide) ?_
      obtain ⟨hz, rfl⟩ := zbl_i h
      exact z_zret B hS hz dX9_isTokenSign_35
def fX9_isTokenSign (N n : Nat) (f : zF) (a0 : Int32) : Option Int32 :=
    (if a0 = (59 : Int32) then zbl (1 : Int32) else (if a0 < (60 : Int32) then (fX9_isTokenSign_18 N n f a0) else (if a0 ≤ (62 : Int32) then zbl (1 : Int32) else (fX9_isTokenSign_18 N n f a0))))
set_option maxRecDepth 100000 in
set_option maxHeartbeats 4000000 in
theorem mX9_isTokenSign (l : Launch) (G : zG) {N n : Nat} {f : zF} {r : Int32} {a0 : Int32} (h : fX9_isTokenSign N n f a0 = some r) : zM l G yX9_isTokenSign cX9_isTokenSign 1 (some .boolean) 0 n f [.int a0] (some (.int r)) f := by
  refine zM.of (by decide) (Nat.le_of_ble_eq_true rfl) ?_
  intro p e s m args below meth c locs ls B hS hl
  have he := B.1
  have hb := B.2.1
  have hl : lv_has ls 1 [(0, .int a0)] := hl
  unfold fX9_isTokenSign at h
  generalize s.heap = H at hS ⊢
  refine lv_iload_n he hb dX9_isTokenSign_0 rfl (lv_at hl 0 rfl) ?_
  refine lv_bipush (v := (59 : Int32)) he hb dX9_isTokenSign_1 (by decide) ?_
  refine lv_icmp_eq (tgt := 30) he hb dX9_isTokenSign_3 (by decide) (fun hc => ?_) (fun hc => ?_)
  · rw [if_pos hc] at h
    refine lv_iconst (v := (1 : Int32)) he hb dX9_isTokenSign_30 (by decide) ?_
    refine lv_goto (tgt := 35) he hb dX9_isTokenSign_31 (by decide) ?_
    obtain ⟨hz, rfl⟩ := zbl_i h
    exact z_zret B hS hz dX9_isTokenSign_35
  · rw [if_neg hc] at h
    refine lv_iload_n he hb dX9_isTokenSign_6 rfl (lv_at hl 0 rfl) ?_
    refine lv_bipush (v := (60 : Int32)) he hb dX9_isTokenSign_7 (by decide) ?_
    refine lv_icmp_lt (tgt := 18) he hb dX9_isTokenSign_9 (by decide) (fun hc => ?_) (fun hc => ?_)
    · rw [if_pos hc] at h
      exact gX9_isTokenSign_18 l B _ _ _ _ h hS (lv_sub hl [0] rfl)
    · rw [if_neg hc] at h
      refine lv_iload_n he hb dX9_isTokenSign_12 rfl (lv_at hl 0 rfl) ?_
      refine lv_bipush (v := (62 : Int32)) he hb dX9_isTokenSign_13 (by decide) ?_
      refine lv_icmp_le (tgt := 30) he hb dX9_isTokenSign_15 (by decide) (fun hc => ?_) (fun hc => ?_)
      · rw [if_pos hc] at h
        refine lv_iconst (v := (1 : Int32)) he hb dX9_isTokenSign_30 (by decide) ?_
        refine lv_goto (tgt := 35) he hb dX9_isTokenSign_31 (by decide) ?_
        obtain ⟨hz, rfl⟩ := zbl_i h
        exact z_zret B hS hz dX9_isTokenSign_35
      · rw [if_neg hc] at h
        exact gX9_isTokenSign_18 l B _ _ _ _ h hS (lv_sub hl [0] rfl)
theorem dX9_readRun_0 : decode cX9_readRun 0 = .ok (.iconst 0, 1) := by decide +kernel
theorem dX9_readRun_1 : decode cX9_readRun 1 = .ok (.istore_n 1, 1) := by decide +kernel
theorem dX9_readRun_2 : decode cX9_readRun 2 = .ok (.iconst 0, 1) := by decide +kernel
theorem dX9_readRun_3 : decode cX9_readRun 3 = .ok (.istore_n 2, 1) := by decide +kernel
theorem dX9_readRun_4 : decode cX9_readRun 4 = .ok (.iconst 1, 1) := by decide +kernel
theorem dX9_readRun_5 : decode cX9_readRun 5 = .ok (.istore_n 3, 1) := by decide +kernel
theorem dX9_readRun_6 : decode cX9_readRun 6 = .ok (.aload_n 0, 1) := by decide +kernel
theorem dX9_readRun_7 : decode cX9_readRun 7 = .ok (.lconst 0, 1) := by decide +kernel
theorem dX9_readRun_8 : decode cX9_readRun 8 = .ok (.putfield 86, 3) := by decide +kernel
theorem dX9_readRun_11 : decode cX9_readRun 11 = .ok (.aload_n 0, 1) := by decide +kernel
theorem dX9_readRun_12 : decode cX9_readRun 12 = .ok (.iconst 0, 1) := by decide +kernel
theorem dX9_readRun_13 : decode cX9_readRun 13 = .ok (.putfield 74, 3) := by decide +kernel
theorem dX9_readRun_16 : decode cX9_readRun 16 = .ok (.aload_n 0, 1) := by decide +kernel
theorem dX9_readRun_17 : decode cX9_readRun 17 = .ok (.getfield 42, 3) := by decide +kernel
theorem dX9_readRun_20 : decode cX9_readRun 20 = .ok (.istore 4, 2) := by decide +kernel
theorem dX9_readRun_22 : decode cX9_readRun 22 = .ok (.iload_n 3, 1) := by decide +kernel
theorem dX9_readRun_23 : decode cX9_readRun 23 = .ok (.ifCond .eq 120, 3) := by decide +kernel
theorem dX9_readRun_26 : decode cX9_readRun 26 = .ok (.iload 4, 2) := by decide +kernel
theorem dX9_readRun_28 : decode cX9_readRun 28 = .ok (.ifCond .lt 115, 3) := by decide +kernel
theorem dX9_readRun_31 : decode cX9_readRun 31 = .ok (.iload 4, 2) := by decide +kernel
theorem dX9_readRun_33 : decode cX9_readRun 33 = .ok (.aload_n 0, 1) := by decide +kernel
theorem dX9_readRun_34 : decode cX9_readRun 34 = .ok (.getfield 35, 3) := by decide +kernel
theorem dX9_readRun_37 : decode cX9_readRun 37 = .ok (.if_icmp .ge 106, 3) := by decide +kernel
theorem dX9_readRun_40 : decode cX9_readRun 40 = .ok (.iload 4, 2) := by decide +kernel
theorem dX9_readRun_42 : decode cX9_readRun 42 = .ok (.aload_n 0, 1) := by decide +kernel
theorem dX9_readRun_43 : decode cX9_readRun 43 = .ok (.getfield 9, 3) := by decide +kernel
theorem dX9_readRun_46 : decode cX9_readRun 46 = .ok (.arraylength, 1) := by decide +kernel
theorem dX9_readRun_47 : decode cX9_readRun 47 = .ok (.if_icmp .ge 96, 3) := by decide +kernel
theorem dX9_readRun_50 : decode cX9_readRun 50 = .ok (.aload_n 0, 1) := by decide +kernel
theorem dX9_readRun_51 : decode cX9_readRun 51 = .ok (.getfield 9, 3) := by decide +kernel
theorem dX9_readRun_54 : decode cX9_readRun 54 = .ok (.iload 4, 2) := by decide +kernel
theorem dX9_readRun_56 : decode cX9_readRun 56 = .ok (.baload, 1) := by decide +kernel
theorem dX9_readRun_57 : decode cX9_readRun 57 = .ok (.istore 5, 2) := by decide +kernel
theorem dX9_readRun_59 : decode cX9_readRun 59 = .ok (.iload 5, 2) := by decide +kernel
theorem dX9_readRun_61 : decode cX9_readRun 61 = .ok (.bipush 97, 2) := by decide +kernel
theorem dX9_readRun_63 : decode cX9_readRun 63 = .ok (.if_icmp .lt 35, 3) := by decide +kernel
theorem dX9_readRun_66 : decode cX9_readRun 66 = .ok (.iload 5, 2) := by decide +kernel
theorem dX9_readRun_68 : decode cX9_readRun 68 = .ok (.bipush 122, 2) := by decide +kernel
theorem dX9_readRun_70 : decode cX9_readRun 70 = .ok (.if_icmp .gt 28, 3) := by decide +kernel
theorem dX9_readRun_73 : decode cX9_readRun 73 = .ok (.iinc 1 1, 3) := by decide +kernel
theorem dX9_readRun_76 : decode cX9_readRun 76 = .ok (.aload_n 0, 1) := by decide +kernel
theorem dX9_readRun_77 : decode cX9_readRun 77 = .ok (.aload_n 0, 1) := by decide +kernel
theorem dX9_readRun_78 : decode cX9_readRun 78 = .ok (.getfield 86, 3) := by decide +kernel
theorem dX9_readRun_81 : decode cX9_readRun 81 = .ok (.iconst 5, 1) := by decide +kernel
theorem dX9_readRun_82 : decode cX9_readRun 82 = .ok (.lshl, 1) := by decide +kernel
theorem dX9_readRun_83 : decode cX9_readRun 83 = .ok (.iload 5, 2) := by decide +kernel
theorem dX9_readRun_85 : decode cX9_readRun 85 = .ok (.bipush 97, 2) := by decide +kernel
theorem dX9_readRun_87 : decode cX9_readRun 87 = .ok (.isub, 1) := by decide +kernel
theorem dX9_readRun_88 : decode cX9_readRun 88 = .ok (.iconst 1, 1) := by decide +kernel
theorem dX9_readRun_89 : decode cX9_readRun 89 = .ok (.iadd, 1) := by decide +kernel
theorem dX9_readRun_90 : decode cX9_readRun 90 = .ok (.i2l, 1) := by decide +kernel
theorem dX9_readRun_91 : decode cX9_readRun 91 = .ok (.lor, 1) := by decide +kernel
theorem dX9_readRun_92 : decode cX9_readRun 92 = .ok (.putfield 86, 3) := by decide +kernel
theorem dX9_readRun_95 : decode cX9_readRun 95 = .ok (.goto 42, 3) := by decide +kernel
theorem dX9_readRun_98 : decode cX9_readRun 98 = .ok (.iload 5, 2) := by decide +kernel
theorem dX9_readRun_100 : decode cX9_readRun 100 = .ok (.bipush 48, 2) := by decide +kernel
theorem dX9_readRun_102 : decode cX9_readRun 102 = .ok (.if_icmp .lt 33, 3) := by decide +kernel
theorem dX9_readRun_105 : decode cX9_readRun 105 = .ok (.iload 5, 2) := by decide +kernel
theorem dX9_readRun_107 : decode cX9_readRun 107 = .ok (.bipush 57, 2) := by decide +kernel
theorem dX9_readRun_109 : decode cX9_readRun 109 = .ok (.if_icmp .gt 26, 3) := by decide +kernel
theorem dX9_readRun_112 : decode cX9_readRun 112 = .ok (.iinc 2 1, 3) := by decide +kernel
theorem dX9_readRun_115 : decode cX9_readRun 115 = .ok (.aload_n 0, 1) := by decide +kernel
theorem dX9_readRun_116 : decode cX9_readRun 116 = .ok (.bipush 10, 2) := by decide +kernel
theorem dX9_readRun_118 : decode cX9_readRun 118 = .ok (.aload_n 0, 1) := by decide +kernel
theorem dX9_readRun_119 : decode cX9_readRun 119 = .ok (.getfield 74, 3) := by decide +kernel
theorem dX9_readRun_122 : decode cX9_readRun 122 = .ok (.imul, 1) := by decide +kernel
theorem dX9_readRun_123 : decode cX9_readRun 123 = .ok (.iload 5, 2) := by decide +kernel
theorem dX9_readRun_125 : decode cX9_readRun 125 = .ok (.iadd, 1) := by decide +kernel
theorem dX9_readRun_126 : decode cX9_readRun 126 = .ok (.bipush 48, 2) := by decide +kernel
theorem dX9_readRun_128 : decode cX9_readRun 128 = .ok (.isub, 1) := by decide +kernel
theorem dX9_readRun_129 : decode cX9_readRun 129 = .ok (.putfield 74, 3) := by decide +kernel
theorem dX9_readRun_132 : decode cX9_readRun 132 = .ok (.goto 5, 3) := by decide +kernel
theorem dX9_readRun_135 : decode cX9_readRun 135 = .ok (.iconst 0, 1) := by decide +kernel
theorem dX9_readRun_136 : decode cX9_readRun 136 = .ok (.istore_n 3, 1) := by decide +kernel
theorem dX9_readRun_137 : decode cX9_readRun 137 = .ok (.iinc 4 1, 3) := by decide +kernel
theorem dX9_readRun_140 : decode cX9_readRun 140 = .ok (.goto (-118), 3) := by decide +kernel
theorem dX9_readRun_143 : decode cX9_readRun 143 = .ok (.aload_n 0, 1) := by decide +kernel
theorem dX9_readRun_144 : decode cX9_readRun 144 = .ok (.dup, 1) := by decide +kernel
theorem dX9_readRun_145 : decode cX9_readRun 145 = .ok (.getfield 42, 3) := by decide +kernel
theorem dX9_readRun_148 : decode cX9_readRun 148 = .ok (.iload_n 1, 1) := by decide +kernel
theorem dX9_readRun_149 : decode cX9_readRun 149 = .ok (.iload_n 2, 1) := by decide +kernel
theorem dX9_readRun_150 : decode cX9_readRun 150 = .ok (.iadd, 1) := by decide +kernel
theorem dX9_readRun_151 : decode cX9_readRun 151 = .ok (.iadd, 1) := by decide +kernel
theorem dX9_readRun_152 : decode cX9_readRun 152 = .ok (.putfield 42, 3) := by decide +kernel
theorem dX9_readRun_155 : decode cX9_readRun 155 = .ok (.iload_n 2, 1) := by decide +kernel
theorem dX9_readRun_156 : decode cX9_readRun 156 = .ok (.ifCond .ne 16, 3) := by decide +kernel
theorem dX9_readRun_159 : decode cX9_readRun 159 = .ok (.iload_n 1, 1) := by decide +kernel
theorem dX9_readRun_160 : decode cX9_readRun 160 = .ok (.iconst 1, 1) := by decide +kernel
theorem dX9_readRun_161 : decode cX9_readRun 161 = .ok (.if_icmp .lt 11, 3) := by decide +kernel
theorem dX9_readRun_164 : decode cX9_readRun 164 = .ok (.iload_n 1, 1) := by decide +kernel
theorem dX9_readRun_165 : decode cX9_readRun 165 = .ok (.bipush 7, 2) := by decide +kernel
theorem dX9_readRun_167 : decode cX9_readRun 167 = .ok (.if_icmp .gt 5, 3) := by decide +kernel
theorem dX9_readRun_170 : decode cX9_readRun 170 = .ok (.iconst 3, 1) := by decide +kernel
theorem dX9_readRun_171 : decode cX9_readRun 171 = .ok (.ireturn, 1) := by decide +kernel
theorem dX9_readRun_172 : decode cX9_readRun 172 = .ok (.iload_n 1, 1) := by decide +kernel
theorem dX9_readRun_173 : decode cX9_readRun 173 = .ok (.ifCond .ne 17, 3) := by decide +kernel
theorem dX9_readRun_176 : decode cX9_readRun 176 = .ok (.iload_n 2, 1) := by decide +kernel
theorem dX9_readRun_177 : decode cX9_readRun 177 = .ok (.iconst 1, 1) := by decide +kernel
theorem dX9_readRun_178 : decode cX9_readRun 178 = .ok (.if_icmp .lt 12, 3) := by decide +kernel
theorem dX9_readRun_181 : decode cX9_readRun 181 = .ok (.iload_n 2, 1) := by decide +kernel
theorem dX9_readRun_182 : decode cX9_readRun 182 = .ok (.iconst 3, 1) := by decide +kernel
theorem dX9_readRun_183 : decode cX9_readRun 183 = .ok (.if_icmp .gt 7, 3) := by decide +kernel
theorem dX9_readRun_186 : decode cX9_readRun 186 = .ok (.iconst 4, 1) := by decide +kernel
theorem dX9_readRun_187 : decode cX9_readRun 187 = .ok (.goto 4, 3) := by decide +kernel
theorem dX9_readRun_190 : decode cX9_readRun 190 = .ok (.iconst 0, 1) := by decide +kernel
theorem dX9_readRun_191 : decode cX9_readRun 191 = .ok (.ireturn, 1) := by decide +kernel
def fX9_readRun_172 (N n : Nat) (f : zF) (a1 : Int32) (a2 : Int32) : Option (zF × Int32) :=
    (if a1 = 0 then (if a2 < (1 : Int32) then some (f, (0 : Int32)) else (if (3 : Int32) < a2 then some (f, (0 : Int32)) else some (f, (4 : Int32)))) else some (f, (0 : Int32)))
set_option maxRecDepth 100000 in
set_option maxHeartbeats 4000000 in
theorem gX9_readRun_172 (l : Launch) {G : zG} {p : Program} {e : Env} {s : State} {m : MethodId} {args : Array Value} {below : List Frame} {meth : Method} {c : Code} {N n : Nat} {f9 : zF} {r : Int32} (B : zB G p s m args meth c RX9 cX9_readRun 6 (some .int)) : ∀ (f : zF) (a1 : Int32) (a2 : Int32) (H : Heap) (locs : List Loc) (ls : Array Slot), fX9_readRun_172 N n f a1 a2 = some (f9, r) → zS G n f H locs → lv_has ls 6 [(1, .int a1), (2, .int a2)] → W p l e (zrm 0) s m args below meth c H locs 0 0 (MQ below (zQc G n f9 (some (.int r))) args s 0 0 (zA G)) (F0 m 172 ls []) := by
  have he := B.1
  have hb := B.2.1
  intro f a1 a2 H locs ls h hS hl
  unfold fX9_readRun_172 at h
  refine lv_iload_n he hb dX9_readRun_172 rfl (lv_at hl 0 rfl) ?_
  refine lv_if_ne (tgt := 190) he hb dX9_readRun_173 (by decide) (fun hc => ?_) (fun hc => ?_)
  · rw [if_neg hc] at h
    refine lv_iconst (v := (0 : Int32)) he hb dX9_readRun_190 (by decide) ?_
    obtain ⟨rfl, rfl⟩ := Prod.mk.inj (Option.some.inj h)
    exact z_iret B hS dX9_readRun_191
  · rw [if_pos hc] at h
    refine lv_iload_n he hb dX9_readRun_176 rfl (lv_at hl 1 rfl) ?_
    refine lv_iconst (v := (1 : Int32)) he hb dX9_readRun_177 (by decide) ?_
    refine lv_icmp_lt (tgt := 190) he hb dX9_readRun_178 (by decide) (fun hc => ?_) (fun hc => ?_)
    · rw [if_pos hc] at h
      refine lv_iconst (v := (0 : Int32)) he hb dX9_readRun_190 (by decide) ?_
      obtain ⟨rfl, rfl⟩ := Prod.mk.inj (Option.some.inj h)
      exact z_iret B hS dX9_readRun_191
    · rw [if_neg hc] at h
      refine lv_iload_n he hb dX9_readRun_181 rfl (lv_at hl 1 rfl) ?_
      refine lv_iconst (v := (3 : Int32)) he hb dX9_readRun_182 (by decide) ?_
      refine lv_icmp_gt (tgt := 190) he hb dX9_readRun_183 (by decide) (fun hc => ?_) (fun hc => ?_)
      · rw [if_pos hc] at h
        refine lv_iconst (v := (0 : Int32)) he hb dX9_readRun_190 (by decide) ?_
        obtain ⟨rfl, rfl⟩ := Prod.mk.inj (Option.some.inj h)
        exact z_iret B hS dX9_readRun_191
      · rw [if_neg hc] at h
        refine lv_iconst (v := (4 : Int32)) he hb dX9_readRun_186 (by decide) ?_
        refine lv_goto (tgt := 191) he hb dX9_readRun_187 (by decide) ?_
        obtain ⟨rfl, rfl⟩ := Prod.mk.inj (Option.some.inj h)
        exact z_iret B hS dX9_readRun_191
def fX9_readRun_143 (N n : Nat) (f : zF) (a0 : Nat) (a1 : Int32) (a2 : Int32) : Option (zF × Int32) :=
    ((zgI n f 9 a0 4).bind fun x4 => ((zpI n f 9 a0 4 (x4 + (a1 + a2))).bind fun f5 => (if a2 = 0 then (if a1 < (1 : Int32) then (fX9_readRun_172 N n f5 a1 a2) else (if (7 : Int32) < a1 then (fX9_readRun_172 N n f5 a1 a2) else some (f5, (3 : Int32)))) else (fX9_readRun_172 N n f5 a1 a2))))
set_option maxRecDepth 100000 in
set_option maxHeartbeats 4000000 in
theorem gX9_readRun_143 (l : Launch) {G : zG} {p : Program} {e : Env} {s : State} {m : MethodId} {args : Array Value} {below : List Frame} {meth : Method} {c : Code} {N n : Nat} {f9 : zF} {r : Int32} (B : zB G p s m args meth c RX9 cX9_readRun 6 (some .int)) : ∀ (f : zF) (a0 : Nat) (a1 : Int32) (a2 : Int32) (H : Heap) (locs : List Loc) (ls : Array Slot), fX9_readRun_143 N n f a0 a1 a2 = some (f9, r) → zS G n f H locs → lv_has ls 6 [(0, zr G a0), (1, .int a1), (2, .int a2)] → W p l e (zrm 0) s m args below meth c H locs 0 0 (MQ below (zQc G n f9 (some (.int r))) args s 0 0 (zA G)) (F0 m 143 ls []) := by
  have he := B.1
  have hb := B.2.1
  intro f a0 a1 a2 H locs ls h hS hl
  unfold fX9_readRun_143 at h
  refine z_aload_n he hb dX9_readRun_143 rfl (lv_at hl 0 rfl) (zref_r _ _) ?_
  refine lv_dup he hb dX9_readRun_144 rfl ?_
  obtain ⟨x4, hx, h⟩ := zob h
  refine z_getI (ci := 9) (T := TX9) (N := 12) (j := 4) B hS hx rfl zin_X9 (by decide) zk_98 dX9_readRun_145 ?_
  refine lv_iload_n he hb dX9_readRun_148 rfl (lv_at hl 1 rfl) ?_
  refine lv_iload_n he hb dX9_readRun_149 rfl (lv_at hl 2 rfl) ?_
  refine lv_iadd he hb dX9_readRun_150 ?_
  refine lv_iadd he hb dX9_readRun_151 ?_
  obtain ⟨f5, hx, h⟩ := zob h
  refine z_putI (ci := 9) (T := TX9) (N := 12) (j := 4) B hS hx rfl zin_X9 tyX9 tyX9_ok nmX9 (by decide) zk_98 rfl rfl dX9_readRun_152 (fun H locs hS => ?_)
  refine lv_iload_n he hb dX9_readRun_155 rfl (lv_at hl 2 rfl) ?_
  refine lv_if_ne (tgt := 172) he hb dX9_readRun_156 (by decide) (fun hc => ?_) (fun hc => ?_)
  · rw [if_neg hc] at h
    exact gX9_readRun_172 l B _ _ _ _ _ _ h hS (lv_sub hl [1, 2] rfl)
  · rw [if_pos hc] at h
    refine lv_iload_n he hb dX9_readRun_159 rfl (lv_at hl 1 rfl) ?_
    refine lv_iconst (v := (1 : Int32)) he hb dX9_readRun_160 (by decide) ?_
    refine lv_icmp_lt (tgt := 172) he hb dX9_readRun_161 (by decide) (fun hc => ?_) (fun hc => ?_)
    · rw [if_pos hc] at h
      exact gX9_readRun_172 l B _ _ _ _ _ _ h hS (lv_sub hl [1, 2] rfl)
    · rw [if_neg hc] at h
      refine lv_iload_n he hb dX9_readRun_164 rfl (lv_at hl 1 rfl) ?_
      refine lv_bipush (v := (7 : Int32)) he hb dX9_readRun_165 (by decide) ?_
      refine lv_icmp_gt (tgt := 172) he hb dX9_readRun_167 (by decide) (fun hc => ?_) (fun hc => ?_)
      · rw [if_pos hc] at h
        exact gX9_readRun_172 l B _ _ _ _ _ _ h hS (lv_sub hl [1, 2] rfl)
      · rw [if_neg hc] at h
        refine lv_iconst (v := (3 : Int32)) he hb dX9_readRun_170 (by decide) ?_
        obtain ⟨rfl, rfl⟩ := Prod.mk.inj (Option.some.inj h)
        exact z_iret B hS dX9_readRun_171
def fX9_readRun_137 (r22 : zF → Nat → Int32 → Int32 → Int32 → Int32 → Option (zF × Int32)) (N n : Nat) (f : zF) (a0 : Nat) (a1 : Int32) (a2 : Int32) (a3 : Int32) (a4 : Int32) : Option (zF × Int32) :=
    (r22 f a0 a1 a2 a3 (a4 + 1))
set_option maxRecDepth 100000 in
set_option maxHeartbeats 4000000 in
theorem gX9_readRun_137 (l : Launch) {G : zG} {p : Program} {e : Env} {s : State} {m : MethodId} {args : Array Value} {below : List Frame} {meth : Method} {c : Code} {N n : Nat} {f9 : zF} {r : Int32} {r22 : zF → Nat → Int32 → Int32 → Int32 → Int32 → Option (zF × Int32)} (B : zB G p s m args meth c RX9 cX9_readRun 6 (some .int)) (hr22 : ∀ (f : zF) (a0 : Nat) (a1 : Int32) (a2 : Int32) (a3 : Int32) (a4 : Int32) (H : Heap) (locs : List Loc) (ls : Array Slot), r22 f a0 a1 a2 a3 a4 = some (f9, r) → zS G n f H locs → lv_has ls 6 [(0, zr G a0), (1, .int a1), (2, .int a2), (3, .int a3), (4, .int a4)] → W p l e (zrm 0) s m args below meth c H locs 0 0 (MQ below (zQc G n f9 (some (.int r))) args s 0 0 (zA G)) (F0 m 22 ls [])) : ∀ (f : zF) (a0 : Nat) (a1 : Int32) (a2 : Int32) (a3 : Int32) (a4 : Int32) (H : Heap) (locs : List Loc) (ls : Array Slot), fX9_readRun_137 r22 N n f a0 a1 a2 a3 a4 = some (f9, r) → zS G n f H locs → lv_has ls 6 [(0, zr G a0), (1, .int a1), (2, .int a2), (3, .int a3), (4, .int a4)] → W p l e (zrm 0) s m args below meth c H locs 0 0 (MQ below (zQc G n f9 (some (.int r))) args s 0 0 (zA G)) (F0 m 137 ls []) := by
  have he := B.1
  have hb := B.2.1
  intro f a0 a1 a2 a3 a4 H locs ls h hS hl
  unfold fX9_readRun_137 at h
  refine lv_iinc (v := (a4 + 1)) (lv' := [(4, _), (0, _), (1, _), (2, _), (3, _)]) he hb dX9_readRun_137 hl (k := 4) rfl rfl (by decide) rfl (fun ls hl => ?_)
  refine lv_goto (tgt := 22) he hb dX9_readRun_140 (by decide) ?_
  exact hr22 _ _ _ _ _ _ _ _ _ h hS (lv_sub hl [1, 2, 3, 4, 0] rfl)
def fX9_readRun_135 (r22 : zF → Nat → Int32 → Int32 → Int32 → Int32 → Option (zF × Int32)) (N n : Nat) (f : zF) (a0 : Nat) (a1 : Int32) (a2 : Int32) (a4 : Int32) : Option (zF × Int32) :=
    (fX9_readRun_137 r22 N n f a0 a1 a2 (0 : Int32) a4)
set_option maxRecDepth 100000 in
set_option maxHeartbeats 4000000 in
theorem gX9_readRun_135 (l : Launch) {G : zG} {p : Program} {e : Env} {s : State} {m : MethodId} {args : Array Value} {below : List Frame} {meth : Method} {c : Code} {N n : Nat} {f9 : zF} {r : Int32} {r22 : zF → Nat → Int32 → Int32 → Int32 → Int32 → Option (zF × Int32)} (B : zB G p s m args meth c RX9 cX9_readRun 6 (some .int)) (hr22 : ∀ (f : zF) (a0 : Nat) (a1 : Int32) (a2 : Int32) (a3 : Int32) (a4 : Int32) (H : Heap) (locs : List Loc) (ls : Array Slot), r22 f a0 a1 a2 a3 a4 = some (f9, r) → zS G n f H locs → lv_has ls 6 [(0, zr G a0), (1, .int a1), (2, .int a2), (3, .int a3), (4, .int a4)] → W p l e (zrm 0) s m args below meth c H locs 0 0 (MQ below (zQc G n f9 (some (.int r))) args s 0 0 (zA G)) (F0 m 22 ls [])) : ∀ (f : zF) (a0 : Nat) (a1 : Int32) (a2 : Int32) (a4 : Int32) (H : Heap) (locs : List Loc) (ls : Array Slot), fX9_readRun_135 r22 N n f a0 a1 a2 a4 = some (f9, r) → zS G n f H locs → lv_has ls 6 [(0, zr G a0), (1, .int a1), (2, .int a2), (4, .int a4)] → W p l e (zrm 0) s m args below meth c H locs 0 0 (MQ below (zQc G n f9 (some (.int r))) args s 0 0 (zA G)) (F0 m 135 ls []) := by
  have he := B.1
  have hb := B.2.1
  intro f a0 a1 a2 a4 H locs ls h hS hl
  unfold fX9_readRun_135 at h
  refine lv_iconst (v := (0 : Int32)) he hb dX9_readRun_135 (by decide) ?_
  refine lv_istore_n (lv' := [(3, _), (0, _), (1, _), (2, _), (4, _)]) he hb dX9_readRun_136 rfl hl (by decide) rfl (fun ls hl => ?_)
  exact gX9_readRun_137 l B hr22 _ _ _ _ _ _ _ _ _ h hS (lv_sub hl [1, 2, 3, 0, 4] rfl)
def fX9_readRun_98 (r22 : zF → Nat → Int32 → Int32 → Int32 → Int32 → Option (zF × Int32)) (N n : Nat) (f : zF) (a0 : Nat) (a1 : Int32) (a2 : Int32) (a3 : Int32) (a4 : Int32) (a5 : Int32) : Option (zF × Int32) :=
    (if a5 < (48 : Int32) then (fX9_readRun_135 r22 N n f a0 a1 a2 a4) else (if (57 : Int32) < a5 then (fX9_readRun_135 r22 N n f a0 a1 a2 a4) else ((zgI n f 9 a0 8).bind fun x11 => ((zpI n f 9 a0 8 ((((10 : Int32) * x11) + a5) - (48 : Int32))).bind fun f12 => (fX9_readRun_137 r22 N n f12 a0 a1 (a2 + 1) a3 a4)))))
set_option maxRecDepth 100000 in
set_option maxHeartbeats 4000000 in
theorem gX9_readRun_98 (l : Launch) {G : zG} {p : Program} {e : Env} {s : State} {m : MethodId} {args : Array Value} {below : List Frame} {meth : Method} {c : Code} {N n : Nat} {f9 : zF} {r : Int32} {r22 : zF → Nat → Int32 → Int32 → Int32 → Int32 → Option (zF × Int32)} (B : zB G p s m args meth c RX9 cX9_readRun 6 (some .int)) (hr22 : ∀ (f : zF) (a0 : Nat) (a1 : Int32) (a2 : Int32) (a3 : Int32) (a4 : Int32) (H : Heap) (locs : List Loc) (ls : Array Slot), r22 f a0 a1 a2 a3 a4 = some (f9, r) → zS G n f H locs → lv_has ls 6 [(0, zr G a0), (1, .int a1), (2, .int a2), (3, .int a3), (4, .int a4)] → W p l e (zrm 0) s m args below meth c H locs 0 0 (MQ below (zQc G n f9 (some (.int r))) args s 0 0 (zA G)) (F0 m 22 ls [])) : ∀ (f : zF) (a0 : Nat) (a1 : Int32) (a2 : Int32) (a3 : Int32) (a4 : Int32) (a5 : Int32) (H : Heap) (locs : List Loc) (ls : Array Slot), fX9_readRun_98 r22 N n f a0 a1 a2 a3 a4 a5 = some (f9, r) → zS G n f H locs → lv_has ls 6 [(0, zr G a0), (1, .int a1), (2, .int a2), (3, .int a3), (4, .int a4), (5, .int a5)] → W p l e (zrm 0) s m args below meth c H locs 0 0 (MQ below (zQc G n f9 (some (.int r))) args s 0 0 (zA G)) (F0 m 98 ls []) := by
  have he := B.1
  have hb := B.2.1
  intro f a0 a1 a2 a3 a4 a5 H locs ls h hS hl
  unfold fX9_readRun_98 at h
  refine lv_iload he hb dX9_readRun_98 (lv_at hl 5 rfl) ?_
  refine lv_bipush (v := (48 : Int32)) he hb dX9_readRun_100 (by decide) ?_
  refine lv_icmp_lt (tgt := 135) he hb dX9_readRun_102 (by decide) (fun hc => ?_) (fun hc => ?_)
  · rw [if_pos hc] at h
    exact gX9_readRun_135 l B hr22 _ _ _ _ _ _ _ _ h hS (lv_sub hl [0, 1, 2, 4] rfl)
  · rw [if_neg hc] at h
    refine lv_iload he hb dX9_readRun_105 (lv_at hl 5 rfl) ?_
    refine lv_bipush (v := (57 : Int32)) he hb dX9_readRun_107 (by decide) ?_
    refine lv_icmp_gt (tgt := 135) he hb dX9_readRun_109 (by decide) (fun hc => ?_) (fun hc => ?_)
    · rw [if_pos hc] at h
      exact gX9_readRun_135 l B hr22 _ _ _ _ _ _ _ _ h hS (lv_sub hl [0, 1, 2, 4] rfl)
    · rw [if_neg hc] at h
      refine lv_iinc (v := (a2 + 1)) (lv' := [(2, _), (0, _), (1, _), (3, _), (4, _), (5, _)]) he hb dX9_readRun_112 hl (k := 2) rfl rfl (by decide) rfl (fun ls hl => ?_)
      refine z_aload_n he hb dX9_readRun_115 rfl (lv_at hl 1 rfl) (zref_r _ _) ?_
      refine lv_bipush (v := (10 : Int32)) he hb dX9_readRun_116 (by decide) ?_
      refine z_aload_n he hb dX9_readRun_118 rfl (lv_at hl 1 rfl) (zref_r _ _) ?_
      obtain ⟨x11, hx, h⟩ := zob h
      refine z_getI (ci := 9) (T := TX9) (N := 12) (j := 8) B hS hx rfl zin_X9 (by decide) zk_108 dX9_readRun_119 ?_
      refine lv_imul he hb dX9_readRun_122 ?_
      refine lv_iload he hb dX9_readRun_123 (lv_at hl 5 rfl) ?_
      refine lv_iadd he hb dX9_readRun_125 ?_
      refine lv_bipush (v := (48 : Int32)) he hb dX9_readRun_126 (by decide) ?_
      refine lv_isub he hb dX9_readRun_128 ?_
      obtain ⟨f12, hx, h⟩ := zob h
      refine z_putI (ci := 9) (T := TX9) (N := 12) (j := 8) B hS hx rfl zin_X9 tyX9 tyX9_ok nmX9 (by decide) zk_108 rfl rfl dX9_readRun_129 (fun H locs hS => ?_)
      refine lv_goto (tgt := 137) he hb dX9_readRun_132 (by decide) ?_
      exact gX9_readRun_137 l B hr22 _ _ _ _ _ _ _ _ _ h hS (lv_sub hl [1, 2, 0, 3, 4] rfl)
def fX9_readRun_22 (N n : Nat) : Nat → zF → Nat → Int32 → Int32 → Int32 → Int32 → Option (zF × Int32)
  | 0, _, _, _, _, _, _ => none
  | k + 1, f, a0, a1, a2, a3, a4 =>
    (if a3 = 0 then (fX9_readRun_143 N n f a0 a1 a2) else (if a4 < 0 then (fX9_readRun_143 N n f a0 a1 a2) else ((zgI n f 9 a0 2).bind fun x6 => (if x6 ≤ a4 then (fX9_readRun_143 N n f a0 a1 a2) else ((zgR n f 9 a0 0).bind fun x7 => ((zlen n f 2 x7).bind fun x8 => (if x8 ≤ a4 then (fX9_readRun_143 N n f a0 a1 a2) else ((zgR n f 9 a0 0).bind fun x9 => ((zlI n f 2 x9 a4).bind fun x10 => (if x10 < (97 : Int32) then (fX9_readRun_98 (fX9_readRun_22 N n k) N n f a0 a1 a2 a3 a4 x10) else (if (122 : Int32) < x10 then (fX9_readRun_98 (fX9_readRun_22 N n k) N n f a0 a1 a2 a3 a4 x10) else ((zgL n f 9 a0 9).bind fun x13 => ((zpL n f 9 a0 9 ((zlshl x13 (5 : Int32)) ||| (((x10 - (97 : Int32)) + (1 : Int32)).toInt64))).bind fun f14 => (fX9_readRun_137 (fX9_readRun_22 N n k) N n f14 a0 (a1 + 1) a2 a3 a4))))))))))))))
set_option maxRecDepth 100000 in
set_option maxHeartbeats 4000000 in
theorem gX9_readRun_22 (l : Launch) {G : zG} {p : Program} {e : Env} {s : State} {m : MethodId} {args : Array Value} {below : List Frame} {meth : Method} {c : Code} {N n : Nat} {f9 : zF} {r : Int32} (B : zB G p s m args meth c RX9 cX9_readRun 6 (some .int)) : ∀ (k : Nat), ∀ (f : zF) (a0 : Nat) (a1 : Int32) (a2 : Int32) (a3 : Int32) (a4 : Int32) (H : Heap) (locs : List Loc) (ls : Array Slot), fX9_readRun_22 N n k f a0 a1 a2 a3 a4 = some (f9, r) → zS G n f H locs → lv_has ls 6 [(0, zr G a0), (1, .int a1), (2, .int a2), (3, .int a3), (4, .int a4)] → W p l e (zrm 0) s m args below meth c H locs 0 0 (MQ below (zQc G n f9 (some (.int r))) args s 0 0 (zA G)) (F0 m 22 ls []) := by
  have he := B.1
  have hb := B.2.1
  intro k
  induction k with
  | zero =>
    intro f a0 a1 a2 a3 a4 H locs ls h
    unfold fX9_readRun_22 at h
    cases h
  | succ k ih =>
    intro f a0 a1 a2 a3 a4 H locs ls h hS hl
    unfold fX9_readRun_22 at h
    refine lv_iload_n he hb dX9_readRun_22 rfl (lv_at hl 3 rfl) ?_
    refine lv_if_eq (tgt := 143) he hb dX9_readRun_23 (by decide) (fun hc => ?_) (fun hc => ?_)
    · rw [if_pos hc] at h
      exact gX9_readRun_143 l B _ _ _ _ _ _ _ h hS (lv_sub hl [0, 1, 2] rfl)
    · rw [if_neg hc] at h
      refine lv_iload he hb dX9_readRun_26 (lv_at hl 4 rfl) ?_
      refine lv_if_lt (tgt := 143) he hb dX9_readRun_28 (by decide) (fun hc => ?_) (fun hc => ?_)
      · rw [if_pos hc] at h
        exact gX9_readRun_143 l B _ _ _ _ _ _ _ h hS (lv_sub hl [0, 1, 2] rfl)
      · rw [if_neg hc] at h
        refine lv_iload he hb dX9_readRun_31 (lv_at hl 4 rfl) ?_
        refine z_aload_n he hb dX9_readRun_33 rfl (lv_at hl 0 rfl) (zref_r _ _) ?_
        obtain ⟨x6, hx, h⟩ := zob h
        refine z_getI (ci := 9) (T := TX9) (N := 12) (j := 2) B hS hx rfl zin_X9 (by decide) zk_96 dX9_readRun_34 ?_
        refine lv_icmp_ge (tgt := 143) he hb dX9_readRun_37 (by decide) (fun hc => ?_) (fun hc => ?_)
        · rw [if_pos hc] at h
          exact gX9_readRun_143 l B _ _ _ _ _ _ _ h hS (lv_sub hl [0, 1, 2] rfl)
        · rw [if_neg hc] at h
          refine lv_iload he hb dX9_readRun_40 (lv_at hl 4 rfl) ?_
          refine z_aload_n he hb dX9_readRun_42 rfl (lv_at hl 0 rfl) (zref_r _ _) ?_
          obtain ⟨x7, hx, h⟩ := zob h
          refine z_getR (ci := 9) (T := TX9) (N := 12) (j := 0) B hS hx rfl zin_X9 (by decide) zk_91 dX9_readRun_43 ?_
          obtain ⟨x8, hx, h⟩ := zob h
          refine z_len B hS hx rfl dX9_readRun_46 ?_
          refine lv_icmp_ge (tgt := 143) he hb dX9_readRun_47 (by decide) (fun hc => ?_) (fun hc => ?_)
          · rw [if_pos hc] at h
            exact gX9_readRun_143 l B _ _ _ _ _ _ _ h hS (lv_sub hl [0, 1, 2] rfl)
          · rw [if_neg hc] at h
            refine z_aload_n he hb dX9_readRun_50 rfl (lv_at hl 0 rfl) (zref_r _ _) ?_
            obtain ⟨x9, hx, h⟩ := zob h
            refine z_getR (ci := 9) (T := TX9) (N := 12) (j := 0) B hS hx rfl zin_X9 (by decide) zk_91 dX9_readRun_51 ?_
            refine lv_iload he hb dX9_readRun_54 (lv_at hl 4 rfl) ?_
            obtain ⟨x10, hx, h⟩ := zob h
            refine z_ildB B hS hx dX9_readRun_56 ?_
            refine lv_istore (lv' := [(5, _), (0, _), (1, _), (2, _), (3, _), (4, _)]) he hb dX9_readRun_57 hl (by decide) rfl (fun ls hl => ?_)
            refine lv_iload he hb dX9_readRun_59 (lv_at hl 0 rfl) ?_
            refine lv_bipush (v := (97 : Int32)) he hb dX9_readRun_61 (by decide) ?_
            refine lv_icmp_lt (tgt := 98) he hb dX9_readRun_63 (by decide) (fun hc => ?_) (fun hc => ?_)
            · rw [if_pos hc] at h
              exact gX9_readRun_98 l B ih _ _ _ _ _ _ _ _ _ _ h hS (lv_sub hl [1, 2, 3, 4, 5, 0] rfl)
            · rw [if_neg hc] at h
              refine lv_iload he hb dX9_readRun_66 (lv_at hl 0 rfl) ?_
              refine lv_bipush (v := (122 : Int32)) he hb dX9_readRun_68 (by decide) ?_
              refine lv_icmp_gt (tgt := 98) he hb dX9_readRun_70 (by decide) (fun hc => ?_) (fun hc => ?_)
              · rw [if_pos hc] at h
                exact gX9_readRun_98 l B ih _ _ _ _ _ _ _ _ _ _ h hS (lv_sub hl [1, 2, 3, 4, 5, 0] rfl)
              · rw [if_neg hc] at h
                refine lv_iinc (v := (a1 + 1)) (lv' := [(1, _), (5, _), (0, _), (2, _), (3, _), (4, _)]) he hb dX9_readRun_73 hl (k := 2) rfl rfl (by decide) rfl (fun ls hl => ?_)
                refine z_aload_n he hb dX9_readRun_76 rfl (lv_at hl 2 rfl) (zref_r _ _) ?_
                refine z_aload_n he hb dX9_readRun_77 rfl (lv_at hl 2 rfl) (zref_r _ _) ?_
                obtain ⟨x13, hx, h⟩ := zob h
                refine z_getL (ci := 9) (T := TX9) (N := 12) (j := 9) B hS hx rfl zin_X9 (by decide) zk_110 dX9_readRun_78 ?_
                refine lv_iconst (v := (5 : Int32)) he hb dX9_readRun_81 (by decide) ?_
                refine z_lshl he hb dX9_readRun_82 ?_
                refine lv_iload he hb dX9_readRun_83 (lv_at hl 1 rfl) ?_
                refine lv_bipush (v := (97 : Int32)) he hb dX9_readRun_85 (by decide) ?_
                refine lv_isub he hb dX9_readRun_87 ?_
                refine lv_iconst (v := (1 : Int32)) he hb dX9_readRun_88 (by decide) ?_
                refine lv_iadd he hb dX9_readRun_89 ?_
                refine lv_i2l (v := (((x10 - (97 : Int32)) + (1 : Int32)).toInt64)) he hb dX9_readRun_90 rfl ?_
                refine lv_lor he hb dX9_readRun_91 ?_
                obtain ⟨f14, hx, h⟩ := zob h
                refine z_putL (ci := 9) (T := TX9) (N := 12) (j := 9) B hS hx rfl zin_X9 tyX9 tyX9_ok nmX9 (by decide) zk_110 rfl rfl dX9_readRun_92 (fun H locs hS => ?_)
                refine lv_goto (tgt := 137) he hb dX9_readRun_95 (by decide) ?_
                exact gX9_readRun_137 l B ih _ _ _ _ _ _ _ _ _ h hS (lv_sub hl [2, 0, 3, 4, 5] rfl)
def fX9_readRun (N n : Nat) (f : zF) (a0 : Nat) : Option (zF × Int32) :=
    ((zpL n f 9 a0 9 (0 : Int64)).bind fun f1 => ((zpI n f1 9 a0 8 (0 : Int32)).bind fun f2 => ((zgI n f2 9 a0 4).bind fun x3 => (fX9_readRun_22 N n N f2 a0 (0 : Int32) (0 : Int32) (1 : Int32) x3))))
set_option maxRecDepth 100000 in
set_option maxHeartbeats 4000000 in
theorem mX9_readRun (l : Launch) (G : zG) {N n : Nat} {f : zF} {f9 : zF} {r : Int32} {a0 : Nat} (h : fX9_readRun N n f a0 = some (f9, r)) : zM l G yX9_readRun cX9_readRun 6 (some .int) 0 n f [zr G a0] (some (.int r)) f9 := by
  refine zM.of (by decide) (Nat.le_of_ble_eq_true rfl) ?_
  intro p e s m args below meth c locs ls B hS hl
  have he := B.1
  have hb := B.2.1
  have hl : lv_has ls 6 [(0, zr G a0)] := hl
  unfold fX9_readRun at h
  generalize s.heap = H at hS ⊢
  refine lv_iconst (v := (0 : Int32)) he hb dX9_readRun_0 (by decide) ?_
  refine lv_istore_n (lv' := [(1, _), (0, _)]) he hb dX9_readRun_1 rfl hl (by decide) rfl (fun ls hl => ?_)
  refine lv_iconst (v := (0 : Int32)) he hb dX9_readRun_2 (by decide) ?_
  refine lv_istore_n (lv' := [(2, _), (1, _), (0, _)]) he hb dX9_readRun_3 rfl hl (by decide) rfl (fun ls hl => ?_)
  refine lv_iconst (v := (1 : Int32)) he hb dX9_readRun_4 (by decide) ?_
  refine lv_istore_n (lv' := [(3, _), (2, _), (1, _), (0, _)]) he hb dX9_readRun_5 rfl hl (by decide) rfl (fun ls hl => ?_)
  refine z_aload_n he hb dX9_readRun_6 rfl (lv_at hl 3 rfl) (zref_r _ _) ?_
  refine lv_lconst (v := (0 : Int64)) he hb dX9_readRun_7 (by decide) ?_
  obtain ⟨f1, hx, h⟩ := zob h
  refine z_putL (ci := 9) (T := TX9) (N := 12) (j := 9) B hS hx rfl zin_X9 tyX9 tyX9_ok nmX9 (by decide) zk_110 rfl rfl dX9_readRun_8 (fun H locs hS => ?_)
  refine z_aload_n he hb dX9_readRun_11 rfl (lv_at hl 3 rfl) (zref_r _ _) ?_
  refine lv_iconst (v := (0 : Int32)) he hb dX9_readRun_12 (by decide) ?_
  obtain ⟨f2, hx, h⟩ := zob h
  refine z_putI (ci := 9) (T := TX9) (N := 12) (j := 8) B hS hx rfl zin_X9 tyX9 tyX9_ok nmX9 (by decide) zk_108 rfl rfl dX9_readRun_13 (fun H locs hS => ?_)
  refine z_aload_n he hb dX9_readRun_16 rfl (lv_at hl 3 rfl) (zref_r _ _) ?_
  obtain ⟨x3, hx, h⟩ := zob h
  refine z_getI (ci := 9) (T := TX9) (N := 12) (j := 4) B hS hx rfl zin_X9 (by decide) zk_98 dX9_readRun_17 ?_
  refine lv_istore (lv' := [(4, _), (3, _), (2, _), (1, _), (0, _)]) he hb dX9_readRun_20 hl (by decide) rfl (fun ls hl => ?_)
  exact gX9_readRun_22 l B N _ _ _ _ _ _ _ _ _ h hS (lv_sub hl [4, 3, 2, 1, 0] rfl)
theorem dX9_advance_0 : decode cX9_advance 0 = .ok (.aload_n 0, 1) := by decide +kernel
theorem dX9_advance_1 : decode cX9_advance 1 = .ok (.getfield 35, 3) := by decide +kernel
theorem dX9_advance_4 : decode cX9_advance 4 = .ok (.aload_n 0, 1) := by decide +kernel
theorem dX9_advance_5 : decode cX9_advance 5 = .ok (.getfield 39, 3) := by decide +kernel
theorem dX9_advance_8 : decode cX9_advance 8 = .ok (.invokestatic 57, 3) := by decide +kernel
theorem dX9_advance_11 : decode cX9_advance 11 = .ok (.istore_n 1, 1) := by decide +kernel
theorem dX9_advance_12 : decode cX9_advance 12 = .ok (.aload_n 0, 1) := by decide +kernel
theorem dX9_advance_13 : decode cX9_advance 13 = .ok (.aload_n 0, 1) := by decide +kernel
theorem dX9_advance_14 : decode cX9_advance 14 = .ok (.getfield 51, 3) := by decide +kernel
theorem dX9_advance_17 : decode cX9_advance 17 = .ok (.putfield 63, 3) := by decide +kernel
theorem dX9_advance_20 : decode cX9_advance 20 = .ok (.iconst 0, 1) := by decide +kernel
theorem dX9_advance_21 : decode cX9_advance 21 = .ok (.istore_n 2, 1) := by decide +kernel
theorem dX9_advance_22 : decode cX9_advance 22 = .ok (.iload_n 2, 1) := by decide +kernel
theorem dX9_advance_23 : decode cX9_advance 23 = .ok (.sipush 940, 3) := by decide +kernel
theorem dX9_advance_26 : decode cX9_advance 26 = .ok (.if_icmp .ge 41, 3) := by decide +kernel
theorem dX9_advance_29 : decode cX9_advance 29 = .ok (.aload_n 0, 1) := by decide +kernel
theorem dX9_advance_30 : decode cX9_advance 30 = .ok (.getfield 42, 3) := by decide +kernel
theorem dX9_advance_33 : decode cX9_advance 33 = .ok (.iload_n 1, 1) := by decide +kernel
theorem dX9_advance_34 : decode cX9_advance 34 = .ok (.if_icmp .ge 33, 3) := by decide +kernel
theorem dX9_advance_37 : decode cX9_advance 37 = .ok (.aload_n 0, 1) := by decide +kernel
theorem dX9_advance_38 : decode cX9_advance 38 = .ok (.aload_n 0, 1) := by decide +kernel
theorem dX9_advance_39 : decode cX9_advance 39 = .ok (.getfield 42, 3) := by decide +kernel
theorem dX9_advance_42 : decode cX9_advance 42 = .ok (.invokevirtual 66, 3) := by decide +kernel
theorem dX9_advance_45 : decode cX9_advance 45 = .ok (.invokestatic 70, 3) := by decide +kernel
theorem dX9_advance_48 : decode cX9_advance 48 = .ok (.ifCond .eq 19, 3) := by decide +kernel
theorem dX9_advance_51 : decode cX9_advance 51 = .ok (.aload_n 0, 1) := by decide +kernel
theorem dX9_advance_52 : decode cX9_advance 52 = .ok (.dup, 1) := by decide +kernel
theorem dX9_advance_53 : decode cX9_advance 53 = .ok (.getfield 42, 3) := by decide +kernel
theorem dX9_advance_56 : decode cX9_advance 56 = .ok (.iconst 1, 1) := by decide +kernel
theorem dX9_advance_57 : decode cX9_advance 57 = .ok (.iadd, 1) := by decide +kernel
theorem dX9_advance_58 : decode cX9_advance 58 = .ok (.putfield 42, 3) := by decide +kernel
theorem dX9_advance_61 : decode cX9_advance 61 = .ok (.iinc 2 1, 3) := by decide +kernel
theorem dX9_advance_64 : decode cX9_advance 64 = .ok (.goto (-42), 3) := by decide +kernel
theorem dX9_advance_67 : decode cX9_advance 67 = .ok (.aload_n 0, 1) := by decide +kernel
theorem dX9_advance_68 : decode cX9_advance 68 = .ok (.aload_n 0, 1) := by decide +kernel
theorem dX9_advance_69 : decode cX9_advance 69 = .ok (.getfield 42, 3) := by decide +kernel
theorem dX9_advance_72 : decode cX9_advance 72 = .ok (.iload_n 1, 1) := by decide +kernel
theorem dX9_advance_73 : decode cX9_advance 73 = .ok (.invokestatic 57, 3) := by decide +kernel
theorem dX9_advance_76 : decode cX9_advance 76 = .ok (.putfield 51, 3) := by decide +kernel
theorem dX9_advance_79 : decode cX9_advance 79 = .ok (.aload_n 0, 1) := by decide +kernel
theorem dX9_advance_80 : decode cX9_advance 80 = .ok (.aload_n 0, 1) := by decide +kernel
theorem dX9_advance_81 : decode cX9_advance 81 = .ok (.aload_n 0, 1) := by decide +kernel
theorem dX9_advance_82 : decode cX9_advance 82 = .ok (.getfield 42, 3) := by decide +kernel
theorem dX9_advance_85 : decode cX9_advance 85 = .ok (.invokevirtual 66, 3) := by decide +kernel
theorem dX9_advance_88 : decode cX9_advance 88 = .ok (.putfield 74, 3) := by decide +kernel
theorem dX9_advance_91 : decode cX9_advance 91 = .ok (.aload_n 0, 1) := by decide +kernel
theorem dX9_advance_92 : decode cX9_advance 92 = .ok (.getfield 42, 3) := by decide +kernel
theorem dX9_advance_95 : decode cX9_advance 95 = .ok (.iload_n 1, 1) := by decide +kernel
theorem dX9_advance_96 : decode cX9_advance 96 = .ok (.if_icmp .lt 11, 3) := by decide +kernel
theorem dX9_advance_99 : decode cX9_advance 99 = .ok (.aload_n 0, 1) := by decide +kernel
theorem dX9_advance_100 : decode cX9_advance 100 = .ok (.iconst 1, 1) := by decide +kernel
theorem dX9_advance_101 : decode cX9_advance 101 = .ok (.putfield 77, 3) := by decide +kernel
theorem dX9_advance_104 : decode cX9_advance 104 = .ok (.goto 39, 3) := by decide +kernel
theorem dX9_advance_107 : decode cX9_advance 107 = .ok (.aload_n 0, 1) := by decide +kernel
theorem dX9_advance_108 : decode cX9_advance 108 = .ok (.getfield 74, 3) := by decide +kernel
theorem dX9_advance_111 : decode cX9_advance 111 = .ok (.invokestatic 80, 3) := by decide +kernel
theorem dX9_advance_114 : decode cX9_advance 114 = .ok (.ifCond .eq 21, 3) := by decide +kernel
theorem dX9_advance_117 : decode cX9_advance 117 = .ok (.aload_n 0, 1) := by decide +kernel
theorem dX9_advance_118 : decode cX9_advance 118 = .ok (.iconst 5, 1) := by decide +kernel
theorem dX9_advance_119 : decode cX9_advance 119 = .ok (.putfield 77, 3) := by decide +kernel
theorem dX9_advance_122 : decode cX9_advance 122 = .ok (.aload_n 0, 1) := by decide +kernel
theorem dX9_advance_123 : decode cX9_advance 123 = .ok (.dup, 1) := by decide +kernel
theorem dX9_advance_124 : decode cX9_advance 124 = .ok (.getfield 42, 3) := by decide +kernel
theorem dX9_advance_127 : decode cX9_advance 127 = .ok (.iconst 1, 1) := by decide +kernel
theorem dX9_advance_128 : decode cX9_advance 128 = .ok (.iadd, 1) := by decide +kernel
theorem dX9_advance_129 : decode cX9_advance 129 = .ok (.putfield 42, 3) := by decide +kernel
theorem dX9_advance_132 : decode cX9_advance 132 = .ok (.goto 11, 3) := by decide +kernel
theorem dX9_advance_135 : decode cX9_advance 135 = .ok (.aload_n 0, 1) := by decide +kernel
theorem dX9_advance_136 : decode cX9_advance 136 = .ok (.aload_n 0, 1) := by decide +kernel
theorem dX9_advance_137 : decode cX9_advance 137 = .ok (.invokevirtual 83, 3) := by decide +kernel
theorem dX9_advance_140 : decode cX9_advance 140 = .ok (.putfield 77, 3) := by decide +kernel
theorem dX9_advance_143 : decode cX9_advance 143 = .ok (.aload_n 0, 1) := by decide +kernel
theorem dX9_advance_144 : decode cX9_advance 144 = .ok (.getfield 77, 3) := by decide +kernel
theorem dX9_advance_147 : decode cX9_advance 147 = .ok (.iconst 3, 1) := by decide +kernel
theorem dX9_advance_148 : decode cX9_advance 148 = .ok (.if_icmp .ne 37, 3) := by decide +kernel
theorem dX9_advance_151 : decode cX9_advance 151 = .ok (.aload_n 0, 1) := by decide +kernel
theorem dX9_advance_152 : decode cX9_advance 152 = .ok (.aload_n 0, 1) := by decide +kernel
theorem dX9_advance_153 : decode cX9_advance 153 = .ok (.getfield 15, 3) := by decide +kernel
theorem dX9_advance_156 : decode cX9_advance 156 = .ok (.bipush 27, 2) := by decide +kernel
theorem dX9_advance_158 : decode cX9_advance 158 = .ok (.aload_n 0, 1) := by decide +kernel
theorem dX9_advance_159 : decode cX9_advance 159 = .ok (.getfield 86, 3) := by decide +kernel
theorem dX9_advance_162 : decode cX9_advance 162 = .ok (.invokestatic 90, 3) := by decide +kernel
theorem dX9_advance_165 : decode cX9_advance 165 = .ok (.putfield 74, 3) := by decide +kernel
theorem dX9_advance_168 : decode cX9_advance 168 = .ok (.aload_n 0, 1) := by decide +kernel
theorem dX9_advance_169 : decode cX9_advance 169 = .ok (.aload_n 0, 1) := by decide +kernel
theorem dX9_advance_170 : decode cX9_advance 170 = .ok (.getfield 74, 3) := by decide +kernel
theorem dX9_advance_173 : decode cX9_advance 173 = .ok (.iconst (-1), 1) := by decide +kernel
theorem dX9_advance_174 : decode cX9_advance 174 = .ok (.if_icmp .ne 7, 3) := by decide +kernel
theorem dX9_advance_177 : decode cX9_advance 177 = .ok (.iconst 3, 1) := by decide +kernel
theorem dX9_advance_178 : decode cX9_advance 178 = .ok (.goto 4, 3) := by decide +kernel
theorem dX9_advance_181 : decode cX9_advance 181 = .ok (.iconst 2, 1) := by decide +kernel
theorem dX9_advance_182 : decode cX9_advance 182 = .ok (.putfield 77, 3) := by decide +kernel
theorem dX9_advance_185 : decode cX9_advance 185 = .ok (.return_, 1) := by decide +kernel
def fX9_advance_182 (N n : Nat) (f : zF) (t0 : Nat) (t1 : Int32) : Option zF :=
    ((zpI n f 9 t0 5 t1).bind fun f24 => some f24)
set_option maxRecDepth 100000 in
set_option maxHeartbeats 4000000 in
theorem gX9_advance_182 (l : Launch) {G : zG} {p : Program} {e : Env} {s : State} {m : MethodId} {args : Array Value} {below : List Frame} {meth : Method} {c : Code} {N n : Nat} {f9 : zF} (B : zB G p s m args meth c RX9 cX9_advance 3 (none)) : ∀ (f : zF) (t0 : Nat) (t1 : Int32) (H : Heap) (locs : List Loc) (ls : Array Slot), fX9_advance_182 N n f t0 t1 = some f9 → zS G n f H locs → lv_has ls 3 [] → W p l e (zrm 1) s m args below meth c H locs 0 0 (MQ below (zQc G n f9 (none)) args s 0 0 (zA G)) (F0 m 182 ls [.int t1, zr G t0]) := by
  have he := B.1
  have hb := B.2.1
  intro f t0 t1 H locs ls h hS hl
  unfold fX9_advance_182 at h
  obtain ⟨f24, hx, h⟩ := zob h
  refine z_putI (ci := 9) (T := TX9) (N := 12) (j := 5) B hS hx rfl zin_X9 tyX9 tyX9_ok nmX9 (by decide) zk_102 rfl rfl dX9_advance_182 (fun H locs hS => ?_)
  obtain rfl := Option.some.inj h
  exact z_vret B hS dX9_advance_185
def fX9_advance_143 (N n : Nat) (f : zF) (a0 : Nat) : Option zF :=
    ((zgI n f 9 a0 5).bind fun x18 => (if x18 = (3 : Int32) then ((zgR n f 9 a0 1).bind fun x19 => ((zgL n f 9 a0 9).bind fun x20 => ((fX11_placeOf N n f x19 (27 : Int32) x20).bind fun x21 => ((zpI n f 9 a0 8 x21).bind fun f22 => ((zgI n f22 9 a0 8).bind fun x23 => (if x23 = (-1 : Int32) then (fX9_advance_182 N n f22 a0 (3 : Int32)) else (fX9_advance_182 N n f22 a0 (2 : Int32)))))))) else some f))
set_option maxRecDepth 100000 in
set_option maxHeartbeats 4000000 in
theorem gX9_advance_143 (l : Launch) {G : zG} {p : Program} {e : Env} {s : State} {m : MethodId} {args : Array Value} {below : List Frame} {meth : Method} {c : Code} {N n : Nat} {f9 : zF} (B : zB G p s m args meth c RX9 cX9_advance 3 (none)) : ∀ (f : zF) (a0 : Nat) (H : Heap) (locs : List Loc) (ls : Array Slot), fX9_advance_143 N n f a0 = some f9 → zS G n f H locs → lv_has ls 3 [(0, zr G a0)] → W p l e (zrm 1) s m args below meth c H locs 0 0 (MQ below (zQc G n f9 (none)) args s 0 0 (zA G)) (F0 m 143 ls []) := by
  have he := B.1
  have hb := B.2.1
  intro f a0 H locs ls h hS hl
  unfold fX9_advance_143 at h
  refine z_aload_n he hb dX9_advance_143 rfl (lv_at hl 0 rfl) (zref_r _ _) ?_
  obtain ⟨x18, hx, h⟩ := zob h
  refine z_getI (ci := 9) (T := TX9) (N := 12) (j := 5) B hS hx rfl zin_X9 (by decide) zk_102 dX9_advance_144 ?_
  refine lv_iconst (v := (3 : Int32)) he hb dX9_advance_147 (by decide) ?_
  refine lv_icmp_ne (tgt := 185) he hb dX9_advance_148 (by decide) (fun hc => ?_) (fun hc => ?_)
  · rw [if_neg hc] at h
    obtain rfl := Option.some.inj h
    exact z_vret B hS dX9_advance_185
  · rw [if_pos hc] at h
    refine z_aload_n he hb dX9_advance_151 rfl (lv_at hl 0 rfl) (zref_r _ _) ?_
    refine z_aload_n he hb dX9_advance_152 rfl (lv_at hl 0 rfl) (zref_r _ _) ?_
    obtain ⟨x19, hx, h⟩ := zob h
    refine z_getR (ci := 9) (T := TX9) (N := 12) (j := 1) B hS hx rfl zin_X9 (by decide) zk_92 dX9_advance_153 ?_
    refine lv_bipush (v := (27 : Int32)) he hb dX9_advance_156 (by decide) ?_
    refine z_aload_n he hb dX9_advance_158 rfl (lv_at hl 0 rfl) (zref_r _ _) ?_
    obtain ⟨x20, hx, h⟩ := zob h
    refine z_getL (ci := 9) (T := TX9) (N := 12) (j := 9) B hS hx rfl zin_X9 (by decide) zk_110 dX9_advance_159 ?_
    obtain ⟨x21, hx, h⟩ := zob h
    refine z_callN (rest := [_]) B hS (mX11_placeOf l G hx) zy_X11_placeOf zkn_604 (by decide) rfl hl rfl (Nat.le_of_ble_eq_true rfl) dX9_advance_162 (kk := (fun H locs hS => ?_))
    obtain ⟨f22, hx, h⟩ := zob h
    refine z_putI (ci := 9) (T := TX9) (N := 12) (j := 8) B hS hx rfl zin_X9 tyX9 tyX9_ok nmX9 (by decide) zk_108 rfl rfl dX9_advance_165 (fun H locs hS => ?_)
    refine z_aload_n he hb dX9_advance_168 rfl (lv_at hl 0 rfl) (zref_r _ _) ?_
    refine z_aload_n he hb dX9_advance_169 rfl (lv_at hl 0 rfl) (zref_r _ _) ?_
    obtain ⟨x23, hx, h⟩ := zob h
    refine z_getI (ci := 9) (T := TX9) (N := 12) (j := 8) B hS hx rfl zin_X9 (by decide) zk_108 dX9_advance_170 ?_
    refine lv_iconst (v := (-1 : Int32)) he hb dX9_advance_173 (by decide) ?_
    refine lv_icmp_ne (tgt := 181) he hb dX9_advance_174 (by decide) (fun hc => ?_) (fun hc => ?_)
    · rw [if_neg hc] at h
      refine lv_iconst (v := (2 : Int32)) he hb dX9_advance_181 (by decide) ?_
      exact gX9_advance_182 l B _ _ _ _ _ _ h hS (lv_sub hl [] rfl)
    · rw [if_pos hc] at h
      refine lv_iconst (v := (3 : Int32)) he hb dX9_advance_177 (by decide) ?_
      refine lv_goto (tgt := 182) he hb dX9_advance_178 (by decide) ?_
      exact gX9_advance_182 l B _ _ _ _ _ _ h hS (lv_sub hl [] rfl)
def fX9_advance_67 (N n : Nat) (f : zF) (a0 : Nat) (a1 : Int32) : Option zF :=
    ((zgI n f 9 a0 4).bind fun x6 => ((fJ9_min_7cf53 N n f x6 a1).bind fun x7 => ((zpI n f 9 a0 6 x7).bind fun f8 => ((zgI n f8 9 a0 4).bind fun x9 => ((zck n f8 9 a0).bind fun _ => ((fX9_signAt N n f8 a0 x9).bind fun x10 => ((zpI n f8 9 a0 8 x10).bind fun f11 => ((zgI n f11 9 a0 4).bind fun x12 => (if x12 < a1 then ((zgI n f11 9 a0 8).bind fun x13 => ((fX9_isTokenSign N n f11 x13).bind fun x14 => (if x14 = 0 then ((zck n f11 9 a0).bind fun _ => (zbd (fX9_readRun N n f11 a0) fun f16 x15 => ((zpI n f16 9 a0 5 x15).bind fun f17 => (fX9_advance_143 N n f17 a0)))) else ((zpI n f11 9 a0 5 (5 : Int32)).bind fun f25 => ((zgI n f25 9 a0 4).bind fun x26 => ((zpI n f25 9 a0 4 (x26 + (1 : Int32))).bind fun f27 => (fX9_advance_143 N n f27 a0))))))) else ((zpI n f11 9 a0 5 (1 : Int32)).bind fun f28 => (fX9_advance_143 N n f28 a0)))))))))))
set_option maxRecDepth 100000 in
set_option maxHeartbeats 4000000 in
theorem gX9_advance_67 (l : Launch) {G : zG} {p : Program} {e : Env} {s : State} {m : MethodId} {args : Array Value} {below : List Frame} {meth : Method} {c : Code} {N n : Nat} {f9 : zF} (B : zB G p s m args meth c RX9 cX9_advance 3 (none)) : ∀ (f : zF) (a0 : Nat) (a1 : Int32) (H : Heap) (locs : List Loc) (ls : Array Slot), fX9_advance_67 N n f a0 a1 = some f9 → zS G n f H locs → lv_has ls 3 [(0, zr G a0), (1, .int a1)] → W p l e (zrm 1) s m args below meth c H locs 0 0 (MQ below (zQc G n f9 (none)) args s 0 0 (zA G)) (F0 m 67 ls []) := by
  have he := B.1
  have hb := B.2.1
  intro f a0 a1 H locs ls h hS hl
  unfold fX9_advance_67 at h
  refine z_aload_n he hb dX9_advance_67 rfl (lv_at hl 0 rfl) (zref_r _ _) ?_
  refine z_aload_n he hb dX9_advance_68 rfl (lv_at hl 0 rfl) (zref_r _ _) ?_
  obtain ⟨x6, hx, h⟩ := zob h
  refine z_getI (ci := 9) (T := TX9) (N := 12) (j := 4) B hS hx rfl zin_X9 (by decide) zk_98 dX9_advance_69 ?_
  refine lv_iload_n he hb dX9_advance_72 rfl (lv_at hl 1 rfl) ?_
  obtain ⟨x7, hx, h⟩ := zob h
  refine z_callT (rest := [_]) B hS (mJ9_min_7cf53 l G hx) zy_J9_min_7cf53 zk_587 (by decide) rfl hl rfl (Nat.le_of_ble_eq_true rfl) dX9_advance_73 (kk := (fun H locs hS => ?_))
  obtain ⟨f8, hx, h⟩ := zob h
  refine z_putI (ci := 9) (T := TX9) (N := 12) (j := 6) B hS hx rfl zin_X9 tyX9 tyX9_ok nmX9 (by decide) zk_103 rfl rfl dX9_advance_76 (fun H locs hS => ?_)
  refine z_aload_n he hb dX9_advance_79 rfl (lv_at hl 0 rfl) (zref_r _ _) ?_
  refine z_aload_n he hb dX9_advance_80 rfl (lv_at hl 0 rfl) (zref_r _ _) ?_
  refine z_aload_n he hb dX9_advance_81 rfl (lv_at hl 0 rfl) (zref_r _ _) ?_
  obtain ⟨x9, hx, h⟩ := zob h
  refine z_getI (ci := 9) (T := TX9) (N := 12) (j := 4) B hS hx rfl zin_X9 (by decide) zk_98 dX9_advance_82 ?_
  obtain ⟨_, hc, h⟩ := zob h
  obtain ⟨x10, hx, h⟩ := zob h
  refine z_callV (ci := 9) (T := TX9) (N := 12) (rest := [_]) B hS (mX9_signAt l G hx) zy_X9_signAt zk_590 (by decide) hc rfl rfl hl rfl (Nat.le_of_ble_eq_true rfl) dX9_advance_85 (kk := (fun H locs hS => ?_))
  obtain ⟨f11, hx, h⟩ := zob h
  refine z_putI (ci := 9) (T := TX9) (N := 12) (j := 8) B hS hx rfl zin_X9 tyX9 tyX9_ok nmX9 (by decide) zk_108 rfl rfl dX9_advance_88 (fun H locs hS => ?_)
  refine z_aload_n he hb dX9_advance_91 rfl (lv_at hl 0 rfl) (zref_r _ _) ?_
  obtain ⟨x12, hx, h⟩ := zob h
  refine z_getI (ci := 9) (T := TX9) (N := 12) (j := 4) B hS hx rfl zin_X9 (by decide) zk_98 dX9_advance_92 ?_
  refine lv_iload_n he hb dX9_advance_95 rfl (lv_at hl 1 rfl) ?_
  refine lv_icmp_lt (tgt := 107) he hb dX9_advance_96 (by decide) (fun hc => ?_) (fun hc => ?_)
  · rw [if_pos hc] at h
    refine z_aload_n he hb dX9_advance_107 rfl (lv_at hl 0 rfl) (zref_r _ _) ?_
    obtain ⟨x13, hx, h⟩ := zob h
    refine z_getI (ci := 9) (T := TX9) (N := 12) (j := 8) B hS hx rfl zin_X9 (by decide) zk_108 dX9_advance_108 ?_
    obtain ⟨x14, hx, h⟩ := zob h
    refine z_callS (rest := []) B hS (mX9_isTokenSign l G hx) zy_X9_isTokenSign zk_597 (by decide) rfl hl rfl (Nat.le_of_ble_eq_true rfl) dX9_advance_111 (kk := (fun H locs hS => ?_))
    refine lv_if_eq (tgt := 135) he hb dX9_advance_114 (by decide) (fun hc => ?_) (fun hc => ?_)
    · rw [if_pos hc] at h
      refine z_aload_n he hb dX9_advance_135 rfl (lv_at hl 0 rfl) (zref_r _ _) ?_
      refine z_aload_n he hb dX9_advance_136 rfl (lv_at hl 0 rfl) (zref_r _ _) ?_
      obtain ⟨_, hc, h⟩ := zob h
      obtain ⟨f16, x15, hx, h⟩ := zbd_i h
      refine z_callV (ci := 9) (T := TX9) (N := 12) (rest := [_]) B hS (mX9_readRun l G hx) zy_X9_readRun zk_600 (by decide) hc rfl rfl hl rfl (Nat.le_of_ble_eq_true rfl) dX9_advance_137 (kk := (fun H locs hS => ?_))
      obtain ⟨f17, hx, h⟩ := zob h
      refine z_putI (ci := 9) (T := TX9) (N := 12) (j := 5) B hS hx rfl zin_X9 tyX9 tyX9_ok nmX9 (by decide) zk_102 rfl rfl dX9_advance_140 (fun H locs hS => ?_)
      exact gX9_advance_143 l B _ _ _ _ _ h hS (lv_sub hl [0] rfl)
    · rw [if_neg hc] at h
      refine z_aload_n he hb dX9_advance_117 rfl (lv_at hl 0 rfl) (zref_r _ _) ?_
      refine lv_iconst (v := (5 : Int32)) he hb dX9_advance_118 (by decide) ?_
      obtain ⟨f25, hx, h⟩ := zob h
      refine z_putI (ci := 9) (T := TX9) (N := 12) (j := 5) B hS hx rfl zin_X9 tyX9 tyX9_ok nmX9 (by decide) zk_102 rfl rfl dX9_advance_119 (fun H locs hS => ?_)
      refine z_aload_n he hb dX9_advance_122 rfl (lv_at hl 0 rfl) (zref_r _ _) ?_
      refine lv_dup he hb dX9_advance_123 rfl ?_
      obtain ⟨x26, hx, h⟩ := zob h
      refine z_getI (ci := 9) (T := TX9) (N := 12) (j := 4) B hS hx rfl zin_X9 (by decide) zk_98 dX9_advance_124 ?_
      refine lv_iconst (v := (1 : Int32)) he hb dX9_advance_127 (by decide) ?_
      refine lv_iadd he hb dX9_advance_128 ?_
      obtain ⟨f27, hx, h⟩ := zob h
      refine z_putI (ci := 9) (T := TX9) (N := 12) (j := 4) B hS hx rfl zin_X9 tyX9 tyX9_ok nmX9 (by decide) zk_98 rfl rfl dX9_advance_129 (fun H locs hS => ?_)
      refine lv_goto (tgt := 143) he hb dX9_advance_132 (by decide) ?_
      exact gX9_advance_143 l B _ _ _ _ _ h hS (lv_sub hl [0] rfl)
  · rw [if_neg hc] at h
    refine z_aload_n he hb dX9_advance_99 rfl (lv_at hl 0 rfl) (zref_r _ _) ?_
    refine lv_iconst (v := (1 : Int32)) he hb dX9_advance_100 (by decide) ?_
    obtain ⟨f28, hx, h⟩ := zob h
    refine z_putI (ci := 9) (T := TX9) (N := 12) (j := 5) B hS hx rfl zin_X9 tyX9 tyX9_ok nmX9 (by decide) zk_102 rfl rfl dX9_advance_101 (fun H locs hS => ?_)
    refine lv_goto (tgt := 143) he hb dX9_advance_104 (by decide) ?_
    exact gX9_advance_143 l B _ _ _ _ _ h hS (lv_sub hl [0] rfl)
def fX9_advance_22 (N n : Nat) : Nat → zF → Nat → Int32 → Int32 → Option zF
  | 0, _, _, _, _ => none
  | k + 1, f, a0, a1, a2 =>
    (if (940 : Int32) ≤ a2 then (fX9_advance_67 N n f a0 a1) else ((zgI n f 9 a0 4).bind fun x29 => (if a1 ≤ x29 then (fX9_advance_67 N n f a0 a1) else ((zgI n f 9 a0 4).bind fun x30 => ((zck n f 9 a0).bind fun _ => ((fX9_signAt N n f a0 x30).bind fun x31 => ((fX9_isBlank N n f x31).bind fun x32 => (if x32 = 0 then (fX9_advance_67 N n f a0 a1) else ((zgI n f 9 a0 4).bind fun x33 => ((zpI n f 9 a0 4 (x33 + (1 : Int32))).bind fun f34 => (fX9_advance_22 N n k f34 a0 a1 (a2 + 1))))))))))))
set_option maxRecDepth 100000 in
set_option maxHeartbeats 4000000 in
theorem gX9_advance_22 (l : Launch) {G : zG} {p : Program} {e : Env} {s : State} {m : MethodId} {args : Array Value} {below : List Frame} {meth : Method} {c : Code} {N n : Nat} {f9 : zF} (B : zB G p s m args meth c RX9 cX9_advance 3 (none)) : ∀ (k : Nat), ∀ (f : zF) (a0 : Nat) (a1 : Int32) (a2 : Int32) (H : Heap) (locs : List Loc) (ls : Array Slot), fX9_advance_22 N n k f a0 a1 a2 = some f9 → zS G n f H locs → lv_has ls 3 [(0, zr G a0), (1, .int a1), (2, .int a2)] → W p l e (zrm 1) s m args below meth c H locs 0 0 (MQ below (zQc G n f9 (none)) args s 0 0 (zA G)) (F0 m 22 ls []) := by
  have he := B.1
  have hb := B.2.1
  intro k
  induction k with
  | zero =>
    intro f a0 a1 a2 H locs ls h
    unfold fX9_advance_22 at h
    cases h
  | succ k ih =>
    intro f a0 a1 a2 H locs ls h hS hl
    unfold fX9_advance_22 at h
    refine lv_iload_n he hb dX9_advance_22 rfl (lv_at hl 2 rfl) ?_
    refine lv_sipush (v := (940 : Int32)) he hb dX9_advance_23 (by decide) ?_
    refine lv_icmp_ge (tgt := 67) he hb dX9_advance_26 (by decide) (fun hc => ?_) (fun hc => ?_)
    · rw [if_pos hc] at h
      exact gX9_advance_67 l B _ _ _ _ _ _ h hS (lv_sub hl [0, 1] rfl)
    · rw [if_neg hc] at h
      refine z_aload_n he hb dX9_advance_29 rfl (lv_at hl 0 rfl) (zref_r _ _) ?_
      obtain ⟨x29, hx, h⟩ := zob h
      refine z_getI (ci := 9) (T := TX9) (N := 12) (j := 4) B hS hx rfl zin_X9 (by decide) zk_98 dX9_advance_30 ?_
      refine lv_iload_n he hb dX9_advance_33 rfl (lv_at hl 1 rfl) ?_
      refine lv_icmp_ge (tgt := 67) he hb dX9_advance_34 (by decide) (fun hc => ?_) (fun hc => ?_)
      · rw [if_pos hc] at h
        exact gX9_advance_67 l B _ _ _ _ _ _ h hS (lv_sub hl [0, 1] rfl)
      · rw [if_neg hc] at h
        refine z_aload_n he hb dX9_advance_37 rfl (lv_at hl 0 rfl) (zref_r _ _) ?_
        refine z_aload_n he hb dX9_advance_38 rfl (lv_at hl 0 rfl) (zref_r _ _) ?_
        obtain ⟨x30, hx, h⟩ := zob h
        refine z_getI (ci := 9) (T := TX9) (N := 12) (j := 4) B hS hx rfl zin_X9 (by decide) zk_98 dX9_advance_39 ?_
        obtain ⟨_, hc, h⟩ := zob h
        obtain ⟨x31, hx, h⟩ := zob h
        refine z_callV (ci := 9) (T := TX9) (N := 12) (rest := []) B hS (mX9_signAt l G hx) zy_X9_signAt zk_590 (by decide) hc rfl rfl hl rfl (Nat.le_of_ble_eq_true rfl) dX9_advance_42 (kk := (fun H locs hS => ?_))
        obtain ⟨x32, hx, h⟩ := zob h
        refine z_callS (rest := []) B hS (mX9_isBlank l G hx) zy_X9_isBlank zk_594 (by decide) rfl hl rfl (Nat.le_of_ble_eq_true rfl) dX9_advance_45 (kk := (fun H locs hS => ?_))
        refine lv_if_eq (tgt := 67) he hb dX9_advance_48 (by decide) (fun hc => ?_) (fun hc => ?_)
        · rw [if_pos hc] at h
          exact gX9_advance_67 l B _ _ _ _ _ _ h hS (lv_sub hl [0, 1] rfl)
        · rw [if_neg hc] at h
          refine z_aload_n he hb dX9_advance_51 rfl (lv_at hl 0 rfl) (zref_r _ _) ?_
          refine lv_dup he hb dX9_advance_52 rfl ?_
          obtain ⟨x33, hx, h⟩ := zob h
          refine z_getI (ci := 9) (T := TX9) (N := 12) (j := 4) B hS hx rfl zin_X9 (by decide) zk_98 dX9_advance_53 ?_
          refine lv_iconst (v := (1 : Int32)) he hb dX9_advance_56 (by decide) ?_
          refine lv_iadd he hb dX9_advance_57 ?_
          obtain ⟨f34, hx, h⟩ := zob h
          refine z_putI (ci := 9) (T := TX9) (N := 12) (j := 4) B hS hx rfl zin_X9 tyX9 tyX9_ok nmX9 (by decide) zk_98 rfl rfl dX9_advance_58 (fun H locs hS => ?_)
          refine lv_iinc (v := (a2 + 1)) (lv' := [(2, _), (0, _), (1, _)]) he hb dX9_advance_61 hl (k := 2) rfl rfl (by decide) rfl (fun ls hl => ?_)
          refine lv_goto (tgt := 22) he hb dX9_advance_64 (by decide) ?_
          exact ih _ _ _ _ _ _ _ h hS (lv_sub hl [1, 2, 0] rfl)
def fX9_advance (N n : Nat) (f : zF) (a0 : Nat) : Option zF :=
    ((zgI n f 9 a0 2).bind fun x1 => ((zgI n f 9 a0 3).bind fun x2 => ((fJ9_min_7cf53 N n f x1 x2).bind fun x3 => ((zgI n f 9 a0 6).bind fun x4 => ((zpI n f 9 a0 7 x4).bind fun f5 => (fX9_advance_22 N n N f5 a0 x3 (0 : Int32)))))))
set_option maxRecDepth 100000 in
set_option maxHeartbeats 4000000 in
theorem mX9_advance (l : Launch) (G : zG) {N n : Nat} {f : zF} {f9 : zF} {a0 : Nat} (h : fX9_advance N n f a0 = some f9) : zM l G yX9_advance cX9_advance 3 (none) 1 n f [zr G a0] (none) f9 := by
  refine zM.of (by decide) (Nat.le_of_ble_eq_true rfl) ?_
  intro p e s m args below meth c locs ls B hS hl
  have he := B.1
  have hb := B.2.1
  have hl : lv_has ls 3 [(0, zr G a0)] := hl
  unfold fX9_advance at h
  generalize s.heap = H at hS ⊢
  refine z_aload_n he hb dX9_advance_0 rfl (lv_at hl 0 rfl) (zref_r _ _) ?_
  obtain ⟨x1, hx, h⟩ := zob h
  refine z_getI (ci := 9) (T := TX9) (N := 12) (j := 2) B hS hx rfl zin_X9 (by decide) zk_96 dX9_advance_1 ?_
  refine z_aload_n he hb dX9_advance_4 rfl (lv_at hl 0 rfl) (zref_r _ _) ?_
  obtain ⟨x2, hx, h⟩ := zob h
  refine z_getI (ci := 9) (T := TX9) (N := 12) (j := 3) B hS hx rfl zin_X9 (by decide) zk_97 dX9_advance_5 ?_
  obtain ⟨x3, hx, h⟩ := zob h
  refine z_callT (rest := []) B hS (mJ9_min_7cf53 l G hx) zy_J9_min_7cf53 zk_587 (by decide) rfl hl rfl (Nat.le_of_ble_eq_true rfl) dX9_advance_8 (kk := (fun H locs hS => ?_))
  refine lv_istore_n (lv' := [(1, _), (0, _)]) he hb dX9_advance_11 rfl hl (by decide) rfl (fun ls hl => ?_)
  refine z_aload_n he hb dX9_advance_12 rfl (lv_at hl 1 rfl) (zref_r _ _) ?_
  refine z_aload_n he hb dX9_advance_13 rfl (lv_at hl 1 rfl) (zref_r _ _) ?_
  obtain ⟨x4, hx, h⟩ := zob h
  refine z_getI (ci := 9) (T := TX9) (N := 12) (j := 6) B hS hx rfl zin_X9 (by decide) zk_103 dX9_advance_14 ?_
  obtain ⟨f5, hx, h⟩ := zob h
  refine z_putI (ci := 9) (T := TX9) (N := 12) (j := 7) B hS hx rfl zin_X9 tyX9 tyX9_ok nmX9 (by decide) zk_104 rfl rfl dX9_advance_17 (fun H locs hS => ?_)
  refine lv_iconst (v := (0 : Int32)) he hb dX9_advance_20 (by decide) ?_
  refine lv_istore_n (lv' := [(2, _), (1, _), (0, _)]) he hb dX9_advance_21 rfl hl (by decide) rfl (fun ls hl => ?_)
  exact gX9_advance_22 l B N _ _ _ _ _ _ _ h hS (lv_sub hl [2, 1, 0] rfl)
theorem dX9_start_0 : decode cX9_start 0 = .ok (.aload_n 0, 1) := by decide +kernel
theorem dX9_start_1 : decode cX9_start 1 = .ok (.iload_n 1, 1) := by decide +kernel
theorem dX9_start_2 : decode cX9_start 2 = .ok (.putfield 39, 3) := by decide +kernel
theorem dX9_start_5 : decode cX9_start 5 = .ok (.aload_n 0, 1) := by decide +kernel
theorem dX9_start_6 : decode cX9_start 6 = .ok (.iconst 0, 1) := by decide +kernel
theorem dX9_start_7 : decode cX9_start 7 = .ok (.putfield 42, 3) := by decide +kernel
theorem dX9_start_10 : decode cX9_start 10 = .ok (.aload_n 0, 1) := by decide +kernel
theorem dX9_start_11 : decode cX9_start 11 = .ok (.iconst 0, 1) := by decide +kernel
theorem dX9_start_12 : decode cX9_start 12 = .ok (.putfield 45, 3) := by decide +kernel
theorem dX9_start_15 : decode cX9_start 15 = .ok (.aload_n 0, 1) := by decide +kernel
theorem dX9_start_16 : decode cX9_start 16 = .ok (.iconst 0, 1) := by decide +kernel
theorem dX9_start_17 : decode cX9_start 17 = .ok (.putfield 48, 3) := by decide +kernel
theorem dX9_start_20 : decode cX9_start 20 = .ok (.aload_n 0, 1) := by decide +kernel
theorem dX9_start_21 : decode cX9_start 21 = .ok (.iconst 0, 1) := by decide +kernel
theorem dX9_start_22 : decode cX9_start 22 = .ok (.putfield 51, 3) := by decide +kernel
theorem dX9_start_25 : decode cX9_start 25 = .ok (.aload_n 0, 1) := by decide +kernel
theorem dX9_start_26 : decode cX9_start 26 = .ok (.invokevirtual 54, 3) := by decide +kernel
theorem dX9_start_29 : decode cX9_start 29 = .ok (.return_, 1) := by decide +kernel
def fX9_start (N n : Nat) (f : zF) (a0 : Nat) (a1 : Int32) : Option zF :=
    ((zpI n f 9 a0 3 a1).bind fun f1 => ((zpI n f1 9 a0 4 (0 : Int32)).bind fun f2 => ((zpI n f2 9 a0 10 (0 : Int32)).bind fun f3 => ((zpI n f3 9 a0 11 (0 : Int32)).bind fun f4 => ((zpI n f4 9 a0 6 (0 : Int32)).bind fun f5 => ((zck n f5 9 a0).bind fun _ => ((fX9_advance N n f5 a0).bind fun f6 => some f6)))))))
set_option maxRecDepth 100000 in
set_option maxHeartbeats 4000000 in
theorem mX9_start (l : Launch) (G : zG) {N n : Nat} {f : zF} {f9 : zF} {a0 : Nat} {a1 : Int32} (h : fX9_start N n f a0 a1 = some f9) : zM l G yX9_start cX9_start 2 (none) 2 n f [zr G a0, .int a1] (none) f9 := by
  refine zM.of (by decide) (Nat.le_of_ble_eq_true rfl) ?_
  intro p e s m args below meth c locs ls B hS hl
  have he := B.1
  have hb := B.2.1
  have hl : lv_has ls 2 [(0, zr G a0), (1, .int a1)] := hl
  unfold fX9_start at h
  generalize s.heap = H at hS ⊢
  refine z_aload_n he hb dX9_start_0 rfl (lv_at hl 0 rfl) (zref_r _ _) ?_
  refine lv_iload_n he hb dX9_start_1 rfl (lv_at hl 1 rfl) ?_
  obtain ⟨f1, hx, h⟩ := zob h
  refine z_putI (ci := 9) (T := TX9) (N := 12) (j := 3) B hS hx rfl zin_X9 tyX9 tyX9_ok nmX9 (by decide) zk_97 rfl rfl dX9_start_2 (fun H locs hS => ?_)
  refine z_aload_n he hb dX9_start_5 rfl (lv_at hl 0 rfl) (zref_r _ _) ?_
  refine lv_iconst (v := (0 : Int32)) he hb dX9_start_6 (by decide) ?_
  obtain ⟨f2, hx, h⟩ := zob h
  refine z_putI (ci := 9) (T := TX9) (N := 12) (j := 4) B hS hx rfl zin_X9 tyX9 tyX9_ok nmX9 (by decide) zk_98 rfl rfl dX9_start_7 (fun H locs hS => ?_)
  refine z_aload_n he hb dX9_start_10 rfl (lv_at hl 0 rfl) (zref_r _ _) ?_
  refine lv_iconst (v := (0 : Int32)) he hb dX9_start_11 (by decide) ?_
  obtain ⟨f3, hx, h⟩ := zob h
  refine z_putI (ci := 9) (T := TX9) (N := 12) (j := 10) B hS hx rfl zin_X9 tyX9 tyX9_ok nmX9 (by decide) zk_113 rfl rfl dX9_start_12 (fun H locs hS => ?_)
  refine z_aload_n he hb dX9_start_15 rfl (lv_at hl 0 rfl) (zref_r _ _) ?_
  refine lv_iconst (v := (0 : Int32)) he hb dX9_start_16 (by decide) ?_
  obtain ⟨f4, hx, h⟩ := zob h
  refine z_putI (ci := 9) (T := TX9) (N := 12) (j := 11) B hS hx rfl zin_X9 tyX9 tyX9_ok nmX9 (by decide) zk_115 rfl rfl dX9_start_17 (fun H locs hS => ?_)
  refine z_aload_n he hb dX9_start_20 rfl (lv_at hl 0 rfl) (zref_r _ _) ?_
  refine lv_iconst (v := (0 : Int32)) he hb dX9_start_21 (by decide) ?_
  obtain ⟨f5, hx, h⟩ := zob h
  refine z_putI (ci := 9) (T := TX9) (N := 12) (j := 6) B hS hx rfl zin_X9 tyX9 tyX9_ok nmX9 (by decide) zk_103 rfl rfl dX9_start_22 (fun H locs hS => ?_)
  refine z_aload_n he hb dX9_start_25 rfl (lv_at hl 0 rfl) (zref_r _ _) ?_
  obtain ⟨_, hc, h⟩ := zob h
  obtain ⟨f6, hx, h⟩ := zob h
  refine z_callV (ci := 9) (T := TX9) (N := 12) (rest := []) B hS (mX9_advance l G hx) zy_X9_advance zk_583 (by decide) hc rfl rfl hl rfl (Nat.le_of_ble_eq_true rfl) dX9_start_26 (kk := (fun H locs hS => ?_))
  obtain rfl := Option.some.inj h
  exact z_vret B hS dX9_start_29
theorem dX9_failAt_0 : decode cX9_failAt 0 = .ok (.aload_n 0, 1) := by decide +kernel
theorem dX9_failAt_1 : decode cX9_failAt 1 = .ok (.getfield 45, 3) := by decide +kernel
theorem dX9_failAt_4 : decode cX9_failAt 4 = .ok (.ifCond .ne 13, 3) := by decide +kernel
theorem dX9_failAt_7 : decode cX9_failAt 7 = .ok (.aload_n 0, 1) := by decide +kernel
theorem dX9_failAt_8 : decode cX9_failAt 8 = .ok (.iload_n 1, 1) := by decide +kernel
theorem dX9_failAt_9 : decode cX9_failAt 9 = .ok (.putfield 45, 3) := by decide +kernel
theorem dX9_failAt_12 : decode cX9_failAt 12 = .ok (.aload_n 0, 1) := by decide +kernel
theorem dX9_failAt_13 : decode cX9_failAt 13 = .ok (.iload_n 2, 1) := by decide +kernel
theorem dX9_failAt_14 : decode cX9_failAt 14 = .ok (.putfield 48, 3) := by decide +kernel
theorem dX9_failAt_17 : decode cX9_failAt 17 = .ok (.aload_n 0, 1) := by decide +kernel
theorem dX9_failAt_18 : decode cX9_failAt 18 = .ok (.iconst 0, 1) := by decide +kernel
theorem dX9_failAt_19 : decode cX9_failAt 19 = .ok (.putfield 77, 3) := by decide +kernel
theorem dX9_failAt_22 : decode cX9_failAt 22 = .ok (.return_, 1) := by decide +kernel
def fX9_failAt_17 (N n : Nat) (f : zF) (a0 : Nat) : Option zF :=
    ((zpI n f 9 a0 5 (0 : Int32)).bind fun f2 => some f2)
set_option maxRecDepth 100000 in
set_option maxHeartbeats 4000000 in
theorem gX9_failAt_17 (l : Launch) {G : zG} {p : Program} {e : Env} {s : State} {m : MethodId} {args : Array Value} {below : List Frame} {meth : Method} {c : Code} {N n : Nat} {f9 : zF} (B : zB G p s m args meth c RX9 cX9_failAt 3 (none)) : ∀ (f : zF) (a0 : Nat) (H : Heap) (locs : List Loc) (ls : Array Slot), fX9_failAt_17 N n f a0 = some f9 → zS G n f H locs → lv_has ls 3 [(0, zr G a0)] → W p l e (zrm 0) s m args below meth c H locs 0 0 (MQ below (zQc G n f9 (none)) args s 0 0 (zA G)) (F0 m 17 ls []) := by
  have he := B.1
  have hb := B.2.1
  intro f a0 H locs ls h hS hl
  unfold fX9_failAt_17 at h
  refine z_aload_n he hb dX9_failAt_17 rfl (lv_at hl 0 rfl) (zref_r _ _) ?_
  refine lv_iconst (v := (0 : Int32)) he hb dX9_failAt_18 (by decide) ?_
  obtain ⟨f2, hx, h⟩ := zob h
  refine z_putI (ci := 9) (T := TX9) (N := 12) (j := 5) B hS hx rfl zin_X9 tyX9 tyX9_ok nmX9 (by decide) zk_102 rfl rfl dX9_failAt_19 (fun H locs hS => ?_)
  obtain rfl := Option.some.inj h
  exact z_vret B hS dX9_failAt_22
def fX9_failAt (N n : Nat) (f : zF) (a0 : Nat) (a1 : Int32) (a2 : Int32) : Option zF :=
    ((zgI n f 9 a0 10).bind fun x1 => (if x1 = 0 then ((zpI n f 9 a0 10 a1).bind fun f3 => ((zpI n f3 9 a0 11 a2).bind fun f4 => (fX9_failAt_17 N n f4 a0))) else (fX9_failAt_17 N n f a0)))
set_option maxRecDepth 100000 in
set_option maxHeartbeats 4000000 in
theorem mX9_failAt (l : Launch) (G : zG) {N n : Nat} {f : zF} {f9 : zF} {a0 : Nat} {a1 : Int32} {a2 : Int32} (h : fX9_failAt N n f a0 a1 a2 = some f9) : zM l G yX9_failAt cX9_failAt 3 (none) 0 n f [zr G a0, .int a1, .int a2] (none) f9 := by
  refine zM.of (by decide) (Nat.le_of_ble_eq_true rfl) ?_
  intro p e s m args below meth c locs ls B hS hl
  have he := B.1
  have hb := B.2.1
  have hl : lv_has ls 3 [(0, zr G a0), (1, .int a1), (2, .int a2)] := hl
  unfold fX9_failAt at h
  generalize s.heap = H at hS ⊢
  refine z_aload_n he hb dX9_failAt_0 rfl (lv_at hl 0 rfl) (zref_r _ _) ?_
  obtain ⟨x1, hx, h⟩ := zob h
  refine z_getI (ci := 9) (T := TX9) (N := 12) (j := 10) B hS hx rfl zin_X9 (by decide) zk_113 dX9_failAt_1 ?_
  refine lv_if_ne (tgt := 17) he hb dX9_failAt_4 (by decide) (fun hc => ?_) (fun hc => ?_)
  · rw [if_neg hc] at h
    exact gX9_failAt_17 l B _ _ _ _ _ h hS (lv_sub hl [0] rfl)
  · rw [if_pos hc] at h
    refine z_aload_n he hb dX9_failAt_7 rfl (lv_at hl 0 rfl) (zref_r _ _) ?_
    refine lv_iload_n he hb dX9_failAt_8 rfl (lv_at hl 1 rfl) ?_
    obtain ⟨f3, hx, h⟩ := zob h
    refine z_putI (ci := 9) (T := TX9) (N := 12) (j := 10) B hS hx rfl zin_X9 tyX9 tyX9_ok nmX9 (by decide) zk_113 rfl rfl dX9_failAt_9 (fun H locs hS => ?_)
    refine z_aload_n he hb dX9_failAt_12 rfl (lv_at hl 0 rfl) (zref_r _ _) ?_
    refine lv_iload_n he hb dX9_failAt_13 rfl (lv_at hl 2 rfl) ?_
    obtain ⟨f4, hx, h⟩ := zob h
    refine z_putI (ci := 9) (T := TX9) (N := 12) (j := 11) B hS hx rfl zin_X9 tyX9 tyX9_ok nmX9 (by decide) zk_115 rfl rfl dX9_failAt_14 (fun H locs hS => ?_)
    exact gX9_failAt_17 l B _ _ _ _ _ h hS (lv_sub hl [0] rfl)
theorem dX9_fail_0 : decode cX9_fail 0 = .ok (.aload_n 0, 1) := by decide +kernel
theorem dX9_fail_1 : decode cX9_fail 1 = .ok (.iload_n 1, 1) := by decide +kernel
theorem dX9_fail_2 : decode cX9_fail 2 = .ok (.aload_n 0, 1) := by decide +kernel
theorem dX9_fail_3 : decode cX9_fail 3 = .ok (.getfield 51, 3) := by decide +kernel
theorem dX9_fail_6 : decode cX9_fail 6 = .ok (.invokevirtual 94, 3) := by decide +kernel
theorem dX9_fail_9 : decode cX9_fail 9 = .ok (.return_, 1) := by decide +kernel
def fX9_fail (N n : Nat) (f : zF) (a0 : Nat) (a1 : Int32) : Option zF :=
    ((zgI n f 9 a0 6).bind fun x1 => ((zck n f 9 a0).bind fun _ => ((fX9_failAt N n f a0 a1 x1).bind fun f2 => some f2)))
set_option maxRecDepth 100000 in
set_option maxHeartbeats 4000000 in
theorem mX9_fail (l : Launch) (G : zG) {N n : Nat} {f : zF} {f9 : zF} {a0 : Nat} {a1 : Int32} (h : fX9_fail N n f a0 a1 = some f9) : zM l G yX9_fail cX9_fail 2 (none) 1 n f [zr G a0, .int a1] (none) f9 := by
  refine zM.of (by decide) (Nat.le_of_ble_eq_true rfl) ?_
  intro p e s m args below meth c locs ls B hS hl
  have he := B.1
  have hb := B.2.1
  have hl : lv_has ls 2 [(0, zr G a0), (1, .int a1)] := hl
  unfold fX9_fail at h
  generalize s.heap = H at hS ⊢
  refine z_aload_n he hb dX9_fail_0 rfl (lv_at hl 0 rfl) (zref_r _ _) ?_
  refine lv_iload_n he hb dX9_fail_1 rfl (lv_at hl 1 rfl) ?_
  refine z_aload_n he hb dX9_fail_2 rfl (lv_at hl 0 rfl) (zref_r _ _) ?_
  obtain ⟨x1, hx, h⟩ := zob h
  refine z_getI (ci := 9) (T := TX9) (N := 12) (j := 6) B hS hx rfl zin_X9 (by decide) zk_103 dX9_fail_3 ?_
  obtain ⟨_, hc, h⟩ := zob h
  obtain ⟨f2, hx, h⟩ := zob h
  refine z_callV (ci := 9) (T := TX9) (N := 12) (rest := []) B hS (mX9_failAt l G hx) zy_X9_failAt zk_615 (by decide) hc rfl rfl hl rfl (Nat.le_of_ble_eq_true rfl) dX9_fail_6 (kk := (fun H locs hS => ?_))
  obtain rfl := Option.some.inj h
  exact z_vret B hS dX9_fail_9
theorem dX9_goesOn_0 : decode cX9_goesOn 0 = .ok (.aload_n 0, 1) := by decide +kernel
theorem dX9_goesOn_1 : decode cX9_goesOn 1 = .ok (.getfield 77, 3) := by decide +kernel
theorem dX9_goesOn_4 : decode cX9_goesOn 4 = .ok (.iconst 1, 1) := by decide +kernel
theorem dX9_goesOn_5 : decode cX9_goesOn 5 = .ok (.if_icmp .ne 19, 3) := by decide +kernel
theorem dX9_goesOn_8 : decode cX9_goesOn 8 = .ok (.aload_n 0, 1) := by decide +kernel
theorem dX9_goesOn_9 : decode cX9_goesOn 9 = .ok (.getfield 35, 3) := by decide +kernel
theorem dX9_goesOn_12 : decode cX9_goesOn 12 = .ok (.aload_n 0, 1) := by decide +kernel
theorem dX9_goesOn_13 : decode cX9_goesOn 13 = .ok (.getfield 39, 3) := by decide +kernel
theorem dX9_goesOn_16 : decode cX9_goesOn 16 = .ok (.if_icmp .le 8, 3) := by decide +kernel
theorem dX9_goesOn_19 : decode cX9_goesOn 19 = .ok (.aload_n 0, 1) := by decide +kernel
theorem dX9_goesOn_20 : decode cX9_goesOn 20 = .ok (.iconst 1, 1) := by decide +kernel
theorem dX9_goesOn_21 : decode cX9_goesOn 21 = .ok (.invokevirtual 98, 3) := by decide +kernel
theorem dX9_goesOn_24 : decode cX9_goesOn 24 = .ok (.aload_n 0, 1) := by decide +kernel
theorem dX9_goesOn_25 : decode cX9_goesOn 25 = .ok (.getfield 77, 3) := by decide +kernel
theorem dX9_goesOn_28 : decode cX9_goesOn 28 = .ok (.iconst 1, 1) := by decide +kernel
theorem dX9_goesOn_29 : decode cX9_goesOn 29 = .ok (.if_icmp .eq 14, 3) := by decide +kernel
theorem dX9_goesOn_32 : decode cX9_goesOn 32 = .ok (.aload_n 0, 1) := by decide +kernel
theorem dX9_goesOn_33 : decode cX9_goesOn 33 = .ok (.getfield 45, 3) := by decide +kernel
theorem dX9_goesOn_36 : decode cX9_goesOn 36 = .ok (.ifCond .ne 7, 3) := by decide +kernel
theorem dX9_goesOn_39 : decode cX9_goesOn 39 = .ok (.iconst 1, 1) := by decide +kernel
theorem dX9_goesOn_40 : decode cX9_goesOn 40 = .ok (.goto 4, 3) := by decide +kernel
theorem dX9_goesOn_43 : decode cX9_goesOn 43 = .ok (.iconst 0, 1) := by decide +kernel
theorem dX9_goesOn_44 : decode cX9_goesOn 44 = .ok (.ireturn, 1) := by decide +kernel
def fX9_goesOn_24 (N n : Nat) (f : zF) (a0 : Nat) : Option (zF × Int32) :=
    ((zgI n f 9 a0 5).bind fun x2 => (if x2 = (1 : Int32) then ((zbl (0 : Int32)).bind fun y => some (f, y)) else ((zgI n f 9 a0 10).bind fun x3 => (if x3 = 0 then ((zbl (1 : Int32)).bind fun y => some (f, y)) else ((zbl (0 : Int32)).bind fun y => some (f, y))))))
set_option maxRecDepth 100000 in
set_option maxHeartbeats 4000000 in
theorem gX9_goesOn_24 (l : Launch) {G : zG} {p : Program} {e : Env} {s : State} {m : MethodId} {args : Array Value} {below : List Frame} {meth : Method} {c : Code} {N n : Nat} {f9 : zF} {r : Int32} (B : zB G p s m args meth c RX9 cX9_goesOn 1 (some .boolean)) : ∀ (f : zF) (a0 : Nat) (H : Heap) (locs : List Loc) (ls : Array Slot), fX9_goesOn_24 N n f a0 = some (f9, r) → zS G n f H locs → lv_has ls 1 [(0, zr G a0)] → W p l e (zrm 2) s m args below meth c H locs 0 0 (MQ below (zQc G n f9 (some (.int r))) args s 0 0 (zA G)) (F0 m 24 ls []) := by
  have he := B.1
  have hb := B.2.1
  intro f a0 H locs ls h hS hl
  unfold fX9_goesOn_24 at h
  refine z_aload_n he hb dX9_goesOn_24 rfl (lv_at hl 0 rfl) (zref_r _ _) ?_
  obtain ⟨x2, hx, h⟩ := zob h
  refine z_getI (ci := 9) (T := TX9) (N := 12) (j := 5) B hS hx rfl zin_X9 (by decide) zk_102 dX9_goesOn_25 ?_
  refine lv_iconst (v := (1 : Int32)) he hb dX9_goesOn_28 (by decide) ?_
  refine lv_icmp_eq (tgt := 43) he hb dX9_goesOn_29 (by decide) (fun hc => ?_) (fun hc => ?_)
  · rw [if_pos hc] at h
    refine lv_iconst (v := (0 : Int32)) he hb dX9_goesOn_43 (by decide) ?_
    obtain ⟨y, hx, h⟩ := zob h
    obtain ⟨hz, rfl⟩ := zbl_i hx
    obtain ⟨rfl, rfl⟩ := Prod.mk.inj (Option.some.inj h)
    exact z_zret B hS hz dX9_goesOn_44
  · rw [if_neg hc] at h
    refine z_aload_n he hb dX9_goesOn_32 rfl (lv_at hl 0 rfl) (zref_r _ _) ?_
    obtain ⟨x3, hx, h⟩ := zob h
    refine z_getI (ci := 9) (T := TX9) (N := 12) (j := 10) B hS hx rfl zin_X9 (by decide) zk_113 dX9_goesOn_33 ?_
    refine lv_if_ne (tgt := 43) he hb dX9_goesOn_36 (by decide) (fun hc => ?_) (fun hc => ?_)
    · rw [if_neg hc] at h
      refine lv_iconst (v := (0 : Int32)) he hb dX9_goesOn_43 (by decide) ?_
      obtain ⟨y, hx, h⟩ := zob h
      obtain ⟨hz, rfl⟩ := zbl_i hx
      obtain ⟨rfl, rfl⟩ := Prod.mk.inj (Option.some.inj h)
      exact z_zret B hS hz dX9_goesOn_44
    · rw [if_pos hc] at h
      refine lv_iconst (v := (1 : Int32)) he hb dX9_goesOn_39 (by decide) ?_
      refine lv_goto (tgt := 44) he hb dX9_goesOn_40 (by decide) ?_
      obtain ⟨y, hx, h⟩ := zob h
      obtain ⟨hz, rfl⟩ := zbl_i hx
      obtain ⟨rfl, rfl⟩ := Prod.mk.inj (Option.some.inj h)
      exact z_zret B hS hz dX9_goesOn_44
def fX9_goesOn (N n : Nat) (f : zF) (a0 : Nat) : Option (zF × Int32) :=
    ((zgI n f 9 a0 5).bind fun x1 => (if x1 = (1 : Int32) then ((zgI n f 9 a0 2).bind fun x4 => ((zgI n f 9 a0 3).bind fun x5 => (if x4 ≤ x5 then (fX9_goesOn_24 N n f a0) else ((zck n f 9 a0).bind fun _ => ((fX9_fail N n f a0 (1 : Int32)).bind fun f6 => (fX9_goesOn_24 N n f6 a0)))))) else (fX9_goesOn_24 N n f a0)))
set_option maxRecDepth 100000 in
set_option maxHeartbeats 4000000 in
theorem mX9_goesOn (l : Launch) (G : zG) {N n : Nat} {f : zF} {f9 : zF} {r : Int32} {a0 : Nat} (h : fX9_goesOn N n f a0 = some (f9, r)) : zM l G yX9_goesOn cX9_goesOn 1 (some .boolean) 2 n f [zr G a0] (some (.int r)) f9 := by
  refine zM.of (by decide) (Nat.le_of_ble_eq_true rfl) ?_
  intro p e s m args below meth c locs ls B hS hl
  have he := B.1
  have hb := B.2.1
  have hl : lv_has ls 1 [(0, zr G a0)] := hl
  unfold fX9_goesOn at h
  generalize s.heap = H at hS ⊢
  refine z_aload_n he hb dX9_goesOn_0 rfl (lv_at hl 0 rfl) (zref_r _ _) ?_
  obtain ⟨x1, hx, h⟩ := zob h
  refine z_getI (ci := 9) (T := TX9) (N := 12) (j := 5) B hS hx rfl zin_X9 (by decide) zk_102 dX9_goesOn_1 ?_
  refine lv_iconst (v := (1 : Int32)) he hb dX9_goesOn_4 (by decide) ?_
  refine lv_icmp_ne (tgt := 24) he hb dX9_goesOn_5 (by decide) (fun hc => ?_) (fun hc => ?_)
  · rw [if_neg hc] at h
    exact gX9_goesOn_24 l B _ _ _ _ _ h hS (lv_sub hl [0] rfl)
  · rw [if_pos hc] at h
    refine z_aload_n he hb dX9_goesOn_8 rfl (lv_at hl 0 rfl) (zref_r _ _) ?_
    obtain ⟨x4, hx, h⟩ := zob h
    refine z_getI (ci := 9) (T := TX9) (N := 12) (j := 2) B hS hx rfl zin_X9 (by decide) zk_96 dX9_goesOn_9 ?_
    refine z_aload_n he hb dX9_goesOn_12 rfl (lv_at hl 0 rfl) (zref_r _ _) ?_
    obtain ⟨x5, hx, h⟩ := zob h
    refine z_getI (ci := 9) (T := TX9) (N := 12) (j := 3) B hS hx rfl zin_X9 (by decide) zk_97 dX9_goesOn_13 ?_
    refine lv_icmp_le (tgt := 24) he hb dX9_goesOn_16 (by decide) (fun hc => ?_) (fun hc => ?_)
    · rw [if_pos hc] at h
      exact gX9_goesOn_24 l B _ _ _ _ _ h hS (lv_sub hl [0] rfl)
    · rw [if_neg hc] at h
      refine z_aload_n he hb dX9_goesOn_19 rfl (lv_at hl 0 rfl) (zref_r _ _) ?_
      refine lv_iconst (v := (1 : Int32)) he hb dX9_goesOn_20 (by decide) ?_
      obtain ⟨_, hc, h⟩ := zob h
      obtain ⟨f6, hx, h⟩ := zob h
      refine z_callV (ci := 9) (T := TX9) (N := 12) (rest := []) B hS (mX9_fail l G hx) zy_X9_fail zk_611 (by decide) hc rfl rfl hl rfl (Nat.le_of_ble_eq_true rfl) dX9_goesOn_21 (kk := (fun H locs hS => ?_))
      exact gX9_goesOn_24 l B _ _ _ _ _ h hS (lv_sub hl [0] rfl)
theorem dX9_isWord_0 : decode cX9_isWord 0 = .ok (.aload_n 0, 1) := by decide +kernel
theorem dX9_isWord_1 : decode cX9_isWord 1 = .ok (.getfield 77, 3) := by decide +kernel
theorem dX9_isWord_4 : decode cX9_isWord 4 = .ok (.iconst 2, 1) := by decide +kernel
theorem dX9_isWord_5 : decode cX9_isWord 5 = .ok (.if_icmp .ne 15, 3) := by decide +kernel
theorem dX9_isWord_8 : decode cX9_isWord 8 = .ok (.aload_n 0, 1) := by decide +kernel
theorem dX9_isWord_9 : decode cX9_isWord 9 = .ok (.getfield 74, 3) := by decide +kernel
theorem dX9_isWord_12 : decode cX9_isWord 12 = .ok (.iload_n 1, 1) := by decide +kernel
theorem dX9_isWord_13 : decode cX9_isWord 13 = .ok (.if_icmp .ne 7, 3) := by decide +kernel
theorem dX9_isWord_16 : decode cX9_isWord 16 = .ok (.iconst 1, 1) := by decide +kernel
theorem dX9_isWord_17 : decode cX9_isWord 17 = .ok (.goto 4, 3) := by decide +kernel
theorem dX9_isWord_20 : decode cX9_isWord 20 = .ok (.iconst 0, 1) := by decide +kernel
theorem dX9_isWord_21 : decode cX9_isWord 21 = .ok (.ireturn, 1) := by decide +kernel
def fX9_isWord (N n : Nat) (f : zF) (a0 : Nat) (a1 : Int32) : Option Int32 :=
    ((zgI n f 9 a0 5).bind fun x1 => (if x1 = (2 : Int32) then ((zgI n f 9 a0 8).bind fun x2 => (if x2 = a1 then zbl (1 : Int32) else zbl (0 : Int32))) else zbl (0 : Int32)))
set_option maxRecDepth 100000 in
set_option maxHeartbeats 4000000 in
theorem mX9_isWord (l : Launch) (G : zG) {N n : Nat} {f : zF} {r : Int32} {a0 : Nat} {a1 : Int32} (h : fX9_isWord N n f a0 a1 = some r) : zM l G yX9_isWord cX9_isWord 2 (some .boolean) 0 n f [zr G a0, .int a1] (some (.int r)) f := by
  refine zM.of (by decide) (Nat.le_of_ble_eq_true rfl) ?_
  intro p e s m args below meth c locs ls B hS hl
  have he := B.1
  have hb := B.2.1
  have hl : lv_has ls 2 [(0, zr G a0), (1, .int a1)] := hl
  unfold fX9_isWord at h
  generalize s.heap = H at hS ⊢
  refine z_aload_n he hb dX9_isWord_0 rfl (lv_at hl 0 rfl) (zref_r _ _) ?_
  obtain ⟨x1, hx, h⟩ := zob h
  refine z_getI (ci := 9) (T := TX9) (N := 12) (j := 5) B hS hx rfl zin_X9 (by decide) zk_102 dX9_isWord_1 ?_
  refine lv_iconst (v := (2 : Int32)) he hb dX9_isWord_4 (by decide) ?_
  refine lv_icmp_ne (tgt := 20) he hb dX9_isWord_5 (by decide) (fun hc => ?_) (fun hc => ?_)
  · rw [if_neg hc] at h
    refine lv_iconst (v := (0 : Int32)) he hb dX9_isWord_20 (by decide) ?_
    obtain ⟨hz, rfl⟩ := zbl_i h
    exact z_zret B hS hz dX9_isWord_21
  · rw [if_pos hc] at h
    refine z_aload_n he hb dX9_isWord_8 rfl (lv_at hl 0 rfl) (zref_r _ _) ?_
    obtain ⟨x2, hx, h⟩ := zob h
    refine z_getI (ci := 9) (T := TX9) (N := 12) (j := 8) B hS hx rfl zin_X9 (by decide) zk_108 dX9_isWord_9 ?_
    refine lv_iload_n he hb dX9_isWord_12 rfl (lv_at hl 1 rfl) ?_
    refine lv_icmp_ne (tgt := 20) he hb dX9_isWord_13 (by decide) (fun hc => ?_) (fun hc => ?_)
    · rw [if_neg hc] at h
      refine lv_iconst (v := (0 : Int32)) he hb dX9_isWord_20 (by decide) ?_
      obtain ⟨hz, rfl⟩ := zbl_i h
      exact z_zret B hS hz dX9_isWord_21
    · rw [if_pos hc] at h
      refine lv_iconst (v := (1 : Int32)) he hb dX9_isWord_16 (by decide) ?_
      refine lv_goto (tgt := 21) he hb dX9_isWord_17 (by decide) ?_
      obtain ⟨hz, rfl⟩ := zbl_i h
      exact z_zret B hS hz dX9_isWord_21
theorem dX9_needNumber_0 : decode cX9_needNumber 0 = .ok (.aload_n 0, 1) := by decide +kernel
theorem dX9_needNumber_1 : decode cX9_needNumber 1 = .ok (.getfield 77, 3) := by decide +kernel
theorem dX9_needNumber_4 : decode cX9_needNumber 4 = .ok (.iconst 4, 1) := by decide +kernel
theorem dX9_needNumber_5 : decode cX9_needNumber 5 = .ok (.if_icmp .eq 10, 3) := by decide +kernel
theorem dX9_needNumber_8 : decode cX9_needNumber 8 = .ok (.aload_n 0, 1) := by decide +kernel
theorem dX9_needNumber_9 : decode cX9_needNumber 9 = .ok (.iconst 1, 1) := by decide +kernel
theorem dX9_needNumber_10 : decode cX9_needNumber 10 = .ok (.invokevirtual 98, 3) := by decide +kernel
theorem dX9_needNumber_13 : decode cX9_needNumber 13 = .ok (.iload_n 1, 1) := by decide +kernel
theorem dX9_needNumber_14 : decode cX9_needNumber 14 = .ok (.ireturn, 1) := by decide +kernel
theorem dX9_needNumber_15 : decode cX9_needNumber 15 = .ok (.aload_n 0, 1) := by decide +kernel
theorem dX9_needNumber_16 : decode cX9_needNumber 16 = .ok (.getfield 74, 3) := by decide +kernel
theorem dX9_needNumber_19 : decode cX9_needNumber 19 = .ok (.iload_n 1, 1) := by decide +kernel
theorem dX9_needNumber_20 : decode cX9_needNumber 20 = .ok (.if_icmp .lt 11, 3) := by decide +kernel
theorem dX9_needNumber_23 : decode cX9_needNumber 23 = .ok (.aload_n 0, 1) := by decide +kernel
theorem dX9_needNumber_24 : decode cX9_needNumber 24 = .ok (.getfield 74, 3) := by decide +kernel
theorem dX9_needNumber_27 : decode cX9_needNumber 27 = .ok (.iload_n 2, 1) := by decide +kernel
theorem dX9_needNumber_28 : decode cX9_needNumber 28 = .ok (.if_icmp .le 10, 3) := by decide +kernel
theorem dX9_needNumber_31 : decode cX9_needNumber 31 = .ok (.aload_n 0, 1) := by decide +kernel
theorem dX9_needNumber_32 : decode cX9_needNumber 32 = .ok (.iconst 2, 1) := by decide +kernel
theorem dX9_needNumber_33 : decode cX9_needNumber 33 = .ok (.invokevirtual 98, 3) := by decide +kernel
theorem dX9_needNumber_36 : decode cX9_needNumber 36 = .ok (.iload_n 1, 1) := by decide +kernel
theorem dX9_needNumber_37 : decode cX9_needNumber 37 = .ok (.ireturn, 1) := by decide +kernel
theorem dX9_needNumber_38 : decode cX9_needNumber 38 = .ok (.aload_n 0, 1) := by decide +kernel
theorem dX9_needNumber_39 : decode cX9_needNumber 39 = .ok (.getfield 74, 3) := by decide +kernel
theorem dX9_needNumber_42 : decode cX9_needNumber 42 = .ok (.istore_n 3, 1) := by decide +kernel
theorem dX9_needNumber_43 : decode cX9_needNumber 43 = .ok (.aload_n 0, 1) := by decide +kernel
theorem dX9_needNumber_44 : decode cX9_needNumber 44 = .ok (.invokevirtual 54, 3) := by decide +kernel
theorem dX9_needNumber_47 : decode cX9_needNumber 47 = .ok (.iload_n 3, 1) := by decide +kernel
theorem dX9_needNumber_48 : decode cX9_needNumber 48 = .ok (.ireturn, 1) := by decide +kernel
def fX9_needNumber_31 (N n : Nat) (f : zF) (a0 : Nat) (a1 : Int32) : Option (zF × Int32) :=
    ((zck n f 9 a0).bind fun _ => ((fX9_fail N n f a0 (2 : Int32)).bind fun f3 => some (f3, a1)))
set_option maxRecDepth 100000 in
set_option maxHeartbeats 4000000 in
theorem gX9_needNumber_31 (l : Launch) {G : zG} {p : Program} {e : Env} {s : State} {m : MethodId} {args : Array Value} {below : List Frame} {meth : Method} {c : Code} {N n : Nat} {f9 : zF} {r : Int32} (B : zB G p s m args meth c RX9 cX9_needNumber 4 (some .int)) : ∀ (f : zF) (a0 : Nat) (a1 : Int32) (H : Heap) (locs : List Loc) (ls : Array Slot), fX9_needNumber_31 N n f a0 a1 = some (f9, r) → zS G n f H locs → lv_has ls 4 [(0, zr G a0), (1, .int a1)] → W p l e (zrm 2) s m args below meth c H locs 0 0 (MQ below (zQc G n f9 (some (.int r))) args s 0 0 (zA G)) (F0 m 31 ls []) := by
  have he := B.1
  have hb := B.2.1
  intro f a0 a1 H locs ls h hS hl
  unfold fX9_needNumber_31 at h
  refine z_aload_n he hb dX9_needNumber_31 rfl (lv_at hl 0 rfl) (zref_r _ _) ?_
  refine lv_iconst (v := (2 : Int32)) he hb dX9_needNumber_32 (by decide) ?_
  obtain ⟨_, hc, h⟩ := zob h
  obtain ⟨f3, hx, h⟩ := zob h
  refine z_callV (ci := 9) (T := TX9) (N := 12) (rest := []) B hS (mX9_fail l G hx) zy_X9_fail zk_611 (by decide) hc rfl rfl hl rfl (Nat.le_of_ble_eq_true rfl) dX9_needNumber_33 (kk := (fun H locs hS => ?_))
  refine lv_iload_n he hb dX9_needNumber_36 rfl (lv_at hl 1 rfl) ?_
  obtain ⟨rfl, rfl⟩ := Prod.mk.inj (Option.some.inj h)
  exact z_iret B hS dX9_needNumber_37
def fX9_needNumber (N n : Nat) (f : zF) (a0 : Nat) (a1 : Int32) (a2 : Int32) : Option (zF × Int32) :=
    ((zgI n f 9 a0 5).bind fun x1 => (if x1 = (4 : Int32) then ((zgI n f 9 a0 8).bind fun x2 => (if x2 < a1 then (fX9_needNumber_31 N n f a0 a1) else ((zgI n f 9 a0 8).bind fun x4 => (if x4 ≤ a2 then ((zgI n f 9 a0 8).bind fun x5 => ((zck n f 9 a0).bind fun _ => ((fX9_advance N n f a0).bind fun f6 => some (f6, x5)))) else (fX9_needNumber_31 N n f a0 a1))))) else ((zck n f 9 a0).bind fun _ => ((fX9_fail N n f a0 (1 : Int32)).bind fun f7 => some (f7, a1)))))
set_option maxRecDepth 100000 in
set_option maxHeartbeats 4000000 in
theorem mX9_needNumber (l : Launch) (G : zG) {N n : Nat} {f : zF} {f9 : zF} {r : Int32} {a0 : Nat} {a1 : Int32} {a2 : Int32} (h : fX9_needNumber N n f a0 a1 a2 = some (f9, r)) : zM l G yX9_needNumber cX9_needNumber 4 (some .int) 2 n f [zr G a0, .int a1, .int a2] (some (.int r)) f9 := by
  refine zM.of (by decide) (Nat.le_of_ble_eq_true rfl) ?_
  intro p e s m args below meth c locs ls B hS hl
  have he := B.1
  have hb := B.2.1
  have hl : lv_has ls 4 [(0, zr G a0), (1, .int a1), (2, .int a2)] := hl
  unfold fX9_needNumber at h
  generalize s.heap = H at hS ⊢
  refine z_aload_n he hb dX9_needNumber_0 rfl (lv_at hl 0 rfl) (zref_r _ _) ?_
  obtain ⟨x1, hx, h⟩ := zob h
  refine z_getI (ci := 9) (T := TX9) (N := 12) (j := 5) B hS hx rfl zin_X9 (by decide) zk_102 dX9_needNumber_1 ?_
  refine lv_iconst (v := (4 : Int32)) he hb dX9_needNumber_4 (by decide) ?_
  refine lv_icmp_eq (tgt := 15) he hb dX9_needNumber_5 (by decide) (fun hc => ?_) (fun hc => ?_)
  · rw [if_pos hc] at h
    refine z_aload_n he hb dX9_needNumber_15 rfl (lv_at hl 0 rfl) (zref_r _ _) ?_
    obtain ⟨x2, hx, h⟩ := zob h
    refine z_getI (ci := 9) (T := TX9) (N := 12) (j := 8) B hS hx rfl zin_X9 (by decide) zk_108 dX9_needNumber_16 ?_
    refine lv_iload_n he hb dX9_needNumber_19 rfl (lv_at hl 1 rfl) ?_
    refine lv_icmp_lt (tgt := 31) he hb dX9_needNumber_20 (by decide) (fun hc => ?_) (fun hc => ?_)
    · rw [if_pos hc] at h
      exact gX9_needNumber_31 l B _ _ _ _ _ _ h hS (lv_sub hl [0, 1] rfl)
    · rw [if_neg hc] at h
      refine z_aload_n he hb dX9_needNumber_23 rfl (lv_at hl 0 rfl) (zref_r _ _) ?_
      obtain ⟨x4, hx, h⟩ := zob h
      refine z_getI (ci := 9) (T := TX9) (N := 12) (j := 8) B hS hx rfl zin_X9 (by decide) zk_108 dX9_needNumber_24 ?_
      refine lv_iload_n he hb dX9_needNumber_27 rfl (lv_at hl 2 rfl) ?_
      refine lv_icmp_le (tgt := 38) he hb dX9_needNumber_28 (by decide) (fun hc => ?_) (fun hc => ?_)
      · rw [if_pos hc] at h
        refine z_aload_n he hb dX9_needNumber_38 rfl (lv_at hl 0 rfl) (zref_r _ _) ?_
        obtain ⟨x5, hx, h⟩ := zob h
        refine z_getI (ci := 9) (T := TX9) (N := 12) (j := 8) B hS hx rfl zin_X9 (by decide) zk_108 dX9_needNumber_39 ?_
        refine lv_istore_n (lv' := [(3, _), (0, _), (1, _), (2, _)]) he hb dX9_needNumber_42 rfl hl (by decide) rfl (fun ls hl => ?_)
        refine z_aload_n he hb dX9_needNumber_43 rfl (lv_at hl 1 rfl) (zref_r _ _) ?_
        obtain ⟨_, hc, h⟩ := zob h
        obtain ⟨f6, hx, h⟩ := zob h
        refine z_callV (ci := 9) (T := TX9) (N := 12) (rest := []) B hS (mX9_advance l G hx) zy_X9_advance zk_583 (by decide) hc rfl rfl hl rfl (Nat.le_of_ble_eq_true rfl) dX9_needNumber_44 (kk := (fun H locs hS => ?_))
        refine lv_iload_n he hb dX9_needNumber_47 rfl (lv_at hl 0 rfl) ?_
        obtain ⟨rfl, rfl⟩ := Prod.mk.inj (Option.some.inj h)
        exact z_iret B hS dX9_needNumber_48
      · rw [if_neg hc] at h
        exact gX9_needNumber_31 l B _ _ _ _ _ _ h hS (lv_sub hl [0, 1] rfl)
  · rw [if_neg hc] at h
    refine z_aload_n he hb dX9_needNumber_8 rfl (lv_at hl 0 rfl) (zref_r _ _) ?_
    refine lv_iconst (v := (1 : Int32)) he hb dX9_needNumber_9 (by decide) ?_
    obtain ⟨_, hc, h⟩ := zob h
    obtain ⟨f7, hx, h⟩ := zob h
    refine z_callV (ci := 9) (T := TX9) (N := 12) (rest := []) B hS (mX9_fail l G hx) zy_X9_fail zk_611 (by decide) hc rfl rfl hl rfl (Nat.le_of_ble_eq_true rfl) dX9_needNumber_10 (kk := (fun H locs hS => ?_))
    refine lv_iload_n he hb dX9_needNumber_13 rfl (lv_at hl 1 rfl) ?_
    obtain ⟨rfl, rfl⟩ := Prod.mk.inj (Option.some.inj h)
    exact z_iret B hS dX9_needNumber_14
theorem dX9_takesWord_0 : decode cX9_takesWord 0 = .ok (.aload_n 0, 1) := by decide +kernel
theorem dX9_takesWord_1 : decode cX9_takesWord 1 = .ok (.iload_n 1, 1) := by decide +kernel
theorem dX9_takesWord_2 : decode cX9_takesWord 2 = .ok (.invokevirtual 102, 3) := by decide +kernel
theorem dX9_takesWord_5 : decode cX9_takesWord 5 = .ok (.istore_n 2, 1) := by decide +kernel
theorem dX9_takesWord_6 : decode cX9_takesWord 6 = .ok (.iload_n 2, 1) := by decide +kernel
theorem dX9_takesWord_7 : decode cX9_takesWord 7 = .ok (.ifCond .eq 7, 3) := by decide +kernel
theorem dX9_takesWord_10 : decode cX9_takesWord 10 = .ok (.aload_n 0, 1) := by decide +kernel
theorem dX9_takesWord_11 : decode cX9_takesWord 11 = .ok (.invokevirtual 54, 3) := by decide +kernel
theorem dX9_takesWord_14 : decode cX9_takesWord 14 = .ok (.iload_n 2, 1) := by decide +kernel
theorem dX9_takesWord_15 : decode cX9_takesWord 15 = .ok (.ireturn, 1) := by decide +kernel
def fX9_takesWord (N n : Nat) (f : zF) (a0 : Nat) (a1 : Int32) : Option (zF × Int32) :=
    ((zck n f 9 a0).bind fun _ => ((fX9_isWord N n f a0 a1).bind fun x1 => (if x1 = 0 then ((zbl x1).bind fun y => some (f, y)) else ((zck n f 9 a0).bind fun _ => ((fX9_advance N n f a0).bind fun f2 => ((zbl x1).bind fun y => some (f2, y)))))))
set_option maxRecDepth 100000 in
set_option maxHeartbeats 4000000 in
theorem mX9_takesWord (l : Launch) (G : zG) {N n : Nat} {f : zF} {f9 : zF} {r : Int32} {a0 : Nat} {a1 : Int32} (h : fX9_takesWord N n f a0 a1 = some (f9, r)) : zM l G yX9_takesWord cX9_takesWord 3 (some .boolean) 2 n f [zr G a0, .int a1] (some (.int r)) f9 := by
  refine zM.of (by decide) (Nat.le_of_ble_eq_true rfl) ?_
  intro p e s m args below meth c locs ls B hS hl
  have he := B.1
  have hb := B.2.1
  have hl : lv_has ls 3 [(0, zr G a0), (1, .int a1)] := hl
  unfold fX9_takesWord at h
  generalize s.heap = H at hS ⊢
  refine z_aload_n he hb dX9_takesWord_0 rfl (lv_at hl 0 rfl) (zref_r _ _) ?_
  refine lv_iload_n he hb dX9_takesWord_1 rfl (lv_at hl 1 rfl) ?_
  obtain ⟨_, hc, h⟩ := zob h
  obtain ⟨x1, hx, h⟩ := zob h
  refine z_callV (ci := 9) (T := TX9) (N := 12) (rest := []) B hS (mX9_isWord l G hx) zy_X9_isWord zk_1111 (by decide) hc rfl rfl hl rfl (Nat.le_of_ble_eq_true rfl) dX9_takesWord_2 (kk := (fun H locs hS => ?_))
  refine lv_istore_n (lv' := [(2, _), (0, _), (1, _)]) he hb dX9_takesWord_5 rfl hl (by decide) rfl (fun ls hl => ?_)
  refine lv_iload_n he hb dX9_takesWord_6 rfl (lv_at hl 0 rfl) ?_
  refine lv_if_eq (tgt := 14) he hb dX9_takesWord_7 (by decide) (fun hc => ?_) (fun hc => ?_)
  · rw [if_pos hc] at h
    refine lv_iload_n he hb dX9_takesWord_14 rfl (lv_at hl 0 rfl) ?_
    obtain ⟨y, hx, h⟩ := zob h
    obtain ⟨hz, rfl⟩ := zbl_i hx
    obtain ⟨rfl, rfl⟩ := Prod.mk.inj (Option.some.inj h)
    exact z_zret B hS hz dX9_takesWord_15
  · rw [if_neg hc] at h
    refine z_aload_n he hb dX9_takesWord_10 rfl (lv_at hl 1 rfl) (zref_r _ _) ?_
    obtain ⟨_, hc, h⟩ := zob h
    obtain ⟨f2, hx, h⟩ := zob h
    refine z_callV (ci := 9) (T := TX9) (N := 12) (rest := []) B hS (mX9_advance l G hx) zy_X9_advance zk_583 (by decide) hc rfl rfl hl rfl (Nat.le_of_ble_eq_true rfl) dX9_takesWord_11 (kk := (fun H locs hS => ?_))
    refine lv_iload_n he hb dX9_takesWord_14 rfl (lv_at hl 0 rfl) ?_
    obtain ⟨y, hx, h⟩ := zob h
    obtain ⟨hz, rfl⟩ := zbl_i hx
    obtain ⟨rfl, rfl⟩ := Prod.mk.inj (Option.some.inj h)
    exact z_zret B hS hz dX9_takesWord_15
theorem dX9_needSide_0 : decode cX9_needSide 0 = .ok (.aload_n 0, 1) := by decide +kernel
theorem dX9_needSide_1 : decode cX9_needSide 1 = .ok (.getfield 77, 3) := by decide +kernel
theorem dX9_needSide_4 : decode cX9_needSide 4 = .ok (.iconst 2, 1) := by decide +kernel
theorem dX9_needSide_5 : decode cX9_needSide 5 = .ok (.if_icmp .ne 13, 3) := by decide +kernel
theorem dX9_needSide_8 : decode cX9_needSide 8 = .ok (.aload_n 0, 1) := by decide +kernel
theorem dX9_needSide_9 : decode cX9_needSide 9 = .ok (.getfield 74, 3) := by decide +kernel
theorem dX9_needSide_12 : decode cX9_needSide 12 = .ok (.invokestatic 108, 3) := by decide +kernel
theorem dX9_needSide_15 : decode cX9_needSide 15 = .ok (.ifCond .ne 10, 3) := by decide +kernel
theorem dX9_needSide_18 : decode cX9_needSide 18 = .ok (.aload_n 0, 1) := by decide +kernel
theorem dX9_needSide_19 : decode cX9_needSide 19 = .ok (.iconst 1, 1) := by decide +kernel
theorem dX9_needSide_20 : decode cX9_needSide 20 = .ok (.invokevirtual 98, 3) := by decide +kernel
theorem dX9_needSide_23 : decode cX9_needSide 23 = .ok (.iconst 0, 1) := by decide +kernel
theorem dX9_needSide_24 : decode cX9_needSide 24 = .ok (.ireturn, 1) := by decide +kernel
theorem dX9_needSide_25 : decode cX9_needSide 25 = .ok (.aload_n 0, 1) := by decide +kernel
theorem dX9_needSide_26 : decode cX9_needSide 26 = .ok (.getfield 74, 3) := by decide +kernel
theorem dX9_needSide_29 : decode cX9_needSide 29 = .ok (.istore_n 1, 1) := by decide +kernel
theorem dX9_needSide_30 : decode cX9_needSide 30 = .ok (.aload_n 0, 1) := by decide +kernel
theorem dX9_needSide_31 : decode cX9_needSide 31 = .ok (.invokevirtual 54, 3) := by decide +kernel
theorem dX9_needSide_34 : decode cX9_needSide 34 = .ok (.iload_n 1, 1) := by decide +kernel
theorem dX9_needSide_35 : decode cX9_needSide 35 = .ok (.ireturn, 1) := by decide +kernel
def fX9_needSide_18 (N n : Nat) (f : zF) (a0 : Nat) : Option (zF × Int32) :=
    ((zck n f 9 a0).bind fun _ => ((fX9_fail N n f a0 (1 : Int32)).bind fun f2 => some (f2, (0 : Int32))))
set_option maxRecDepth 100000 in
set_option maxHeartbeats 4000000 in
theorem gX9_needSide_18 (l : Launch) {G : zG} {p : Program} {e : Env} {s : State} {m : MethodId} {args : Array Value} {below : List Frame} {meth : Method} {c : Code} {N n : Nat} {f9 : zF} {r : Int32} (B : zB G p s m args meth c RX9 cX9_needSide 2 (some .int)) : ∀ (f : zF) (a0 : Nat) (H : Heap) (locs : List Loc) (ls : Array Slot), fX9_needSide_18 N n f a0 = some (f9, r) → zS G n f H locs → lv_has ls 2 [(0, zr G a0)] → W p l e (zrm 2) s m args below meth c H locs 0 0 (MQ below (zQc G n f9 (some (.int r))) args s 0 0 (zA G)) (F0 m 18 ls []) := by
  have he := B.1
  have hb := B.2.1
  intro f a0 H locs ls h hS hl
  unfold fX9_needSide_18 at h
  refine z_aload_n he hb dX9_needSide_18 rfl (lv_at hl 0 rfl) (zref_r _ _) ?_
  refine lv_iconst (v := (1 : Int32)) he hb dX9_needSide_19 (by decide) ?_
  obtain ⟨_, hc, h⟩ := zob h
  obtain ⟨f2, hx, h⟩ := zob h
  refine z_callV (ci := 9) (T := TX9) (N := 12) (rest := []) B hS (mX9_fail l G hx) zy_X9_fail zk_611 (by decide) hc rfl rfl hl rfl (Nat.le_of_ble_eq_true rfl) dX9_needSide_20 (kk := (fun H locs hS => ?_))
  refine lv_iconst (v := (0 : Int32)) he hb dX9_needSide_23 (by decide) ?_
  obtain ⟨rfl, rfl⟩ := Prod.mk.inj (Option.some.inj h)
  exact z_iret B hS dX9_needSide_24
def fX9_needSide (N n : Nat) (f : zF) (a0 : Nat) : Option (zF × Int32) :=
    ((zgI n f 9 a0 5).bind fun x1 => (if x1 = (2 : Int32) then ((zgI n f 9 a0 8).bind fun x3 => ((fX11_isSide N n f x3).bind fun x4 => (if x4 = 0 then (fX9_needSide_18 N n f a0) else ((zgI n f 9 a0 8).bind fun x5 => ((zck n f 9 a0).bind fun _ => ((fX9_advance N n f a0).bind fun f6 => some (f6, x5))))))) else (fX9_needSide_18 N n f a0)))
set_option maxRecDepth 100000 in
set_option maxHeartbeats 4000000 in
theorem mX9_needSide (l : Launch) (G : zG) {N n : Nat} {f : zF} {f9 : zF} {r : Int32} {a0 : Nat} (h : fX9_needSide N n f a0 = some (f9, r)) : zM l G yX9_needSide cX9_needSide 2 (some .int) 2 n f [zr G a0] (some (.int r)) f9 := by
  refine zM.of (by decide) (Nat.le_of_ble_eq_true rfl) ?_
  intro p e s m args below meth c locs ls B hS hl
  have he := B.1
  have hb := B.2.1
  have hl : lv_has ls 2 [(0, zr G a0)] := hl
  unfold fX9_needSide at h
  generalize s.heap = H at hS ⊢
  refine z_aload_n he hb dX9_needSide_0 rfl (lv_at hl 0 rfl) (zref_r _ _) ?_
  obtain ⟨x1, hx, h⟩ := zob h
  refine z_getI (ci := 9) (T := TX9) (N := 12) (j := 5) B hS hx rfl zin_X9 (by decide) zk_102 dX9_needSide_1 ?_
  refine lv_iconst (v := (2 : Int32)) he hb dX9_needSide_4 (by decide) ?_
  refine lv_icmp_ne (tgt := 18) he hb dX9_needSide_5 (by decide) (fun hc => ?_) (fun hc => ?_)
  · rw [if_neg hc] at h
    exact gX9_needSide_18 l B _ _ _ _ _ h hS (lv_sub hl [0] rfl)
  · rw [if_pos hc] at h
    refine z_aload_n he hb dX9_needSide_8 rfl (lv_at hl 0 rfl) (zref_r _ _) ?_
    obtain ⟨x3, hx, h⟩ := zob h
    refine z_getI (ci := 9) (T := TX9) (N := 12) (j := 8) B hS hx rfl zin_X9 (by decide) zk_108 dX9_needSide_9 ?_
    obtain ⟨x4, hx, h⟩ := zob h
    refine z_callN (rest := []) B hS (mX11_isSide l G hx) zy_X11_isSide zkn_690 (by decide) rfl hl rfl (Nat.le_of_ble_eq_true rfl) dX9_needSide_12 (kk := (fun H locs hS => ?_))
    refine lv_if_ne (tgt := 25) he hb dX9_needSide_15 (by decide) (fun hc => ?_) (fun hc => ?_)
    · rw [if_neg hc] at h
      refine z_aload_n he hb dX9_needSide_25 rfl (lv_at hl 0 rfl) (zref_r _ _) ?_
      obtain ⟨x5, hx, h⟩ := zob h
      refine z_getI (ci := 9) (T := TX9) (N := 12) (j := 8) B hS hx rfl zin_X9 (by decide) zk_108 dX9_needSide_26 ?_
      refine lv_istore_n (lv' := [(1, _), (0, _)]) he hb dX9_needSide_29 rfl hl (by decide) rfl (fun ls hl => ?_)
      refine z_aload_n he hb dX9_needSide_30 rfl (lv_at hl 1 rfl) (zref_r _ _) ?_
      obtain ⟨_, hc, h⟩ := zob h
      obtain ⟨f6, hx, h⟩ := zob h
      refine z_callV (ci := 9) (T := TX9) (N := 12) (rest := []) B hS (mX9_advance l G hx) zy_X9_advance zk_583 (by decide) hc rfl rfl hl rfl (Nat.le_of_ble_eq_true rfl) dX9_needSide_31 (kk := (fun H locs hS => ?_))
      refine lv_iload_n he hb dX9_needSide_34 rfl (lv_at hl 0 rfl) ?_
      obtain ⟨rfl, rfl⟩ := Prod.mk.inj (Option.some.inj h)
      exact z_iret B hS dX9_needSide_35
    · rw [if_pos hc] at h
      exact gX9_needSide_18 l B _ _ _ _ _ h hS (lv_sub hl [0] rfl)
theorem dX9_isSign_0 : decode cX9_isSign 0 = .ok (.aload_n 0, 1) := by decide +kernel
theorem dX9_isSign_1 : decode cX9_isSign 1 = .ok (.getfield 77, 3) := by decide +kernel
theorem dX9_isSign_4 : decode cX9_isSign 4 = .ok (.iconst 5, 1) := by decide +kernel
theorem dX9_isSign_5 : decode cX9_isSign 5 = .ok (.if_icmp .ne 15, 3) := by decide +kernel
theorem dX9_isSign_8 : decode cX9_isSign 8 = .ok (.aload_n 0, 1) := by decide +kernel
theorem dX9_isSign_9 : decode cX9_isSign 9 = .ok (.getfield 74, 3) := by decide +kernel
theorem dX9_isSign_12 : decode cX9_isSign 12 = .ok (.iload_n 1, 1) := by decide +kernel
theorem dX9_isSign_13 : decode cX9_isSign 13 = .ok (.if_icmp .ne 7, 3) := by decide +kernel
theorem dX9_isSign_16 : decode cX9_isSign 16 = .ok (.iconst 1, 1) := by decide +kernel
theorem dX9_isSign_17 : decode cX9_isSign 17 = .ok (.goto 4, 3) := by decide +kernel
theorem dX9_isSign_20 : decode cX9_isSign 20 = .ok (.iconst 0, 1) := by decide +kernel
theorem dX9_isSign_21 : decode cX9_isSign 21 = .ok (.ireturn, 1) := by decide +kernel
def fX9_isSign (N n : Nat) (f : zF) (a0 : Nat) (a1 : Int32) : Option Int32 :=
    ((zgI n f 9 a0 5).bind fun x1 => (if x1 = (5 : Int32) then ((zgI n f 9 a0 8).bind fun x2 => (if x2 = a1 then zbl (1 : Int32) else zbl (0 : Int32))) else zbl (0 : Int32)))
set_option maxRecDepth 100000 in
set_option maxHeartbeats 4000000 in
theorem mX9_isSign (l : Launch) (G : zG) {N n : Nat} {f : zF} {r : Int32} {a0 : Nat} {a1 : Int32} (h : fX9_isSign N n f a0 a1 = some r) : zM l G yX9_isSign cX9_isSign 2 (some .boolean) 0 n f [zr G a0, .int a1] (some (.int r)) f := by
  refine zM.of (by decide) (Nat.le_of_ble_eq_true rfl) ?_
  intro p e s m args below meth c locs ls B hS hl
  have he := B.1
  have hb := B.2.1
  have hl : lv_has ls 2 [(0, zr G a0), (1, .int a1)] := hl
  unfold fX9_isSign at h
  generalize s.heap = H at hS ⊢
  refine z_aload_n he hb dX9_isSign_0 rfl (lv_at hl 0 rfl) (zref_r _ _) ?_
  obtain ⟨x1, hx, h⟩ := zob h
  refine z_getI (ci := 9) (T := TX9) (N := 12) (j := 5) B hS hx rfl zin_X9 (by decide) zk_102 dX9_isSign_1 ?_
  refine lv_iconst (v := (5 : Int32)) he hb dX9_isSign_4 (by decide) ?_
  refine lv_icmp_ne (tgt := 20) he hb dX9_isSign_5 (by decide) (fun hc => ?_) (fun hc => ?_)
  · rw [if_neg hc] at h
    refine lv_iconst (v := (0 : Int32)) he hb dX9_isSign_20 (by decide) ?_
    obtain ⟨hz, rfl⟩ := zbl_i h
    exact z_zret B hS hz dX9_isSign_21
  · rw [if_pos hc] at h
    refine z_aload_n he hb dX9_isSign_8 rfl (lv_at hl 0 rfl) (zref_r _ _) ?_
    obtain ⟨x2, hx, h⟩ := zob h
    refine z_getI (ci := 9) (T := TX9) (N := 12) (j := 8) B hS hx rfl zin_X9 (by decide) zk_108 dX9_isSign_9 ?_
    refine lv_iload_n he hb dX9_isSign_12 rfl (lv_at hl 1 rfl) ?_
    refine lv_icmp_ne (tgt := 20) he hb dX9_isSign_13 (by decide) (fun hc => ?_) (fun hc => ?_)
    · rw [if_neg hc] at h
      refine lv_iconst (v := (0 : Int32)) he hb dX9_isSign_20 (by decide) ?_
      obtain ⟨hz, rfl⟩ := zbl_i h
      exact z_zret B hS hz dX9_isSign_21
    · rw [if_pos hc] at h
      refine lv_iconst (v := (1 : Int32)) he hb dX9_isSign_16 (by decide) ?_
      refine lv_goto (tgt := 21) he hb dX9_isSign_17 (by decide) ?_
      obtain ⟨hz, rfl⟩ := zbl_i h
      exact z_zret B hS hz dX9_isSign_21
theorem dX9_needSign_0 : decode cX9_needSign 0 = .ok (.aload_n 0, 1) := by decide +kernel
theorem dX9_needSign_1 : decode cX9_needSign 1 = .ok (.iload_n 1, 1) := by decide +kernel
theorem dX9_needSign_2 : decode cX9_needSign 2 = .ok (.invokevirtual 105, 3) := by decide +kernel
theorem dX9_needSign_5 : decode cX9_needSign 5 = .ok (.ifCond .eq 10, 3) := by decide +kernel
theorem dX9_needSign_8 : decode cX9_needSign 8 = .ok (.aload_n 0, 1) := by decide +kernel
theorem dX9_needSign_9 : decode cX9_needSign 9 = .ok (.invokevirtual 54, 3) := by decide +kernel
theorem dX9_needSign_12 : decode cX9_needSign 12 = .ok (.goto 8, 3) := by decide +kernel
theorem dX9_needSign_15 : decode cX9_needSign 15 = .ok (.aload_n 0, 1) := by decide +kernel
theorem dX9_needSign_16 : decode cX9_needSign 16 = .ok (.iconst 1, 1) := by decide +kernel
theorem dX9_needSign_17 : decode cX9_needSign 17 = .ok (.invokevirtual 98, 3) := by decide +kernel
theorem dX9_needSign_20 : decode cX9_needSign 20 = .ok (.return_, 1) := by decide +kernel
def fX9_needSign (N n : Nat) (f : zF) (a0 : Nat) (a1 : Int32) : Option zF :=
    ((zck n f 9 a0).bind fun _ => ((fX9_isSign N n f a0 a1).bind fun x1 => (if x1 = 0 then ((zck n f 9 a0).bind fun _ => ((fX9_fail N n f a0 (1 : Int32)).bind fun f2 => some f2)) else ((zck n f 9 a0).bind fun _ => ((fX9_advance N n f a0).bind fun f3 => some f3)))))
set_option maxRecDepth 100000 in
set_option maxHeartbeats 4000000 in
theorem mX9_needSign (l : Launch) (G : zG) {N n : Nat} {f : zF} {f9 : zF} {a0 : Nat} {a1 : Int32} (h : fX9_needSign N n f a0 a1 = some f9) : zM l G yX9_needSign cX9_needSign 2 (none) 2 n f [zr G a0, .int a1] (none) f9 := by
  refine zM.of (by decide) (Nat.le_of_ble_eq_true rfl) ?_
  intro p e s m args below meth c locs ls B hS hl
  have he := B.1
  have hb := B.2.1
  have hl : lv_has ls 2 [(0, zr G a0), (1, .int a1)] := hl
  unfold fX9_needSign at h
  generalize s.heap = H at hS ⊢
  refine z_aload_n he hb dX9_needSign_0 rfl (lv_at hl 0 rfl) (zref_r _ _) ?_
  refine lv_iload_n he hb dX9_needSign_1 rfl (lv_at hl 1 rfl) ?_
  obtain ⟨_, hc, h⟩ := zob h
  obtain ⟨x1, hx, h⟩ := zob h
  refine z_callV (ci := 9) (T := TX9) (N := 12) (rest := []) B hS (mX9_isSign l G hx) zy_X9_isSign zk_701 (by decide) hc rfl rfl hl rfl (Nat.le_of_ble_eq_true rfl) dX9_needSign_2 (kk := (fun H locs hS => ?_))
  refine lv_if_eq (tgt := 15) he hb dX9_needSign_5 (by decide) (fun hc => ?_) (fun hc => ?_)
  · rw [if_pos hc] at h
    refine z_aload_n he hb dX9_needSign_15 rfl (lv_at hl 0 rfl) (zref_r _ _) ?_
    refine lv_iconst (v := (1 : Int32)) he hb dX9_needSign_16 (by decide) ?_
    obtain ⟨_, hc, h⟩ := zob h
    obtain ⟨f2, hx, h⟩ := zob h
    refine z_callV (ci := 9) (T := TX9) (N := 12) (rest := []) B hS (mX9_fail l G hx) zy_X9_fail zk_611 (by decide) hc rfl rfl hl rfl (Nat.le_of_ble_eq_true rfl) dX9_needSign_17 (kk := (fun H locs hS => ?_))
    obtain rfl := Option.some.inj h
    exact z_vret B hS dX9_needSign_20
  · rw [if_neg hc] at h
    refine z_aload_n he hb dX9_needSign_8 rfl (lv_at hl 0 rfl) (zref_r _ _) ?_
    obtain ⟨_, hc, h⟩ := zob h
    obtain ⟨f3, hx, h⟩ := zob h
    refine z_callV (ci := 9) (T := TX9) (N := 12) (rest := []) B hS (mX9_advance l G hx) zy_X9_advance zk_583 (by decide) hc rfl rfl hl rfl (Nat.le_of_ble_eq_true rfl) dX9_needSign_9 (kk := (fun H locs hS => ?_))
    refine lv_goto (tgt := 20) he hb dX9_needSign_12 (by decide) ?_
    obtain rfl := Option.some.inj h
    exact z_vret B hS dX9_needSign_20
theorem dX9_needNameOf_0 : decode cX9_needNameOf 0 = .ok (.aload_n 0, 1) := by decide +kernel
theorem dX9_needNameOf_1 : decode cX9_needNameOf 1 = .ok (.getfield 77, 3) := by decide +kernel
theorem dX9_needNameOf_4 : decode cX9_needNameOf 4 = .ok (.iconst 3, 1) := by decide +kernel
theorem dX9_needNameOf_5 : decode cX9_needNameOf 5 = .ok (.if_icmp .ne 15, 3) := by decide +kernel
theorem dX9_needNameOf_8 : decode cX9_needNameOf 8 = .ok (.aload_n 1, 1) := by decide +kernel
theorem dX9_needNameOf_9 : decode cX9_needNameOf 9 = .ok (.iload_n 2, 1) := by decide +kernel
theorem dX9_needNameOf_10 : decode cX9_needNameOf 10 = .ok (.aload_n 0, 1) := by decide +kernel
theorem dX9_needNameOf_11 : decode cX9_needNameOf 11 = .ok (.getfield 86, 3) := by decide +kernel
theorem dX9_needNameOf_14 : decode cX9_needNameOf 14 = .ok (.invokestatic 90, 3) := by decide +kernel
theorem dX9_needNameOf_17 : decode cX9_needNameOf 17 = .ok (.goto 4, 3) := by decide +kernel
theorem dX9_needNameOf_20 : decode cX9_needNameOf 20 = .ok (.iconst (-1), 1) := by decide +kernel
theorem dX9_needNameOf_21 : decode cX9_needNameOf 21 = .ok (.istore_n 3, 1) := by decide +kernel
theorem dX9_needNameOf_22 : decode cX9_needNameOf 22 = .ok (.iload_n 3, 1) := by decide +kernel
theorem dX9_needNameOf_23 : decode cX9_needNameOf 23 = .ok (.iconst (-1), 1) := by decide +kernel
theorem dX9_needNameOf_24 : decode cX9_needNameOf 24 = .ok (.if_icmp .ne 22, 3) := by decide +kernel
theorem dX9_needNameOf_27 : decode cX9_needNameOf 27 = .ok (.aload_n 0, 1) := by decide +kernel
theorem dX9_needNameOf_28 : decode cX9_needNameOf 28 = .ok (.aload_n 0, 1) := by decide +kernel
theorem dX9_needNameOf_29 : decode cX9_needNameOf 29 = .ok (.getfield 77, 3) := by decide +kernel
theorem dX9_needNameOf_32 : decode cX9_needNameOf 32 = .ok (.iconst 3, 1) := by decide +kernel
theorem dX9_needNameOf_33 : decode cX9_needNameOf 33 = .ok (.if_icmp .ne 7, 3) := by decide +kernel
theorem dX9_needNameOf_36 : decode cX9_needNameOf 36 = .ok (.iconst 3, 1) := by decide +kernel
theorem dX9_needNameOf_37 : decode cX9_needNameOf 37 = .ok (.goto 4, 3) := by decide +kernel
theorem dX9_needNameOf_40 : decode cX9_needNameOf 40 = .ok (.iconst 1, 1) := by decide +kernel
theorem dX9_needNameOf_41 : decode cX9_needNameOf 41 = .ok (.invokevirtual 98, 3) := by decide +kernel
theorem dX9_needNameOf_44 : decode cX9_needNameOf 44 = .ok (.iconst 0, 1) := by decide +kernel
theorem dX9_needNameOf_45 : decode cX9_needNameOf 45 = .ok (.ireturn, 1) := by decide +kernel
theorem dX9_needNameOf_46 : decode cX9_needNameOf 46 = .ok (.aload_n 0, 1) := by decide +kernel
theorem dX9_needNameOf_47 : decode cX9_needNameOf 47 = .ok (.invokevirtual 54, 3) := by decide +kernel
theorem dX9_needNameOf_50 : decode cX9_needNameOf 50 = .ok (.iload_n 3, 1) := by decide +kernel
theorem dX9_needNameOf_51 : decode cX9_needNameOf 51 = .ok (.ireturn, 1) := by decide +kernel
def fX9_needNameOf_41 (N n : Nat) (f : zF) (t0 : Nat) (t1 : Int32) : Option (zF × Int32) :=
    ((zck n f 9 t0).bind fun _ => ((fX9_fail N n f t0 t1).bind fun f4 => some (f4, (0 : Int32))))
set_option maxRecDepth 100000 in
set_option maxHeartbeats 4000000 in
theorem gX9_needNameOf_41 (l : Launch) {G : zG} {p : Program} {e : Env} {s : State} {m : MethodId} {args : Array Value} {below : List Frame} {meth : Method} {c : Code} {N n : Nat} {f9 : zF} {r : Int32} (B : zB G p s m args meth c RX9 cX9_needNameOf 4 (some .int)) : ∀ (f : zF) (t0 : Nat) (t1 : Int32) (H : Heap) (locs : List Loc) (ls : Array Slot), fX9_needNameOf_41 N n f t0 t1 = some (f9, r) → zS G n f H locs → lv_has ls 4 [] → W p l e (zrm 2) s m args below meth c H locs 0 0 (MQ below (zQc G n f9 (some (.int r))) args s 0 0 (zA G)) (F0 m 41 ls [.int t1, zr G t0]) := by
  have he := B.1
  have hb := B.2.1
  intro f t0 t1 H locs ls h hS hl
  unfold fX9_needNameOf_41 at h
  obtain ⟨_, hc, h⟩ := zob h
  obtain ⟨f4, hx, h⟩ := zob h
  refine z_callV (ci := 9) (T := TX9) (N := 12) (rest := []) B hS (mX9_fail l G hx) zy_X9_fail zk_611 (by decide) hc rfl rfl hl rfl (Nat.le_of_ble_eq_true rfl) dX9_needNameOf_41 (kk := (fun H locs hS => ?_))
  refine lv_iconst (v := (0 : Int32)) he hb dX9_needNameOf_44 (by decide) ?_
  obtain ⟨rfl, rfl⟩ := Prod.mk.inj (Option.some.inj h)
  exact z_iret B hS dX9_needNameOf_45
def fX9_needNameOf_21 (N n : Nat) (f : zF) (a0 : Nat) (t0 : Int32) : Option (zF × Int32) :=
    (if t0 = (-1 : Int32) then ((zgI n f 9 a0 5).bind fun x3 => (if x3 = (3 : Int32) then (fX9_needNameOf_41 N n f a0 (3 : Int32)) else (fX9_needNameOf_41 N n f a0 (1 : Int32)))) else ((zck n f 9 a0).bind fun _ => ((fX9_advance N n f a0).bind fun f2 => some (f2, t0))))
set_option maxRecDepth 100000 in
set_option maxHeartbeats 4000000 in
theorem gX9_needNameOf_21 (l : Launch) {G : zG} {p : Program} {e : Env} {s : State} {m : MethodId} {args : Array Value} {below : List Frame} {meth : Method} {c : Code} {N n : Nat} {f9 : zF} {r : Int32} (B : zB G p s m args meth c RX9 cX9_needNameOf 4 (some .int)) : ∀ (f : zF) (a0 : Nat) (t0 : Int32) (H : Heap) (locs : List Loc) (ls : Array Slot), fX9_needNameOf_21 N n f a0 t0 = some (f9, r) → zS G n f H locs → lv_has ls 4 [(0, zr G a0)] → W p l e (zrm 2) s m args below meth c H locs 0 0 (MQ below (zQc G n f9 (some (.int r))) args s 0 0 (zA G)) (F0 m 21 ls [.int t0]) := by
  have he := B.1
  have hb := B.2.1
  intro f a0 t0 H locs ls h hS hl
  unfold fX9_needNameOf_21 at h
  refine lv_istore_n (lv' := [(3, _), (0, _)]) he hb dX9_needNameOf_21 rfl hl (by decide) rfl (fun ls hl => ?_)
  refine lv_iload_n he hb dX9_needNameOf_22 rfl (lv_at hl 0 rfl) ?_
  refine lv_iconst (v := (-1 : Int32)) he hb dX9_needNameOf_23 (by decide) ?_
  refine lv_icmp_ne (tgt := 46) he hb dX9_needNameOf_24 (by decide) (fun hc => ?_) (fun hc => ?_)
  · rw [if_neg hc] at h
    refine z_aload_n he hb dX9_needNameOf_46 rfl (lv_at hl 1 rfl) (zref_r _ _) ?_
    obtain ⟨_, hc, h⟩ := zob h
    obtain ⟨f2, hx, h⟩ := zob h
    refine z_callV (ci := 9) (T := TX9) (N := 12) (rest := []) B hS (mX9_advance l G hx) zy_X9_advance zk_583 (by decide) hc rfl rfl hl rfl (Nat.le_of_ble_eq_true rfl) dX9_needNameOf_47 (kk := (fun H locs hS => ?_))
    refine lv_iload_n he hb dX9_needNameOf_50 rfl (lv_at hl 0 rfl) ?_
    obtain ⟨rfl, rfl⟩ := Prod.mk.inj (Option.some.inj h)
    exact z_iret B hS dX9_needNameOf_51
  · rw [if_pos hc] at h
    refine z_aload_n he hb dX9_needNameOf_27 rfl (lv_at hl 1 rfl) (zref_r _ _) ?_
    refine z_aload_n he hb dX9_needNameOf_28 rfl (lv_at hl 1 rfl) (zref_r _ _) ?_
    obtain ⟨x3, hx, h⟩ := zob h
    refine z_getI (ci := 9) (T := TX9) (N := 12) (j := 5) B hS hx rfl zin_X9 (by decide) zk_102 dX9_needNameOf_29 ?_
    refine lv_iconst (v := (3 : Int32)) he hb dX9_needNameOf_32 (by decide) ?_
    refine lv_icmp_ne (tgt := 40) he hb dX9_needNameOf_33 (by decide) (fun hc => ?_) (fun hc => ?_)
    · rw [if_neg hc] at h
      refine lv_iconst (v := (1 : Int32)) he hb dX9_needNameOf_40 (by decide) ?_
      exact gX9_needNameOf_41 l B _ _ _ _ _ _ h hS (lv_sub hl [] rfl)
    · rw [if_pos hc] at h
      refine lv_iconst (v := (3 : Int32)) he hb dX9_needNameOf_36 (by decide) ?_
      refine lv_goto (tgt := 41) he hb dX9_needNameOf_37 (by decide) ?_
      exact gX9_needNameOf_41 l B _ _ _ _ _ _ h hS (lv_sub hl [] rfl)
def fX9_needNameOf (N n : Nat) (f : zF) (a0 : Nat) (a1 : Nat) (a2 : Int32) : Option (zF × Int32) :=
    ((zgI n f 9 a0 5).bind fun x1 => (if x1 = (3 : Int32) then ((zgL n f 9 a0 9).bind fun x5 => ((fX11_placeOf N n f a1 a2 x5).bind fun x6 => (fX9_needNameOf_21 N n f a0 x6))) else (fX9_needNameOf_21 N n f a0 (-1 : Int32))))
set_option maxRecDepth 100000 in
set_option maxHeartbeats 4000000 in
theorem mX9_needNameOf (l : Launch) (G : zG) {N n : Nat} {f : zF} {f9 : zF} {r : Int32} {a0 : Nat} {a1 : Nat} {a2 : Int32} (h : fX9_needNameOf N n f a0 a1 a2 = some (f9, r)) : zM l G yX9_needNameOf cX9_needNameOf 4 (some .int) 2 n f [zr G a0, zr G a1, .int a2] (some (.int r)) f9 := by
  refine zM.of (by decide) (Nat.le_of_ble_eq_true rfl) ?_
  intro p e s m args below meth c locs ls B hS hl
  have he := B.1
  have hb := B.2.1
  have hl : lv_has ls 4 [(0, zr G a0), (1, zr G a1), (2, .int a2)] := hl
  unfold fX9_needNameOf at h
  generalize s.heap = H at hS ⊢
  refine z_aload_n he hb dX9_needNameOf_0 rfl (lv_at hl 0 rfl) (zref_r _ _) ?_
  obtain ⟨x1, hx, h⟩ := zob h
  refine z_getI (ci := 9) (T := TX9) (N := 12) (j := 5) B hS hx rfl zin_X9 (by decide) zk_102 dX9_needNameOf_1 ?_
  refine lv_iconst (v := (3 : Int32)) he hb dX9_needNameOf_4 (by decide) ?_
  refine lv_icmp_ne (tgt := 20) he hb dX9_needNameOf_5 (by decide) (fun hc => ?_) (fun hc => ?_)
  · rw [if_neg hc] at h
    refine lv_iconst (v := (-1 : Int32)) he hb dX9_needNameOf_20 (by decide) ?_
    exact gX9_needNameOf_21 l B _ _ _ _ _ _ h hS (lv_sub hl [0] rfl)
  · rw [if_pos hc] at h
    refine z_aload_n he hb dX9_needNameOf_8 rfl (lv_at hl 1 rfl) (zref_r _ _) ?_
    refine lv_iload_n he hb dX9_needNameOf_9 rfl (lv_at hl 2 rfl) ?_
    refine z_aload_n he hb dX9_needNameOf_10 rfl (lv_at hl 0 rfl) (zref_r _ _) ?_
    obtain ⟨x5, hx, h⟩ := zob h
    refine z_getL (ci := 9) (T := TX9) (N := 12) (j := 9) B hS hx rfl zin_X9 (by decide) zk_110 dX9_needNameOf_11 ?_
    obtain ⟨x6, hx, h⟩ := zob h
    refine z_callN (rest := []) B hS (mX11_placeOf l G hx) zy_X11_placeOf zkn_604 (by decide) rfl hl rfl (Nat.le_of_ble_eq_true rfl) dX9_needNameOf_14 (kk := (fun H locs hS => ?_))
    refine lv_goto (tgt := 21) he hb dX9_needNameOf_17 (by decide) ?_
    exact gX9_needNameOf_21 l B _ _ _ _ _ _ h hS (lv_sub hl [0] rfl)
theorem dX9_add_0 : decode cX9_add 0 = .ok (.bipush 24, 2) := by decide +kernel
theorem dX9_add_2 : decode cX9_add 2 = .ok (.istore_n 2, 1) := by decide +kernel
theorem dX9_add_3 : decode cX9_add 3 = .ok (.iload_n 2, 1) := by decide +kernel
theorem dX9_add_4 : decode cX9_add 4 = .ok (.ifCond .lt 51, 3) := by decide +kernel
theorem dX9_add_7 : decode cX9_add 7 = .ok (.aload_n 0, 1) := by decide +kernel
theorem dX9_add_8 : decode cX9_add 8 = .ok (.getfield 35, 3) := by decide +kernel
theorem dX9_add_11 : decode cX9_add 11 = .ok (.ifCond .lt 38, 3) := by decide +kernel
theorem dX9_add_14 : decode cX9_add 14 = .ok (.aload_n 0, 1) := by decide +kernel
theorem dX9_add_15 : decode cX9_add 15 = .ok (.getfield 35, 3) := by decide +kernel
theorem dX9_add_18 : decode cX9_add 18 = .ok (.aload_n 0, 1) := by decide +kernel
theorem dX9_add_19 : decode cX9_add 19 = .ok (.getfield 9, 3) := by decide +kernel
theorem dX9_add_22 : decode cX9_add 22 = .ok (.arraylength, 1) := by decide +kernel
theorem dX9_add_23 : decode cX9_add 23 = .ok (.if_icmp .ge 26, 3) := by decide +kernel
theorem dX9_add_26 : decode cX9_add 26 = .ok (.aload_n 0, 1) := by decide +kernel
theorem dX9_add_27 : decode cX9_add 27 = .ok (.getfield 9, 3) := by decide +kernel
theorem dX9_add_30 : decode cX9_add 30 = .ok (.aload_n 0, 1) := by decide +kernel
theorem dX9_add_31 : decode cX9_add 31 = .ok (.getfield 35, 3) := by decide +kernel
theorem dX9_add_34 : decode cX9_add 34 = .ok (.iload_n 1, 1) := by decide +kernel
theorem dX9_add_35 : decode cX9_add 35 = .ok (.iload_n 2, 1) := by decide +kernel
theorem dX9_add_36 : decode cX9_add 36 = .ok (.ishr, 1) := by decide +kernel
theorem dX9_add_37 : decode cX9_add 37 = .ok (.i2b, 1) := by decide +kernel
theorem dX9_add_38 : decode cX9_add 38 = .ok (.bastore, 1) := by decide +kernel
theorem dX9_add_39 : decode cX9_add 39 = .ok (.aload_n 0, 1) := by decide +kernel
theorem dX9_add_40 : decode cX9_add 40 = .ok (.dup, 1) := by decide +kernel
theorem dX9_add_41 : decode cX9_add 41 = .ok (.getfield 35, 3) := by decide +kernel
theorem dX9_add_44 : decode cX9_add 44 = .ok (.iconst 1, 1) := by decide +kernel
theorem dX9_add_45 : decode cX9_add 45 = .ok (.iadd, 1) := by decide +kernel
theorem dX9_add_46 : decode cX9_add 46 = .ok (.putfield 35, 3) := by decide +kernel
theorem dX9_add_49 : decode cX9_add 49 = .ok (.iinc 2 (-8), 3) := by decide +kernel
theorem dX9_add_52 : decode cX9_add 52 = .ok (.goto (-49), 3) := by decide +kernel
theorem dX9_add_55 : decode cX9_add 55 = .ok (.return_, 1) := by decide +kernel
def fX9_add_49 (r3 : zF → Nat → Int32 → Int32 → Option zF) (N n : Nat) (f : zF) (a0 : Nat) (a1 : Int32) (a2 : Int32) : Option zF :=
    (r3 f a0 a1 (a2 + (-8)))
set_option maxRecDepth 100000 in
set_option maxHeartbeats 4000000 in
theorem gX9_add_49 (l : Launch) {G : zG} {p : Program} {e : Env} {s : State} {m : MethodId} {args : Array Value} {below : List Frame} {meth : Method} {c : Code} {N n : Nat} {f9 : zF} {r3 : zF → Nat → Int32 → Int32 → Option zF} (B : zB G p s m args meth c RX9 cX9_add 3 (none)) (hr3 : ∀ (f : zF) (a0 : Nat) (a1 : Int32) (a2 : Int32) (H : Heap) (locs : List Loc) (ls : Array Slot), r3 f a0 a1 a2 = some f9 → zS G n f H locs → lv_has ls 3 [(0, zr G a0), (1, .int a1), (2, .int a2)] → W p l e (zrm 0) s m args below meth c H locs 0 0 (MQ below (zQc G n f9 (none)) args s 0 0 (zA G)) (F0 m 3 ls [])) : ∀ (f : zF) (a0 : Nat) (a1 : Int32) (a2 : Int32) (H : Heap) (locs : List Loc) (ls : Array Slot), fX9_add_49 r3 N n f a0 a1 a2 = some f9 → zS G n f H locs → lv_has ls 3 [(0, zr G a0), (1, .int a1), (2, .int a2)] → W p l e (zrm 0) s m args below meth c H locs 0 0 (MQ below (zQc G n f9 (none)) args s 0 0 (zA G)) (F0 m 49 ls []) := by
  have he := B.1
  have hb := B.2.1
  intro f a0 a1 a2 H locs ls h hS hl
  unfold fX9_add_49 at h
  refine lv_iinc (v := (a2 + (-8))) (lv' := [(2, _), (0, _), (1, _)]) he hb dX9_add_49 hl (k := 2) rfl rfl (by decide) rfl (fun ls hl => ?_)
  refine lv_goto (tgt := 3) he hb dX9_add_52 (by decide) ?_
  exact hr3 _ _ _ _ _ _ _ h hS (lv_sub hl [1, 2, 0] rfl)
def fX9_add_3 (N n : Nat) : Nat → zF → Nat → Int32 → Int32 → Option zF
  | 0, _, _, _, _ => none
  | k + 1, f, a0, a1, a2 =>
    (if a2 < 0 then some f else ((zgI n f 9 a0 2).bind fun x1 => (if x1 < 0 then (fX9_add_49 (fX9_add_3 N n k) N n f a0 a1 a2) else ((zgI n f 9 a0 2).bind fun x2 => ((zgR n f 9 a0 0).bind fun x3 => ((zlen n f 2 x3).bind fun x4 => (if x4 ≤ x2 then (fX9_add_49 (fX9_add_3 N n k) N n f a0 a1 a2) else ((zgR n f 9 a0 0).bind fun x5 => ((zgI n f 9 a0 2).bind fun x6 => ((zsB n f 2 x5 x6 ((zishr a1 a2).toInt8.toInt32)).bind fun f7 => ((zgI n f7 9 a0 2).bind fun x8 => ((zpI n f7 9 a0 2 (x8 + (1 : Int32))).bind fun f9 => (fX9_add_49 (fX9_add_3 N n k) N n f9 a0 a1 a2)))))))))))))
set_option maxRecDepth 100000 in
set_option maxHeartbeats 4000000 in
theorem gX9_add_3 (l : Launch) {G : zG} {p : Program} {e : Env} {s : State} {m : MethodId} {args : Array Value} {below : List Frame} {meth : Method} {c : Code} {N n : Nat} {f9 : zF} (B : zB G p s m args meth c RX9 cX9_add 3 (none)) : ∀ (k : Nat), ∀ (f : zF) (a0 : Nat) (a1 : Int32) (a2 : Int32) (H : Heap) (locs : List Loc) (ls : Array Slot), fX9_add_3 N n k f a0 a1 a2 = some f9 → zS G n f H locs → lv_has ls 3 [(0, zr G a0), (1, .int a1), (2, .int a2)] → W p l e (zrm 0) s m args below meth c H locs 0 0 (MQ below (zQc G n f9 (none)) args s 0 0 (zA G)) (F0 m 3 ls []) := by
  have he := B.1
  have hb := B.2.1
  intro k
  induction k with
  | zero =>
    intro f a0 a1 a2 H locs ls h
    unfold fX9_add_3 at h
    cases h
  | succ k ih =>
    intro f a0 a1 a2 H locs ls h hS hl
    unfold fX9_add_3 at h
    refine lv_iload_n he hb dX9_add_3 rfl (lv_at hl 2 rfl) ?_
    refine lv_if_lt (tgt := 55) he hb dX9_add_4 (by decide) (fun hc => ?_) (fun hc => ?_)
    · rw [if_pos hc] at h
      obtain rfl := Option.some.inj h
      exact z_vret B hS dX9_add_55
    · rw [if_neg hc] at h
      refine z_aload_n he hb dX9_add_7 rfl (lv_at hl 0 rfl) (zref_r _ _) ?_
      obtain ⟨x1, hx, h⟩ := zob h
      refine z_getI (ci := 9) (T := TX9) (N := 12) (j := 2) B hS hx rfl zin_X9 (by decide) zk_96 dX9_add_8 ?_
      refine lv_if_lt (tgt := 49) he hb dX9_add_11 (by decide) (fun hc => ?_) (fun hc => ?_)
      · rw [if_pos hc] at h
        exact gX9_add_49 l B ih _ _ _ _ _ _ _ h hS (lv_sub hl [0, 1, 2] rfl)
      · rw [if_neg hc] at h
        refine z_aload_n he hb dX9_add_14 rfl (lv_at hl 0 rfl) (zref_r _ _) ?_
        obtain ⟨x2, hx, h⟩ := zob h
        refine z_getI (ci := 9) (T := TX9) (N := 12) (j := 2) B hS hx rfl zin_X9 (by decide) zk_96 dX9_add_15 ?_
        refine z_aload_n he hb dX9_add_18 rfl (lv_at hl 0 rfl) (zref_r _ _) ?_
        obtain ⟨x3, hx, h⟩ := zob h
        refine z_getR (ci := 9) (T := TX9) (N := 12) (j := 0) B hS hx rfl zin_X9 (by decide) zk_91 dX9_add_19 ?_
        obtain ⟨x4, hx, h⟩ := zob h
        refine z_len B hS hx rfl dX9_add_22 ?_
        refine lv_icmp_ge (tgt := 49) he hb dX9_add_23 (by decide) (fun hc => ?_) (fun hc => ?_)
        · rw [if_pos hc] at h
          exact gX9_add_49 l B ih _ _ _ _ _ _ _ h hS (lv_sub hl [0, 1, 2] rfl)
        · rw [if_neg hc] at h
          refine z_aload_n he hb dX9_add_26 rfl (lv_at hl 0 rfl) (zref_r _ _) ?_
          obtain ⟨x5, hx, h⟩ := zob h
          refine z_getR (ci := 9) (T := TX9) (N := 12) (j := 0) B hS hx rfl zin_X9 (by decide) zk_91 dX9_add_27 ?_
          refine z_aload_n he hb dX9_add_30 rfl (lv_at hl 0 rfl) (zref_r _ _) ?_
          obtain ⟨x6, hx, h⟩ := zob h
          refine z_getI (ci := 9) (T := TX9) (N := 12) (j := 2) B hS hx rfl zin_X9 (by decide) zk_96 dX9_add_31 ?_
          refine lv_iload_n he hb dX9_add_34 rfl (lv_at hl 1 rfl) ?_
          refine lv_iload_n he hb dX9_add_35 rfl (lv_at hl 2 rfl) ?_
          refine z_ishr he hb dX9_add_36 ?_
          refine lv_i2b (v := ((zishr a1 a2).toInt8.toInt32)) he hb dX9_add_37 rfl ?_
          obtain ⟨f7, hx, h⟩ := zob h
          refine z_istB B hS hx dX9_add_38 (fun H locs hS => ?_)
          refine z_aload_n he hb dX9_add_39 rfl (lv_at hl 0 rfl) (zref_r _ _) ?_
          refine lv_dup he hb dX9_add_40 rfl ?_
          obtain ⟨x8, hx, h⟩ := zob h
          refine z_getI (ci := 9) (T := TX9) (N := 12) (j := 2) B hS hx rfl zin_X9 (by decide) zk_96 dX9_add_41 ?_
          refine lv_iconst (v := (1 : Int32)) he hb dX9_add_44 (by decide) ?_
          refine lv_iadd he hb dX9_add_45 ?_
          obtain ⟨f9, hx, h⟩ := zob h
          refine z_putI (ci := 9) (T := TX9) (N := 12) (j := 2) B hS hx rfl zin_X9 tyX9 tyX9_ok nmX9 (by decide) zk_96 rfl rfl dX9_add_46 (fun H locs hS => ?_)
          exact gX9_add_49 l B ih _ _ _ _ _ _ _ h hS (lv_sub hl [0, 1, 2] rfl)
def fX9_add (N n : Nat) (f : zF) (a0 : Nat) (a1 : Int32) : Option zF :=
    (fX9_add_3 N n N f a0 a1 (24 : Int32))
set_option maxRecDepth 100000 in
set_option maxHeartbeats 4000000 in
theorem mX9_add (l : Launch) (G : zG) {N n : Nat} {f : zF} {f9 : zF} {a0 : Nat} {a1 : Int32} (h : fX9_add N n f a0 a1 = some f9) : zM l G yX9_add cX9_add 3 (none) 0 n f [zr G a0, .int a1] (none) f9 := by
  refine zM.of (by decide) (Nat.le_of_ble_eq_true rfl) ?_
  intro p e s m args below meth c locs ls B hS hl
  have he := B.1
  have hb := B.2.1
  have hl : lv_has ls 3 [(0, zr G a0), (1, .int a1)] := hl
  unfold fX9_add at h
  generalize s.heap = H at hS ⊢
  refine lv_bipush (v := (24 : Int32)) he hb dX9_add_0 (by decide) ?_
  refine lv_istore_n (lv' := [(2, _), (0, _), (1, _)]) he hb dX9_add_2 rfl hl (by decide) rfl (fun ls hl => ?_)
  exact gX9_add_3 l B N _ _ _ _ _ _ _ h hS (lv_sub hl [1, 2, 0] rfl)
