/-! methods: what they do to the small heap, and that their bytecode does it -/
theorem dX2_beside_0 : decode cX2_beside 0 = .ok (.iload_n 1, 1) := by decide +kernel
theorem dX2_beside_1 : decode cX2_beside 1 = .ok (.bipush 9, 2) := by decide +kernel
theorem dX2_beside_3 : decode cX2_beside 3 = .ok (.irem, 1) := by decide +kernel
theorem dX2_beside_4 : decode cX2_beside 4 = .ok (.istore_n 3, 1) := by decide +kernel
theorem dX2_beside_5 : decode cX2_beside 5 = .ok (.iload_n 1, 1) := by decide +kernel
theorem dX2_beside_6 : decode cX2_beside 6 = .ok (.bipush 9, 2) := by decide +kernel
theorem dX2_beside_8 : decode cX2_beside 8 = .ok (.idiv, 1) := by decide +kernel
theorem dX2_beside_9 : decode cX2_beside 9 = .ok (.istore 4, 2) := by decide +kernel
theorem dX2_beside_11 : decode cX2_beside 11 = .ok (.iload_n 2, 1) := by decide +kernel
theorem dX2_beside_12 : decode cX2_beside 12 = .ok (.tableswitch 46 0 2 #[28, 34, 40], 28) := by decide +kernel
theorem dX2_beside_40 : decode cX2_beside 40 = .ok (.iinc 3 1, 3) := by decide +kernel
theorem dX2_beside_43 : decode cX2_beside 43 = .ok (.goto 18, 3) := by decide +kernel
theorem dX2_beside_46 : decode cX2_beside 46 = .ok (.iinc 4 1, 3) := by decide +kernel
theorem dX2_beside_49 : decode cX2_beside 49 = .ok (.goto 12, 3) := by decide +kernel
theorem dX2_beside_52 : decode cX2_beside 52 = .ok (.iinc 3 (-1), 3) := by decide +kernel
theorem dX2_beside_55 : decode cX2_beside 55 = .ok (.goto 6, 3) := by decide +kernel
theorem dX2_beside_58 : decode cX2_beside 58 = .ok (.iinc 4 (-1), 3) := by decide +kernel
theorem dX2_beside_61 : decode cX2_beside 61 = .ok (.iload_n 3, 1) := by decide +kernel
theorem dX2_beside_62 : decode cX2_beside 62 = .ok (.ifCond .lt 35, 3) := by decide +kernel
theorem dX2_beside_65 : decode cX2_beside 65 = .ok (.iload_n 3, 1) := by decide +kernel
theorem dX2_beside_66 : decode cX2_beside 66 = .ok (.aload_n 0, 1) := by decide +kernel
theorem dX2_beside_67 : decode cX2_beside 67 = .ok (.getfield 9, 3) := by decide +kernel
theorem dX2_beside_70 : decode cX2_beside 70 = .ok (.if_icmp .ge 27, 3) := by decide +kernel
theorem dX2_beside_73 : decode cX2_beside 73 = .ok (.iload 4, 2) := by decide +kernel
theorem dX2_beside_75 : decode cX2_beside 75 = .ok (.ifCond .lt 22, 3) := by decide +kernel
theorem dX2_beside_78 : decode cX2_beside 78 = .ok (.iload 4, 2) := by decide +kernel
theorem dX2_beside_80 : decode cX2_beside 80 = .ok (.aload_n 0, 1) := by decide +kernel
theorem dX2_beside_81 : decode cX2_beside 81 = .ok (.getfield 15, 3) := by decide +kernel
theorem dX2_beside_84 : decode cX2_beside 84 = .ok (.if_icmp .ge 13, 3) := by decide +kernel
theorem dX2_beside_87 : decode cX2_beside 87 = .ok (.bipush 9, 2) := by decide +kernel
theorem dX2_beside_89 : decode cX2_beside 89 = .ok (.iload 4, 2) := by decide +kernel
theorem dX2_beside_91 : decode cX2_beside 91 = .ok (.imul, 1) := by decide +kernel
theorem dX2_beside_92 : decode cX2_beside 92 = .ok (.iload_n 3, 1) := by decide +kernel
theorem dX2_beside_93 : decode cX2_beside 93 = .ok (.iadd, 1) := by decide +kernel
theorem dX2_beside_94 : decode cX2_beside 94 = .ok (.goto 4, 3) := by decide +kernel
theorem dX2_beside_97 : decode cX2_beside 97 = .ok (.iconst (-1), 1) := by decide +kernel
theorem dX2_beside_98 : decode cX2_beside 98 = .ok (.ireturn, 1) := by decide +kernel
def fX2_beside_61 (N n : Nat) (f : zF) (a0 : Nat) (a3 : Int32) (a4 : Int32) : Option Int32 :=
    (if a3 < 0 then some (-1 : Int32) else ((zgI n f 2 a0 0).bind fun x1 => (if x1 ≤ a3 then some (-1 : Int32) else (if a4 < 0 then some (-1 : Int32) else ((zgI n f 2 a0 1).bind fun x2 => (if x2 ≤ a4 then some (-1 : Int32) else some (((9 : Int32) * a4) + a3)))))))
set_option maxRecDepth 100000 in
set_option maxHeartbeats 4000000 in
theorem gX2_beside_61 (l : Launch) {G : zG} {p : Program} {e : Env} {s : State} {m : MethodId} {args : Array Value} {below : List Frame} {meth : Method} {c : Code} {f : zF} {N n : Nat} {r : Int32} (B : zB G p s m args meth c RX2 cX2_beside 5 (some .int)) : ∀ (a0 : Nat) (a3 : Int32) (a4 : Int32) (H : Heap) (locs : List Loc) (ls : Array Slot), fX2_beside_61 N n f a0 a3 a4 = some r → zS G n f H locs → lv_has ls 5 [(0, zr G a0), (3, .int a3), (4, .int a4)] → W p l e (zrm 0) s m args below meth c H locs 0 0 (MQ below (zQc G n f (some (.int r))) args s 0 0 (zA G)) (F0 m 61 ls []) := by
  have he := B.1
  have hb := B.2.1
  intro a0 a3 a4 H locs ls h hS hl
  unfold fX2_beside_61 at h
  refine lv_iload_n he hb dX2_beside_61 rfl (lv_at hl 1 rfl) ?_
  refine lv_if_lt (tgt := 97) he hb dX2_beside_62 (by decide) (fun hc => ?_) (fun hc => ?_)
  · rw [if_pos hc] at h
    refine lv_iconst (v := (-1 : Int32)) he hb dX2_beside_97 (by decide) ?_
    obtain rfl := Option.some.inj h
    exact z_iret B hS dX2_beside_98
  · rw [if_neg hc] at h
    refine lv_iload_n he hb dX2_beside_65 rfl (lv_at hl 1 rfl) ?_
    refine z_aload_n he hb dX2_beside_66 rfl (lv_at hl 0 rfl) (zref_r _ _) ?_
    obtain ⟨x1, hx, h⟩ := zob h
    refine z_getI (ci := 2) (T := TX2) (N := 15) (j := 0) B hS hx rfl zin_X2 (by decide) zk_150 dX2_beside_67 ?_
    refine lv_icmp_ge (tgt := 97) he hb dX2_beside_70 (by decide) (fun hc => ?_) (fun hc => ?_)
    · rw [if_pos hc] at h
      refine lv_iconst (v := (-1 : Int32)) he hb dX2_beside_97 (by decide) ?_
      obtain rfl := Option.some.inj h
      exact z_iret B hS dX2_beside_98
    · rw [if_neg hc] at h
      refine lv_iload he hb dX2_beside_73 (lv_at hl 2 rfl) ?_
      refine lv_if_lt (tgt := 97) he hb dX2_beside_75 (by decide) (fun hc => ?_) (fun hc => ?_)
      · rw [if_pos hc] at h
        refine lv_iconst (v := (-1 : Int32)) he hb dX2_beside_97 (by decide) ?_
        obtain rfl := Option.some.inj h
        exact z_iret B hS dX2_beside_98
      · rw [if_neg hc] at h
        refine lv_iload he hb dX2_beside_78 (lv_at hl 2 rfl) ?_
        refine z_aload_n he hb dX2_beside_80 rfl (lv_at hl 0 rfl) (zref_r _ _) ?_
        obtain ⟨x2, hx, h⟩ := zob h
        refine z_getI (ci := 2) (T := TX2) (N := 15) (j := 1) B hS hx rfl zin_X2 (by decide) zk_154 dX2_beside_81 ?_
        refine lv_icmp_ge (tgt := 97) he hb dX2_beside_84 (by decide) (fun hc => ?_) (fun hc => ?_)
        · rw [if_pos hc] at h
          refine lv_iconst (v := (-1 : Int32)) he hb dX2_beside_97 (by decide) ?_
          obtain rfl := Option.some.inj h
          exact z_iret B hS dX2_beside_98
        · rw [if_neg hc] at h
          refine lv_bipush (v := (9 : Int32)) he hb dX2_beside_87 (by decide) ?_
          refine lv_iload he hb dX2_beside_89 (lv_at hl 2 rfl) ?_
          refine lv_imul he hb dX2_beside_91 ?_
          refine lv_iload_n he hb dX2_beside_92 rfl (lv_at hl 1 rfl) ?_
          refine lv_iadd he hb dX2_beside_93 ?_
          refine lv_goto (tgt := 98) he hb dX2_beside_94 (by decide) ?_
          obtain rfl := Option.some.inj h
          exact z_iret B hS dX2_beside_98
def fX2_beside (N n : Nat) (f : zF) (a0 : Nat) (a1 : Int32) (a2 : Int32) : Option Int32 :=
    (if a2 = (0 : Int32) then (fX2_beside_61 N n f a0 ((zrem a1 (9 : Int32)) + 1) (a1 / (9 : Int32))) else (if a2 = (1 : Int32) then (fX2_beside_61 N n f a0 (zrem a1 (9 : Int32)) ((a1 / (9 : Int32)) + 1)) else (if a2 = (2 : Int32) then (fX2_beside_61 N n f a0 ((zrem a1 (9 : Int32)) + (-1)) (a1 / (9 : Int32))) else (fX2_beside_61 N n f a0 (zrem a1 (9 : Int32)) ((a1 / (9 : Int32)) + (-1))))))
set_option maxRecDepth 100000 in
set_option maxHeartbeats 4000000 in
theorem mX2_beside (l : Launch) (G : zG) {N n : Nat} {f : zF} {r : Int32} {a0 : Nat} {a1 : Int32} {a2 : Int32} (h : fX2_beside N n f a0 a1 a2 = some r) : zM l G yX2_beside cX2_beside 5 (some .int) 0 n f [zr G a0, .int a1, .int a2] (some (.int r)) f := by
  refine zM.of (by decide) (Nat.le_of_ble_eq_true rfl) ?_
  intro p e s m args below meth c locs ls B hS hl
  have he := B.1
  have hb := B.2.1
  have hl : lv_has ls 5 [(0, zr G a0), (1, .int a1), (2, .int a2)] := hl
  unfold fX2_beside at h
  generalize s.heap = H at hS ⊢
  refine lv_iload_n he hb dX2_beside_0 rfl (lv_at hl 1 rfl) ?_
  refine lv_bipush (v := (9 : Int32)) he hb dX2_beside_1 (by decide) ?_
  refine z_irem he hb dX2_beside_3 (by decide) ?_
  refine lv_istore_n (lv' := [(3, _), (0, _), (1, _), (2, _)]) he hb dX2_beside_4 rfl hl (by decide) rfl (fun ls hl => ?_)
  refine lv_iload_n he hb dX2_beside_5 rfl (lv_at hl 2 rfl) ?_
  refine lv_bipush (v := (9 : Int32)) he hb dX2_beside_6 (by decide) ?_
  refine lv_idiv he hb dX2_beside_8 (by decide) ?_
  refine lv_istore (lv' := [(4, _), (3, _), (0, _), (1, _), (2, _)]) he hb dX2_beside_9 hl (by decide) rfl (fun ls hl => ?_)
  refine lv_iload_n he hb dX2_beside_11 rfl (lv_at hl 4 rfl) ?_
  by_cases hc0 : a2 = (0 : Int32)
  · rw [if_pos hc0] at h
    refine lv_tableIn (tgt := 40) he hb dX2_beside_12 (by rw [hc0]; decide) (by rw [hc0]; decide) (by rw [hc0]; rfl) (by decide) ?_
    refine lv_iinc (v := ((zrem a1 (9 : Int32)) + 1)) (lv' := [(3, _), (4, _), (0, _), (1, _), (2, _)]) he hb dX2_beside_40 hl (k := 1) rfl rfl (by decide) rfl (fun ls hl => ?_)
    refine lv_goto (tgt := 61) he hb dX2_beside_43 (by decide) ?_
    exact gX2_beside_61 l B _ _ _ _ _ _ h hS (lv_sub hl [2, 0, 1] rfl)
  rw [if_neg hc0] at h
  by_cases hc1 : a2 = (1 : Int32)
  · rw [if_pos hc1] at h
    refine lv_tableIn (tgt := 46) he hb dX2_beside_12 (by rw [hc1]; decide) (by rw [hc1]; decide) (by rw [hc1]; rfl) (by decide) ?_
    refine lv_iinc (v := ((a1 / (9 : Int32)) + 1)) (lv' := [(4, _), (3, _), (0, _), (1, _), (2, _)]) he hb dX2_beside_46 hl (k := 0) rfl rfl (by decide) rfl (fun ls hl => ?_)
    refine lv_goto (tgt := 61) he hb dX2_beside_49 (by decide) ?_
    exact gX2_beside_61 l B _ _ _ _ _ _ h hS (lv_sub hl [2, 1, 0] rfl)
  rw [if_neg hc1] at h
  by_cases hc2 : a2 = (2 : Int32)
  · rw [if_pos hc2] at h
    refine lv_tableIn (tgt := 52) he hb dX2_beside_12 (by rw [hc2]; decide) (by rw [hc2]; decide) (by rw [hc2]; rfl) (by decide) ?_
    refine lv_iinc (v := ((zrem a1 (9 : Int32)) + (-1))) (lv' := [(3, _), (4, _), (0, _), (1, _), (2, _)]) he hb dX2_beside_52 hl (k := 1) rfl rfl (by decide) rfl (fun ls hl => ?_)
    refine lv_goto (tgt := 61) he hb dX2_beside_55 (by decide) ?_
    exact gX2_beside_61 l B _ _ _ _ _ _ h hS (lv_sub hl [2, 0, 1] rfl)
  rw [if_neg hc2] at h
  refine lv_tableOut (tgt := 58) he hb dX2_beside_12 ?_ (by decide) ?_
  · have h0 := lv_neT hc0 (a := 0) rfl; have h1 := lv_neT hc1 (a := 1) rfl; have h2 := lv_neT hc2 (a := 2) rfl; omega
  · skip
    refine lv_iinc (v := ((a1 / (9 : Int32)) + (-1))) (lv' := [(4, _), (3, _), (0, _), (1, _), (2, _)]) he hb dX2_beside_58 hl (k := 0) rfl rfl (by decide) rfl (fun ls hl => ?_)
    exact gX2_beside_61 l B _ _ _ _ _ _ h hS (lv_sub hl [2, 1, 0] rfl)
theorem dX2_hasHedge_0 : decode cX2_hasHedge 0 = .ok (.iload_n 1, 1) := by decide +kernel
theorem dX2_hasHedge_1 : decode cX2_hasHedge 1 = .ok (.ifCond .lt 26, 3) := by decide +kernel
theorem dX2_hasHedge_4 : decode cX2_hasHedge 4 = .ok (.iload_n 1, 1) := by decide +kernel
theorem dX2_hasHedge_5 : decode cX2_hasHedge 5 = .ok (.aload_n 0, 1) := by decide +kernel
theorem dX2_hasHedge_6 : decode cX2_hasHedge 6 = .ok (.getfield 28, 3) := by decide +kernel
theorem dX2_hasHedge_9 : decode cX2_hasHedge 9 = .ok (.arraylength, 1) := by decide +kernel
theorem dX2_hasHedge_10 : decode cX2_hasHedge 10 = .ok (.if_icmp .ge 17, 3) := by decide +kernel
theorem dX2_hasHedge_13 : decode cX2_hasHedge 13 = .ok (.aload_n 0, 1) := by decide +kernel
theorem dX2_hasHedge_14 : decode cX2_hasHedge 14 = .ok (.getfield 28, 3) := by decide +kernel
theorem dX2_hasHedge_17 : decode cX2_hasHedge 17 = .ok (.iload_n 1, 1) := by decide +kernel
theorem dX2_hasHedge_18 : decode cX2_hasHedge 18 = .ok (.iaload, 1) := by decide +kernel
theorem dX2_hasHedge_19 : decode cX2_hasHedge 19 = .ok (.iconst 1, 1) := by decide +kernel
theorem dX2_hasHedge_20 : decode cX2_hasHedge 20 = .ok (.if_icmp .ne 7, 3) := by decide +kernel
theorem dX2_hasHedge_23 : decode cX2_hasHedge 23 = .ok (.iconst 1, 1) := by decide +kernel
theorem dX2_hasHedge_24 : decode cX2_hasHedge 24 = .ok (.goto 4, 3) := by decide +kernel
theorem dX2_hasHedge_27 : decode cX2_hasHedge 27 = .ok (.iconst 0, 1) := by decide +kernel
theorem dX2_hasHedge_28 : decode cX2_hasHedge 28 = .ok (.ireturn, 1) := by decide +kernel
def fX2_hasHedge (N n : Nat) (f : zF) (a0 : Nat) (a1 : Int32) : Option Int32 :=
    (if a1 < 0 then zbl (0 : Int32) else ((zgR n f 2 a0 8).bind fun x1 => ((zlen n f 0 x1).bind fun x2 => (if x2 ≤ a1 then zbl (0 : Int32) else ((zgR n f 2 a0 8).bind fun x3 => ((zlI n f 0 x3 a1).bind fun x4 => (if x4 = (1 : Int32) then zbl (1 : Int32) else zbl (0 : Int32))))))))
set_option maxRecDepth 100000 in
set_option maxHeartbeats 4000000 in
theorem mX2_hasHedge (l : Launch) (G : zG) {N n : Nat} {f : zF} {r : Int32} {a0 : Nat} {a1 : Int32} (h : fX2_hasHedge N n f a0 a1 = some r) : zM l G yX2_hasHedge cX2_hasHedge 2 (some .boolean) 0 n f [zr G a0, .int a1] (some (.int r)) f := by
  refine zM.of (by decide) (Nat.le_of_ble_eq_true rfl) ?_
  intro p e s m args below meth c locs ls B hS hl
  have he := B.1
  have hb := B.2.1
  have hl : lv_has ls 2 [(0, zr G a0), (1, .int a1)] := hl
  unfold fX2_hasHedge at h
  generalize s.heap = H at hS ⊢
  refine lv_iload_n he hb dX2_hasHedge_0 rfl (lv_at hl 1 rfl) ?_
  refine lv_if_lt (tgt := 27) he hb dX2_hasHedge_1 (by decide) (fun hc => ?_) (fun hc => ?_)
  · rw [if_pos hc] at h
    refine lv_iconst (v := (0 : Int32)) he hb dX2_hasHedge_27 (by decide) ?_
    obtain ⟨hz, rfl⟩ := zbl_i h
    exact z_zret B hS hz dX2_hasHedge_28
  · rw [if_neg hc] at h
    refine lv_iload_n he hb dX2_hasHedge_4 rfl (lv_at hl 1 rfl) ?_
    refine z_aload_n he hb dX2_hasHedge_5 rfl (lv_at hl 0 rfl) (zref_r _ _) ?_
    obtain ⟨x1, hx, h⟩ := zob h
    refine z_getR (ci := 2) (T := TX2) (N := 15) (j := 8) B hS hx rfl zin_X2 (by decide) zk_185 dX2_hasHedge_6 ?_
    obtain ⟨x2, hx, h⟩ := zob h
    refine z_len B hS hx rfl dX2_hasHedge_9 ?_
    refine lv_icmp_ge (tgt := 27) he hb dX2_hasHedge_10 (by decide) (fun hc => ?_) (fun hc => ?_)
    · rw [if_pos hc] at h
      refine lv_iconst (v := (0 : Int32)) he hb dX2_hasHedge_27 (by decide) ?_
      obtain ⟨hz, rfl⟩ := zbl_i h
      exact z_zret B hS hz dX2_hasHedge_28
    · rw [if_neg hc] at h
      refine z_aload_n he hb dX2_hasHedge_13 rfl (lv_at hl 0 rfl) (zref_r _ _) ?_
      obtain ⟨x3, hx, h⟩ := zob h
      refine z_getR (ci := 2) (T := TX2) (N := 15) (j := 8) B hS hx rfl zin_X2 (by decide) zk_185 dX2_hasHedge_14 ?_
      refine lv_iload_n he hb dX2_hasHedge_17 rfl (lv_at hl 1 rfl) ?_
      obtain ⟨x4, hx, h⟩ := zob h
      refine z_ildI B hS hx dX2_hasHedge_18 ?_
      refine lv_iconst (v := (1 : Int32)) he hb dX2_hasHedge_19 (by decide) ?_
      refine lv_icmp_ne (tgt := 27) he hb dX2_hasHedge_20 (by decide) (fun hc => ?_) (fun hc => ?_)
      · rw [if_neg hc] at h
        refine lv_iconst (v := (0 : Int32)) he hb dX2_hasHedge_27 (by decide) ?_
        obtain ⟨hz, rfl⟩ := zbl_i h
        exact z_zret B hS hz dX2_hasHedge_28
      · rw [if_pos hc] at h
        refine lv_iconst (v := (1 : Int32)) he hb dX2_hasHedge_23 (by decide) ?_
        refine lv_goto (tgt := 28) he hb dX2_hasHedge_24 (by decide) ?_
        obtain ⟨hz, rfl⟩ := zbl_i h
        exact z_zret B hS hz dX2_hasHedge_28
theorem dX2_clear_0 : decode cX2_clear 0 = .ok (.aload_n 0, 1) := by decide +kernel
theorem dX2_clear_1 : decode cX2_clear 1 = .ok (.bipush 6, 2) := by decide +kernel
theorem dX2_clear_3 : decode cX2_clear 3 = .ok (.putfield 9, 3) := by decide +kernel
theorem dX2_clear_6 : decode cX2_clear 6 = .ok (.aload_n 0, 1) := by decide +kernel
theorem dX2_clear_7 : decode cX2_clear 7 = .ok (.bipush 6, 2) := by decide +kernel
theorem dX2_clear_9 : decode cX2_clear 9 = .ok (.putfield 15, 3) := by decide +kernel
theorem dX2_clear_12 : decode cX2_clear 12 = .ok (.aload_n 0, 1) := by decide +kernel
theorem dX2_clear_13 : decode cX2_clear 13 = .ok (.iconst 0, 1) := by decide +kernel
theorem dX2_clear_14 : decode cX2_clear 14 = .ok (.putfield 50, 3) := by decide +kernel
theorem dX2_clear_17 : decode cX2_clear 17 = .ok (.aload_n 0, 1) := by decide +kernel
theorem dX2_clear_18 : decode cX2_clear 18 = .ok (.iconst 0, 1) := by decide +kernel
theorem dX2_clear_19 : decode cX2_clear 19 = .ok (.putfield 53, 3) := by decide +kernel
theorem dX2_clear_22 : decode cX2_clear 22 = .ok (.aload_n 0, 1) := by decide +kernel
theorem dX2_clear_23 : decode cX2_clear 23 = .ok (.iconst 0, 1) := by decide +kernel
theorem dX2_clear_24 : decode cX2_clear 24 = .ok (.putfield 56, 3) := by decide +kernel
theorem dX2_clear_27 : decode cX2_clear 27 = .ok (.aload_n 0, 1) := by decide +kernel
theorem dX2_clear_28 : decode cX2_clear 28 = .ok (.getfield 28, 3) := by decide +kernel
theorem dX2_clear_31 : decode cX2_clear 31 = .ok (.iconst 0, 1) := by decide +kernel
theorem dX2_clear_32 : decode cX2_clear 32 = .ok (.invokestatic 59, 3) := by decide +kernel
theorem dX2_clear_35 : decode cX2_clear 35 = .ok (.return_, 1) := by decide +kernel
def fX2_clear (N n : Nat) (f : zF) (a0 : Nat) : Option zF :=
    ((zpI n f 2 a0 0 (6 : Int32)).bind fun f1 => ((zpI n f1 2 a0 1 (6 : Int32)).bind fun f2 => ((zpI n f2 2 a0 2 (0 : Int32)).bind fun f3 => ((zpI n f3 2 a0 3 (0 : Int32)).bind fun f4 => ((zpI n f4 2 a0 4 (0 : Int32)).bind fun f5 => ((zgR n f5 2 a0 8).bind fun x6 => ((fX11_fill N n f5 x6 (0 : Int32)).bind fun f7 => some f7)))))))
set_option maxRecDepth 100000 in
set_option maxHeartbeats 4000000 in
theorem mX2_clear (l : Launch) (G : zG) {N n : Nat} {f : zF} {f9 : zF} {a0 : Nat} (h : fX2_clear N n f a0 = some f9) : zM l G yX2_clear cX2_clear 1 (none) 1 n f [zr G a0] (none) f9 := by
  refine zM.of (by decide) (Nat.le_of_ble_eq_true rfl) ?_
  intro p e s m args below meth c locs ls B hS hl
  have he := B.1
  have hb := B.2.1
  have hl : lv_has ls 1 [(0, zr G a0)] := hl
  unfold fX2_clear at h
  generalize s.heap = H at hS ⊢
  refine z_aload_n he hb dX2_clear_0 rfl (lv_at hl 0 rfl) (zref_r _ _) ?_
  refine lv_bipush (v := (6 : Int32)) he hb dX2_clear_1 (by decide) ?_
  obtain ⟨f1, hx, h⟩ := zob h
  refine z_putI (ci := 2) (T := TX2) (N := 15) (j := 0) B hS hx rfl zin_X2 tyX2 tyX2_ok nmX2 (by decide) zk_150 rfl rfl dX2_clear_3 (fun H locs hS => ?_)
  refine z_aload_n he hb dX2_clear_6 rfl (lv_at hl 0 rfl) (zref_r _ _) ?_
  refine lv_bipush (v := (6 : Int32)) he hb dX2_clear_7 (by decide) ?_
  obtain ⟨f2, hx, h⟩ := zob h
  refine z_putI (ci := 2) (T := TX2) (N := 15) (j := 1) B hS hx rfl zin_X2 tyX2 tyX2_ok nmX2 (by decide) zk_154 rfl rfl dX2_clear_9 (fun H locs hS => ?_)
  refine z_aload_n he hb dX2_clear_12 rfl (lv_at hl 0 rfl) (zref_r _ _) ?_
  refine lv_iconst (v := (0 : Int32)) he hb dX2_clear_13 (by decide) ?_
  obtain ⟨f3, hx, h⟩ := zob h
  refine z_putI (ci := 2) (T := TX2) (N := 15) (j := 2) B hS hx rfl zin_X2 tyX2 tyX2_ok nmX2 (by decide) zk_158 rfl rfl dX2_clear_14 (fun H locs hS => ?_)
  refine z_aload_n he hb dX2_clear_17 rfl (lv_at hl 0 rfl) (zref_r _ _) ?_
  refine lv_iconst (v := (0 : Int32)) he hb dX2_clear_18 (by decide) ?_
  obtain ⟨f4, hx, h⟩ := zob h
  refine z_putI (ci := 2) (T := TX2) (N := 15) (j := 3) B hS hx rfl zin_X2 tyX2 tyX2_ok nmX2 (by decide) zk_163 rfl rfl dX2_clear_19 (fun H locs hS => ?_)
  refine z_aload_n he hb dX2_clear_22 rfl (lv_at hl 0 rfl) (zref_r _ _) ?_
  refine lv_iconst (v := (0 : Int32)) he hb dX2_clear_23 (by decide) ?_
  obtain ⟨f5, hx, h⟩ := zob h
  refine z_putI (ci := 2) (T := TX2) (N := 15) (j := 4) B hS hx rfl zin_X2 tyX2 tyX2_ok nmX2 (by decide) zk_168 rfl rfl dX2_clear_24 (fun H locs hS => ?_)
  refine z_aload_n he hb dX2_clear_27 rfl (lv_at hl 0 rfl) (zref_r _ _) ?_
  obtain ⟨x6, hx, h⟩ := zob h
  refine z_getR (ci := 2) (T := TX2) (N := 15) (j := 8) B hS hx rfl zin_X2 (by decide) zk_185 dX2_clear_28 ?_
  refine lv_iconst (v := (0 : Int32)) he hb dX2_clear_31 (by decide) ?_
  obtain ⟨f7, hx, h⟩ := zob h
  refine z_callN (rest := []) B hS (mX11_fill l G hx) zy_X11_fill zkn_575 (by decide) rfl hl rfl (Nat.le_of_ble_eq_true rfl) dX2_clear_32 (kk := (fun H locs hS => ?_))
  obtain rfl := Option.some.inj h
  exact z_vret B hS dX2_clear_35
theorem dX2_copyFrom_0 : decode cX2_copyFrom 0 = .ok (.aload_n 0, 1) := by decide +kernel
theorem dX2_copyFrom_1 : decode cX2_copyFrom 1 = .ok (.aload_n 1, 1) := by decide +kernel
theorem dX2_copyFrom_2 : decode cX2_copyFrom 2 = .ok (.getfield 9, 3) := by decide +kernel
theorem dX2_copyFrom_5 : decode cX2_copyFrom 5 = .ok (.putfield 9, 3) := by decide +kernel
theorem dX2_copyFrom_8 : decode cX2_copyFrom 8 = .ok (.aload_n 0, 1) := by decide +kernel
theorem dX2_copyFrom_9 : decode cX2_copyFrom 9 = .ok (.aload_n 1, 1) := by decide +kernel
theorem dX2_copyFrom_10 : decode cX2_copyFrom 10 = .ok (.getfield 15, 3) := by decide +kernel
theorem dX2_copyFrom_13 : decode cX2_copyFrom 13 = .ok (.putfield 15, 3) := by decide +kernel
theorem dX2_copyFrom_16 : decode cX2_copyFrom 16 = .ok (.aload_n 0, 1) := by decide +kernel
theorem dX2_copyFrom_17 : decode cX2_copyFrom 17 = .ok (.aload_n 1, 1) := by decide +kernel
theorem dX2_copyFrom_18 : decode cX2_copyFrom 18 = .ok (.getfield 50, 3) := by decide +kernel
theorem dX2_copyFrom_21 : decode cX2_copyFrom 21 = .ok (.putfield 50, 3) := by decide +kernel
theorem dX2_copyFrom_24 : decode cX2_copyFrom 24 = .ok (.aload_n 0, 1) := by decide +kernel
theorem dX2_copyFrom_25 : decode cX2_copyFrom 25 = .ok (.aload_n 1, 1) := by decide +kernel
theorem dX2_copyFrom_26 : decode cX2_copyFrom 26 = .ok (.getfield 53, 3) := by decide +kernel
theorem dX2_copyFrom_29 : decode cX2_copyFrom 29 = .ok (.putfield 53, 3) := by decide +kernel
theorem dX2_copyFrom_32 : decode cX2_copyFrom 32 = .ok (.aload_n 0, 1) := by decide +kernel
theorem dX2_copyFrom_33 : decode cX2_copyFrom 33 = .ok (.aload_n 1, 1) := by decide +kernel
theorem dX2_copyFrom_34 : decode cX2_copyFrom 34 = .ok (.getfield 56, 3) := by decide +kernel
theorem dX2_copyFrom_37 : decode cX2_copyFrom 37 = .ok (.putfield 56, 3) := by decide +kernel
theorem dX2_copyFrom_40 : decode cX2_copyFrom 40 = .ok (.aload_n 1, 1) := by decide +kernel
theorem dX2_copyFrom_41 : decode cX2_copyFrom 41 = .ok (.getfield 18, 3) := by decide +kernel
theorem dX2_copyFrom_44 : decode cX2_copyFrom 44 = .ok (.aload_n 0, 1) := by decide +kernel
theorem dX2_copyFrom_45 : decode cX2_copyFrom 45 = .ok (.getfield 18, 3) := by decide +kernel
theorem dX2_copyFrom_48 : decode cX2_copyFrom 48 = .ok (.invokestatic 63, 3) := by decide +kernel
theorem dX2_copyFrom_51 : decode cX2_copyFrom 51 = .ok (.aload_n 1, 1) := by decide +kernel
theorem dX2_copyFrom_52 : decode cX2_copyFrom 52 = .ok (.getfield 22, 3) := by decide +kernel
theorem dX2_copyFrom_55 : decode cX2_copyFrom 55 = .ok (.aload_n 0, 1) := by decide +kernel
theorem dX2_copyFrom_56 : decode cX2_copyFrom 56 = .ok (.getfield 22, 3) := by decide +kernel
theorem dX2_copyFrom_59 : decode cX2_copyFrom 59 = .ok (.invokestatic 63, 3) := by decide +kernel
theorem dX2_copyFrom_62 : decode cX2_copyFrom 62 = .ok (.aload_n 1, 1) := by decide +kernel
theorem dX2_copyFrom_63 : decode cX2_copyFrom 63 = .ok (.getfield 25, 3) := by decide +kernel
theorem dX2_copyFrom_66 : decode cX2_copyFrom 66 = .ok (.aload_n 0, 1) := by decide +kernel
theorem dX2_copyFrom_67 : decode cX2_copyFrom 67 = .ok (.getfield 25, 3) := by decide +kernel
theorem dX2_copyFrom_70 : decode cX2_copyFrom 70 = .ok (.invokestatic 63, 3) := by decide +kernel
theorem dX2_copyFrom_73 : decode cX2_copyFrom 73 = .ok (.aload_n 1, 1) := by decide +kernel
theorem dX2_copyFrom_74 : decode cX2_copyFrom 74 = .ok (.getfield 28, 3) := by decide +kernel
theorem dX2_copyFrom_77 : decode cX2_copyFrom 77 = .ok (.aload_n 0, 1) := by decide +kernel
theorem dX2_copyFrom_78 : decode cX2_copyFrom 78 = .ok (.getfield 28, 3) := by decide +kernel
theorem dX2_copyFrom_81 : decode cX2_copyFrom 81 = .ok (.invokestatic 67, 3) := by decide +kernel
theorem dX2_copyFrom_84 : decode cX2_copyFrom 84 = .ok (.aload_n 1, 1) := by decide +kernel
theorem dX2_copyFrom_85 : decode cX2_copyFrom 85 = .ok (.getfield 32, 3) := by decide +kernel
theorem dX2_copyFrom_88 : decode cX2_copyFrom 88 = .ok (.aload_n 0, 1) := by decide +kernel
theorem dX2_copyFrom_89 : decode cX2_copyFrom 89 = .ok (.getfield 32, 3) := by decide +kernel
theorem dX2_copyFrom_92 : decode cX2_copyFrom 92 = .ok (.invokestatic 67, 3) := by decide +kernel
theorem dX2_copyFrom_95 : decode cX2_copyFrom 95 = .ok (.aload_n 1, 1) := by decide +kernel
theorem dX2_copyFrom_96 : decode cX2_copyFrom 96 = .ok (.getfield 35, 3) := by decide +kernel
theorem dX2_copyFrom_99 : decode cX2_copyFrom 99 = .ok (.aload_n 0, 1) := by decide +kernel
theorem dX2_copyFrom_100 : decode cX2_copyFrom 100 = .ok (.getfield 35, 3) := by decide +kernel
theorem dX2_copyFrom_103 : decode cX2_copyFrom 103 = .ok (.invokestatic 67, 3) := by decide +kernel
theorem dX2_copyFrom_106 : decode cX2_copyFrom 106 = .ok (.aload_n 1, 1) := by decide +kernel
theorem dX2_copyFrom_107 : decode cX2_copyFrom 107 = .ok (.getfield 38, 3) := by decide +kernel
theorem dX2_copyFrom_110 : decode cX2_copyFrom 110 = .ok (.aload_n 0, 1) := by decide +kernel
theorem dX2_copyFrom_111 : decode cX2_copyFrom 111 = .ok (.getfield 38, 3) := by decide +kernel
theorem dX2_copyFrom_114 : decode cX2_copyFrom 114 = .ok (.invokestatic 67, 3) := by decide +kernel
theorem dX2_copyFrom_117 : decode cX2_copyFrom 117 = .ok (.aload_n 1, 1) := by decide +kernel
theorem dX2_copyFrom_118 : decode cX2_copyFrom 118 = .ok (.getfield 41, 3) := by decide +kernel
theorem dX2_copyFrom_121 : decode cX2_copyFrom 121 = .ok (.aload_n 0, 1) := by decide +kernel
theorem dX2_copyFrom_122 : decode cX2_copyFrom 122 = .ok (.getfield 41, 3) := by decide +kernel
theorem dX2_copyFrom_125 : decode cX2_copyFrom 125 = .ok (.invokestatic 67, 3) := by decide +kernel
theorem dX2_copyFrom_128 : decode cX2_copyFrom 128 = .ok (.aload_n 1, 1) := by decide +kernel
theorem dX2_copyFrom_129 : decode cX2_copyFrom 129 = .ok (.getfield 44, 3) := by decide +kernel
theorem dX2_copyFrom_132 : decode cX2_copyFrom 132 = .ok (.aload_n 0, 1) := by decide +kernel
theorem dX2_copyFrom_133 : decode cX2_copyFrom 133 = .ok (.getfield 44, 3) := by decide +kernel
theorem dX2_copyFrom_136 : decode cX2_copyFrom 136 = .ok (.invokestatic 67, 3) := by decide +kernel
theorem dX2_copyFrom_139 : decode cX2_copyFrom 139 = .ok (.aload_n 1, 1) := by decide +kernel
theorem dX2_copyFrom_140 : decode cX2_copyFrom 140 = .ok (.getfield 47, 3) := by decide +kernel
theorem dX2_copyFrom_143 : decode cX2_copyFrom 143 = .ok (.aload_n 0, 1) := by decide +kernel
theorem dX2_copyFrom_144 : decode cX2_copyFrom 144 = .ok (.getfield 47, 3) := by decide +kernel
theorem dX2_copyFrom_147 : decode cX2_copyFrom 147 = .ok (.invokestatic 67, 3) := by decide +kernel
theorem dX2_copyFrom_150 : decode cX2_copyFrom 150 = .ok (.return_, 1) := by decide +kernel
def fX2_copyFrom (N n : Nat) (f : zF) (a0 : Nat) (a1 : Nat) : Option zF :=
    ((zgI n f 2 a1 0).bind fun x1 => ((zpI n f 2 a0 0 x1).bind fun f2 => ((zgI n f2 2 a1 1).bind fun x3 => ((zpI n f2 2 a0 1 x3).bind fun f4 => ((zgI n f4 2 a1 2).bind fun x5 => ((zpI n f4 2 a0 2 x5).bind fun f6 => ((zgI n f6 2 a1 3).bind fun x7 => ((zpI n f6 2 a0 3 x7).bind fun f8 => ((zgI n f8 2 a1 4).bind fun x9 => ((zpI n f8 2 a0 4 x9).bind fun f10 => ((zgR n f10 2 a1 5).bind fun x11 => ((zgR n f10 2 a0 5).bind fun x12 => ((fX11_copyNames N n f10 x11 x12).bind fun f13 => ((zgR n f13 2 a1 6).bind fun x14 => ((zgR n f13 2 a0 6).bind fun x15 => ((fX11_copyNames N n f13 x14 x15).bind fun f16 => ((zgR n f16 2 a1 7).bind fun x17 => ((zgR n f16 2 a0 7).bind fun x18 => ((fX11_copyNames N n f16 x17 x18).bind fun f19 => ((zgR n f19 2 a1 8).bind fun x20 => ((zgR n f19 2 a0 8).bind fun x21 => ((fX11_copy N n f19 x20 x21).bind fun f22 => ((zgR n f22 2 a1 9).bind fun x23 => ((zgR n f22 2 a0 9).bind fun x24 => ((fX11_copy N n f22 x23 x24).bind fun f25 => ((zgR n f25 2 a1 10).bind fun x26 => ((zgR n f25 2 a0 10).bind fun x27 => ((fX11_copy N n f25 x26 x27).bind fun f28 => ((zgR n f28 2 a1 11).bind fun x29 => ((zgR n f28 2 a0 11).bind fun x30 => ((fX11_copy N n f28 x29 x30).bind fun f31 => ((zgR n f31 2 a1 12).bind fun x32 => ((zgR n f31 2 a0 12).bind fun x33 => ((fX11_copy N n f31 x32 x33).bind fun f34 => ((zgR n f34 2 a1 13).bind fun x35 => ((zgR n f34 2 a0 13).bind fun x36 => ((fX11_copy N n f34 x35 x36).bind fun f37 => ((zgR n f37 2 a1 14).bind fun x38 => ((zgR n f37 2 a0 14).bind fun x39 => ((fX11_copy N n f37 x38 x39).bind fun f40 => some f40))))))))))))))))))))))))))))))))))))))))
set_option maxRecDepth 100000 in
set_option maxHeartbeats 4000000 in
theorem mX2_copyFrom (l : Launch) (G : zG) {N n : Nat} {f : zF} {f9 : zF} {a0 : Nat} {a1 : Nat} (h : fX2_copyFrom N n f a0 a1 = some f9) : zM l G yX2_copyFrom cX2_copyFrom 2 (none) 2 n f [zr G a0, zr G a1] (none) f9 := by
  refine zM.of (by decide) (Nat.le_of_ble_eq_true rfl) ?_
  intro p e s m args below meth c locs ls B hS hl
  have he := B.1
  have hb := B.2.1
  have hl : lv_has ls 2 [(0, zr G a0), (1, zr G a1)] := hl
  unfold fX2_copyFrom at h
  generalize s.heap = H at hS ⊢
  refine z_aload_n he hb dX2_copyFrom_0 rfl (lv_at hl 0 rfl) (zref_r _ _) ?_
  refine z_aload_n he hb dX2_copyFrom_1 rfl (lv_at hl 1 rfl) (zref_r _ _) ?_
  obtain ⟨x1, hx, h⟩ := zob h
  refine z_getI (ci := 2) (T := TX2) (N := 15) (j := 0) B hS hx rfl zin_X2 (by decide) zk_150 dX2_copyFrom_2 ?_
  obtain ⟨f2, hx, h⟩ := zob h
  refine z_putI (ci := 2) (T := TX2) (N := 15) (j := 0) B hS hx rfl zin_X2 tyX2 tyX2_ok nmX2 (by decide) zk_150 rfl rfl dX2_copyFrom_5 (fun H locs hS => ?_)
  refine z_aload_n he hb dX2_copyFrom_8 rfl (lv_at hl 0 rfl) (zref_r _ _) ?_
  refine z_aload_n he hb dX2_copyFrom_9 rfl (lv_at hl 1 rfl) (zref_r _ _) ?_
  obtain ⟨x3, hx, h⟩ := zob h
  refine z_getI (ci := 2) (T := TX2) (N := 15) (j := 1) B hS hx rfl zin_X2 (by decide) zk_154 dX2_copyFrom_10 ?_
  obtain ⟨f4, hx, h⟩ := zob h
  refine z_putI (ci := 2) (T := TX2) (N := 15) (j := 1) B hS hx rfl zin_X2 tyX2 tyX2_ok nmX2 (by decide) zk_154 rfl rfl dX2_copyFrom_13 (fun H locs hS => ?_)
  refine z_aload_n he hb dX2_copyFrom_16 rfl (lv_at hl 0 rfl) (zref_r _ _) ?_
  refine z_aload_n he hb dX2_copyFrom_17 rfl (lv_at hl 1 rfl) (zref_r _ _) ?_
  obtain ⟨x5, hx, h⟩ := zob h
  refine z_getI (ci := 2) (T := TX2) (N := 15) (j := 2) B hS hx rfl zin_X2 (by decide) zk_158 dX2_copyFrom_18 ?_
  obtain ⟨f6, hx, h⟩ := zob h
  refine z_putI (ci := 2) (T := TX2) (N := 15) (j := 2) B hS hx rfl zin_X2 tyX2 tyX2_ok nmX2 (by decide) zk_158 rfl rfl dX2_copyFrom_21 (fun H locs hS => ?_)
  refine z_aload_n he hb dX2_copyFrom_24 rfl (lv_at hl 0 rfl) (zref_r _ _) ?_
  refine z_aload_n he hb dX2_copyFrom_25 rfl (lv_at hl 1 rfl) (zref_r _ _) ?_
  obtain ⟨x7, hx, h⟩ := zob h
  refine z_getI (ci := 2) (T := TX2) (N := 15) (j := 3) B hS hx rfl zin_X2 (by decide) zk_163 dX2_copyFrom_26 ?_
  obtain ⟨f8, hx, h⟩ := zob h
  refine z_putI (ci := 2) (T := TX2) (N := 15) (j := 3) B hS hx rfl zin_X2 tyX2 tyX2_ok nmX2 (by decide) zk_163 rfl rfl dX2_copyFrom_29 (fun H locs hS => ?_)
  refine z_aload_n he hb dX2_copyFrom_32 rfl (lv_at hl 0 rfl) (zref_r _ _) ?_
  refine z_aload_n he hb dX2_copyFrom_33 rfl (lv_at hl 1 rfl) (zref_r _ _) ?_
  obtain ⟨x9, hx, h⟩ := zob h
  refine z_getI (ci := 2) (T := TX2) (N := 15) (j := 4) B hS hx rfl zin_X2 (by decide) zk_168 dX2_copyFrom_34 ?_
  obtain ⟨f10, hx, h⟩ := zob h
  refine z_putI (ci := 2) (T := TX2) (N := 15) (j := 4) B hS hx rfl zin_X2 tyX2 tyX2_ok nmX2 (by decide) zk_168 rfl rfl dX2_copyFrom_37 (fun H locs hS => ?_)
  refine z_aload_n he hb dX2_copyFrom_40 rfl (lv_at hl 1 rfl) (zref_r _ _) ?_
  obtain ⟨x11, hx, h⟩ := zob h
  refine z_getR (ci := 2) (T := TX2) (N := 15) (j := 5) B hS hx rfl zin_X2 (by decide) zk_174 dX2_copyFrom_41 ?_
  refine z_aload_n he hb dX2_copyFrom_44 rfl (lv_at hl 0 rfl) (zref_r _ _) ?_
  obtain ⟨x12, hx, h⟩ := zob h
  refine z_getR (ci := 2) (T := TX2) (N := 15) (j := 5) B hS hx rfl zin_X2 (by decide) zk_174 dX2_copyFrom_45 ?_
  obtain ⟨f13, hx, h⟩ := zob h
  refine z_callN (rest := []) B hS (mX11_copyNames l G hx) zy_X11_copyNames zkn_720 (by decide) rfl hl rfl (Nat.le_of_ble_eq_true rfl) dX2_copyFrom_48 (kk := (fun H locs hS => ?_))
  refine z_aload_n he hb dX2_copyFrom_51 rfl (lv_at hl 1 rfl) (zref_r _ _) ?_
  obtain ⟨x14, hx, h⟩ := zob h
  refine z_getR (ci := 2) (T := TX2) (N := 15) (j := 6) B hS hx rfl zin_X2 (by decide) zk_177 dX2_copyFrom_52 ?_
  refine z_aload_n he hb dX2_copyFrom_55 rfl (lv_at hl 0 rfl) (zref_r _ _) ?_
  obtain ⟨x15, hx, h⟩ := zob h
  refine z_getR (ci := 2) (T := TX2) (N := 15) (j := 6) B hS hx rfl zin_X2 (by decide) zk_177 dX2_copyFrom_56 ?_
  obtain ⟨f16, hx, h⟩ := zob h
  refine z_callN (rest := []) B hS (mX11_copyNames l G hx) zy_X11_copyNames zkn_720 (by decide) rfl hl rfl (Nat.le_of_ble_eq_true rfl) dX2_copyFrom_59 (kk := (fun H locs hS => ?_))
  refine z_aload_n he hb dX2_copyFrom_62 rfl (lv_at hl 1 rfl) (zref_r _ _) ?_
  obtain ⟨x17, hx, h⟩ := zob h
  refine z_getR (ci := 2) (T := TX2) (N := 15) (j := 7) B hS hx rfl zin_X2 (by decide) zk_181 dX2_copyFrom_63 ?_
  refine z_aload_n he hb dX2_copyFrom_66 rfl (lv_at hl 0 rfl) (zref_r _ _) ?_
  obtain ⟨x18, hx, h⟩ := zob h
  refine z_getR (ci := 2) (T := TX2) (N := 15) (j := 7) B hS hx rfl zin_X2 (by decide) zk_181 dX2_copyFrom_67 ?_
  obtain ⟨f19, hx, h⟩ := zob h
  refine z_callN (rest := []) B hS (mX11_copyNames l G hx) zy_X11_copyNames zkn_720 (by decide) rfl hl rfl (Nat.le_of_ble_eq_true rfl) dX2_copyFrom_70 (kk := (fun H locs hS => ?_))
  refine z_aload_n he hb dX2_copyFrom_73 rfl (lv_at hl 1 rfl) (zref_r _ _) ?_
  obtain ⟨x20, hx, h⟩ := zob h
  refine z_getR (ci := 2) (T := TX2) (N := 15) (j := 8) B hS hx rfl zin_X2 (by decide) zk_185 dX2_copyFrom_74 ?_
  refine z_aload_n he hb dX2_copyFrom_77 rfl (lv_at hl 0 rfl) (zref_r _ _) ?_
  obtain ⟨x21, hx, h⟩ := zob h
  refine z_getR (ci := 2) (T := TX2) (N := 15) (j := 8) B hS hx rfl zin_X2 (by decide) zk_185 dX2_copyFrom_78 ?_
  obtain ⟨f22, hx, h⟩ := zob h
  refine z_callN (rest := []) B hS (mX11_copy l G hx) zy_X11_copy zkn_727 (by decide) rfl hl rfl (Nat.le_of_ble_eq_true rfl) dX2_copyFrom_81 (kk := (fun H locs hS => ?_))
  refine z_aload_n he hb dX2_copyFrom_84 rfl (lv_at hl 1 rfl) (zref_r _ _) ?_
  obtain ⟨x23, hx, h⟩ := zob h
  refine z_getR (ci := 2) (T := TX2) (N := 15) (j := 9) B hS hx rfl zin_X2 (by decide) zk_188 dX2_copyFrom_85 ?_
  refine z_aload_n he hb dX2_copyFrom_88 rfl (lv_at hl 0 rfl) (zref_r _ _) ?_
  obtain ⟨x24, hx, h⟩ := zob h
  refine z_getR (ci := 2) (T := TX2) (N := 15) (j := 9) B hS hx rfl zin_X2 (by decide) zk_188 dX2_copyFrom_89 ?_
  obtain ⟨f25, hx, h⟩ := zob h
  refine z_callN (rest := []) B hS (mX11_copy l G hx) zy_X11_copy zkn_727 (by decide) rfl hl rfl (Nat.le_of_ble_eq_true rfl) dX2_copyFrom_92 (kk := (fun H locs hS => ?_))
  refine z_aload_n he hb dX2_copyFrom_95 rfl (lv_at hl 1 rfl) (zref_r _ _) ?_
  obtain ⟨x26, hx, h⟩ := zob h
  refine z_getR (ci := 2) (T := TX2) (N := 15) (j := 10) B hS hx rfl zin_X2 (by decide) zk_191 dX2_copyFrom_96 ?_
  refine z_aload_n he hb dX2_copyFrom_99 rfl (lv_at hl 0 rfl) (zref_r _ _) ?_
  obtain ⟨x27, hx, h⟩ := zob h
  refine z_getR (ci := 2) (T := TX2) (N := 15) (j := 10) B hS hx rfl zin_X2 (by decide) zk_191 dX2_copyFrom_100 ?_
  obtain ⟨f28, hx, h⟩ := zob h
  refine z_callN (rest := []) B hS (mX11_copy l G hx) zy_X11_copy zkn_727 (by decide) rfl hl rfl (Nat.le_of_ble_eq_true rfl) dX2_copyFrom_103 (kk := (fun H locs hS => ?_))
  refine z_aload_n he hb dX2_copyFrom_106 rfl (lv_at hl 1 rfl) (zref_r _ _) ?_
  obtain ⟨x29, hx, h⟩ := zob h
  refine z_getR (ci := 2) (T := TX2) (N := 15) (j := 11) B hS hx rfl zin_X2 (by decide) zk_196 dX2_copyFrom_107 ?_
  refine z_aload_n he hb dX2_copyFrom_110 rfl (lv_at hl 0 rfl) (zref_r _ _) ?_
  obtain ⟨x30, hx, h⟩ := zob h
  refine z_getR (ci := 2) (T := TX2) (N := 15) (j := 11) B hS hx rfl zin_X2 (by decide) zk_196 dX2_copyFrom_111 ?_
  obtain ⟨f31, hx, h⟩ := zob h
  refine z_callN (rest := []) B hS (mX11_copy l G hx) zy_X11_copy zkn_727 (by decide) rfl hl rfl (Nat.le_of_ble_eq_true rfl) dX2_copyFrom_114 (kk := (fun H locs hS => ?_))
  refine z_aload_n he hb dX2_copyFrom_117 rfl (lv_at hl 1 rfl) (zref_r _ _) ?_
  obtain ⟨x32, hx, h⟩ := zob h
  refine z_getR (ci := 2) (T := TX2) (N := 15) (j := 12) B hS hx rfl zin_X2 (by decide) zk_201 dX2_copyFrom_118 ?_
  refine z_aload_n he hb dX2_copyFrom_121 rfl (lv_at hl 0 rfl) (zref_r _ _) ?_
  obtain ⟨x33, hx, h⟩ := zob h
  refine z_getR (ci := 2) (T := TX2) (N := 15) (j := 12) B hS hx rfl zin_X2 (by decide) zk_201 dX2_copyFrom_122 ?_
  obtain ⟨f34, hx, h⟩ := zob h
  refine z_callN (rest := []) B hS (mX11_copy l G hx) zy_X11_copy zkn_727 (by decide) rfl hl rfl (Nat.le_of_ble_eq_true rfl) dX2_copyFrom_125 (kk := (fun H locs hS => ?_))
  refine z_aload_n he hb dX2_copyFrom_128 rfl (lv_at hl 1 rfl) (zref_r _ _) ?_
  obtain ⟨x35, hx, h⟩ := zob h
  refine z_getR (ci := 2) (T := TX2) (N := 15) (j := 13) B hS hx rfl zin_X2 (by decide) zk_204 dX2_copyFrom_129 ?_
  refine z_aload_n he hb dX2_copyFrom_132 rfl (lv_at hl 0 rfl) (zref_r _ _) ?_
  obtain ⟨x36, hx, h⟩ := zob h
  refine z_getR (ci := 2) (T := TX2) (N := 15) (j := 13) B hS hx rfl zin_X2 (by decide) zk_204 dX2_copyFrom_133 ?_
  obtain ⟨f37, hx, h⟩ := zob h
  refine z_callN (rest := []) B hS (mX11_copy l G hx) zy_X11_copy zkn_727 (by decide) rfl hl rfl (Nat.le_of_ble_eq_true rfl) dX2_copyFrom_136 (kk := (fun H locs hS => ?_))
  refine z_aload_n he hb dX2_copyFrom_139 rfl (lv_at hl 1 rfl) (zref_r _ _) ?_
  obtain ⟨x38, hx, h⟩ := zob h
  refine z_getR (ci := 2) (T := TX2) (N := 15) (j := 14) B hS hx rfl zin_X2 (by decide) zk_207 dX2_copyFrom_140 ?_
  refine z_aload_n he hb dX2_copyFrom_143 rfl (lv_at hl 0 rfl) (zref_r _ _) ?_
  obtain ⟨x39, hx, h⟩ := zob h
  refine z_getR (ci := 2) (T := TX2) (N := 15) (j := 14) B hS hx rfl zin_X2 (by decide) zk_207 dX2_copyFrom_144 ?_
  obtain ⟨f40, hx, h⟩ := zob h
  refine z_callN (rest := []) B hS (mX11_copy l G hx) zy_X11_copy zkn_727 (by decide) rfl hl rfl (Nat.le_of_ble_eq_true rfl) dX2_copyFrom_147 (kk := (fun H locs hS => ?_))
  obtain rfl := Option.some.inj h
  exact z_vret B hS dX2_copyFrom_150
theorem dX2_hasFigure_0 : decode cX2_hasFigure 0 = .ok (.iload_n 1, 1) := by decide +kernel
theorem dX2_hasFigure_1 : decode cX2_hasFigure 1 = .ok (.ifCond .lt 15, 3) := by decide +kernel
theorem dX2_hasFigure_4 : decode cX2_hasFigure 4 = .ok (.iload_n 1, 1) := by decide +kernel
theorem dX2_hasFigure_5 : decode cX2_hasFigure 5 = .ok (.aload_n 0, 1) := by decide +kernel
theorem dX2_hasFigure_6 : decode cX2_hasFigure 6 = .ok (.getfield 53, 3) := by decide +kernel
theorem dX2_hasFigure_9 : decode cX2_hasFigure 9 = .ok (.if_icmp .ge 7, 3) := by decide +kernel
theorem dX2_hasFigure_12 : decode cX2_hasFigure 12 = .ok (.iconst 1, 1) := by decide +kernel
theorem dX2_hasFigure_13 : decode cX2_hasFigure 13 = .ok (.goto 4, 3) := by decide +kernel
theorem dX2_hasFigure_16 : decode cX2_hasFigure 16 = .ok (.iconst 0, 1) := by decide +kernel
theorem dX2_hasFigure_17 : decode cX2_hasFigure 17 = .ok (.ireturn, 1) := by decide +kernel
def fX2_hasFigure (N n : Nat) (f : zF) (a0 : Nat) (a1 : Int32) : Option Int32 :=
    (if a1 < 0 then zbl (0 : Int32) else ((zgI n f 2 a0 3).bind fun x1 => (if x1 ≤ a1 then zbl (0 : Int32) else zbl (1 : Int32))))
set_option maxRecDepth 100000 in
set_option maxHeartbeats 4000000 in
theorem mX2_hasFigure (l : Launch) (G : zG) {N n : Nat} {f : zF} {r : Int32} {a0 : Nat} {a1 : Int32} (h : fX2_hasFigure N n f a0 a1 = some r) : zM l G yX2_hasFigure cX2_hasFigure 2 (some .boolean) 0 n f [zr G a0, .int a1] (some (.int r)) f := by
  refine zM.of (by decide) (Nat.le_of_ble_eq_true rfl) ?_
  intro p e s m args below meth c locs ls B hS hl
  have he := B.1
  have hb := B.2.1
  have hl : lv_has ls 2 [(0, zr G a0), (1, .int a1)] := hl
  unfold fX2_hasFigure at h
  generalize s.heap = H at hS ⊢
  refine lv_iload_n he hb dX2_hasFigure_0 rfl (lv_at hl 1 rfl) ?_
  refine lv_if_lt (tgt := 16) he hb dX2_hasFigure_1 (by decide) (fun hc => ?_) (fun hc => ?_)
  · rw [if_pos hc] at h
    refine lv_iconst (v := (0 : Int32)) he hb dX2_hasFigure_16 (by decide) ?_
    obtain ⟨hz, rfl⟩ := zbl_i h
    exact z_zret B hS hz dX2_hasFigure_17
  · rw [if_neg hc] at h
    refine lv_iload_n he hb dX2_hasFigure_4 rfl (lv_at hl 1 rfl) ?_
    refine z_aload_n he hb dX2_hasFigure_5 rfl (lv_at hl 0 rfl) (zref_r _ _) ?_
    obtain ⟨x1, hx, h⟩ := zob h
    refine z_getI (ci := 2) (T := TX2) (N := 15) (j := 3) B hS hx rfl zin_X2 (by decide) zk_163 dX2_hasFigure_6 ?_
    refine lv_icmp_ge (tgt := 16) he hb dX2_hasFigure_9 (by decide) (fun hc => ?_) (fun hc => ?_)
    · rw [if_pos hc] at h
      refine lv_iconst (v := (0 : Int32)) he hb dX2_hasFigure_16 (by decide) ?_
      obtain ⟨hz, rfl⟩ := zbl_i h
      exact z_zret B hS hz dX2_hasFigure_17
    · rw [if_neg hc] at h
      refine lv_iconst (v := (1 : Int32)) he hb dX2_hasFigure_12 (by decide) ?_
      refine lv_goto (tgt := 17) he hb dX2_hasFigure_13 (by decide) ?_
      obtain ⟨hz, rfl⟩ := zbl_i h
      exact z_zret B hS hz dX2_hasFigure_17
theorem dX2_hasLooker_0 : decode cX2_hasLooker 0 = .ok (.iload_n 1, 1) := by decide +kernel
theorem dX2_hasLooker_1 : decode cX2_hasLooker 1 = .ok (.ifCond .lt 15, 3) := by decide +kernel
theorem dX2_hasLooker_4 : decode cX2_hasLooker 4 = .ok (.iload_n 1, 1) := by decide +kernel
theorem dX2_hasLooker_5 : decode cX2_hasLooker 5 = .ok (.aload_n 0, 1) := by decide +kernel
theorem dX2_hasLooker_6 : decode cX2_hasLooker 6 = .ok (.getfield 56, 3) := by decide +kernel
theorem dX2_hasLooker_9 : decode cX2_hasLooker 9 = .ok (.if_icmp .ge 7, 3) := by decide +kernel
theorem dX2_hasLooker_12 : decode cX2_hasLooker 12 = .ok (.iconst 1, 1) := by decide +kernel
theorem dX2_hasLooker_13 : decode cX2_hasLooker 13 = .ok (.goto 4, 3) := by decide +kernel
theorem dX2_hasLooker_16 : decode cX2_hasLooker 16 = .ok (.iconst 0, 1) := by decide +kernel
theorem dX2_hasLooker_17 : decode cX2_hasLooker 17 = .ok (.ireturn, 1) := by decide +kernel
def fX2_hasLooker (N n : Nat) (f : zF) (a0 : Nat) (a1 : Int32) : Option Int32 :=
    (if a1 < 0 then zbl (0 : Int32) else ((zgI n f 2 a0 4).bind fun x1 => (if x1 ≤ a1 then zbl (0 : Int32) else zbl (1 : Int32))))
set_option maxRecDepth 100000 in
set_option maxHeartbeats 4000000 in
theorem mX2_hasLooker (l : Launch) (G : zG) {N n : Nat} {f : zF} {r : Int32} {a0 : Nat} {a1 : Int32} (h : fX2_hasLooker N n f a0 a1 = some r) : zM l G yX2_hasLooker cX2_hasLooker 2 (some .boolean) 0 n f [zr G a0, .int a1] (some (.int r)) f := by
  refine zM.of (by decide) (Nat.le_of_ble_eq_true rfl) ?_
  intro p e s m args below meth c locs ls B hS hl
  have he := B.1
  have hb := B.2.1
  have hl : lv_has ls 2 [(0, zr G a0), (1, .int a1)] := hl
  unfold fX2_hasLooker at h
  generalize s.heap = H at hS ⊢
  refine lv_iload_n he hb dX2_hasLooker_0 rfl (lv_at hl 1 rfl) ?_
  refine lv_if_lt (tgt := 16) he hb dX2_hasLooker_1 (by decide) (fun hc => ?_) (fun hc => ?_)
  · rw [if_pos hc] at h
    refine lv_iconst (v := (0 : Int32)) he hb dX2_hasLooker_16 (by decide) ?_
    obtain ⟨hz, rfl⟩ := zbl_i h
    exact z_zret B hS hz dX2_hasLooker_17
  · rw [if_neg hc] at h
    refine lv_iload_n he hb dX2_hasLooker_4 rfl (lv_at hl 1 rfl) ?_
    refine z_aload_n he hb dX2_hasLooker_5 rfl (lv_at hl 0 rfl) (zref_r _ _) ?_
    obtain ⟨x1, hx, h⟩ := zob h
    refine z_getI (ci := 2) (T := TX2) (N := 15) (j := 4) B hS hx rfl zin_X2 (by decide) zk_168 dX2_hasLooker_6 ?_
    refine lv_icmp_ge (tgt := 16) he hb dX2_hasLooker_9 (by decide) (fun hc => ?_) (fun hc => ?_)
    · rw [if_pos hc] at h
      refine lv_iconst (v := (0 : Int32)) he hb dX2_hasLooker_16 (by decide) ?_
      obtain ⟨hz, rfl⟩ := zbl_i h
      exact z_zret B hS hz dX2_hasLooker_17
    · rw [if_neg hc] at h
      refine lv_iconst (v := (1 : Int32)) he hb dX2_hasLooker_12 (by decide) ?_
      refine lv_goto (tgt := 17) he hb dX2_hasLooker_13 (by decide) ?_
      obtain ⟨hz, rfl⟩ := zbl_i h
      exact z_zret B hS hz dX2_hasLooker_17
theorem dX2_hasCell_0 : decode cX2_hasCell 0 = .ok (.iload_n 1, 1) := by decide +kernel
theorem dX2_hasCell_1 : decode cX2_hasCell 1 = .ok (.ifCond .lt 27, 3) := by decide +kernel
theorem dX2_hasCell_4 : decode cX2_hasCell 4 = .ok (.iload_n 1, 1) := by decide +kernel
theorem dX2_hasCell_5 : decode cX2_hasCell 5 = .ok (.aload_n 0, 1) := by decide +kernel
theorem dX2_hasCell_6 : decode cX2_hasCell 6 = .ok (.getfield 9, 3) := by decide +kernel
theorem dX2_hasCell_9 : decode cX2_hasCell 9 = .ok (.if_icmp .ge 19, 3) := by decide +kernel
theorem dX2_hasCell_12 : decode cX2_hasCell 12 = .ok (.iload_n 2, 1) := by decide +kernel
theorem dX2_hasCell_13 : decode cX2_hasCell 13 = .ok (.ifCond .lt 15, 3) := by decide +kernel
theorem dX2_hasCell_16 : decode cX2_hasCell 16 = .ok (.iload_n 2, 1) := by decide +kernel
theorem dX2_hasCell_17 : decode cX2_hasCell 17 = .ok (.aload_n 0, 1) := by decide +kernel
theorem dX2_hasCell_18 : decode cX2_hasCell 18 = .ok (.getfield 15, 3) := by decide +kernel
theorem dX2_hasCell_21 : decode cX2_hasCell 21 = .ok (.if_icmp .ge 7, 3) := by decide +kernel
theorem dX2_hasCell_24 : decode cX2_hasCell 24 = .ok (.iconst 1, 1) := by decide +kernel
theorem dX2_hasCell_25 : decode cX2_hasCell 25 = .ok (.goto 4, 3) := by decide +kernel
theorem dX2_hasCell_28 : decode cX2_hasCell 28 = .ok (.iconst 0, 1) := by decide +kernel
theorem dX2_hasCell_29 : decode cX2_hasCell 29 = .ok (.ireturn, 1) := by decide +kernel
def fX2_hasCell (N n : Nat) (f : zF) (a0 : Nat) (a1 : Int32) (a2 : Int32) : Option Int32 :=
    (if a1 < 0 then zbl (0 : Int32) else ((zgI n f 2 a0 0).bind fun x1 => (if x1 ≤ a1 then zbl (0 : Int32) else (if a2 < 0 then zbl (0 : Int32) else ((zgI n f 2 a0 1).bind fun x2 => (if x2 ≤ a2 then zbl (0 : Int32) else zbl (1 : Int32)))))))
set_option maxRecDepth 100000 in
set_option maxHeartbeats 4000000 in
theorem mX2_hasCell (l : Launch) (G : zG) {N n : Nat} {f : zF} {r : Int32} {a0 : Nat} {a1 : Int32} {a2 : Int32} (h : fX2_hasCell N n f a0 a1 a2 = some r) : zM l G yX2_hasCell cX2_hasCell 3 (some .boolean) 0 n f [zr G a0, .int a1, .int a2] (some (.int r)) f := by
  refine zM.of (by decide) (Nat.le_of_ble_eq_true rfl) ?_
  intro p e s m args below meth c locs ls B hS hl
  have he := B.1
  have hb := B.2.1
  have hl : lv_has ls 3 [(0, zr G a0), (1, .int a1), (2, .int a2)] := hl
  unfold fX2_hasCell at h
  generalize s.heap = H at hS ⊢
  refine lv_iload_n he hb dX2_hasCell_0 rfl (lv_at hl 1 rfl) ?_
  refine lv_if_lt (tgt := 28) he hb dX2_hasCell_1 (by decide) (fun hc => ?_) (fun hc => ?_)
  · rw [if_pos hc] at h
    refine lv_iconst (v := (0 : Int32)) he hb dX2_hasCell_28 (by decide) ?_
    obtain ⟨hz, rfl⟩ := zbl_i h
    exact z_zret B hS hz dX2_hasCell_29
  · rw [if_neg hc] at h
    refine lv_iload_n he hb dX2_hasCell_4 rfl (lv_at hl 1 rfl) ?_
    refine z_aload_n he hb dX2_hasCell_5 rfl (lv_at hl 0 rfl) (zref_r _ _) ?_
    obtain ⟨x1, hx, h⟩ := zob h
    refine z_getI (ci := 2) (T := TX2) (N := 15) (j := 0) B hS hx rfl zin_X2 (by decide) zk_150 dX2_hasCell_6 ?_
    refine lv_icmp_ge (tgt := 28) he hb dX2_hasCell_9 (by decide) (fun hc => ?_) (fun hc => ?_)
    · rw [if_pos hc] at h
      refine lv_iconst (v := (0 : Int32)) he hb dX2_hasCell_28 (by decide) ?_
      obtain ⟨hz, rfl⟩ := zbl_i h
      exact z_zret B hS hz dX2_hasCell_29
    · rw [if_neg hc] at h
      refine lv_iload_n he hb dX2_hasCell_12 rfl (lv_at hl 2 rfl) ?_
      refine lv_if_lt (tgt := 28) he hb dX2_hasCell_13 (by decide) (fun hc => ?_) (fun hc => ?_)
      · rw [if_pos hc] at h
        refine lv_iconst (v := (0 : Int32)) he hb dX2_hasCell_28 (by decide) ?_
        obtain ⟨hz, rfl⟩ := zbl_i h
        exact z_zret B hS hz dX2_hasCell_29
      · rw [if_neg hc] at h
        refine lv_iload_n he hb dX2_hasCell_16 rfl (lv_at hl 2 rfl) ?_
        refine z_aload_n he hb dX2_hasCell_17 rfl (lv_at hl 0 rfl) (zref_r _ _) ?_
        obtain ⟨x2, hx, h⟩ := zob h
        refine z_getI (ci := 2) (T := TX2) (N := 15) (j := 1) B hS hx rfl zin_X2 (by decide) zk_154 dX2_hasCell_18 ?_
        refine lv_icmp_ge (tgt := 28) he hb dX2_hasCell_21 (by decide) (fun hc => ?_) (fun hc => ?_)
        · rw [if_pos hc] at h
          refine lv_iconst (v := (0 : Int32)) he hb dX2_hasCell_28 (by decide) ?_
          obtain ⟨hz, rfl⟩ := zbl_i h
          exact z_zret B hS hz dX2_hasCell_29
        · rw [if_neg hc] at h
          refine lv_iconst (v := (1 : Int32)) he hb dX2_hasCell_24 (by decide) ?_
          refine lv_goto (tgt := 29) he hb dX2_hasCell_25 (by decide) ?_
          obtain ⟨hz, rfl⟩ := zbl_i h
          exact z_zret B hS hz dX2_hasCell_29
theorem dX2_isTold_0 : decode cX2_isTold 0 = .ok (.aload_n 0, 1) := by decide +kernel
theorem dX2_isTold_1 : decode cX2_isTold 1 = .ok (.getfield 18, 3) := by decide +kernel
theorem dX2_isTold_4 : decode cX2_isTold 4 = .ok (.aload_n 0, 1) := by decide +kernel
theorem dX2_isTold_5 : decode cX2_isTold 5 = .ok (.getfield 50, 3) := by decide +kernel
theorem dX2_isTold_8 : decode cX2_isTold 8 = .ok (.lload_n 1, 1) := by decide +kernel
theorem dX2_isTold_9 : decode cX2_isTold 9 = .ok (.invokestatic 71, 3) := by decide +kernel
theorem dX2_isTold_12 : decode cX2_isTold 12 = .ok (.iconst (-1), 1) := by decide +kernel
theorem dX2_isTold_13 : decode cX2_isTold 13 = .ok (.if_icmp .ne 35, 3) := by decide +kernel
theorem dX2_isTold_16 : decode cX2_isTold 16 = .ok (.aload_n 0, 1) := by decide +kernel
theorem dX2_isTold_17 : decode cX2_isTold 17 = .ok (.getfield 22, 3) := by decide +kernel
theorem dX2_isTold_20 : decode cX2_isTold 20 = .ok (.aload_n 0, 1) := by decide +kernel
theorem dX2_isTold_21 : decode cX2_isTold 21 = .ok (.getfield 53, 3) := by decide +kernel
theorem dX2_isTold_24 : decode cX2_isTold 24 = .ok (.lload_n 1, 1) := by decide +kernel
theorem dX2_isTold_25 : decode cX2_isTold 25 = .ok (.invokestatic 71, 3) := by decide +kernel
theorem dX2_isTold_28 : decode cX2_isTold 28 = .ok (.iconst (-1), 1) := by decide +kernel
theorem dX2_isTold_29 : decode cX2_isTold 29 = .ok (.if_icmp .ne 19, 3) := by decide +kernel
theorem dX2_isTold_32 : decode cX2_isTold 32 = .ok (.aload_n 0, 1) := by decide +kernel
theorem dX2_isTold_33 : decode cX2_isTold 33 = .ok (.getfield 25, 3) := by decide +kernel
theorem dX2_isTold_36 : decode cX2_isTold 36 = .ok (.aload_n 0, 1) := by decide +kernel
theorem dX2_isTold_37 : decode cX2_isTold 37 = .ok (.getfield 56, 3) := by decide +kernel
theorem dX2_isTold_40 : decode cX2_isTold 40 = .ok (.lload_n 1, 1) := by decide +kernel
theorem dX2_isTold_41 : decode cX2_isTold 41 = .ok (.invokestatic 71, 3) := by decide +kernel
theorem dX2_isTold_44 : decode cX2_isTold 44 = .ok (.iconst (-1), 1) := by decide +kernel
theorem dX2_isTold_45 : decode cX2_isTold 45 = .ok (.if_icmp .eq 7, 3) := by decide +kernel
theorem dX2_isTold_48 : decode cX2_isTold 48 = .ok (.iconst 1, 1) := by decide +kernel
theorem dX2_isTold_49 : decode cX2_isTold 49 = .ok (.goto 4, 3) := by decide +kernel
theorem dX2_isTold_52 : decode cX2_isTold 52 = .ok (.iconst 0, 1) := by decide +kernel
theorem dX2_isTold_53 : decode cX2_isTold 53 = .ok (.ireturn, 1) := by decide +kernel
def fX2_isTold (N n : Nat) (f : zF) (a0 : Nat) (a1 : Int64) : Option Int32 :=
    ((zgR n f 2 a0 5).bind fun x1 => ((zgI n f 2 a0 2).bind fun x2 => ((fX11_placeOf N n f x1 x2 a1).bind fun x3 => (if x3 = (-1 : Int32) then ((zgR n f 2 a0 6).bind fun x4 => ((zgI n f 2 a0 3).bind fun x5 => ((fX11_placeOf N n f x4 x5 a1).bind fun x6 => (if x6 = (-1 : Int32) then ((zgR n f 2 a0 7).bind fun x7 => ((zgI n f 2 a0 4).bind fun x8 => ((fX11_placeOf N n f x7 x8 a1).bind fun x9 => (if x9 = (-1 : Int32) then zbl (0 : Int32) else zbl (1 : Int32))))) else zbl (1 : Int32))))) else zbl (1 : Int32)))))
set_option maxRecDepth 100000 in
set_option maxHeartbeats 4000000 in
theorem mX2_isTold (l : Launch) (G : zG) {N n : Nat} {f : zF} {r : Int32} {a0 : Nat} {a1 : Int64} (h : fX2_isTold N n f a0 a1 = some r) : zM l G yX2_isTold cX2_isTold 3 (some .boolean) 1 n f [zr G a0, .long a1] (some (.int r)) f := by
  refine zM.of (by decide) (Nat.le_of_ble_eq_true rfl) ?_
  intro p e s m args below meth c locs ls B hS hl
  have he := B.1
  have hb := B.2.1
  have hl : lv_has ls 3 [(0, zr G a0), (1, .long a1)] := hl
  unfold fX2_isTold at h
  generalize s.heap = H at hS ⊢
  refine z_aload_n he hb dX2_isTold_0 rfl (lv_at hl 0 rfl) (zref_r _ _) ?_
  obtain ⟨x1, hx, h⟩ := zob h
  refine z_getR (ci := 2) (T := TX2) (N := 15) (j := 5) B hS hx rfl zin_X2 (by decide) zk_174 dX2_isTold_1 ?_
  refine z_aload_n he hb dX2_isTold_4 rfl (lv_at hl 0 rfl) (zref_r _ _) ?_
  obtain ⟨x2, hx, h⟩ := zob h
  refine z_getI (ci := 2) (T := TX2) (N := 15) (j := 2) B hS hx rfl zin_X2 (by decide) zk_158 dX2_isTold_5 ?_
  refine lv_lload_n he hb dX2_isTold_8 rfl (lv_at hl 1 rfl) ?_
  obtain ⟨x3, hx, h⟩ := zob h
  refine z_callN (rest := []) B hS (mX11_placeOf l G hx) zy_X11_placeOf zkn_669 (by decide) rfl hl rfl (Nat.le_of_ble_eq_true rfl) dX2_isTold_9 (kk := (fun H locs hS => ?_))
  refine lv_iconst (v := (-1 : Int32)) he hb dX2_isTold_12 (by decide) ?_
  refine lv_icmp_ne (tgt := 48) he hb dX2_isTold_13 (by decide) (fun hc => ?_) (fun hc => ?_)
  · rw [if_neg hc] at h
    refine lv_iconst (v := (1 : Int32)) he hb dX2_isTold_48 (by decide) ?_
    refine lv_goto (tgt := 53) he hb dX2_isTold_49 (by decide) ?_
    obtain ⟨hz, rfl⟩ := zbl_i h
    exact z_zret B hS hz dX2_isTold_53
  · rw [if_pos hc] at h
    refine z_aload_n he hb dX2_isTold_16 rfl (lv_at hl 0 rfl) (zref_r _ _) ?_
    obtain ⟨x4, hx, h⟩ := zob h
    refine z_getR (ci := 2) (T := TX2) (N := 15) (j := 6) B hS hx rfl zin_X2 (by decide) zk_177 dX2_isTold_17 ?_
    refine z_aload_n he hb dX2_isTold_20 rfl (lv_at hl 0 rfl) (zref_r _ _) ?_
    obtain ⟨x5, hx, h⟩ := zob h
    refine z_getI (ci := 2) (T := TX2) (N := 15) (j := 3) B hS hx rfl zin_X2 (by decide) zk_163 dX2_isTold_21 ?_
    refine lv_lload_n he hb dX2_isTold_24 rfl (lv_at hl 1 rfl) ?_
    obtain ⟨x6, hx, h⟩ := zob h
    refine z_callN (rest := []) B hS (mX11_placeOf l G hx) zy_X11_placeOf zkn_669 (by decide) rfl hl rfl (Nat.le_of_ble_eq_true rfl) dX2_isTold_25 (kk := (fun H locs hS => ?_))
    refine lv_iconst (v := (-1 : Int32)) he hb dX2_isTold_28 (by decide) ?_
    refine lv_icmp_ne (tgt := 48) he hb dX2_isTold_29 (by decide) (fun hc => ?_) (fun hc => ?_)
    · rw [if_neg hc] at h
      refine lv_iconst (v := (1 : Int32)) he hb dX2_isTold_48 (by decide) ?_
      refine lv_goto (tgt := 53) he hb dX2_isTold_49 (by decide) ?_
      obtain ⟨hz, rfl⟩ := zbl_i h
      exact z_zret B hS hz dX2_isTold_53
    · rw [if_pos hc] at h
      refine z_aload_n he hb dX2_isTold_32 rfl (lv_at hl 0 rfl) (zref_r _ _) ?_
      obtain ⟨x7, hx, h⟩ := zob h
      refine z_getR (ci := 2) (T := TX2) (N := 15) (j := 7) B hS hx rfl zin_X2 (by decide) zk_181 dX2_isTold_33 ?_
      refine z_aload_n he hb dX2_isTold_36 rfl (lv_at hl 0 rfl) (zref_r _ _) ?_
      obtain ⟨x8, hx, h⟩ := zob h
      refine z_getI (ci := 2) (T := TX2) (N := 15) (j := 4) B hS hx rfl zin_X2 (by decide) zk_168 dX2_isTold_37 ?_
      refine lv_lload_n he hb dX2_isTold_40 rfl (lv_at hl 1 rfl) ?_
      obtain ⟨x9, hx, h⟩ := zob h
      refine z_callN (rest := []) B hS (mX11_placeOf l G hx) zy_X11_placeOf zkn_669 (by decide) rfl hl rfl (Nat.le_of_ble_eq_true rfl) dX2_isTold_41 (kk := (fun H locs hS => ?_))
      refine lv_iconst (v := (-1 : Int32)) he hb dX2_isTold_44 (by decide) ?_
      refine lv_icmp_eq (tgt := 52) he hb dX2_isTold_45 (by decide) (fun hc => ?_) (fun hc => ?_)
      · rw [if_pos hc] at h
        refine lv_iconst (v := (0 : Int32)) he hb dX2_isTold_52 (by decide) ?_
        obtain ⟨hz, rfl⟩ := zbl_i h
        exact z_zret B hS hz dX2_isTold_53
      · rw [if_neg hc] at h
        refine lv_iconst (v := (1 : Int32)) he hb dX2_isTold_48 (by decide) ?_
        refine lv_goto (tgt := 53) he hb dX2_isTold_49 (by decide) ?_
        obtain ⟨hz, rfl⟩ := zbl_i h
        exact z_zret B hS hz dX2_isTold_53
