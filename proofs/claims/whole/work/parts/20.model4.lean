/-! methods: what they do to the small heap, and that their bytecode does it -/
theorem dX12_does_0 : decode cX12_does 0 = .ok (.iconst 0, 1) := by decide +kernel
theorem dX12_does_1 : decode cX12_does 1 = .ok (.istore 4, 2) := by decide +kernel
theorem dX12_does_3 : decode cX12_does 3 = .ok (.iload_n 1, 1) := by decide +kernel
theorem dX12_does_4 : decode cX12_does 4 = .ok (.tableswitch 186 0 4 #[36, 71, 112, 112, 159], 36) := by decide +kernel
theorem dX12_does_40 : decode cX12_does 40 = .ok (.aload_n 0, 1) := by decide +kernel
theorem dX12_does_41 : decode cX12_does 41 = .ok (.getfield 33, 3) := by decide +kernel
theorem dX12_does_44 : decode cX12_does 44 = .ok (.sipush 164, 3) := by decide +kernel
theorem dX12_does_47 : decode cX12_does 47 = .ok (.iload_n 2, 1) := by decide +kernel
theorem dX12_does_48 : decode cX12_does 48 = .ok (.iadd, 1) := by decide +kernel
theorem dX12_does_49 : decode cX12_does 49 = .ok (.iaload, 1) := by decide +kernel
theorem dX12_does_50 : decode cX12_does 50 = .ok (.iload_n 3, 1) := by decide +kernel
theorem dX12_does_51 : decode cX12_does 51 = .ok (.if_icmp .ne 7, 3) := by decide +kernel
theorem dX12_does_54 : decode cX12_does 54 = .ok (.iconst 1, 1) := by decide +kernel
theorem dX12_does_55 : decode cX12_does 55 = .ok (.goto 4, 3) := by decide +kernel
theorem dX12_does_58 : decode cX12_does 58 = .ok (.iconst 0, 1) := by decide +kernel
theorem dX12_does_59 : decode cX12_does 59 = .ok (.istore 4, 2) := by decide +kernel
theorem dX12_does_61 : decode cX12_does 61 = .ok (.aload_n 0, 1) := by decide +kernel
theorem dX12_does_62 : decode cX12_does 62 = .ok (.getfield 33, 3) := by decide +kernel
theorem dX12_does_65 : decode cX12_does 65 = .ok (.sipush 164, 3) := by decide +kernel
theorem dX12_does_68 : decode cX12_does 68 = .ok (.iload_n 2, 1) := by decide +kernel
theorem dX12_does_69 : decode cX12_does 69 = .ok (.iadd, 1) := by decide +kernel
theorem dX12_does_70 : decode cX12_does 70 = .ok (.iload_n 3, 1) := by decide +kernel
theorem dX12_does_71 : decode cX12_does 71 = .ok (.iastore, 1) := by decide +kernel
theorem dX12_does_72 : decode cX12_does 72 = .ok (.goto 152, 3) := by decide +kernel
theorem dX12_does_75 : decode cX12_does 75 = .ok (.aload_n 0, 1) := by decide +kernel
theorem dX12_does_76 : decode cX12_does 76 = .ok (.iload_n 2, 1) := by decide +kernel
theorem dX12_does_77 : decode cX12_does 77 = .ok (.iload_n 3, 1) := by decide +kernel
theorem dX12_does_78 : decode cX12_does 78 = .ok (.invokevirtual 335, 3) := by decide +kernel
theorem dX12_does_81 : decode cX12_does 81 = .ok (.istore 4, 2) := by decide +kernel
theorem dX12_does_83 : decode cX12_does 83 = .ok (.iload 4, 2) := by decide +kernel
theorem dX12_does_85 : decode cX12_does 85 = .ok (.ifCond .ne 139, 3) := by decide +kernel
theorem dX12_does_88 : decode cX12_does 88 = .ok (.aload_n 0, 1) := by decide +kernel
theorem dX12_does_89 : decode cX12_does 89 = .ok (.getfield 33, 3) := by decide +kernel
theorem dX12_does_92 : decode cX12_does 92 = .ok (.sipush 159, 3) := by decide +kernel
theorem dX12_does_95 : decode cX12_does 95 = .ok (.iload_n 2, 1) := by decide +kernel
theorem dX12_does_96 : decode cX12_does 96 = .ok (.iadd, 1) := by decide +kernel
theorem dX12_does_97 : decode cX12_does 97 = .ok (.aload_n 0, 1) := by decide +kernel
theorem dX12_does_98 : decode cX12_does 98 = .ok (.aload_n 0, 1) := by decide +kernel
theorem dX12_does_99 : decode cX12_does 99 = .ok (.getfield 33, 3) := by decide +kernel
theorem dX12_does_102 : decode cX12_does 102 = .ok (.sipush 159, 3) := by decide +kernel
theorem dX12_does_105 : decode cX12_does 105 = .ok (.iload_n 2, 1) := by decide +kernel
theorem dX12_does_106 : decode cX12_does 106 = .ok (.iadd, 1) := by decide +kernel
theorem dX12_does_107 : decode cX12_does 107 = .ok (.iaload, 1) := by decide +kernel
theorem dX12_does_108 : decode cX12_does 108 = .ok (.iload_n 3, 1) := by decide +kernel
theorem dX12_does_109 : decode cX12_does 109 = .ok (.invokevirtual 280, 3) := by decide +kernel
theorem dX12_does_112 : decode cX12_does 112 = .ok (.iastore, 1) := by decide +kernel
theorem dX12_does_113 : decode cX12_does 113 = .ok (.goto 111, 3) := by decide +kernel
theorem dX12_does_116 : decode cX12_does 116 = .ok (.aload_n 0, 1) := by decide +kernel
theorem dX12_does_117 : decode cX12_does 117 = .ok (.iload_n 2, 1) := by decide +kernel
theorem dX12_does_118 : decode cX12_does 118 = .ok (.invokevirtual 292, 3) := by decide +kernel
theorem dX12_does_121 : decode cX12_does 121 = .ok (.iload_n 1, 1) := by decide +kernel
theorem dX12_does_122 : decode cX12_does 122 = .ok (.iconst 2, 1) := by decide +kernel
theorem dX12_does_123 : decode cX12_does 123 = .ok (.if_icmp .ne 7, 3) := by decide +kernel
theorem dX12_does_126 : decode cX12_does 126 = .ok (.iconst 1, 1) := by decide +kernel
theorem dX12_does_127 : decode cX12_does 127 = .ok (.goto 4, 3) := by decide +kernel
theorem dX12_does_130 : decode cX12_does 130 = .ok (.iconst 0, 1) := by decide +kernel
theorem dX12_does_131 : decode cX12_does 131 = .ok (.if_icmp .ne 7, 3) := by decide +kernel
theorem dX12_does_134 : decode cX12_does 134 = .ok (.iconst 1, 1) := by decide +kernel
theorem dX12_does_135 : decode cX12_does 135 = .ok (.goto 4, 3) := by decide +kernel
theorem dX12_does_138 : decode cX12_does 138 = .ok (.iconst 0, 1) := by decide +kernel
theorem dX12_does_139 : decode cX12_does 139 = .ok (.istore 4, 2) := by decide +kernel
theorem dX12_does_141 : decode cX12_does 141 = .ok (.iload 4, 2) := by decide +kernel
theorem dX12_does_143 : decode cX12_does 143 = .ok (.ifCond .ne 81, 3) := by decide +kernel
theorem dX12_does_146 : decode cX12_does 146 = .ok (.aload_n 0, 1) := by decide +kernel
theorem dX12_does_147 : decode cX12_does 147 = .ok (.getfield 33, 3) := by decide +kernel
theorem dX12_does_150 : decode cX12_does 150 = .ok (.sipush 140, 3) := by decide +kernel
theorem dX12_does_153 : decode cX12_does 153 = .ok (.dup2, 1) := by decide +kernel
theorem dX12_does_154 : decode cX12_does 154 = .ok (.iaload, 1) := by decide +kernel
theorem dX12_does_155 : decode cX12_does 155 = .ok (.iconst 1, 1) := by decide +kernel
theorem dX12_does_156 : decode cX12_does 156 = .ok (.iload_n 2, 1) := by decide +kernel
theorem dX12_does_157 : decode cX12_does 157 = .ok (.ishl, 1) := by decide +kernel
theorem dX12_does_158 : decode cX12_does 158 = .ok (.ixor, 1) := by decide +kernel
theorem dX12_does_159 : decode cX12_does 159 = .ok (.iastore, 1) := by decide +kernel
theorem dX12_does_160 : decode cX12_does 160 = .ok (.goto 64, 3) := by decide +kernel
theorem dX12_does_163 : decode cX12_does 163 = .ok (.aload_n 0, 1) := by decide +kernel
theorem dX12_does_164 : decode cX12_does 164 = .ok (.iload_n 2, 1) := by decide +kernel
theorem dX12_does_165 : decode cX12_does 165 = .ok (.iload_n 3, 1) := by decide +kernel
theorem dX12_does_166 : decode cX12_does 166 = .ok (.invokevirtual 342, 3) := by decide +kernel
theorem dX12_does_169 : decode cX12_does 169 = .ok (.istore 4, 2) := by decide +kernel
theorem dX12_does_171 : decode cX12_does 171 = .ok (.iload 4, 2) := by decide +kernel
theorem dX12_does_173 : decode cX12_does 173 = .ok (.ifCond .ne 51, 3) := by decide +kernel
theorem dX12_does_176 : decode cX12_does 176 = .ok (.aload_n 0, 1) := by decide +kernel
theorem dX12_does_177 : decode cX12_does 177 = .ok (.getfield 33, 3) := by decide +kernel
theorem dX12_does_180 : decode cX12_does 180 = .ok (.sipush 147, 3) := by decide +kernel
theorem dX12_does_183 : decode cX12_does 183 = .ok (.iload_n 2, 1) := by decide +kernel
theorem dX12_does_184 : decode cX12_does 184 = .ok (.iadd, 1) := by decide +kernel
theorem dX12_does_185 : decode cX12_does 185 = .ok (.iload_n 3, 1) := by decide +kernel
theorem dX12_does_186 : decode cX12_does 186 = .ok (.iastore, 1) := by decide +kernel
theorem dX12_does_187 : decode cX12_does 187 = .ok (.goto 37, 3) := by decide +kernel
theorem dX12_does_190 : decode cX12_does 190 = .ok (.aload_n 0, 1) := by decide +kernel
theorem dX12_does_191 : decode cX12_does 191 = .ok (.getfield 33, 3) := by decide +kernel
theorem dX12_does_194 : decode cX12_does 194 = .ok (.sipush 139, 3) := by decide +kernel
theorem dX12_does_197 : decode cX12_does 197 = .ok (.iaload, 1) := by decide +kernel
theorem dX12_does_198 : decode cX12_does 198 = .ok (.iload_n 2, 1) := by decide +kernel
theorem dX12_does_199 : decode cX12_does 199 = .ok (.iadd, 1) := by decide +kernel
theorem dX12_does_200 : decode cX12_does 200 = .ok (.sipush 1000, 3) := by decide +kernel
theorem dX12_does_203 : decode cX12_does 203 = .ok (.if_icmp .le 7, 3) := by decide +kernel
theorem dX12_does_206 : decode cX12_does 206 = .ok (.iconst 1, 1) := by decide +kernel
theorem dX12_does_207 : decode cX12_does 207 = .ok (.goto 4, 3) := by decide +kernel
theorem dX12_does_210 : decode cX12_does 210 = .ok (.iconst 0, 1) := by decide +kernel
theorem dX12_does_211 : decode cX12_does 211 = .ok (.istore 4, 2) := by decide +kernel
theorem dX12_does_213 : decode cX12_does 213 = .ok (.iload 4, 2) := by decide +kernel
theorem dX12_does_215 : decode cX12_does 215 = .ok (.ifCond .ne 9, 3) := by decide +kernel
theorem dX12_does_218 : decode cX12_does 218 = .ok (.aload_n 0, 1) := by decide +kernel
theorem dX12_does_219 : decode cX12_does 219 = .ok (.iload_n 2, 1) := by decide +kernel
theorem dX12_does_220 : decode cX12_does 220 = .ok (.invokevirtual 345, 3) := by decide +kernel
theorem dX12_does_223 : decode cX12_does 223 = .ok (.pop, 1) := by decide +kernel
theorem dX12_does_224 : decode cX12_does 224 = .ok (.iload 4, 2) := by decide +kernel
theorem dX12_does_226 : decode cX12_does 226 = .ok (.ifCond .le 13, 3) := by decide +kernel
theorem dX12_does_229 : decode cX12_does 229 = .ok (.bipush 10, 2) := by decide +kernel
theorem dX12_does_231 : decode cX12_does 231 = .ok (.iload_n 1, 1) := by decide +kernel
theorem dX12_does_232 : decode cX12_does 232 = .ok (.imul, 1) := by decide +kernel
theorem dX12_does_233 : decode cX12_does 233 = .ok (.iload 4, 2) := by decide +kernel
theorem dX12_does_235 : decode cX12_does 235 = .ok (.iadd, 1) := by decide +kernel
theorem dX12_does_236 : decode cX12_does 236 = .ok (.goto 4, 3) := by decide +kernel
theorem dX12_does_239 : decode cX12_does 239 = .ok (.iconst 0, 1) := by decide +kernel
theorem dX12_does_240 : decode cX12_does 240 = .ok (.ireturn, 1) := by decide +kernel
def fX12_does_224 (N n : Nat) (f : zF) (a1 : Int32) (a4 : Int32) : Option (zF × Int32) :=
    (if a4 ≤ 0 then some (f, (0 : Int32)) else some (f, (((10 : Int32) * a1) + a4)))
set_option maxRecDepth 100000 in
set_option maxHeartbeats 4000000 in
theorem gX12_does_224 (l : Launch) {G : zG} {p : Program} {e : Env} {s : State} {m : MethodId} {args : Array Value} {below : List Frame} {meth : Method} {c : Code} {N n : Nat} {f9 : zF} {r : Int32} (B : zB G p s m args meth c RX12 cX12_does 5 (some .int)) : ∀ (f : zF) (a1 : Int32) (a4 : Int32) (H : Heap) (locs : List Loc) (ls : Array Slot), fX12_does_224 N n f a1 a4 = some (f9, r) → zS G n f H locs → lv_has ls 5 [(1, .int a1), (4, .int a4)] → W p l e (zrm 8) s m args below meth c H locs 0 0 (MQ below (zQc G n f9 (some (.int r))) args s 0 0 (zA G)) (F0 m 224 ls []) := by
  have he := B.1
  have hb := B.2.1
  intro f a1 a4 H locs ls h hS hl
  unfold fX12_does_224 at h
  refine lv_iload he hb dX12_does_224 (lv_at hl 1 rfl) ?_
  refine lv_if_le (tgt := 239) he hb dX12_does_226 (by decide) (fun hc => ?_) (fun hc => ?_)
  · rw [if_pos hc] at h
    refine lv_iconst (v := (0 : Int32)) he hb dX12_does_239 (by decide) ?_
    obtain ⟨rfl, rfl⟩ := Prod.mk.inj (Option.some.inj h)
    exact z_iret B hS dX12_does_240
  · rw [if_neg hc] at h
    refine lv_bipush (v := (10 : Int32)) he hb dX12_does_229 (by decide) ?_
    refine lv_iload_n he hb dX12_does_231 rfl (lv_at hl 0 rfl) ?_
    refine lv_imul he hb dX12_does_232 ?_
    refine lv_iload he hb dX12_does_233 (lv_at hl 1 rfl) ?_
    refine lv_iadd he hb dX12_does_235 ?_
    refine lv_goto (tgt := 240) he hb dX12_does_236 (by decide) ?_
    obtain ⟨rfl, rfl⟩ := Prod.mk.inj (Option.some.inj h)
    exact z_iret B hS dX12_does_240
def fX12_does_59 (N n : Nat) (f : zF) (a0 : Nat) (a1 : Int32) (a2 : Int32) (a3 : Int32) (t0 : Int32) : Option (zF × Int32) :=
    ((zgR n f 12 a0 6).bind fun x3 => ((zsI n f 0 x3 ((164 : Int32) + a2) a3).bind fun f4 => (fX12_does_224 N n f4 a1 t0)))
set_option maxRecDepth 100000 in
set_option maxHeartbeats 4000000 in
theorem gX12_does_59 (l : Launch) {G : zG} {p : Program} {e : Env} {s : State} {m : MethodId} {args : Array Value} {below : List Frame} {meth : Method} {c : Code} {N n : Nat} {f9 : zF} {r : Int32} (B : zB G p s m args meth c RX12 cX12_does 5 (some .int)) : ∀ (f : zF) (a0 : Nat) (a1 : Int32) (a2 : Int32) (a3 : Int32) (t0 : Int32) (H : Heap) (locs : List Loc) (ls : Array Slot), fX12_does_59 N n f a0 a1 a2 a3 t0 = some (f9, r) → zS G n f H locs → lv_has ls 5 [(0, zr G a0), (1, .int a1), (2, .int a2), (3, .int a3)] → W p l e (zrm 8) s m args below meth c H locs 0 0 (MQ below (zQc G n f9 (some (.int r))) args s 0 0 (zA G)) (F0 m 59 ls [.int t0]) := by
  have he := B.1
  have hb := B.2.1
  intro f a0 a1 a2 a3 t0 H locs ls h hS hl
  unfold fX12_does_59 at h
  refine lv_istore (lv' := [(4, _), (0, _), (1, _), (2, _), (3, _)]) he hb dX12_does_59 hl (by decide) rfl (fun ls hl => ?_)
  refine z_aload_n he hb dX12_does_61 rfl (lv_at hl 1 rfl) (zref_r _ _) ?_
  obtain ⟨x3, hx, h⟩ := zob h
  refine z_getR (ci := 12) (T := TX12) (N := 50) (j := 6) B hS hx rfl zin_X12 (by decide) zk_1353 dX12_does_62 ?_
  refine lv_sipush (v := (164 : Int32)) he hb dX12_does_65 (by decide) ?_
  refine lv_iload_n he hb dX12_does_68 rfl (lv_at hl 3 rfl) ?_
  refine lv_iadd he hb dX12_does_69 ?_
  refine lv_iload_n he hb dX12_does_70 rfl (lv_at hl 4 rfl) ?_
  obtain ⟨f4, hx, h⟩ := zob h
  refine z_istI B hS hx dX12_does_71 (fun H locs hS => ?_)
  refine lv_goto (tgt := 224) he hb dX12_does_72 (by decide) ?_
  exact gX12_does_224 l B _ _ _ _ _ _ h hS (lv_sub hl [2, 0] rfl)
def fX12_does_139 (N n : Nat) (f : zF) (a0 : Nat) (a1 : Int32) (a2 : Int32) (t0 : Int32) : Option (zF × Int32) :=
    (if t0 = 0 then ((zgR n f 12 a0 6).bind fun x12 => ((zlI n f 0 x12 (140 : Int32)).bind fun x13 => ((zsI n f 0 x12 (140 : Int32) (x13 ^^^ (zishl (1 : Int32) a2))).bind fun f14 => (fX12_does_224 N n f14 a1 t0)))) else (fX12_does_224 N n f a1 t0))
set_option maxRecDepth 100000 in
set_option maxHeartbeats 4000000 in
theorem gX12_does_139 (l : Launch) {G : zG} {p : Program} {e : Env} {s : State} {m : MethodId} {args : Array Value} {below : List Frame} {meth : Method} {c : Code} {N n : Nat} {f9 : zF} {r : Int32} (B : zB G p s m args meth c RX12 cX12_does 5 (some .int)) : ∀ (f : zF) (a0 : Nat) (a1 : Int32) (a2 : Int32) (t0 : Int32) (H : Heap) (locs : List Loc) (ls : Array Slot), fX12_does_139 N n f a0 a1 a2 t0 = some (f9, r) → zS G n f H locs → lv_has ls 5 [(0, zr G a0), (1, .int a1), (2, .int a2)] → W p l e (zrm 8) s m args below meth c H locs 0 0 (MQ below (zQc G n f9 (some (.int r))) args s 0 0 (zA G)) (F0 m 139 ls [.int t0]) := by
  have he := B.1
  have hb := B.2.1
  intro f a0 a1 a2 t0 H locs ls h hS hl
  unfold fX12_does_139 at h
  refine lv_istore (lv' := [(4, _), (0, _), (1, _), (2, _)]) he hb dX12_does_139 hl (by decide) rfl (fun ls hl => ?_)
  refine lv_iload he hb dX12_does_141 (lv_at hl 0 rfl) ?_
  refine lv_if_ne (tgt := 224) he hb dX12_does_143 (by decide) (fun hc => ?_) (fun hc => ?_)
  · rw [if_neg hc] at h
    exact gX12_does_224 l B _ _ _ _ _ _ h hS (lv_sub hl [2, 0] rfl)
  · rw [if_pos hc] at h
    refine z_aload_n he hb dX12_does_146 rfl (lv_at hl 1 rfl) (zref_r _ _) ?_
    obtain ⟨x12, hx, h⟩ := zob h
    refine z_getR (ci := 12) (T := TX12) (N := 50) (j := 6) B hS hx rfl zin_X12 (by decide) zk_1353 dX12_does_147 ?_
    refine lv_sipush (v := (140 : Int32)) he hb dX12_does_150 (by decide) ?_
    refine lv_dup2_11 he hb dX12_does_153 rfl rfl ?_
    obtain ⟨x13, hx, h⟩ := zob h
    refine z_ildI B hS hx dX12_does_154 ?_
    refine lv_iconst (v := (1 : Int32)) he hb dX12_does_155 (by decide) ?_
    refine lv_iload_n he hb dX12_does_156 rfl (lv_at hl 3 rfl) ?_
    refine z_ishl he hb dX12_does_157 ?_
    refine lv_ixor he hb dX12_does_158 ?_
    obtain ⟨f14, hx, h⟩ := zob h
    refine z_istI B hS hx dX12_does_159 (fun H locs hS => ?_)
    refine lv_goto (tgt := 224) he hb dX12_does_160 (by decide) ?_
    exact gX12_does_224 l B _ _ _ _ _ _ h hS (lv_sub hl [2, 0] rfl)
def fX12_does_131 (N n : Nat) (f : zF) (a0 : Nat) (a1 : Int32) (a2 : Int32) (t0 : Int32) (t1 : Int32) : Option (zF × Int32) :=
    (if t0 = t1 then (fX12_does_139 N n f a0 a1 a2 (1 : Int32)) else (fX12_does_139 N n f a0 a1 a2 (0 : Int32)))
set_option maxRecDepth 100000 in
set_option maxHeartbeats 4000000 in
theorem gX12_does_131 (l : Launch) {G : zG} {p : Program} {e : Env} {s : State} {m : MethodId} {args : Array Value} {below : List Frame} {meth : Method} {c : Code} {N n : Nat} {f9 : zF} {r : Int32} (B : zB G p s m args meth c RX12 cX12_does 5 (some .int)) : ∀ (f : zF) (a0 : Nat) (a1 : Int32) (a2 : Int32) (t0 : Int32) (t1 : Int32) (H : Heap) (locs : List Loc) (ls : Array Slot), fX12_does_131 N n f a0 a1 a2 t0 t1 = some (f9, r) → zS G n f H locs → lv_has ls 5 [(0, zr G a0), (1, .int a1), (2, .int a2)] → W p l e (zrm 8) s m args below meth c H locs 0 0 (MQ below (zQc G n f9 (some (.int r))) args s 0 0 (zA G)) (F0 m 131 ls [.int t1, .int t0]) := by
  have he := B.1
  have hb := B.2.1
  intro f a0 a1 a2 t0 t1 H locs ls h hS hl
  unfold fX12_does_131 at h
  refine lv_icmp_ne (tgt := 138) he hb dX12_does_131 (by decide) (fun hc => ?_) (fun hc => ?_)
  · rw [if_neg hc] at h
    refine lv_iconst (v := (0 : Int32)) he hb dX12_does_138 (by decide) ?_
    exact gX12_does_139 l B _ _ _ _ _ _ _ _ h hS (lv_sub hl [0, 1, 2] rfl)
  · rw [if_pos hc] at h
    refine lv_iconst (v := (1 : Int32)) he hb dX12_does_134 (by decide) ?_
    refine lv_goto (tgt := 139) he hb dX12_does_135 (by decide) ?_
    exact gX12_does_139 l B _ _ _ _ _ _ _ _ h hS (lv_sub hl [0, 1, 2] rfl)
def fX12_does_116 (N n : Nat) (f : zF) (a0 : Nat) (a1 : Int32) (a2 : Int32) : Option (zF × Int32) :=
    ((zck n f 12 a0).bind fun _ => ((fX12_isShut N n f a0 a2).bind fun x11 => (if a1 = (2 : Int32) then (fX12_does_131 N n f a0 a1 a2 x11 (1 : Int32)) else (fX12_does_131 N n f a0 a1 a2 x11 (0 : Int32)))))
set_option maxRecDepth 100000 in
set_option maxHeartbeats 4000000 in
theorem gX12_does_116 (l : Launch) {G : zG} {p : Program} {e : Env} {s : State} {m : MethodId} {args : Array Value} {below : List Frame} {meth : Method} {c : Code} {N n : Nat} {f9 : zF} {r : Int32} (B : zB G p s m args meth c RX12 cX12_does 5 (some .int)) : ∀ (f : zF) (a0 : Nat) (a1 : Int32) (a2 : Int32) (H : Heap) (locs : List Loc) (ls : Array Slot), fX12_does_116 N n f a0 a1 a2 = some (f9, r) → zS G n f H locs → lv_has ls 5 [(0, zr G a0), (1, .int a1), (2, .int a2)] → W p l e (zrm 8) s m args below meth c H locs 0 0 (MQ below (zQc G n f9 (some (.int r))) args s 0 0 (zA G)) (F0 m 116 ls []) := by
  have he := B.1
  have hb := B.2.1
  intro f a0 a1 a2 H locs ls h hS hl
  unfold fX12_does_116 at h
  refine z_aload_n he hb dX12_does_116 rfl (lv_at hl 0 rfl) (zref_r _ _) ?_
  refine lv_iload_n he hb dX12_does_117 rfl (lv_at hl 2 rfl) ?_
  obtain ⟨_, hc, h⟩ := zob h
  obtain ⟨x11, hx, h⟩ := zob h
  refine z_callV (ci := 12) (T := TX12) (N := 50) (rest := []) B hS (mX12_isShut l G hx) zy_X12_isShut zk_1644 (by decide) hc rfl rfl hl rfl (Nat.le_of_ble_eq_true rfl) dX12_does_118 (kk := (fun H locs hS => ?_))
  refine lv_iload_n he hb dX12_does_121 rfl (lv_at hl 1 rfl) ?_
  refine lv_iconst (v := (2 : Int32)) he hb dX12_does_122 (by decide) ?_
  refine lv_icmp_ne (tgt := 130) he hb dX12_does_123 (by decide) (fun hc => ?_) (fun hc => ?_)
  · rw [if_neg hc] at h
    refine lv_iconst (v := (0 : Int32)) he hb dX12_does_130 (by decide) ?_
    exact gX12_does_131 l B _ _ _ _ _ _ _ _ _ h hS (lv_sub hl [0, 1, 2] rfl)
  · rw [if_pos hc] at h
    refine lv_iconst (v := (1 : Int32)) he hb dX12_does_126 (by decide) ?_
    refine lv_goto (tgt := 131) he hb dX12_does_127 (by decide) ?_
    exact gX12_does_131 l B _ _ _ _ _ _ _ _ _ h hS (lv_sub hl [0, 1, 2] rfl)
def fX12_does_211 (N n : Nat) (f : zF) (a0 : Nat) (a1 : Int32) (a2 : Int32) (t0 : Int32) : Option (zF × Int32) :=
    (if t0 = 0 then ((zck n f 12 a0).bind fun _ => (zbd (fX12_goesOn N n f a0 a2) fun f21 x20 => (fX12_does_224 N n f21 a1 t0))) else (fX12_does_224 N n f a1 t0))
set_option maxRecDepth 100000 in
set_option maxHeartbeats 4000000 in
theorem gX12_does_211 (l : Launch) {G : zG} {p : Program} {e : Env} {s : State} {m : MethodId} {args : Array Value} {below : List Frame} {meth : Method} {c : Code} {N n : Nat} {f9 : zF} {r : Int32} (B : zB G p s m args meth c RX12 cX12_does 5 (some .int)) : ∀ (f : zF) (a0 : Nat) (a1 : Int32) (a2 : Int32) (t0 : Int32) (H : Heap) (locs : List Loc) (ls : Array Slot), fX12_does_211 N n f a0 a1 a2 t0 = some (f9, r) → zS G n f H locs → lv_has ls 5 [(0, zr G a0), (1, .int a1), (2, .int a2)] → W p l e (zrm 8) s m args below meth c H locs 0 0 (MQ below (zQc G n f9 (some (.int r))) args s 0 0 (zA G)) (F0 m 211 ls [.int t0]) := by
  have he := B.1
  have hb := B.2.1
  intro f a0 a1 a2 t0 H locs ls h hS hl
  unfold fX12_does_211 at h
  refine lv_istore (lv' := [(4, _), (0, _), (1, _), (2, _)]) he hb dX12_does_211 hl (by decide) rfl (fun ls hl => ?_)
  refine lv_iload he hb dX12_does_213 (lv_at hl 0 rfl) ?_
  refine lv_if_ne (tgt := 224) he hb dX12_does_215 (by decide) (fun hc => ?_) (fun hc => ?_)
  · rw [if_neg hc] at h
    exact gX12_does_224 l B _ _ _ _ _ _ h hS (lv_sub hl [2, 0] rfl)
  · rw [if_pos hc] at h
    refine z_aload_n he hb dX12_does_218 rfl (lv_at hl 1 rfl) (zref_r _ _) ?_
    refine lv_iload_n he hb dX12_does_219 rfl (lv_at hl 3 rfl) ?_
    obtain ⟨_, hc, h⟩ := zob h
    obtain ⟨f21, x20, hx, h⟩ := zbd_i h
    refine z_callV (ci := 12) (T := TX12) (N := 50) (rest := []) B hS (mX12_goesOn l G hx) zy_X12_goesOn zk_1739 (by decide) hc rfl rfl hl rfl (Nat.le_of_ble_eq_true rfl) dX12_does_220 (kk := (fun H locs hS => ?_))
    refine lv_pop he hb dX12_does_223 rfl ?_
    exact gX12_does_224 l B _ _ _ _ _ _ h hS (lv_sub hl [2, 0] rfl)
def fX12_does (N n : Nat) (f : zF) (a0 : Nat) (a1 : Int32) (a2 : Int32) (a3 : Int32) : Option (zF × Int32) :=
    (if a1 = (0 : Int32) then ((zgR n f 12 a0 6).bind fun x1 => ((zlI n f 0 x1 ((164 : Int32) + a2)).bind fun x2 => (if x2 = a3 then (fX12_does_59 N n f a0 a1 a2 a3 (1 : Int32)) else (fX12_does_59 N n f a0 a1 a2 a3 (0 : Int32))))) else (if a1 = (1 : Int32) then ((zck n f 12 a0).bind fun _ => ((fX12_whyWalk N n f a0 a2 a3).bind fun x5 => (if x5 = 0 then ((zgR n f 12 a0 6).bind fun x6 => ((zgR n f 12 a0 6).bind fun x7 => ((zlI n f 0 x7 ((159 : Int32) + a2)).bind fun x8 => ((zck n f 12 a0).bind fun _ => ((fX12_beside N n f a0 x8 a3).bind fun x9 => ((zsI n f 0 x6 ((159 : Int32) + a2) x9).bind fun f10 => (fX12_does_224 N n f10 a1 x5))))))) else (fX12_does_224 N n f a1 x5)))) else (if a1 = (2 : Int32) then (fX12_does_116 N n f a0 a1 a2) else (if a1 = (3 : Int32) then (fX12_does_116 N n f a0 a1 a2) else (if a1 = (4 : Int32) then ((zck n f 12 a0).bind fun _ => ((fX12_whyFace N n f a0 a2 a3).bind fun x15 => (if x15 = 0 then ((zgR n f 12 a0 6).bind fun x16 => ((zsI n f 0 x16 ((147 : Int32) + a2) a3).bind fun f17 => (fX12_does_224 N n f17 a1 x15))) else (fX12_does_224 N n f a1 x15)))) else ((zgR n f 12 a0 6).bind fun x18 => ((zlI n f 0 x18 (139 : Int32)).bind fun x19 => (if (x19 + a2) ≤ (1000 : Int32) then (fX12_does_211 N n f a0 a1 a2 (0 : Int32)) else (fX12_does_211 N n f a0 a1 a2 (1 : Int32))))))))))
set_option maxRecDepth 100000 in
set_option maxHeartbeats 4000000 in
theorem mX12_does (l : Launch) (G : zG) {N n : Nat} {f : zF} {f9 : zF} {r : Int32} {a0 : Nat} {a1 : Int32} {a2 : Int32} {a3 : Int32} (h : fX12_does N n f a0 a1 a2 a3 = some (f9, r)) : zM l G yX12_does cX12_does 5 (some .int) 8 n f [zr G a0, .int a1, .int a2, .int a3] (some (.int r)) f9 := by
  refine zM.of (by decide) (Nat.le_of_ble_eq_true rfl) ?_
  intro p e s m args below meth c locs ls B hS hl
  have he := B.1
  have hb := B.2.1
  have hl : lv_has ls 5 [(0, zr G a0), (1, .int a1), (2, .int a2), (3, .int a3)] := hl
  unfold fX12_does at h
  generalize s.heap = H at hS ⊢
  refine lv_iconst (v := (0 : Int32)) he hb dX12_does_0 (by decide) ?_
  refine lv_istore (lv' := [(4, _), (0, _), (1, _), (2, _), (3, _)]) he hb dX12_does_1 hl (by decide) rfl (fun ls hl => ?_)
  refine lv_iload_n he hb dX12_does_3 rfl (lv_at hl 2 rfl) ?_
  by_cases hc0 : a1 = (0 : Int32)
  · rw [if_pos hc0] at h
    refine lv_tableIn (tgt := 40) he hb dX12_does_4 (by rw [hc0]; decide) (by rw [hc0]; decide) (by rw [hc0]; rfl) (by decide) ?_
    refine z_aload_n he hb dX12_does_40 rfl (lv_at hl 1 rfl) (zref_r _ _) ?_
    obtain ⟨x1, hx, h⟩ := zob h
    refine z_getR (ci := 12) (T := TX12) (N := 50) (j := 6) B hS hx rfl zin_X12 (by decide) zk_1353 dX12_does_41 ?_
    refine lv_sipush (v := (164 : Int32)) he hb dX12_does_44 (by decide) ?_
    refine lv_iload_n he hb dX12_does_47 rfl (lv_at hl 3 rfl) ?_
    refine lv_iadd he hb dX12_does_48 ?_
    obtain ⟨x2, hx, h⟩ := zob h
    refine z_ildI B hS hx dX12_does_49 ?_
    refine lv_iload_n he hb dX12_does_50 rfl (lv_at hl 4 rfl) ?_
    refine lv_icmp_ne (tgt := 58) he hb dX12_does_51 (by decide) (fun hc => ?_) (fun hc => ?_)
    · rw [if_neg hc] at h
      refine lv_iconst (v := (0 : Int32)) he hb dX12_does_58 (by decide) ?_
      exact gX12_does_59 l B _ _ _ _ _ _ _ _ _ h hS (lv_sub hl [1, 2, 3, 4] rfl)
    · rw [if_pos hc] at h
      refine lv_iconst (v := (1 : Int32)) he hb dX12_does_54 (by decide) ?_
      refine lv_goto (tgt := 59) he hb dX12_does_55 (by decide) ?_
      exact gX12_does_59 l B _ _ _ _ _ _ _ _ _ h hS (lv_sub hl [1, 2, 3, 4] rfl)
  rw [if_neg hc0] at h
  by_cases hc1 : a1 = (1 : Int32)
  · rw [if_pos hc1] at h
    refine lv_tableIn (tgt := 75) he hb dX12_does_4 (by rw [hc1]; decide) (by rw [hc1]; decide) (by rw [hc1]; rfl) (by decide) ?_
    refine z_aload_n he hb dX12_does_75 rfl (lv_at hl 1 rfl) (zref_r _ _) ?_
    refine lv_iload_n he hb dX12_does_76 rfl (lv_at hl 3 rfl) ?_
    refine lv_iload_n he hb dX12_does_77 rfl (lv_at hl 4 rfl) ?_
    obtain ⟨_, hc, h⟩ := zob h
    obtain ⟨x5, hx, h⟩ := zob h
    refine z_callV (ci := 12) (T := TX12) (N := 50) (rest := []) B hS (mX12_whyWalk l G hx) zy_X12_whyWalk zk_1711 (by decide) hc rfl rfl hl rfl (Nat.le_of_ble_eq_true rfl) dX12_does_78 (kk := (fun H locs hS => ?_))
    refine lv_istore (lv' := [(4, _), (0, _), (1, _), (2, _), (3, _)]) he hb dX12_does_81 hl (by decide) rfl (fun ls hl => ?_)
    refine lv_iload he hb dX12_does_83 (lv_at hl 0 rfl) ?_
    refine lv_if_ne (tgt := 224) he hb dX12_does_85 (by decide) (fun hc => ?_) (fun hc => ?_)
    · rw [if_neg hc] at h
      exact gX12_does_224 l B _ _ _ _ _ _ h hS (lv_sub hl [2, 0] rfl)
    · rw [if_pos hc] at h
      refine z_aload_n he hb dX12_does_88 rfl (lv_at hl 1 rfl) (zref_r _ _) ?_
      obtain ⟨x6, hx, h⟩ := zob h
      refine z_getR (ci := 12) (T := TX12) (N := 50) (j := 6) B hS hx rfl zin_X12 (by decide) zk_1353 dX12_does_89 ?_
      refine lv_sipush (v := (159 : Int32)) he hb dX12_does_92 (by decide) ?_
      refine lv_iload_n he hb dX12_does_95 rfl (lv_at hl 3 rfl) ?_
      refine lv_iadd he hb dX12_does_96 ?_
      refine z_aload_n he hb dX12_does_97 rfl (lv_at hl 1 rfl) (zref_r _ _) ?_
      refine z_aload_n he hb dX12_does_98 rfl (lv_at hl 1 rfl) (zref_r _ _) ?_
      obtain ⟨x7, hx, h⟩ := zob h
      refine z_getR (ci := 12) (T := TX12) (N := 50) (j := 6) B hS hx rfl zin_X12 (by decide) zk_1353 dX12_does_99 ?_
      refine lv_sipush (v := (159 : Int32)) he hb dX12_does_102 (by decide) ?_
      refine lv_iload_n he hb dX12_does_105 rfl (lv_at hl 3 rfl) ?_
      refine lv_iadd he hb dX12_does_106 ?_
      obtain ⟨x8, hx, h⟩ := zob h
      refine z_ildI B hS hx dX12_does_107 ?_
      refine lv_iload_n he hb dX12_does_108 rfl (lv_at hl 4 rfl) ?_
      obtain ⟨_, hc, h⟩ := zob h
      obtain ⟨x9, hx, h⟩ := zob h
      refine z_callV (ci := 12) (T := TX12) (N := 50) (rest := [_, _]) B hS (mX12_beside l G hx) zy_X12_beside zk_1659 (by decide) hc rfl rfl hl rfl (Nat.le_of_ble_eq_true rfl) dX12_does_109 (kk := (fun H locs hS => ?_))
      obtain ⟨f10, hx, h⟩ := zob h
      refine z_istI B hS hx dX12_does_112 (fun H locs hS => ?_)
      refine lv_goto (tgt := 224) he hb dX12_does_113 (by decide) ?_
      exact gX12_does_224 l B _ _ _ _ _ _ h hS (lv_sub hl [2, 0] rfl)
  rw [if_neg hc1] at h
  by_cases hc2 : a1 = (2 : Int32)
  · rw [if_pos hc2] at h
    refine lv_tableIn (tgt := 116) he hb dX12_does_4 (by rw [hc2]; decide) (by rw [hc2]; decide) (by rw [hc2]; rfl) (by decide) ?_
    exact gX12_does_116 l B _ _ _ _ _ _ _ h hS (lv_sub hl [1, 2, 3] rfl)
  rw [if_neg hc2] at h
  by_cases hc3 : a1 = (3 : Int32)
  · rw [if_pos hc3] at h
    refine lv_tableIn (tgt := 116) he hb dX12_does_4 (by rw [hc3]; decide) (by rw [hc3]; decide) (by rw [hc3]; rfl) (by decide) ?_
    exact gX12_does_116 l B _ _ _ _ _ _ _ h hS (lv_sub hl [1, 2, 3] rfl)
  rw [if_neg hc3] at h
  by_cases hc4 : a1 = (4 : Int32)
  · rw [if_pos hc4] at h
    refine lv_tableIn (tgt := 163) he hb dX12_does_4 (by rw [hc4]; decide) (by rw [hc4]; decide) (by rw [hc4]; rfl) (by decide) ?_
    refine z_aload_n he hb dX12_does_163 rfl (lv_at hl 1 rfl) (zref_r _ _) ?_
    refine lv_iload_n he hb dX12_does_164 rfl (lv_at hl 3 rfl) ?_
    refine lv_iload_n he hb dX12_does_165 rfl (lv_at hl 4 rfl) ?_
    obtain ⟨_, hc, h⟩ := zob h
    obtain ⟨x15, hx, h⟩ := zob h
    refine z_callV (ci := 12) (T := TX12) (N := 50) (rest := []) B hS (mX12_whyFace l G hx) zy_X12_whyFace zk_1731 (by decide) hc rfl rfl hl rfl (Nat.le_of_ble_eq_true rfl) dX12_does_166 (kk := (fun H locs hS => ?_))
    refine lv_istore (lv' := [(4, _), (0, _), (1, _), (2, _), (3, _)]) he hb dX12_does_169 hl (by decide) rfl (fun ls hl => ?_)
    refine lv_iload he hb dX12_does_171 (lv_at hl 0 rfl) ?_
    refine lv_if_ne (tgt := 224) he hb dX12_does_173 (by decide) (fun hc => ?_) (fun hc => ?_)
    · rw [if_neg hc] at h
      exact gX12_does_224 l B _ _ _ _ _ _ h hS (lv_sub hl [2, 0] rfl)
    · rw [if_pos hc] at h
      refine z_aload_n he hb dX12_does_176 rfl (lv_at hl 1 rfl) (zref_r _ _) ?_
      obtain ⟨x16, hx, h⟩ := zob h
      refine z_getR (ci := 12) (T := TX12) (N := 50) (j := 6) B hS hx rfl zin_X12 (by decide) zk_1353 dX12_does_177 ?_
      refine lv_sipush (v := (147 : Int32)) he hb dX12_does_180 (by decide) ?_
      refine lv_iload_n he hb dX12_does_183 rfl (lv_at hl 3 rfl) ?_
      refine lv_iadd he hb dX12_does_184 ?_
      refine lv_iload_n he hb dX12_does_185 rfl (lv_at hl 4 rfl) ?_
      obtain ⟨f17, hx, h⟩ := zob h
      refine z_istI B hS hx dX12_does_186 (fun H locs hS => ?_)
      refine lv_goto (tgt := 224) he hb dX12_does_187 (by decide) ?_
      exact gX12_does_224 l B _ _ _ _ _ _ h hS (lv_sub hl [2, 0] rfl)
  rw [if_neg hc4] at h
  refine lv_tableOut (tgt := 190) he hb dX12_does_4 ?_ (by decide) ?_
  · have h0 := lv_neT hc0 (a := 0) rfl; have h1 := lv_neT hc1 (a := 1) rfl; have h2 := lv_neT hc2 (a := 2) rfl; have h3 := lv_neT hc3 (a := 3) rfl; have h4 := lv_neT hc4 (a := 4) rfl; omega
  · skip
    refine z_aload_n he hb dX12_does_190 rfl (lv_at hl 1 rfl) (zref_r _ _) ?_
    obtain ⟨x18, hx, h⟩ := zob h
    refine z_getR (ci := 12) (T := TX12) (N := 50) (j := 6) B hS hx rfl zin_X12 (by decide) zk_1353 dX12_does_191 ?_
    refine lv_sipush (v := (139 : Int32)) he hb dX12_does_194 (by decide) ?_
    obtain ⟨x19, hx, h⟩ := zob h
    refine z_ildI B hS hx dX12_does_197 ?_
    refine lv_iload_n he hb dX12_does_198 rfl (lv_at hl 3 rfl) ?_
    refine lv_iadd he hb dX12_does_199 ?_
    refine lv_sipush (v := (1000 : Int32)) he hb dX12_does_200 (by decide) ?_
    refine lv_icmp_le (tgt := 210) he hb dX12_does_203 (by decide) (fun hc => ?_) (fun hc => ?_)
    · rw [if_pos hc] at h
      refine lv_iconst (v := (0 : Int32)) he hb dX12_does_210 (by decide) ?_
      exact gX12_does_211 l B _ _ _ _ _ _ _ _ h hS (lv_sub hl [1, 2, 3] rfl)
    · rw [if_neg hc] at h
      refine lv_iconst (v := (1 : Int32)) he hb dX12_does_206 (by decide) ?_
      refine lv_goto (tgt := 211) he hb dX12_does_207 (by decide) ?_
      exact gX12_does_211 l B _ _ _ _ _ _ _ _ h hS (lv_sub hl [1, 2, 3] rfl)
theorem dX12_book_0 : decode cX12_book 0 = .ok (.aload_n 0, 1) := by decide +kernel
theorem dX12_book_1 : decode cX12_book 1 = .ok (.iconst 0, 1) := by decide +kernel
theorem dX12_book_2 : decode cX12_book 2 = .ok (.putfield 1, 3) := by decide +kernel
theorem dX12_book_5 : decode cX12_book 5 = .ok (.iload_n 1, 1) := by decide +kernel
theorem dX12_book_6 : decode cX12_book 6 = .ok (.iconst 0, 1) := by decide +kernel
theorem dX12_book_7 : decode cX12_book 7 = .ok (.iconst 1, 1) := by decide +kernel
theorem dX12_book_8 : decode cX12_book 8 = .ok (.invokestatic 192, 3) := by decide +kernel
theorem dX12_book_11 : decode cX12_book 11 = .ok (.ifCond .ne 7, 3) := by decide +kernel
theorem dX12_book_14 : decode cX12_book 14 = .ok (.sipush (-1000), 3) := by decide +kernel
theorem dX12_book_17 : decode cX12_book 17 = .ok (.ireturn, 1) := by decide +kernel
theorem dX12_book_18 : decode cX12_book 18 = .ok (.aload_n 0, 1) := by decide +kernel
theorem dX12_book_19 : decode cX12_book 19 = .ok (.sipush 400, 3) := by decide +kernel
theorem dX12_book_22 : decode cX12_book 22 = .ok (.invokevirtual 258, 3) := by decide +kernel
theorem dX12_book_25 : decode cX12_book 25 = .ok (.aload_n 0, 1) := by decide +kernel
theorem dX12_book_26 : decode cX12_book 26 = .ok (.iconst 0, 1) := by decide +kernel
theorem dX12_book_27 : decode cX12_book 27 = .ok (.putfield 177, 3) := by decide +kernel
theorem dX12_book_30 : decode cX12_book 30 = .ok (.aload_n 0, 1) := by decide +kernel
theorem dX12_book_31 : decode cX12_book 31 = .ok (.iconst 0, 1) := by decide +kernel
theorem dX12_book_32 : decode cX12_book 32 = .ok (.putfield 440, 3) := by decide +kernel
theorem dX12_book_35 : decode cX12_book 35 = .ok (.aload_n 0, 1) := by decide +kernel
theorem dX12_book_36 : decode cX12_book 36 = .ok (.invokevirtual 189, 3) := by decide +kernel
theorem dX12_book_39 : decode cX12_book 39 = .ok (.aload_n 0, 1) := by decide +kernel
theorem dX12_book_40 : decode cX12_book 40 = .ok (.getfield 160, 3) := by decide +kernel
theorem dX12_book_43 : decode cX12_book 43 = .ok (.ifCond .eq 40, 3) := by decide +kernel
theorem dX12_book_46 : decode cX12_book 46 = .ok (.aload_n 0, 1) := by decide +kernel
theorem dX12_book_47 : decode cX12_book 47 = .ok (.invokevirtual 443, 3) := by decide +kernel
theorem dX12_book_50 : decode cX12_book 50 = .ok (.ifCond .eq 12, 3) := by decide +kernel
theorem dX12_book_53 : decode cX12_book 53 = .ok (.aload_n 0, 1) := by decide +kernel
theorem dX12_book_54 : decode cX12_book 54 = .ok (.bipush 59, 2) := by decide +kernel
theorem dX12_book_56 : decode cX12_book 56 = .ok (.invokevirtual 267, 3) := by decide +kernel
theorem dX12_book_59 : decode cX12_book 59 = .ok (.ifCond .ne 11, 3) := by decide +kernel
theorem dX12_book_62 : decode cX12_book 62 = .ok (.bipush (-2), 2) := by decide +kernel
theorem dX12_book_64 : decode cX12_book 64 = .ok (.aload_n 0, 1) := by decide +kernel
theorem dX12_book_65 : decode cX12_book 65 = .ok (.getfield 180, 3) := by decide +kernel
theorem dX12_book_68 : decode cX12_book 68 = .ok (.isub, 1) := by decide +kernel
theorem dX12_book_69 : decode cX12_book 69 = .ok (.ireturn, 1) := by decide +kernel
theorem dX12_book_70 : decode cX12_book 70 = .ok (.aload_n 0, 1) := by decide +kernel
theorem dX12_book_71 : decode cX12_book 71 = .ok (.dup, 1) := by decide +kernel
theorem dX12_book_72 : decode cX12_book 72 = .ok (.getfield 440, 3) := by decide +kernel
theorem dX12_book_75 : decode cX12_book 75 = .ok (.iconst 1, 1) := by decide +kernel
theorem dX12_book_76 : decode cX12_book 76 = .ok (.iadd, 1) := by decide +kernel
theorem dX12_book_77 : decode cX12_book 77 = .ok (.putfield 440, 3) := by decide +kernel
theorem dX12_book_80 : decode cX12_book 80 = .ok (.goto (-41), 3) := by decide +kernel
theorem dX12_book_83 : decode cX12_book 83 = .ok (.aload_n 0, 1) := by decide +kernel
theorem dX12_book_84 : decode cX12_book 84 = .ok (.invokevirtual 348, 3) := by decide +kernel
theorem dX12_book_87 : decode cX12_book 87 = .ok (.iconst 0, 1) := by decide +kernel
theorem dX12_book_88 : decode cX12_book 88 = .ok (.istore_n 2, 1) := by decide +kernel
theorem dX12_book_89 : decode cX12_book 89 = .ok (.iload_n 2, 1) := by decide +kernel
theorem dX12_book_90 : decode cX12_book 90 = .ok (.iconst 4, 1) := by decide +kernel
theorem dX12_book_91 : decode cX12_book 91 = .ok (.if_icmp .ge 16, 3) := by decide +kernel
theorem dX12_book_94 : decode cX12_book 94 = .ok (.aload_n 0, 1) := by decide +kernel
theorem dX12_book_95 : decode cX12_book 95 = .ok (.getfield 74, 3) := by decide +kernel
theorem dX12_book_98 : decode cX12_book 98 = .ok (.iload_n 2, 1) := by decide +kernel
theorem dX12_book_99 : decode cX12_book 99 = .ok (.iconst 0, 1) := by decide +kernel
theorem dX12_book_100 : decode cX12_book 100 = .ok (.iastore, 1) := by decide +kernel
theorem dX12_book_101 : decode cX12_book 101 = .ok (.iinc 2 1, 3) := by decide +kernel
theorem dX12_book_104 : decode cX12_book 104 = .ok (.goto (-15), 3) := by decide +kernel
theorem dX12_book_107 : decode cX12_book 107 = .ok (.iconst (-1), 1) := by decide +kernel
theorem dX12_book_108 : decode cX12_book 108 = .ok (.istore_n 2, 1) := by decide +kernel
theorem dX12_book_109 : decode cX12_book 109 = .ok (.iconst 0, 1) := by decide +kernel
theorem dX12_book_110 : decode cX12_book 110 = .ok (.istore_n 3, 1) := by decide +kernel
theorem dX12_book_111 : decode cX12_book 111 = .ok (.iload_n 3, 1) := by decide +kernel
theorem dX12_book_112 : decode cX12_book 112 = .ok (.aload_n 0, 1) := by decide +kernel
theorem dX12_book_113 : decode cX12_book 113 = .ok (.getfield 440, 3) := by decide +kernel
theorem dX12_book_116 : decode cX12_book 116 = .ok (.if_icmp .ge 75, 3) := by decide +kernel
theorem dX12_book_119 : decode cX12_book 119 = .ok (.iload_n 2, 1) := by decide +kernel
theorem dX12_book_120 : decode cX12_book 120 = .ok (.ifCond .ge 71, 3) := by decide +kernel
theorem dX12_book_123 : decode cX12_book 123 = .ok (.aload_n 0, 1) := by decide +kernel
theorem dX12_book_124 : decode cX12_book 124 = .ok (.getfield 74, 3) := by decide +kernel
theorem dX12_book_127 : decode cX12_book 127 = .ok (.iconst 0, 1) := by decide +kernel
theorem dX12_book_128 : decode cX12_book 128 = .ok (.aload_n 0, 1) := by decide +kernel
theorem dX12_book_129 : decode cX12_book 129 = .ok (.aload_n 0, 1) := by decide +kernel
theorem dX12_book_130 : decode cX12_book 130 = .ok (.getfield 40, 3) := by decide +kernel
theorem dX12_book_133 : decode cX12_book 133 = .ok (.iconst 3, 1) := by decide +kernel
theorem dX12_book_134 : decode cX12_book 134 = .ok (.iload_n 3, 1) := by decide +kernel
theorem dX12_book_135 : decode cX12_book 135 = .ok (.imul, 1) := by decide +kernel
theorem dX12_book_136 : decode cX12_book 136 = .ok (.iaload, 1) := by decide +kernel
theorem dX12_book_137 : decode cX12_book 137 = .ok (.aload_n 0, 1) := by decide +kernel
theorem dX12_book_138 : decode cX12_book 138 = .ok (.getfield 40, 3) := by decide +kernel
theorem dX12_book_141 : decode cX12_book 141 = .ok (.iconst 3, 1) := by decide +kernel
theorem dX12_book_142 : decode cX12_book 142 = .ok (.iload_n 3, 1) := by decide +kernel
theorem dX12_book_143 : decode cX12_book 143 = .ok (.imul, 1) := by decide +kernel
theorem dX12_book_144 : decode cX12_book 144 = .ok (.iconst 1, 1) := by decide +kernel
theorem dX12_book_145 : decode cX12_book 145 = .ok (.iadd, 1) := by decide +kernel
theorem dX12_book_146 : decode cX12_book 146 = .ok (.iaload, 1) := by decide +kernel
theorem dX12_book_147 : decode cX12_book 147 = .ok (.aload_n 0, 1) := by decide +kernel
theorem dX12_book_148 : decode cX12_book 148 = .ok (.getfield 40, 3) := by decide +kernel
theorem dX12_book_151 : decode cX12_book 151 = .ok (.iconst 3, 1) := by decide +kernel
theorem dX12_book_152 : decode cX12_book 152 = .ok (.iload_n 3, 1) := by decide +kernel
theorem dX12_book_153 : decode cX12_book 153 = .ok (.imul, 1) := by decide +kernel
theorem dX12_book_154 : decode cX12_book 154 = .ok (.iconst 2, 1) := by decide +kernel
theorem dX12_book_155 : decode cX12_book 155 = .ok (.iadd, 1) := by decide +kernel
theorem dX12_book_156 : decode cX12_book 156 = .ok (.iaload, 1) := by decide +kernel
theorem dX12_book_157 : decode cX12_book 157 = .ok (.invokevirtual 446, 3) := by decide +kernel
theorem dX12_book_160 : decode cX12_book 160 = .ok (.iastore, 1) := by decide +kernel
theorem dX12_book_161 : decode cX12_book 161 = .ok (.aload_n 0, 1) := by decide +kernel
theorem dX12_book_162 : decode cX12_book 162 = .ok (.getfield 74, 3) := by decide +kernel
theorem dX12_book_165 : decode cX12_book 165 = .ok (.iconst 0, 1) := by decide +kernel
theorem dX12_book_166 : decode cX12_book 166 = .ok (.iaload, 1) := by decide +kernel
theorem dX12_book_167 : decode cX12_book 167 = .ok (.ifCond .le 8, 3) := by decide +kernel
theorem dX12_book_170 : decode cX12_book 170 = .ok (.iload_n 3, 1) := by decide +kernel
theorem dX12_book_171 : decode cX12_book 171 = .ok (.istore_n 2, 1) := by decide +kernel
theorem dX12_book_172 : decode cX12_book 172 = .ok (.goto 13, 3) := by decide +kernel
theorem dX12_book_175 : decode cX12_book 175 = .ok (.aload_n 0, 1) := by decide +kernel
theorem dX12_book_176 : decode cX12_book 176 = .ok (.getfield 74, 3) := by decide +kernel
theorem dX12_book_179 : decode cX12_book 179 = .ok (.iconst 1, 1) := by decide +kernel
theorem dX12_book_180 : decode cX12_book 180 = .ok (.dup2, 1) := by decide +kernel
theorem dX12_book_181 : decode cX12_book 181 = .ok (.iaload, 1) := by decide +kernel
theorem dX12_book_182 : decode cX12_book 182 = .ok (.iconst 1, 1) := by decide +kernel
theorem dX12_book_183 : decode cX12_book 183 = .ok (.iadd, 1) := by decide +kernel
theorem dX12_book_184 : decode cX12_book 184 = .ok (.iastore, 1) := by decide +kernel
theorem dX12_book_185 : decode cX12_book 185 = .ok (.iinc 3 1, 3) := by decide +kernel
theorem dX12_book_188 : decode cX12_book 188 = .ok (.goto (-77), 3) := by decide +kernel
theorem dX12_book_191 : decode cX12_book 191 = .ok (.aload_n 0, 1) := by decide +kernel
theorem dX12_book_192 : decode cX12_book 192 = .ok (.getfield 74, 3) := by decide +kernel
theorem dX12_book_195 : decode cX12_book 195 = .ok (.iconst 2, 1) := by decide +kernel
theorem dX12_book_196 : decode cX12_book 196 = .ok (.aload_n 0, 1) := by decide +kernel
theorem dX12_book_197 : decode cX12_book 197 = .ok (.getfield 33, 3) := by decide +kernel
theorem dX12_book_200 : decode cX12_book 200 = .ok (.sipush 139, 3) := by decide +kernel
theorem dX12_book_203 : decode cX12_book 203 = .ok (.iaload, 1) := by decide +kernel
theorem dX12_book_204 : decode cX12_book 204 = .ok (.iastore, 1) := by decide +kernel
theorem dX12_book_205 : decode cX12_book 205 = .ok (.aload_n 0, 1) := by decide +kernel
theorem dX12_book_206 : decode cX12_book 206 = .ok (.getfield 74, 3) := by decide +kernel
theorem dX12_book_209 : decode cX12_book 209 = .ok (.iconst 3, 1) := by decide +kernel
theorem dX12_book_210 : decode cX12_book 210 = .ok (.aload_n 0, 1) := by decide +kernel
theorem dX12_book_211 : decode cX12_book 211 = .ok (.invokevirtual 320, 3) := by decide +kernel
theorem dX12_book_214 : decode cX12_book 214 = .ok (.iastore, 1) := by decide +kernel
theorem dX12_book_215 : decode cX12_book 215 = .ok (.aload_n 0, 1) := by decide +kernel
theorem dX12_book_216 : decode cX12_book 216 = .ok (.iconst 1, 1) := by decide +kernel
theorem dX12_book_217 : decode cX12_book 217 = .ok (.putfield 450, 3) := by decide +kernel
theorem dX12_book_220 : decode cX12_book 220 = .ok (.iload_n 1, 1) := by decide +kernel
theorem dX12_book_221 : decode cX12_book 221 = .ok (.iconst 1, 1) := by decide +kernel
theorem dX12_book_222 : decode cX12_book 222 = .ok (.if_icmp .ne 52, 3) := by decide +kernel
theorem dX12_book_225 : decode cX12_book 225 = .ok (.aload_n 0, 1) := by decide +kernel
theorem dX12_book_226 : decode cX12_book 226 = .ok (.getfield 74, 3) := by decide +kernel
theorem dX12_book_229 : decode cX12_book 229 = .ok (.iconst 1, 1) := by decide +kernel
theorem dX12_book_230 : decode cX12_book 230 = .ok (.iaload, 1) := by decide +kernel
theorem dX12_book_231 : decode cX12_book 231 = .ok (.ifCond .le 43, 3) := by decide +kernel
theorem dX12_book_234 : decode cX12_book 234 = .ok (.aload_n 0, 1) := by decide +kernel
theorem dX12_book_235 : decode cX12_book 235 = .ok (.invokevirtual 332, 3) := by decide +kernel
theorem dX12_book_238 : decode cX12_book 238 = .ok (.iconst 0, 1) := by decide +kernel
theorem dX12_book_239 : decode cX12_book 239 = .ok (.istore_n 3, 1) := by decide +kernel
theorem dX12_book_240 : decode cX12_book 240 = .ok (.iload_n 3, 1) := by decide +kernel
theorem dX12_book_241 : decode cX12_book 241 = .ok (.bipush 111, 2) := by decide +kernel
theorem dX12_book_243 : decode cX12_book 243 = .ok (.if_icmp .ge 31, 3) := by decide +kernel
theorem dX12_book_246 : decode cX12_book 246 = .ok (.aload_n 0, 1) := by decide +kernel
theorem dX12_book_247 : decode cX12_book 247 = .ok (.getfield 50, 3) := by decide +kernel
theorem dX12_book_250 : decode cX12_book 250 = .ok (.bipush 111, 2) := by decide +kernel
theorem dX12_book_252 : decode cX12_book 252 = .ok (.aload_n 0, 1) := by decide +kernel
theorem dX12_book_253 : decode cX12_book 253 = .ok (.getfield 274, 3) := by decide +kernel
theorem dX12_book_256 : decode cX12_book 256 = .ok (.iconst 1, 1) := by decide +kernel
theorem dX12_book_257 : decode cX12_book 257 = .ok (.isub, 1) := by decide +kernel
theorem dX12_book_258 : decode cX12_book 258 = .ok (.imul, 1) := by decide +kernel
theorem dX12_book_259 : decode cX12_book 259 = .ok (.iload_n 3, 1) := by decide +kernel
theorem dX12_book_260 : decode cX12_book 260 = .ok (.iadd, 1) := by decide +kernel
theorem dX12_book_261 : decode cX12_book 261 = .ok (.aload_n 0, 1) := by decide +kernel
theorem dX12_book_262 : decode cX12_book 262 = .ok (.getfield 53, 3) := by decide +kernel
theorem dX12_book_265 : decode cX12_book 265 = .ok (.iload_n 3, 1) := by decide +kernel
theorem dX12_book_266 : decode cX12_book 266 = .ok (.iaload, 1) := by decide +kernel
theorem dX12_book_267 : decode cX12_book 267 = .ok (.iastore, 1) := by decide +kernel
theorem dX12_book_268 : decode cX12_book 268 = .ok (.iinc 3 1, 3) := by decide +kernel
theorem dX12_book_271 : decode cX12_book 271 = .ok (.goto (-31), 3) := by decide +kernel
theorem dX12_book_274 : decode cX12_book 274 = .ok (.iload_n 1, 1) := by decide +kernel
theorem dX12_book_275 : decode cX12_book 275 = .ok (.ifCond .ne 7, 3) := by decide +kernel
theorem dX12_book_278 : decode cX12_book 278 = .ok (.aload_n 0, 1) := by decide +kernel
theorem dX12_book_279 : decode cX12_book 279 = .ok (.invokevirtual 351, 3) := by decide +kernel
theorem dX12_book_282 : decode cX12_book 282 = .ok (.iload_n 2, 1) := by decide +kernel
theorem dX12_book_283 : decode cX12_book 283 = .ok (.ireturn, 1) := by decide +kernel
def fX12_book_274 (N n : Nat) (f : zF) (a0 : Nat) (a1 : Int32) (a2 : Int32) : Option (zF × Int32) :=
    (if a1 = 0 then ((zck n f 12 a0).bind fun _ => ((fX12_back N n f a0).bind fun f18 => some (f18, a2))) else some (f, a2))
set_option maxRecDepth 100000 in
set_option maxHeartbeats 4000000 in
theorem gX12_book_274 (l : Launch) {G : zG} {p : Program} {e : Env} {s : State} {m : MethodId} {args : Array Value} {below : List Frame} {meth : Method} {c : Code} {N n : Nat} {f9 : zF} {r : Int32} (B : zB G p s m args meth c RX12 cX12_book 4 (some .int)) : ∀ (f : zF) (a0 : Nat) (a1 : Int32) (a2 : Int32) (H : Heap) (locs : List Loc) (ls : Array Slot), fX12_book_274 N n f a0 a1 a2 = some (f9, r) → zS G n f H locs → lv_has ls 4 [(0, zr G a0), (1, .int a1), (2, .int a2)] → W p l e (zrm 9) s m args below meth c H locs 0 0 (MQ below (zQc G n f9 (some (.int r))) args s 0 0 (zA G)) (F0 m 274 ls []) := by
  have he := B.1
  have hb := B.2.1
  intro f a0 a1 a2 H locs ls h hS hl
  unfold fX12_book_274 at h
  refine lv_iload_n he hb dX12_book_274 rfl (lv_at hl 1 rfl) ?_
  refine lv_if_ne (tgt := 282) he hb dX12_book_275 (by decide) (fun hc => ?_) (fun hc => ?_)
  · rw [if_neg hc] at h
    refine lv_iload_n he hb dX12_book_282 rfl (lv_at hl 2 rfl) ?_
    obtain ⟨rfl, rfl⟩ := Prod.mk.inj (Option.some.inj h)
    exact z_iret B hS dX12_book_283
  · rw [if_pos hc] at h
    refine z_aload_n he hb dX12_book_278 rfl (lv_at hl 0 rfl) (zref_r _ _) ?_
    obtain ⟨_, hc, h⟩ := zob h
    obtain ⟨f18, hx, h⟩ := zob h
    refine z_callV (ci := 12) (T := TX12) (N := 50) (rest := []) B hS (mX12_back l G hx) zy_X12_back zk_1763 (by decide) hc rfl rfl hl rfl (Nat.le_of_ble_eq_true rfl) dX12_book_279 (kk := (fun H locs hS => ?_))
    refine lv_iload_n he hb dX12_book_282 rfl (lv_at hl 2 rfl) ?_
    obtain ⟨rfl, rfl⟩ := Prod.mk.inj (Option.some.inj h)
    exact z_iret B hS dX12_book_283
def fX12_book_240 (N n : Nat) : Nat → zF → Nat → Int32 → Int32 → Int32 → Option (zF × Int32)
  | 0, _, _, _, _, _ => none
  | k + 1, f, a0, a1, a2, a3 =>
    (if (111 : Int32) ≤ a3 then (fX12_book_274 N n f a0 a1 a2) else ((zgR n f 12 a0 21).bind fun x22 => ((zgI n f 12 a0 23).bind fun x23 => ((zgR n f 12 a0 22).bind fun x24 => ((zlI n f 0 x24 a3).bind fun x25 => ((zsI n f 0 x22 (((111 : Int32) * (x23 - (1 : Int32))) + a3) x25).bind fun f26 => (fX12_book_240 N n k f26 a0 a1 a2 (a3 + 1))))))))
set_option maxRecDepth 100000 in
set_option maxHeartbeats 4000000 in
theorem gX12_book_240 (l : Launch) {G : zG} {p : Program} {e : Env} {s : State} {m : MethodId} {args : Array Value} {below : List Frame} {meth : Method} {c : Code} {N n : Nat} {f9 : zF} {r : Int32} (B : zB G p s m args meth c RX12 cX12_book 4 (some .int)) : ∀ (k : Nat), ∀ (f : zF) (a0 : Nat) (a1 : Int32) (a2 : Int32) (a3 : Int32) (H : Heap) (locs : List Loc) (ls : Array Slot), fX12_book_240 N n k f a0 a1 a2 a3 = some (f9, r) → zS G n f H locs → lv_has ls 4 [(0, zr G a0), (1, .int a1), (2, .int a2), (3, .int a3)] → W p l e (zrm 9) s m args below meth c H locs 0 0 (MQ below (zQc G n f9 (some (.int r))) args s 0 0 (zA G)) (F0 m 240 ls []) := by
  have he := B.1
  have hb := B.2.1
  intro k
  induction k with
  | zero =>
    intro f a0 a1 a2 a3 H locs ls h
    unfold fX12_book_240 at h
    cases h
  | succ k ih =>
    intro f a0 a1 a2 a3 H locs ls h hS hl
    unfold fX12_book_240 at h
    refine lv_iload_n he hb dX12_book_240 rfl (lv_at hl 3 rfl) ?_
    refine lv_bipush (v := (111 : Int32)) he hb dX12_book_241 (by decide) ?_
    refine lv_icmp_ge (tgt := 274) he hb dX12_book_243 (by decide) (fun hc => ?_) (fun hc => ?_)
    · rw [if_pos hc] at h
      exact gX12_book_274 l B _ _ _ _ _ _ _ h hS (lv_sub hl [0, 1, 2] rfl)
    · rw [if_neg hc] at h
      refine z_aload_n he hb dX12_book_246 rfl (lv_at hl 0 rfl) (zref_r _ _) ?_
      obtain ⟨x22, hx, h⟩ := zob h
      refine z_getR (ci := 12) (T := TX12) (N := 50) (j := 21) B hS hx rfl zin_X12 (by decide) zk_1368 dX12_book_247 ?_
      refine lv_bipush (v := (111 : Int32)) he hb dX12_book_250 (by decide) ?_
      refine z_aload_n he hb dX12_book_252 rfl (lv_at hl 0 rfl) (zref_r _ _) ?_
      obtain ⟨x23, hx, h⟩ := zob h
      refine z_getI (ci := 12) (T := TX12) (N := 50) (j := 23) B hS hx rfl zin_X12 (by decide) zk_1370 dX12_book_253 ?_
      refine lv_iconst (v := (1 : Int32)) he hb dX12_book_256 (by decide) ?_
      refine lv_isub he hb dX12_book_257 ?_
      refine lv_imul he hb dX12_book_258 ?_
      refine lv_iload_n he hb dX12_book_259 rfl (lv_at hl 3 rfl) ?_
      refine lv_iadd he hb dX12_book_260 ?_
      refine z_aload_n he hb dX12_book_261 rfl (lv_at hl 0 rfl) (zref_r _ _) ?_
      obtain ⟨x24, hx, h⟩ := zob h
      refine z_getR (ci := 12) (T := TX12) (N := 50) (j := 22) B hS hx rfl zin_X12 (by decide) zk_1369 dX12_book_262 ?_
      refine lv_iload_n he hb dX12_book_265 rfl (lv_at hl 3 rfl) ?_
      obtain ⟨x25, hx, h⟩ := zob h
      refine z_ildI B hS hx dX12_book_266 ?_
      obtain ⟨f26, hx, h⟩ := zob h
      refine z_istI B hS hx dX12_book_267 (fun H locs hS => ?_)
      refine lv_iinc (v := (a3 + 1)) (lv' := [(3, _), (0, _), (1, _), (2, _)]) he hb dX12_book_268 hl (k := 3) rfl rfl (by decide) rfl (fun ls hl => ?_)
      refine lv_goto (tgt := 240) he hb dX12_book_271 (by decide) ?_
      exact ih _ _ _ _ _ _ _ _ h hS (lv_sub hl [1, 2, 3, 0] rfl)
def fX12_book_191 (N n : Nat) (f : zF) (a0 : Nat) (a1 : Int32) (a2 : Int32) : Option (zF × Int32) :=
    ((zgR n f 12 a0 38).bind fun x10 => ((zgR n f 12 a0 6).bind fun x11 => ((zlI n f 0 x11 (139 : Int32)).bind fun x12 => ((zsI n f 0 x10 (2 : Int32) x12).bind fun f13 => ((zgR n f13 12 a0 38).bind fun x14 => ((zck n f13 12 a0).bind fun _ => ((fX12_wentInAll N n f13 a0).bind fun x15 => ((zsI n f13 0 x14 (3 : Int32) x15).bind fun f16 => ((zpZ n f16 12 a0 39 (1 : Int32)).bind fun f17 => (if a1 = (1 : Int32) then ((zgR n f17 12 a0 38).bind fun x19 => ((zlI n f17 0 x19 (1 : Int32)).bind fun x20 => (if x20 ≤ 0 then (fX12_book_274 N n f17 a0 a1 a2) else ((zck n f17 12 a0).bind fun _ => ((fX12_keep N n f17 a0).bind fun f21 => (fX12_book_240 N n N f21 a0 a1 a2 (0 : Int32))))))) else (fX12_book_274 N n f17 a0 a1 a2)))))))))))
set_option maxRecDepth 100000 in
set_option maxHeartbeats 4000000 in
theorem gX12_book_191 (l : Launch) {G : zG} {p : Program} {e : Env} {s : State} {m : MethodId} {args : Array Value} {below : List Frame} {meth : Method} {c : Code} {N n : Nat} {f9 : zF} {r : Int32} (B : zB G p s m args meth c RX12 cX12_book 4 (some .int)) : ∀ (f : zF) (a0 : Nat) (a1 : Int32) (a2 : Int32) (H : Heap) (locs : List Loc) (ls : Array Slot), fX12_book_191 N n f a0 a1 a2 = some (f9, r) → zS G n f H locs → lv_has ls 4 [(0, zr G a0), (1, .int a1), (2, .int a2)] → W p l e (zrm 9) s m args below meth c H locs 0 0 (MQ below (zQc G n f9 (some (.int r))) args s 0 0 (zA G)) (F0 m 191 ls []) := by
  have he := B.1
  have hb := B.2.1
  intro f a0 a1 a2 H locs ls h hS hl
  unfold fX12_book_191 at h
  refine z_aload_n he hb dX12_book_191 rfl (lv_at hl 0 rfl) (zref_r _ _) ?_
  obtain ⟨x10, hx, h⟩ := zob h
  refine z_getR (ci := 12) (T := TX12) (N := 50) (j := 38) B hS hx rfl zin_X12 (by decide) zk_1385 dX12_book_192 ?_
  refine lv_iconst (v := (2 : Int32)) he hb dX12_book_195 (by decide) ?_
  refine z_aload_n he hb dX12_book_196 rfl (lv_at hl 0 rfl) (zref_r _ _) ?_
  obtain ⟨x11, hx, h⟩ := zob h
  refine z_getR (ci := 12) (T := TX12) (N := 50) (j := 6) B hS hx rfl zin_X12 (by decide) zk_1353 dX12_book_197 ?_
  refine lv_sipush (v := (139 : Int32)) he hb dX12_book_200 (by decide) ?_
  obtain ⟨x12, hx, h⟩ := zob h
  refine z_ildI B hS hx dX12_book_203 ?_
  obtain ⟨f13, hx, h⟩ := zob h
  refine z_istI B hS hx dX12_book_204 (fun H locs hS => ?_)
  refine z_aload_n he hb dX12_book_205 rfl (lv_at hl 0 rfl) (zref_r _ _) ?_
  obtain ⟨x14, hx, h⟩ := zob h
  refine z_getR (ci := 12) (T := TX12) (N := 50) (j := 38) B hS hx rfl zin_X12 (by decide) zk_1385 dX12_book_206 ?_
  refine lv_iconst (v := (3 : Int32)) he hb dX12_book_209 (by decide) ?_
  refine z_aload_n he hb dX12_book_210 rfl (lv_at hl 0 rfl) (zref_r _ _) ?_
  obtain ⟨_, hc, h⟩ := zob h
  obtain ⟨x15, hx, h⟩ := zob h
  refine z_callV (ci := 12) (T := TX12) (N := 50) (rest := [_, _]) B hS (mX12_wentInAll l G hx) zy_X12_wentInAll zk_1687 (by decide) hc rfl rfl hl rfl (Nat.le_of_ble_eq_true rfl) dX12_book_211 (kk := (fun H locs hS => ?_))
  obtain ⟨f16, hx, h⟩ := zob h
  refine z_istI B hS hx dX12_book_214 (fun H locs hS => ?_)
  refine z_aload_n he hb dX12_book_215 rfl (lv_at hl 0 rfl) (zref_r _ _) ?_
  refine lv_iconst (v := (1 : Int32)) he hb dX12_book_216 (by decide) ?_
  obtain ⟨f17, hx, h⟩ := zob h
  refine z_putZ (ci := 12) (T := TX12) (N := 50) (j := 39) B hS hx rfl zin_X12 tyX12 tyX12_ok nmX12 (by decide) zk_1386 rfl rfl dX12_book_217 (fun H locs hS => ?_)
  refine lv_iload_n he hb dX12_book_220 rfl (lv_at hl 1 rfl) ?_
  refine lv_iconst (v := (1 : Int32)) he hb dX12_book_221 (by decide) ?_
  refine lv_icmp_ne (tgt := 274) he hb dX12_book_222 (by decide) (fun hc => ?_) (fun hc => ?_)
  · rw [if_neg hc] at h
    exact gX12_book_274 l B _ _ _ _ _ _ _ h hS (lv_sub hl [0, 1, 2] rfl)
  · rw [if_pos hc] at h
    refine z_aload_n he hb dX12_book_225 rfl (lv_at hl 0 rfl) (zref_r _ _) ?_
    obtain ⟨x19, hx, h⟩ := zob h
    refine z_getR (ci := 12) (T := TX12) (N := 50) (j := 38) B hS hx rfl zin_X12 (by decide) zk_1385 dX12_book_226 ?_
    refine lv_iconst (v := (1 : Int32)) he hb dX12_book_229 (by decide) ?_
    obtain ⟨x20, hx, h⟩ := zob h
    refine z_ildI B hS hx dX12_book_230 ?_
    refine lv_if_le (tgt := 274) he hb dX12_book_231 (by decide) (fun hc => ?_) (fun hc => ?_)
    · rw [if_pos hc] at h
      exact gX12_book_274 l B _ _ _ _ _ _ _ h hS (lv_sub hl [0, 1, 2] rfl)
    · rw [if_neg hc] at h
      refine z_aload_n he hb dX12_book_234 rfl (lv_at hl 0 rfl) (zref_r _ _) ?_
      obtain ⟨_, hc, h⟩ := zob h
      obtain ⟨f21, hx, h⟩ := zob h
      refine z_callV (ci := 12) (T := TX12) (N := 50) (rest := []) B hS (mX12_keep l G hx) zy_X12_keep zk_1703 (by decide) hc rfl rfl hl rfl (Nat.le_of_ble_eq_true rfl) dX12_book_235 (kk := (fun H locs hS => ?_))
      refine lv_iconst (v := (0 : Int32)) he hb dX12_book_238 (by decide) ?_
      refine lv_istore_n (lv' := [(3, _), (0, _), (1, _), (2, _)]) he hb dX12_book_239 rfl hl (by decide) rfl (fun ls hl => ?_)
      exact gX12_book_240 l B N _ _ _ _ _ _ _ _ h hS (lv_sub hl [1, 2, 3, 0] rfl)
def fX12_book_185 (r111 : zF → Nat → Int32 → Int32 → Int32 → Option (zF × Int32)) (N n : Nat) (f : zF) (a0 : Nat) (a1 : Int32) (a2 : Int32) (a3 : Int32) : Option (zF × Int32) :=
    (r111 f a0 a1 a2 (a3 + 1))
set_option maxRecDepth 100000 in
set_option maxHeartbeats 4000000 in
theorem gX12_book_185 (l : Launch) {G : zG} {p : Program} {e : Env} {s : State} {m : MethodId} {args : Array Value} {below : List Frame} {meth : Method} {c : Code} {N n : Nat} {f9 : zF} {r : Int32} {r111 : zF → Nat → Int32 → Int32 → Int32 → Option (zF × Int32)} (B : zB G p s m args meth c RX12 cX12_book 4 (some .int)) (hr111 : ∀ (f : zF) (a0 : Nat) (a1 : Int32) (a2 : Int32) (a3 : Int32) (H : Heap) (locs : List Loc) (ls : Array Slot), r111 f a0 a1 a2 a3 = some (f9, r) → zS G n f H locs → lv_has ls 4 [(0, zr G a0), (1, .int a1), (2, .int a2), (3, .int a3)] → W p l e (zrm 9) s m args below meth c H locs 0 0 (MQ below (zQc G n f9 (some (.int r))) args s 0 0 (zA G)) (F0 m 111 ls [])) : ∀ (f : zF) (a0 : Nat) (a1 : Int32) (a2 : Int32) (a3 : Int32) (H : Heap) (locs : List Loc) (ls : Array Slot), fX12_book_185 r111 N n f a0 a1 a2 a3 = some (f9, r) → zS G n f H locs → lv_has ls 4 [(0, zr G a0), (1, .int a1), (2, .int a2), (3, .int a3)] → W p l e (zrm 9) s m args below meth c H locs 0 0 (MQ below (zQc G n f9 (some (.int r))) args s 0 0 (zA G)) (F0 m 185 ls []) := by
  have he := B.1
  have hb := B.2.1
  intro f a0 a1 a2 a3 H locs ls h hS hl
  unfold fX12_book_185 at h
  refine lv_iinc (v := (a3 + 1)) (lv' := [(3, _), (0, _), (1, _), (2, _)]) he hb dX12_book_185 hl (k := 3) rfl rfl (by decide) rfl (fun ls hl => ?_)
  refine lv_goto (tgt := 111) he hb dX12_book_188 (by decide) ?_
  exact hr111 _ _ _ _ _ _ _ _ h hS (lv_sub hl [1, 2, 3, 0] rfl)
def fX12_book_111 (N n : Nat) : Nat → zF → Nat → Int32 → Int32 → Int32 → Option (zF × Int32)
  | 0, _, _, _, _, _ => none
  | k + 1, f, a0, a1, a2, a3 =>
    ((zgI n f 12 a0 37).bind fun x9 => (if x9 ≤ a3 then (fX12_book_191 N n f a0 a1 a2) else (if 0 ≤ a2 then (fX12_book_191 N n f a0 a1 a2) else ((zgR n f 12 a0 38).bind fun x27 => ((zgR n f 12 a0 8).bind fun x28 => ((zlI n f 0 x28 ((3 : Int32) * a3)).bind fun x29 => ((zgR n f 12 a0 8).bind fun x30 => ((zlI n f 0 x30 (((3 : Int32) * a3) + (1 : Int32))).bind fun x31 => ((zgR n f 12 a0 8).bind fun x32 => ((zlI n f 0 x32 (((3 : Int32) * a3) + (2 : Int32))).bind fun x33 => ((zck n f 12 a0).bind fun _ => (zbd (fX12_does N n f a0 x29 x31 x33) fun f35 x34 => ((zsI n f35 0 x27 (0 : Int32) x34).bind fun f36 => ((zgR n f36 12 a0 38).bind fun x37 => ((zlI n f36 0 x37 (0 : Int32)).bind fun x38 => (if x38 ≤ 0 then ((zgR n f36 12 a0 38).bind fun x39 => ((zlI n f36 0 x39 (1 : Int32)).bind fun x40 => ((zsI n f36 0 x39 (1 : Int32) (x40 + (1 : Int32))).bind fun f41 => (fX12_book_185 (fX12_book_111 N n k) N n f41 a0 a1 a2 a3)))) else (fX12_book_185 (fX12_book_111 N n k) N n f36 a0 a1 a3 a3)))))))))))))))))
set_option maxRecDepth 100000 in
set_option maxHeartbeats 4000000 in
theorem gX12_book_111 (l : Launch) {G : zG} {p : Program} {e : Env} {s : State} {m : MethodId} {args : Array Value} {below : List Frame} {meth : Method} {c : Code} {N n : Nat} {f9 : zF} {r : Int32} (B : zB G p s m args meth c RX12 cX12_book 4 (some .int)) : ∀ (k : Nat), ∀ (f : zF) (a0 : Nat) (a1 : Int32) (a2 : Int32) (a3 : Int32) (H : Heap) (locs : List Loc) (ls : Array Slot), fX12_book_111 N n k f a0 a1 a2 a3 = some (f9, r) → zS G n f H locs → lv_has ls 4 [(0, zr G a0), (1, .int a1), (2, .int a2), (3, .int a3)] → W p l e (zrm 9) s m args below meth c H locs 0 0 (MQ below (zQc G n f9 (some (.int r))) args s 0 0 (zA G)) (F0 m 111 ls []) := by
  have he := B.1
  have hb := B.2.1
  intro k
  induction k with
  | zero =>
    intro f a0 a1 a2 a3 H locs ls h
    unfold fX12_book_111 at h
    cases h
  | succ k ih =>
    intro f a0 a1 a2 a3 H locs ls h hS hl
    unfold fX12_book_111 at h
    refine lv_iload_n he hb dX12_book_111 rfl (lv_at hl 3 rfl) ?_
    refine z_aload_n he hb dX12_book_112 rfl (lv_at hl 0 rfl) (zref_r _ _) ?_
    obtain ⟨x9, hx, h⟩ := zob h
    refine z_getI (ci := 12) (T := TX12) (N := 50) (j := 37) B hS hx rfl zin_X12 (by decide) zk_1384 dX12_book_113 ?_
    refine lv_icmp_ge (tgt := 191) he hb dX12_book_116 (by decide) (fun hc => ?_) (fun hc => ?_)
    · rw [if_pos hc] at h
      exact gX12_book_191 l B _ _ _ _ _ _ _ h hS (lv_sub hl [0, 1, 2] rfl)
    · rw [if_neg hc] at h
      refine lv_iload_n he hb dX12_book_119 rfl (lv_at hl 2 rfl) ?_
      refine lv_if_ge (tgt := 191) he hb dX12_book_120 (by decide) (fun hc => ?_) (fun hc => ?_)
      · rw [if_pos hc] at h
        exact gX12_book_191 l B _ _ _ _ _ _ _ h hS (lv_sub hl [0, 1, 2] rfl)
      · rw [if_neg hc] at h
        refine z_aload_n he hb dX12_book_123 rfl (lv_at hl 0 rfl) (zref_r _ _) ?_
        obtain ⟨x27, hx, h⟩ := zob h
        refine z_getR (ci := 12) (T := TX12) (N := 50) (j := 38) B hS hx rfl zin_X12 (by decide) zk_1385 dX12_book_124 ?_
        refine lv_iconst (v := (0 : Int32)) he hb dX12_book_127 (by decide) ?_
        refine z_aload_n he hb dX12_book_128 rfl (lv_at hl 0 rfl) (zref_r _ _) ?_
        refine z_aload_n he hb dX12_book_129 rfl (lv_at hl 0 rfl) (zref_r _ _) ?_
        obtain ⟨x28, hx, h⟩ := zob h
        refine z_getR (ci := 12) (T := TX12) (N := 50) (j := 8) B hS hx rfl zin_X12 (by decide) zk_1355 dX12_book_130 ?_
        refine lv_iconst (v := (3 : Int32)) he hb dX12_book_133 (by decide) ?_
        refine lv_iload_n he hb dX12_book_134 rfl (lv_at hl 3 rfl) ?_
        refine lv_imul he hb dX12_book_135 ?_
        obtain ⟨x29, hx, h⟩ := zob h
        refine z_ildI B hS hx dX12_book_136 ?_
        refine z_aload_n he hb dX12_book_137 rfl (lv_at hl 0 rfl) (zref_r _ _) ?_
        obtain ⟨x30, hx, h⟩ := zob h
        refine z_getR (ci := 12) (T := TX12) (N := 50) (j := 8) B hS hx rfl zin_X12 (by decide) zk_1355 dX12_book_138 ?_
        refine lv_iconst (v := (3 : Int32)) he hb dX12_book_141 (by decide) ?_
        refine lv_iload_n he hb dX12_book_142 rfl (lv_at hl 3 rfl) ?_
        refine lv_imul he hb dX12_book_143 ?_
        refine lv_iconst (v := (1 : Int32)) he hb dX12_book_144 (by decide) ?_
        refine lv_iadd he hb dX12_book_145 ?_
        obtain ⟨x31, hx, h⟩ := zob h
        refine z_ildI B hS hx dX12_book_146 ?_
        refine z_aload_n he hb dX12_book_147 rfl (lv_at hl 0 rfl) (zref_r _ _) ?_
        obtain ⟨x32, hx, h⟩ := zob h
        refine z_getR (ci := 12) (T := TX12) (N := 50) (j := 8) B hS hx rfl zin_X12 (by decide) zk_1355 dX12_book_148 ?_
        refine lv_iconst (v := (3 : Int32)) he hb dX12_book_151 (by decide) ?_
        refine lv_iload_n he hb dX12_book_152 rfl (lv_at hl 3 rfl) ?_
        refine lv_imul he hb dX12_book_153 ?_
        refine lv_iconst (v := (2 : Int32)) he hb dX12_book_154 (by decide) ?_
        refine lv_iadd he hb dX12_book_155 ?_
        obtain ⟨x33, hx, h⟩ := zob h
        refine z_ildI B hS hx dX12_book_156 ?_
        obtain ⟨_, hc, h⟩ := zob h
        obtain ⟨f35, x34, hx, h⟩ := zbd_i h
        refine z_callV (ci := 12) (T := TX12) (N := 50) (rest := [_, _]) B hS (mX12_does l G hx) zy_X12_does zk_1917 (by decide) hc rfl rfl hl rfl (Nat.le_of_ble_eq_true rfl) dX12_book_157 (kk := (fun H locs hS => ?_))
        obtain ⟨f36, hx, h⟩ := zob h
        refine z_istI B hS hx dX12_book_160 (fun H locs hS => ?_)
        refine z_aload_n he hb dX12_book_161 rfl (lv_at hl 0 rfl) (zref_r _ _) ?_
        obtain ⟨x37, hx, h⟩ := zob h
        refine z_getR (ci := 12) (T := TX12) (N := 50) (j := 38) B hS hx rfl zin_X12 (by decide) zk_1385 dX12_book_162 ?_
        refine lv_iconst (v := (0 : Int32)) he hb dX12_book_165 (by decide) ?_
        obtain ⟨x38, hx, h⟩ := zob h
        refine z_ildI B hS hx dX12_book_166 ?_
        refine lv_if_le (tgt := 175) he hb dX12_book_167 (by decide) (fun hc => ?_) (fun hc => ?_)
        · rw [if_pos hc] at h
          refine z_aload_n he hb dX12_book_175 rfl (lv_at hl 0 rfl) (zref_r _ _) ?_
          obtain ⟨x39, hx, h⟩ := zob h
          refine z_getR (ci := 12) (T := TX12) (N := 50) (j := 38) B hS hx rfl zin_X12 (by decide) zk_1385 dX12_book_176 ?_
          refine lv_iconst (v := (1 : Int32)) he hb dX12_book_179 (by decide) ?_
          refine lv_dup2_11 he hb dX12_book_180 rfl rfl ?_
          obtain ⟨x40, hx, h⟩ := zob h
          refine z_ildI B hS hx dX12_book_181 ?_
          refine lv_iconst (v := (1 : Int32)) he hb dX12_book_182 (by decide) ?_
          refine lv_iadd he hb dX12_book_183 ?_
          obtain ⟨f41, hx, h⟩ := zob h
          refine z_istI B hS hx dX12_book_184 (fun H locs hS => ?_)
          exact gX12_book_185 l B ih _ _ _ _ _ _ _ _ h hS (lv_sub hl [0, 1, 2, 3] rfl)
        · rw [if_neg hc] at h
          refine lv_iload_n he hb dX12_book_170 rfl (lv_at hl 3 rfl) ?_
          refine lv_istore_n (lv' := [(2, _), (0, _), (1, _), (3, _)]) he hb dX12_book_171 rfl hl (by decide) rfl (fun ls hl => ?_)
          refine lv_goto (tgt := 185) he hb dX12_book_172 (by decide) ?_
          exact gX12_book_185 l B ih _ _ _ _ _ _ _ _ h hS (lv_sub hl [1, 2, 0, 3] rfl)
def fX12_book_89 (N n : Nat) : Nat → zF → Nat → Int32 → Int32 → Option (zF × Int32)
  | 0, _, _, _, _ => none
  | k + 1, f, a0, a1, a2 =>
    (if (4 : Int32) ≤ a2 then (fX12_book_111 N n N f a0 a1 (-1 : Int32) (0 : Int32)) else ((zgR n f 12 a0 38).bind fun x42 => ((zsI n f 0 x42 a2 (0 : Int32)).bind fun f43 => (fX12_book_89 N n k f43 a0 a1 (a2 + 1)))))
set_option maxRecDepth 100000 in
set_option maxHeartbeats 4000000 in
theorem gX12_book_89 (l : Launch) {G : zG} {p : Program} {e : Env} {s : State} {m : MethodId} {args : Array Value} {below : List Frame} {meth : Method} {c : Code} {N n : Nat} {f9 : zF} {r : Int32} (B : zB G p s m args meth c RX12 cX12_book 4 (some .int)) : ∀ (k : Nat), ∀ (f : zF) (a0 : Nat) (a1 : Int32) (a2 : Int32) (H : Heap) (locs : List Loc) (ls : Array Slot), fX12_book_89 N n k f a0 a1 a2 = some (f9, r) → zS G n f H locs → lv_has ls 4 [(0, zr G a0), (1, .int a1), (2, .int a2)] → W p l e (zrm 9) s m args below meth c H locs 0 0 (MQ below (zQc G n f9 (some (.int r))) args s 0 0 (zA G)) (F0 m 89 ls []) := by
  have he := B.1
  have hb := B.2.1
  intro k
  induction k with
  | zero =>
    intro f a0 a1 a2 H locs ls h
    unfold fX12_book_89 at h
    cases h
  | succ k ih =>
    intro f a0 a1 a2 H locs ls h hS hl
    unfold fX12_book_89 at h
    refine lv_iload_n he hb dX12_book_89 rfl (lv_at hl 2 rfl) ?_
    refine lv_iconst (v := (4 : Int32)) he hb dX12_book_90 (by decide) ?_
    refine lv_icmp_ge (tgt := 107) he hb dX12_book_91 (by decide) (fun hc => ?_) (fun hc => ?_)
    · rw [if_pos hc] at h
      refine lv_iconst (v := (-1 : Int32)) he hb dX12_book_107 (by decide) ?_
      refine lv_istore_n (lv' := [(2, _), (0, _), (1, _)]) he hb dX12_book_108 rfl hl (by decide) rfl (fun ls hl => ?_)
      refine lv_iconst (v := (0 : Int32)) he hb dX12_book_109 (by decide) ?_
      refine lv_istore_n (lv' := [(3, _), (2, _), (0, _), (1, _)]) he hb dX12_book_110 rfl hl (by decide) rfl (fun ls hl => ?_)
      exact gX12_book_111 l B N _ _ _ _ _ _ _ _ h hS (lv_sub hl [2, 3, 1, 0] rfl)
    · rw [if_neg hc] at h
      refine z_aload_n he hb dX12_book_94 rfl (lv_at hl 0 rfl) (zref_r _ _) ?_
      obtain ⟨x42, hx, h⟩ := zob h
      refine z_getR (ci := 12) (T := TX12) (N := 50) (j := 38) B hS hx rfl zin_X12 (by decide) zk_1385 dX12_book_95 ?_
      refine lv_iload_n he hb dX12_book_98 rfl (lv_at hl 2 rfl) ?_
      refine lv_iconst (v := (0 : Int32)) he hb dX12_book_99 (by decide) ?_
      obtain ⟨f43, hx, h⟩ := zob h
      refine z_istI B hS hx dX12_book_100 (fun H locs hS => ?_)
      refine lv_iinc (v := (a2 + 1)) (lv' := [(2, _), (0, _), (1, _)]) he hb dX12_book_101 hl (k := 2) rfl rfl (by decide) rfl (fun ls hl => ?_)
      refine lv_goto (tgt := 89) he hb dX12_book_104 (by decide) ?_
      exact ih _ _ _ _ _ _ _ h hS (lv_sub hl [1, 2, 0] rfl)
def fX12_book_62 (N n : Nat) (f : zF) (a0 : Nat) : Option (zF × Int32) :=
    ((zgI n f 12 a0 16).bind fun x46 => some (f, ((-2 : Int32) - x46)))
set_option maxRecDepth 100000 in
set_option maxHeartbeats 4000000 in
theorem gX12_book_62 (l : Launch) {G : zG} {p : Program} {e : Env} {s : State} {m : MethodId} {args : Array Value} {below : List Frame} {meth : Method} {c : Code} {N n : Nat} {f9 : zF} {r : Int32} (B : zB G p s m args meth c RX12 cX12_book 4 (some .int)) : ∀ (f : zF) (a0 : Nat) (H : Heap) (locs : List Loc) (ls : Array Slot), fX12_book_62 N n f a0 = some (f9, r) → zS G n f H locs → lv_has ls 4 [(0, zr G a0)] → W p l e (zrm 9) s m args below meth c H locs 0 0 (MQ below (zQc G n f9 (some (.int r))) args s 0 0 (zA G)) (F0 m 62 ls []) := by
  have he := B.1
  have hb := B.2.1
  intro f a0 H locs ls h hS hl
  unfold fX12_book_62 at h
  refine lv_bipush (v := (-2 : Int32)) he hb dX12_book_62 (by decide) ?_
  refine z_aload_n he hb dX12_book_64 rfl (lv_at hl 0 rfl) (zref_r _ _) ?_
  obtain ⟨x46, hx, h⟩ := zob h
  refine z_getI (ci := 12) (T := TX12) (N := 50) (j := 16) B hS hx rfl zin_X12 (by decide) zk_1363 dX12_book_65 ?_
  refine lv_isub he hb dX12_book_68 ?_
  obtain ⟨rfl, rfl⟩ := Prod.mk.inj (Option.some.inj h)
  exact z_iret B hS dX12_book_69
def fX12_book_39 (N n : Nat) : Nat → zF → Nat → Int32 → Option (zF × Int32)
  | 0, _, _, _ => none
  | k + 1, f, a0, a1 =>
    ((zgI n f 12 a0 11).bind fun x7 => (if x7 = 0 then ((zck n f 12 a0).bind fun _ => ((fX12_tries N n f a0).bind fun f8 => (fX12_book_89 N n N f8 a0 a1 (0 : Int32)))) else ((zck n f 12 a0).bind fun _ => (zbd (fX12_bookLine N n f a0) fun f45 x44 => (if x44 = 0 then (fX12_book_62 N n f45 a0) else ((zck n f45 12 a0).bind fun _ => (zbd (fX12_sign N n f45 a0 (59 : Int32)) fun f48 x47 => (if x47 = 0 then (fX12_book_62 N n f48 a0) else ((zgI n f48 12 a0 37).bind fun x49 => ((zpI n f48 12 a0 37 (x49 + (1 : Int32))).bind fun f50 => (fX12_book_39 N n k f50 a0 a1)))))))))))
set_option maxRecDepth 100000 in
set_option maxHeartbeats 4000000 in
theorem gX12_book_39 (l : Launch) {G : zG} {p : Program} {e : Env} {s : State} {m : MethodId} {args : Array Value} {below : List Frame} {meth : Method} {c : Code} {N n : Nat} {f9 : zF} {r : Int32} (B : zB G p s m args meth c RX12 cX12_book 4 (some .int)) : ∀ (k : Nat), ∀ (f : zF) (a0 : Nat) (a1 : Int32) (H : Heap) (locs : List Loc) (ls : Array Slot), fX12_book_39 N n k f a0 a1 = some (f9, r) → zS G n f H locs → lv_has ls 4 [(0, zr G a0), (1, .int a1)] → W p l e (zrm 9) s m args below meth c H locs 0 0 (MQ below (zQc G n f9 (some (.int r))) args s 0 0 (zA G)) (F0 m 39 ls []) := by
  have he := B.1
  have hb := B.2.1
  intro k
  induction k with
  | zero =>
    intro f a0 a1 H locs ls h
    unfold fX12_book_39 at h
    cases h
  | succ k ih =>
    intro f a0 a1 H locs ls h hS hl
    unfold fX12_book_39 at h
    refine z_aload_n he hb dX12_book_39 rfl (lv_at hl 0 rfl) (zref_r _ _) ?_
    obtain ⟨x7, hx, h⟩ := zob h
    refine z_getI (ci := 12) (T := TX12) (N := 50) (j := 11) B hS hx rfl zin_X12 (by decide) zk_1358 dX12_book_40 ?_
    refine lv_if_eq (tgt := 83) he hb dX12_book_43 (by decide) (fun hc => ?_) (fun hc => ?_)
    · rw [if_pos hc] at h
      refine z_aload_n he hb dX12_book_83 rfl (lv_at hl 0 rfl) (zref_r _ _) ?_
      obtain ⟨_, hc, h⟩ := zob h
      obtain ⟨f8, hx, h⟩ := zob h
      refine z_callV (ci := 12) (T := TX12) (N := 50) (rest := []) B hS (mX12_tries l G hx) zy_X12_tries zk_1759 (by decide) hc rfl rfl hl rfl (Nat.le_of_ble_eq_true rfl) dX12_book_84 (kk := (fun H locs hS => ?_))
      refine lv_iconst (v := (0 : Int32)) he hb dX12_book_87 (by decide) ?_
      refine lv_istore_n (lv' := [(2, _), (0, _), (1, _)]) he hb dX12_book_88 rfl hl (by decide) rfl (fun ls hl => ?_)
      exact gX12_book_89 l B N _ _ _ _ _ _ _ h hS (lv_sub hl [1, 2, 0] rfl)
    · rw [if_neg hc] at h
      refine z_aload_n he hb dX12_book_46 rfl (lv_at hl 0 rfl) (zref_r _ _) ?_
      obtain ⟨_, hc, h⟩ := zob h
      obtain ⟨f45, x44, hx, h⟩ := zbd_i h
      refine z_callV (ci := 12) (T := TX12) (N := 50) (rest := []) B hS (mX12_bookLine l G hx) zy_X12_bookLine zk_1913 (by decide) hc rfl rfl hl rfl (Nat.le_of_ble_eq_true rfl) dX12_book_47 (kk := (fun H locs hS => ?_))
      refine lv_if_eq (tgt := 62) he hb dX12_book_50 (by decide) (fun hc => ?_) (fun hc => ?_)
      · rw [if_pos hc] at h
        exact gX12_book_62 l B _ _ _ _ _ h hS (lv_sub hl [0] rfl)
      · rw [if_neg hc] at h
        refine z_aload_n he hb dX12_book_53 rfl (lv_at hl 0 rfl) (zref_r _ _) ?_
        refine lv_bipush (v := (59 : Int32)) he hb dX12_book_54 (by decide) ?_
        obtain ⟨_, hc, h⟩ := zob h
        obtain ⟨f48, x47, hx, h⟩ := zbd_i h
        refine z_callV (ci := 12) (T := TX12) (N := 50) (rest := []) B hS (mX12_sign l G hx) zy_X12_sign zk_1600 (by decide) hc rfl rfl hl rfl (Nat.le_of_ble_eq_true rfl) dX12_book_56 (kk := (fun H locs hS => ?_))
        refine lv_if_ne (tgt := 70) he hb dX12_book_59 (by decide) (fun hc => ?_) (fun hc => ?_)
        · rw [if_neg hc] at h
          refine z_aload_n he hb dX12_book_70 rfl (lv_at hl 0 rfl) (zref_r _ _) ?_
          refine lv_dup he hb dX12_book_71 rfl ?_
          obtain ⟨x49, hx, h⟩ := zob h
          refine z_getI (ci := 12) (T := TX12) (N := 50) (j := 37) B hS hx rfl zin_X12 (by decide) zk_1384 dX12_book_72 ?_
          refine lv_iconst (v := (1 : Int32)) he hb dX12_book_75 (by decide) ?_
          refine lv_iadd he hb dX12_book_76 ?_
          obtain ⟨f50, hx, h⟩ := zob h
          refine z_putI (ci := 12) (T := TX12) (N := 50) (j := 37) B hS hx rfl zin_X12 tyX12 tyX12_ok nmX12 (by decide) zk_1384 rfl rfl dX12_book_77 (fun H locs hS => ?_)
          refine lv_goto (tgt := 39) he hb dX12_book_80 (by decide) ?_
          exact ih _ _ _ _ _ _ h hS (lv_sub hl [0, 1] rfl)
        · rw [if_pos hc] at h
          exact gX12_book_62 l B _ _ _ _ _ h hS (lv_sub hl [0] rfl)
def fX12_book (N n : Nat) (f : zF) (a0 : Nat) (a1 : Int32) : Option (zF × Int32) :=
    ((zpI n f 12 a0 0 (0 : Int32)).bind fun f1 => ((fX12_isIn N n f1 a1 (0 : Int32) (1 : Int32)).bind fun x2 => (if x2 = 0 then some (f1, (-1000 : Int32)) else ((zck n f1 12 a0).bind fun _ => ((fX12_taken N n f1 a0 (400 : Int32)).bind fun f3 => ((zpI n f3 12 a0 15 (0 : Int32)).bind fun f4 => ((zpI n f4 12 a0 37 (0 : Int32)).bind fun f5 => ((zck n f5 12 a0).bind fun _ => ((fX12_next N n f5 a0).bind fun f6 => (fX12_book_39 N n N f6 a0 a1))))))))))
set_option maxRecDepth 100000 in
set_option maxHeartbeats 4000000 in
theorem mX12_book (l : Launch) (G : zG) {N n : Nat} {f : zF} {f9 : zF} {r : Int32} {a0 : Nat} {a1 : Int32} (h : fX12_book N n f a0 a1 = some (f9, r)) : zM l G yX12_book cX12_book 4 (some .int) 9 n f [zr G a0, .int a1] (some (.int r)) f9 := by
  refine zM.of (by decide) (Nat.le_of_ble_eq_true rfl) ?_
  intro p e s m args below meth c locs ls B hS hl
  have he := B.1
  have hb := B.2.1
  have hl : lv_has ls 4 [(0, zr G a0), (1, .int a1)] := hl
  unfold fX12_book at h
  generalize s.heap = H at hS ⊢
  refine z_aload_n he hb dX12_book_0 rfl (lv_at hl 0 rfl) (zref_r _ _) ?_
  refine lv_iconst (v := (0 : Int32)) he hb dX12_book_1 (by decide) ?_
  obtain ⟨f1, hx, h⟩ := zob h
  refine z_putI (ci := 12) (T := TX12) (N := 50) (j := 0) B hS hx rfl zin_X12 tyX12 tyX12_ok nmX12 (by decide) zk_1347 rfl rfl dX12_book_2 (fun H locs hS => ?_)
  refine lv_iload_n he hb dX12_book_5 rfl (lv_at hl 1 rfl) ?_
  refine lv_iconst (v := (0 : Int32)) he hb dX12_book_6 (by decide) ?_
  refine lv_iconst (v := (1 : Int32)) he hb dX12_book_7 (by decide) ?_
  obtain ⟨x2, hx, h⟩ := zob h
  refine z_callS (rest := []) B hS (mX12_isIn l G hx) zy_X12_isIn zk_1545 (by decide) rfl hl rfl (Nat.le_of_ble_eq_true rfl) dX12_book_8 (kk := (fun H locs hS => ?_))
  refine lv_if_ne (tgt := 18) he hb dX12_book_11 (by decide) (fun hc => ?_) (fun hc => ?_)
  · rw [if_neg hc] at h
    refine z_aload_n he hb dX12_book_18 rfl (lv_at hl 0 rfl) (zref_r _ _) ?_
    refine lv_sipush (v := (400 : Int32)) he hb dX12_book_19 (by decide) ?_
    obtain ⟨_, hc, h⟩ := zob h
    obtain ⟨f3, hx, h⟩ := zob h
    refine z_callV (ci := 12) (T := TX12) (N := 50) (rest := []) B hS (mX12_taken l G hx) zy_X12_taken zk_1503 (by decide) hc rfl rfl hl rfl (Nat.le_of_ble_eq_true rfl) dX12_book_22 (kk := (fun H locs hS => ?_))
    refine z_aload_n he hb dX12_book_25 rfl (lv_at hl 0 rfl) (zref_r _ _) ?_
    refine lv_iconst (v := (0 : Int32)) he hb dX12_book_26 (by decide) ?_
    obtain ⟨f4, hx, h⟩ := zob h
    refine z_putI (ci := 12) (T := TX12) (N := 50) (j := 15) B hS hx rfl zin_X12 tyX12 tyX12_ok nmX12 (by decide) zk_1362 rfl rfl dX12_book_27 (fun H locs hS => ?_)
    refine z_aload_n he hb dX12_book_30 rfl (lv_at hl 0 rfl) (zref_r _ _) ?_
    refine lv_iconst (v := (0 : Int32)) he hb dX12_book_31 (by decide) ?_
    obtain ⟨f5, hx, h⟩ := zob h
    refine z_putI (ci := 12) (T := TX12) (N := 50) (j := 37) B hS hx rfl zin_X12 tyX12 tyX12_ok nmX12 (by decide) zk_1384 rfl rfl dX12_book_32 (fun H locs hS => ?_)
    refine z_aload_n he hb dX12_book_35 rfl (lv_at hl 0 rfl) (zref_r _ _) ?_
    obtain ⟨_, hc, h⟩ := zob h
    obtain ⟨f6, hx, h⟩ := zob h
    refine z_callV (ci := 12) (T := TX12) (N := 50) (rest := []) B hS (mX12_next l G hx) zy_X12_next zk_1507 (by decide) hc rfl rfl hl rfl (Nat.le_of_ble_eq_true rfl) dX12_book_36 (kk := (fun H locs hS => ?_))
    exact gX12_book_39 l B N _ _ _ _ _ _ h hS (lv_sub hl [0, 1] rfl)
  · rw [if_pos hc] at h
    refine lv_sipush (v := (-1000 : Int32)) he hb dX12_book_14 (by decide) ?_
    obtain ⟨rfl, rfl⟩ := Prod.mk.inj (Option.some.inj h)
    exact z_iret B hS dX12_book_17
theorem dX12_told_0 : decode cX12_told 0 = .ok (.aload_n 0, 1) := by decide +kernel
theorem dX12_told_1 : decode cX12_told 1 = .ok (.iconst 0, 1) := by decide +kernel
theorem dX12_told_2 : decode cX12_told 2 = .ok (.putfield 1, 3) := by decide +kernel
theorem dX12_told_5 : decode cX12_told 5 = .ok (.aload_n 0, 1) := by decide +kernel
theorem dX12_told_6 : decode cX12_told 6 = .ok (.getfield 450, 3) := by decide +kernel
theorem dX12_told_9 : decode cX12_told 9 = .ok (.ifCond .eq 21, 3) := by decide +kernel
theorem dX12_told_12 : decode cX12_told 12 = .ok (.iload_n 1, 1) := by decide +kernel
theorem dX12_told_13 : decode cX12_told 13 = .ok (.iconst 0, 1) := by decide +kernel
theorem dX12_told_14 : decode cX12_told 14 = .ok (.iconst 3, 1) := by decide +kernel
theorem dX12_told_15 : decode cX12_told 15 = .ok (.invokestatic 192, 3) := by decide +kernel
theorem dX12_told_18 : decode cX12_told 18 = .ok (.ifCond .eq 12, 3) := by decide +kernel
theorem dX12_told_21 : decode cX12_told 21 = .ok (.aload_n 0, 1) := by decide +kernel
theorem dX12_told_22 : decode cX12_told 22 = .ok (.getfield 74, 3) := by decide +kernel
theorem dX12_told_25 : decode cX12_told 25 = .ok (.iload_n 1, 1) := by decide +kernel
theorem dX12_told_26 : decode cX12_told 26 = .ok (.iaload, 1) := by decide +kernel
theorem dX12_told_27 : decode cX12_told 27 = .ok (.goto 4, 3) := by decide +kernel
theorem dX12_told_30 : decode cX12_told 30 = .ok (.iconst (-1), 1) := by decide +kernel
theorem dX12_told_31 : decode cX12_told 31 = .ok (.ireturn, 1) := by decide +kernel
def fX12_told (N n : Nat) (f : zF) (a0 : Nat) (a1 : Int32) : Option (zF × Int32) :=
    ((zpI n f 12 a0 0 (0 : Int32)).bind fun f1 => ((zgI n f1 12 a0 39).bind fun x2 => (if x2 = 0 then some (f1, (-1 : Int32)) else ((fX12_isIn N n f1 a1 (0 : Int32) (3 : Int32)).bind fun x3 => (if x3 = 0 then some (f1, (-1 : Int32)) else ((zgR n f1 12 a0 38).bind fun x4 => ((zlI n f1 0 x4 a1).bind fun x5 => some (f1, x5))))))))
set_option maxRecDepth 100000 in
set_option maxHeartbeats 4000000 in
theorem mX12_told (l : Launch) (G : zG) {N n : Nat} {f : zF} {f9 : zF} {r : Int32} {a0 : Nat} {a1 : Int32} (h : fX12_told N n f a0 a1 = some (f9, r)) : zM l G yX12_told cX12_told 2 (some .int) 1 n f [zr G a0, .int a1] (some (.int r)) f9 := by
  refine zM.of (by decide) (Nat.le_of_ble_eq_true rfl) ?_
  intro p e s m args below meth c locs ls B hS hl
  have he := B.1
  have hb := B.2.1
  have hl : lv_has ls 2 [(0, zr G a0), (1, .int a1)] := hl
  unfold fX12_told at h
  generalize s.heap = H at hS ⊢
  refine z_aload_n he hb dX12_told_0 rfl (lv_at hl 0 rfl) (zref_r _ _) ?_
  refine lv_iconst (v := (0 : Int32)) he hb dX12_told_1 (by decide) ?_
  obtain ⟨f1, hx, h⟩ := zob h
  refine z_putI (ci := 12) (T := TX12) (N := 50) (j := 0) B hS hx rfl zin_X12 tyX12 tyX12_ok nmX12 (by decide) zk_1347 rfl rfl dX12_told_2 (fun H locs hS => ?_)
  refine z_aload_n he hb dX12_told_5 rfl (lv_at hl 0 rfl) (zref_r _ _) ?_
  obtain ⟨x2, hx, h⟩ := zob h
  refine z_getI (ci := 12) (T := TX12) (N := 50) (j := 39) B hS hx rfl zin_X12 (by decide) zk_1386 dX12_told_6 ?_
  refine lv_if_eq (tgt := 30) he hb dX12_told_9 (by decide) (fun hc => ?_) (fun hc => ?_)
  · rw [if_pos hc] at h
    refine lv_iconst (v := (-1 : Int32)) he hb dX12_told_30 (by decide) ?_
    obtain ⟨rfl, rfl⟩ := Prod.mk.inj (Option.some.inj h)
    exact z_iret B hS dX12_told_31
  · rw [if_neg hc] at h
    refine lv_iload_n he hb dX12_told_12 rfl (lv_at hl 1 rfl) ?_
    refine lv_iconst (v := (0 : Int32)) he hb dX12_told_13 (by decide) ?_
    refine lv_iconst (v := (3 : Int32)) he hb dX12_told_14 (by decide) ?_
    obtain ⟨x3, hx, h⟩ := zob h
    refine z_callS (rest := []) B hS (mX12_isIn l G hx) zy_X12_isIn zk_1545 (by decide) rfl hl rfl (Nat.le_of_ble_eq_true rfl) dX12_told_15 (kk := (fun H locs hS => ?_))
    refine lv_if_eq (tgt := 30) he hb dX12_told_18 (by decide) (fun hc => ?_) (fun hc => ?_)
    · rw [if_pos hc] at h
      refine lv_iconst (v := (-1 : Int32)) he hb dX12_told_30 (by decide) ?_
      obtain ⟨rfl, rfl⟩ := Prod.mk.inj (Option.some.inj h)
      exact z_iret B hS dX12_told_31
    · rw [if_neg hc] at h
      refine z_aload_n he hb dX12_told_21 rfl (lv_at hl 0 rfl) (zref_r _ _) ?_
      obtain ⟨x4, hx, h⟩ := zob h
      refine z_getR (ci := 12) (T := TX12) (N := 50) (j := 38) B hS hx rfl zin_X12 (by decide) zk_1385 dX12_told_22 ?_
      refine lv_iload_n he hb dX12_told_25 rfl (lv_at hl 1 rfl) ?_
      obtain ⟨x5, hx, h⟩ := zob h
      refine z_ildI B hS hx dX12_told_26 ?_
      refine lv_goto (tgt := 31) he hb dX12_told_27 (by decide) ?_
      obtain ⟨rfl, rfl⟩ := Prod.mk.inj (Option.some.inj h)
      exact z_iret B hS dX12_told_31
theorem dX12_code_0 : decode cX12_code 0 = .ok (.aload_n 0, 1) := by decide +kernel
theorem dX12_code_1 : decode cX12_code 1 = .ok (.getfield 40, 3) := by decide +kernel
theorem dX12_code_4 : decode cX12_code 4 = .ok (.iconst 3, 1) := by decide +kernel
theorem dX12_code_5 : decode cX12_code 5 = .ok (.aload_n 0, 1) := by decide +kernel
theorem dX12_code_6 : decode cX12_code 6 = .ok (.getfield 453, 3) := by decide +kernel
theorem dX12_code_9 : decode cX12_code 9 = .ok (.imul, 1) := by decide +kernel
theorem dX12_code_10 : decode cX12_code 10 = .ok (.iload_n 1, 1) := by decide +kernel
theorem dX12_code_11 : decode cX12_code 11 = .ok (.iastore, 1) := by decide +kernel
theorem dX12_code_12 : decode cX12_code 12 = .ok (.aload_n 0, 1) := by decide +kernel
theorem dX12_code_13 : decode cX12_code 13 = .ok (.getfield 40, 3) := by decide +kernel
theorem dX12_code_16 : decode cX12_code 16 = .ok (.iconst 3, 1) := by decide +kernel
theorem dX12_code_17 : decode cX12_code 17 = .ok (.aload_n 0, 1) := by decide +kernel
theorem dX12_code_18 : decode cX12_code 18 = .ok (.getfield 453, 3) := by decide +kernel
theorem dX12_code_21 : decode cX12_code 21 = .ok (.imul, 1) := by decide +kernel
theorem dX12_code_22 : decode cX12_code 22 = .ok (.iconst 1, 1) := by decide +kernel
theorem dX12_code_23 : decode cX12_code 23 = .ok (.iadd, 1) := by decide +kernel
theorem dX12_code_24 : decode cX12_code 24 = .ok (.iload_n 2, 1) := by decide +kernel
theorem dX12_code_25 : decode cX12_code 25 = .ok (.iastore, 1) := by decide +kernel
theorem dX12_code_26 : decode cX12_code 26 = .ok (.aload_n 0, 1) := by decide +kernel
theorem dX12_code_27 : decode cX12_code 27 = .ok (.getfield 40, 3) := by decide +kernel
theorem dX12_code_30 : decode cX12_code 30 = .ok (.iconst 3, 1) := by decide +kernel
theorem dX12_code_31 : decode cX12_code 31 = .ok (.aload_n 0, 1) := by decide +kernel
theorem dX12_code_32 : decode cX12_code 32 = .ok (.getfield 453, 3) := by decide +kernel
theorem dX12_code_35 : decode cX12_code 35 = .ok (.imul, 1) := by decide +kernel
theorem dX12_code_36 : decode cX12_code 36 = .ok (.iconst 2, 1) := by decide +kernel
theorem dX12_code_37 : decode cX12_code 37 = .ok (.iadd, 1) := by decide +kernel
theorem dX12_code_38 : decode cX12_code 38 = .ok (.iload_n 3, 1) := by decide +kernel
theorem dX12_code_39 : decode cX12_code 39 = .ok (.iastore, 1) := by decide +kernel
theorem dX12_code_40 : decode cX12_code 40 = .ok (.aload_n 0, 1) := by decide +kernel
theorem dX12_code_41 : decode cX12_code 41 = .ok (.dup, 1) := by decide +kernel
theorem dX12_code_42 : decode cX12_code 42 = .ok (.getfield 453, 3) := by decide +kernel
theorem dX12_code_45 : decode cX12_code 45 = .ok (.iconst 1, 1) := by decide +kernel
theorem dX12_code_46 : decode cX12_code 46 = .ok (.iadd, 1) := by decide +kernel
theorem dX12_code_47 : decode cX12_code 47 = .ok (.putfield 453, 3) := by decide +kernel
theorem dX12_code_50 : decode cX12_code 50 = .ok (.return_, 1) := by decide +kernel
def fX12_code (N n : Nat) (f : zF) (a0 : Nat) (a1 : Int32) (a2 : Int32) (a3 : Int32) : Option zF :=
    ((zgR n f 12 a0 8).bind fun x1 => ((zgI n f 12 a0 41).bind fun x2 => ((zsI n f 0 x1 ((3 : Int32) * x2) a1).bind fun f3 => ((zgR n f3 12 a0 8).bind fun x4 => ((zgI n f3 12 a0 41).bind fun x5 => ((zsI n f3 0 x4 (((3 : Int32) * x5) + (1 : Int32)) a2).bind fun f6 => ((zgR n f6 12 a0 8).bind fun x7 => ((zgI n f6 12 a0 41).bind fun x8 => ((zsI n f6 0 x7 (((3 : Int32) * x8) + (2 : Int32)) a3).bind fun f9 => ((zgI n f9 12 a0 41).bind fun x10 => ((zpI n f9 12 a0 41 (x10 + (1 : Int32))).bind fun f11 => some f11)))))))))))
set_option maxRecDepth 100000 in
set_option maxHeartbeats 4000000 in
theorem mX12_code (l : Launch) (G : zG) {N n : Nat} {f : zF} {f9 : zF} {a0 : Nat} {a1 : Int32} {a2 : Int32} {a3 : Int32} (h : fX12_code N n f a0 a1 a2 a3 = some f9) : zM l G yX12_code cX12_code 4 (none) 0 n f [zr G a0, .int a1, .int a2, .int a3] (none) f9 := by
  refine zM.of (by decide) (Nat.le_of_ble_eq_true rfl) ?_
  intro p e s m args below meth c locs ls B hS hl
  have he := B.1
  have hb := B.2.1
  have hl : lv_has ls 4 [(0, zr G a0), (1, .int a1), (2, .int a2), (3, .int a3)] := hl
  unfold fX12_code at h
  generalize s.heap = H at hS ⊢
  refine z_aload_n he hb dX12_code_0 rfl (lv_at hl 0 rfl) (zref_r _ _) ?_
  obtain ⟨x1, hx, h⟩ := zob h
  refine z_getR (ci := 12) (T := TX12) (N := 50) (j := 8) B hS hx rfl zin_X12 (by decide) zk_1355 dX12_code_1 ?_
  refine lv_iconst (v := (3 : Int32)) he hb dX12_code_4 (by decide) ?_
  refine z_aload_n he hb dX12_code_5 rfl (lv_at hl 0 rfl) (zref_r _ _) ?_
  obtain ⟨x2, hx, h⟩ := zob h
  refine z_getI (ci := 12) (T := TX12) (N := 50) (j := 41) B hS hx rfl zin_X12 (by decide) zk_1388 dX12_code_6 ?_
  refine lv_imul he hb dX12_code_9 ?_
  refine lv_iload_n he hb dX12_code_10 rfl (lv_at hl 1 rfl) ?_
  obtain ⟨f3, hx, h⟩ := zob h
  refine z_istI B hS hx dX12_code_11 (fun H locs hS => ?_)
  refine z_aload_n he hb dX12_code_12 rfl (lv_at hl 0 rfl) (zref_r _ _) ?_
  obtain ⟨x4, hx, h⟩ := zob h
  refine z_getR (ci := 12) (T := TX12) (N := 50) (j := 8) B hS hx rfl zin_X12 (by decide) zk_1355 dX12_code_13 ?_
  refine lv_iconst (v := (3 : Int32)) he hb dX12_code_16 (by decide) ?_
  refine z_aload_n he hb dX12_code_17 rfl (lv_at hl 0 rfl) (zref_r _ _) ?_
  obtain ⟨x5, hx, h⟩ := zob h
  refine z_getI (ci := 12) (T := TX12) (N := 50) (j := 41) B hS hx rfl zin_X12 (by decide) zk_1388 dX12_code_18 ?_
  refine lv_imul he hb dX12_code_21 ?_
  refine lv_iconst (v := (1 : Int32)) he hb dX12_code_22 (by decide) ?_
  refine lv_iadd he hb dX12_code_23 ?_
  refine lv_iload_n he hb dX12_code_24 rfl (lv_at hl 2 rfl) ?_
  obtain ⟨f6, hx, h⟩ := zob h
  refine z_istI B hS hx dX12_code_25 (fun H locs hS => ?_)
  refine z_aload_n he hb dX12_code_26 rfl (lv_at hl 0 rfl) (zref_r _ _) ?_
  obtain ⟨x7, hx, h⟩ := zob h
  refine z_getR (ci := 12) (T := TX12) (N := 50) (j := 8) B hS hx rfl zin_X12 (by decide) zk_1355 dX12_code_27 ?_
  refine lv_iconst (v := (3 : Int32)) he hb dX12_code_30 (by decide) ?_
  refine z_aload_n he hb dX12_code_31 rfl (lv_at hl 0 rfl) (zref_r _ _) ?_
  obtain ⟨x8, hx, h⟩ := zob h
  refine z_getI (ci := 12) (T := TX12) (N := 50) (j := 41) B hS hx rfl zin_X12 (by decide) zk_1388 dX12_code_32 ?_
  refine lv_imul he hb dX12_code_35 ?_
  refine lv_iconst (v := (2 : Int32)) he hb dX12_code_36 (by decide) ?_
  refine lv_iadd he hb dX12_code_37 ?_
  refine lv_iload_n he hb dX12_code_38 rfl (lv_at hl 3 rfl) ?_
  obtain ⟨f9, hx, h⟩ := zob h
  refine z_istI B hS hx dX12_code_39 (fun H locs hS => ?_)
  refine z_aload_n he hb dX12_code_40 rfl (lv_at hl 0 rfl) (zref_r _ _) ?_
  refine lv_dup he hb dX12_code_41 rfl ?_
  obtain ⟨x10, hx, h⟩ := zob h
  refine z_getI (ci := 12) (T := TX12) (N := 50) (j := 41) B hS hx rfl zin_X12 (by decide) zk_1388 dX12_code_42 ?_
  refine lv_iconst (v := (1 : Int32)) he hb dX12_code_45 (by decide) ?_
  refine lv_iadd he hb dX12_code_46 ?_
  obtain ⟨f11, hx, h⟩ := zob h
  refine z_putI (ci := 12) (T := TX12) (N := 50) (j := 41) B hS hx rfl zin_X12 tyX12 tyX12_ok nmX12 (by decide) zk_1388 rfl rfl dX12_code_47 (fun H locs hS => ?_)
  obtain rfl := Option.some.inj h
  exact z_vret B hS dX12_code_50
theorem dX12_joins_0 : decode cX12_joins 0 = .ok (.aload_n 0, 1) := by decide +kernel
theorem dX12_joins_1 : decode cX12_joins 1 = .ok (.getfield 456, 3) := by decide +kernel
theorem dX12_joins_4 : decode cX12_joins 4 = .ok (.ifCond .le 69, 3) := by decide +kernel
theorem dX12_joins_7 : decode cX12_joins 7 = .ok (.aload_n 0, 1) := by decide +kernel
theorem dX12_joins_8 : decode cX12_joins 8 = .ok (.getfield 77, 3) := by decide +kernel
theorem dX12_joins_11 : decode cX12_joins 11 = .ok (.aload_n 0, 1) := by decide +kernel
theorem dX12_joins_12 : decode cX12_joins 12 = .ok (.getfield 456, 3) := by decide +kernel
theorem dX12_joins_15 : decode cX12_joins 15 = .ok (.iconst 1, 1) := by decide +kernel
theorem dX12_joins_16 : decode cX12_joins 16 = .ok (.isub, 1) := by decide +kernel
theorem dX12_joins_17 : decode cX12_joins 17 = .ok (.iaload, 1) := by decide +kernel
theorem dX12_joins_18 : decode cX12_joins 18 = .ok (.bipush 21, 2) := by decide +kernel
theorem dX12_joins_20 : decode cX12_joins 20 = .ok (.if_icmp .eq 25, 3) := by decide +kernel
theorem dX12_joins_23 : decode cX12_joins 23 = .ok (.aload_n 0, 1) := by decide +kernel
theorem dX12_joins_24 : decode cX12_joins 24 = .ok (.getfield 77, 3) := by decide +kernel
theorem dX12_joins_27 : decode cX12_joins 27 = .ok (.aload_n 0, 1) := by decide +kernel
theorem dX12_joins_28 : decode cX12_joins 28 = .ok (.getfield 456, 3) := by decide +kernel
theorem dX12_joins_31 : decode cX12_joins 31 = .ok (.iconst 1, 1) := by decide +kernel
theorem dX12_joins_32 : decode cX12_joins 32 = .ok (.isub, 1) := by decide +kernel
theorem dX12_joins_33 : decode cX12_joins 33 = .ok (.iaload, 1) := by decide +kernel
theorem dX12_joins_34 : decode cX12_joins 34 = .ok (.bipush 22, 2) := by decide +kernel
theorem dX12_joins_36 : decode cX12_joins 36 = .ok (.if_icmp .ne 37, 3) := by decide +kernel
theorem dX12_joins_39 : decode cX12_joins 39 = .ok (.iload_n 1, 1) := by decide +kernel
theorem dX12_joins_40 : decode cX12_joins 40 = .ok (.bipush 22, 2) := by decide +kernel
theorem dX12_joins_42 : decode cX12_joins 42 = .ok (.if_icmp .ne 31, 3) := by decide +kernel
theorem dX12_joins_45 : decode cX12_joins 45 = .ok (.aload_n 0, 1) := by decide +kernel
theorem dX12_joins_46 : decode cX12_joins 46 = .ok (.dup, 1) := by decide +kernel
theorem dX12_joins_47 : decode cX12_joins 47 = .ok (.getfield 456, 3) := by decide +kernel
theorem dX12_joins_50 : decode cX12_joins 50 = .ok (.iconst 1, 1) := by decide +kernel
theorem dX12_joins_51 : decode cX12_joins 51 = .ok (.isub, 1) := by decide +kernel
theorem dX12_joins_52 : decode cX12_joins 52 = .ok (.putfield 456, 3) := by decide +kernel
theorem dX12_joins_55 : decode cX12_joins 55 = .ok (.aload_n 0, 1) := by decide +kernel
theorem dX12_joins_56 : decode cX12_joins 56 = .ok (.aload_n 0, 1) := by decide +kernel
theorem dX12_joins_57 : decode cX12_joins 57 = .ok (.getfield 77, 3) := by decide +kernel
theorem dX12_joins_60 : decode cX12_joins 60 = .ok (.aload_n 0, 1) := by decide +kernel
theorem dX12_joins_61 : decode cX12_joins 61 = .ok (.getfield 456, 3) := by decide +kernel
theorem dX12_joins_64 : decode cX12_joins 64 = .ok (.iaload, 1) := by decide +kernel
theorem dX12_joins_65 : decode cX12_joins 65 = .ok (.iconst 0, 1) := by decide +kernel
theorem dX12_joins_66 : decode cX12_joins 66 = .ok (.iconst 0, 1) := by decide +kernel
theorem dX12_joins_67 : decode cX12_joins 67 = .ok (.invokevirtual 459, 3) := by decide +kernel
theorem dX12_joins_70 : decode cX12_joins 70 = .ok (.goto (-70), 3) := by decide +kernel
theorem dX12_joins_73 : decode cX12_joins 73 = .ok (.return_, 1) := by decide +kernel
def fX12_joins_45 (r0 : zF → Nat → Int32 → Option zF) (N n : Nat) (f : zF) (a0 : Nat) (a1 : Int32) : Option zF :=
    ((zgI n f 12 a0 43).bind fun x5 => ((zpI n f 12 a0 43 (x5 - (1 : Int32))).bind fun f6 => ((zgR n f6 12 a0 40).bind fun x7 => ((zgI n f6 12 a0 43).bind fun x8 => ((zlI n f6 0 x7 x8).bind fun x9 => ((zck n f6 12 a0).bind fun _ => ((fX12_code N n f6 a0 x9 (0 : Int32) (0 : Int32)).bind fun f10 => (r0 f10 a0 a1))))))))
set_option maxRecDepth 100000 in
set_option maxHeartbeats 4000000 in
theorem gX12_joins_45 (l : Launch) {G : zG} {p : Program} {e : Env} {s : State} {m : MethodId} {args : Array Value} {below : List Frame} {meth : Method} {c : Code} {N n : Nat} {f9 : zF} {r0 : zF → Nat → Int32 → Option zF} (B : zB G p s m args meth c RX12 cX12_joins 2 (none)) (hr0 : ∀ (f : zF) (a0 : Nat) (a1 : Int32) (H : Heap) (locs : List Loc) (ls : Array Slot), r0 f a0 a1 = some f9 → zS G n f H locs → lv_has ls 2 [(0, zr G a0), (1, .int a1)] → W p l e (zrm 1) s m args below meth c H locs 0 0 (MQ below (zQc G n f9 (none)) args s 0 0 (zA G)) (F0 m 0 ls [])) : ∀ (f : zF) (a0 : Nat) (a1 : Int32) (H : Heap) (locs : List Loc) (ls : Array Slot), fX12_joins_45 r0 N n f a0 a1 = some f9 → zS G n f H locs → lv_has ls 2 [(0, zr G a0), (1, .int a1)] → W p l e (zrm 1) s m args below meth c H locs 0 0 (MQ below (zQc G n f9 (none)) args s 0 0 (zA G)) (F0 m 45 ls []) := by
  have he := B.1
  have hb := B.2.1
  intro f a0 a1 H locs ls h hS hl
  unfold fX12_joins_45 at h
  refine z_aload_n he hb dX12_joins_45 rfl (lv_at hl 0 rfl) (zref_r _ _) ?_
  refine lv_dup he hb dX12_joins_46 rfl ?_
  obtain ⟨x5, hx, h⟩ := zob h
  refine z_getI (ci := 12) (T := TX12) (N := 50) (j := 43) B hS hx rfl zin_X12 (by decide) zk_1390 dX12_joins_47 ?_
  refine lv_iconst (v := (1 : Int32)) he hb dX12_joins_50 (by decide) ?_
  refine lv_isub he hb dX12_joins_51 ?_
  obtain ⟨f6, hx, h⟩ := zob h
  refine z_putI (ci := 12) (T := TX12) (N := 50) (j := 43) B hS hx rfl zin_X12 tyX12 tyX12_ok nmX12 (by decide) zk_1390 rfl rfl dX12_joins_52 (fun H locs hS => ?_)
  refine z_aload_n he hb dX12_joins_55 rfl (lv_at hl 0 rfl) (zref_r _ _) ?_
  refine z_aload_n he hb dX12_joins_56 rfl (lv_at hl 0 rfl) (zref_r _ _) ?_
  obtain ⟨x7, hx, h⟩ := zob h
  refine z_getR (ci := 12) (T := TX12) (N := 50) (j := 40) B hS hx rfl zin_X12 (by decide) zk_1387 dX12_joins_57 ?_
  refine z_aload_n he hb dX12_joins_60 rfl (lv_at hl 0 rfl) (zref_r _ _) ?_
  obtain ⟨x8, hx, h⟩ := zob h
  refine z_getI (ci := 12) (T := TX12) (N := 50) (j := 43) B hS hx rfl zin_X12 (by decide) zk_1390 dX12_joins_61 ?_
  obtain ⟨x9, hx, h⟩ := zob h
  refine z_ildI B hS hx dX12_joins_64 ?_
  refine lv_iconst (v := (0 : Int32)) he hb dX12_joins_65 (by decide) ?_
  refine lv_iconst (v := (0 : Int32)) he hb dX12_joins_66 (by decide) ?_
  obtain ⟨_, hc, h⟩ := zob h
  obtain ⟨f10, hx, h⟩ := zob h
  refine z_callV (ci := 12) (T := TX12) (N := 50) (rest := []) B hS (mX12_code l G hx) zy_X12_code zk_1933 (by decide) hc rfl rfl hl rfl (Nat.le_of_ble_eq_true rfl) dX12_joins_67 (kk := (fun H locs hS => ?_))
  refine lv_goto (tgt := 0) he hb dX12_joins_70 (by decide) ?_
  exact hr0 _ _ _ _ _ _ h hS (lv_sub hl [0, 1] rfl)
def fX12_joins_0 (N n : Nat) : Nat → zF → Nat → Int32 → Option zF
  | 0, _, _, _ => none
  | k + 1, f, a0, a1 =>
    ((zgI n f 12 a0 43).bind fun x1 => (if x1 ≤ 0 then some f else ((zgR n f 12 a0 40).bind fun x2 => ((zgI n f 12 a0 43).bind fun x3 => ((zlI n f 0 x2 (x3 - (1 : Int32))).bind fun x4 => (if x4 = (21 : Int32) then (fX12_joins_45 (fX12_joins_0 N n k) N n f a0 a1) else ((zgR n f 12 a0 40).bind fun x11 => ((zgI n f 12 a0 43).bind fun x12 => ((zlI n f 0 x11 (x12 - (1 : Int32))).bind fun x13 => (if x13 = (22 : Int32) then (if a1 = (22 : Int32) then (fX12_joins_45 (fX12_joins_0 N n k) N n f a0 a1) else some f) else some f))))))))))
set_option maxRecDepth 100000 in
set_option maxHeartbeats 4000000 in
theorem gX12_joins_0 (l : Launch) {G : zG} {p : Program} {e : Env} {s : State} {m : MethodId} {args : Array Value} {below : List Frame} {meth : Method} {c : Code} {N n : Nat} {f9 : zF} (B : zB G p s m args meth c RX12 cX12_joins 2 (none)) : ∀ (k : Nat), ∀ (f : zF) (a0 : Nat) (a1 : Int32) (H : Heap) (locs : List Loc) (ls : Array Slot), fX12_joins_0 N n k f a0 a1 = some f9 → zS G n f H locs → lv_has ls 2 [(0, zr G a0), (1, .int a1)] → W p l e (zrm 1) s m args below meth c H locs 0 0 (MQ below (zQc G n f9 (none)) args s 0 0 (zA G)) (F0 m 0 ls []) := by
  have he := B.1
  have hb := B.2.1
  intro k
  induction k with
  | zero =>
    intro f a0 a1 H locs ls h
    unfold fX12_joins_0 at h
    cases h
  | succ k ih =>
    intro f a0 a1 H locs ls h hS hl
    unfold fX12_joins_0 at h
    refine z_aload_n he hb dX12_joins_0 rfl (lv_at hl 0 rfl) (zref_r _ _) ?_
    obtain ⟨x1, hx, h⟩ := zob h
    refine z_getI (ci := 12) (T := TX12) (N := 50) (j := 43) B hS hx rfl zin_X12 (by decide) zk_1390 dX12_joins_1 ?_
    refine lv_if_le (tgt := 73) he hb dX12_joins_4 (by decide) (fun hc => ?_) (fun hc => ?_)
    · rw [if_pos hc] at h
      obtain rfl := Option.some.inj h
      exact z_vret B hS dX12_joins_73
    · rw [if_neg hc] at h
      refine z_aload_n he hb dX12_joins_7 rfl (lv_at hl 0 rfl) (zref_r _ _) ?_
      obtain ⟨x2, hx, h⟩ := zob h
      refine z_getR (ci := 12) (T := TX12) (N := 50) (j := 40) B hS hx rfl zin_X12 (by decide) zk_1387 dX12_joins_8 ?_
      refine z_aload_n he hb dX12_joins_11 rfl (lv_at hl 0 rfl) (zref_r _ _) ?_
      obtain ⟨x3, hx, h⟩ := zob h
      refine z_getI (ci := 12) (T := TX12) (N := 50) (j := 43) B hS hx rfl zin_X12 (by decide) zk_1390 dX12_joins_12 ?_
      refine lv_iconst (v := (1 : Int32)) he hb dX12_joins_15 (by decide) ?_
      refine lv_isub he hb dX12_joins_16 ?_
      obtain ⟨x4, hx, h⟩ := zob h
      refine z_ildI B hS hx dX12_joins_17 ?_
      refine lv_bipush (v := (21 : Int32)) he hb dX12_joins_18 (by decide) ?_
      refine lv_icmp_eq (tgt := 45) he hb dX12_joins_20 (by decide) (fun hc => ?_) (fun hc => ?_)
      · rw [if_pos hc] at h
        exact gX12_joins_45 l B ih _ _ _ _ _ _ h hS (lv_sub hl [0, 1] rfl)
      · rw [if_neg hc] at h
        refine z_aload_n he hb dX12_joins_23 rfl (lv_at hl 0 rfl) (zref_r _ _) ?_
        obtain ⟨x11, hx, h⟩ := zob h
        refine z_getR (ci := 12) (T := TX12) (N := 50) (j := 40) B hS hx rfl zin_X12 (by decide) zk_1387 dX12_joins_24 ?_
        refine z_aload_n he hb dX12_joins_27 rfl (lv_at hl 0 rfl) (zref_r _ _) ?_
        obtain ⟨x12, hx, h⟩ := zob h
        refine z_getI (ci := 12) (T := TX12) (N := 50) (j := 43) B hS hx rfl zin_X12 (by decide) zk_1390 dX12_joins_28 ?_
        refine lv_iconst (v := (1 : Int32)) he hb dX12_joins_31 (by decide) ?_
        refine lv_isub he hb dX12_joins_32 ?_
        obtain ⟨x13, hx, h⟩ := zob h
        refine z_ildI B hS hx dX12_joins_33 ?_
        refine lv_bipush (v := (22 : Int32)) he hb dX12_joins_34 (by decide) ?_
        refine lv_icmp_ne (tgt := 73) he hb dX12_joins_36 (by decide) (fun hc => ?_) (fun hc => ?_)
        · rw [if_neg hc] at h
          obtain rfl := Option.some.inj h
          exact z_vret B hS dX12_joins_73
        · rw [if_pos hc] at h
          refine lv_iload_n he hb dX12_joins_39 rfl (lv_at hl 1 rfl) ?_
          refine lv_bipush (v := (22 : Int32)) he hb dX12_joins_40 (by decide) ?_
          refine lv_icmp_ne (tgt := 73) he hb dX12_joins_42 (by decide) (fun hc => ?_) (fun hc => ?_)
          · rw [if_neg hc] at h
            obtain rfl := Option.some.inj h
            exact z_vret B hS dX12_joins_73
          · rw [if_pos hc] at h
            exact gX12_joins_45 l B ih _ _ _ _ _ _ h hS (lv_sub hl [0, 1] rfl)
def fX12_joins (N n : Nat) (f : zF) (a0 : Nat) (a1 : Int32) : Option zF :=
    (fX12_joins_0 N n N f a0 a1)
set_option maxRecDepth 100000 in
set_option maxHeartbeats 4000000 in
theorem mX12_joins (l : Launch) (G : zG) {N n : Nat} {f : zF} {f9 : zF} {a0 : Nat} {a1 : Int32} (h : fX12_joins N n f a0 a1 = some f9) : zM l G yX12_joins cX12_joins 2 (none) 1 n f [zr G a0, .int a1] (none) f9 := by
  refine zM.of (by decide) (Nat.le_of_ble_eq_true rfl) ?_
  intro p e s m args below meth c locs ls B hS hl
  have he := B.1
  have hb := B.2.1
  have hl : lv_has ls 2 [(0, zr G a0), (1, .int a1)] := hl
  unfold fX12_joins at h
  generalize s.heap = H at hS ⊢
  exact gX12_joins_0 l B N _ _ _ _ _ _ h hS (lv_sub hl [0, 1] rfl)
theorem dX12_nots_0 : decode cX12_nots 0 = .ok (.aload_n 0, 1) := by decide +kernel
theorem dX12_nots_1 : decode cX12_nots 1 = .ok (.getfield 456, 3) := by decide +kernel
theorem dX12_nots_4 : decode cX12_nots 4 = .ok (.ifCond .le 50, 3) := by decide +kernel
theorem dX12_nots_7 : decode cX12_nots 7 = .ok (.aload_n 0, 1) := by decide +kernel
theorem dX12_nots_8 : decode cX12_nots 8 = .ok (.getfield 77, 3) := by decide +kernel
theorem dX12_nots_11 : decode cX12_nots 11 = .ok (.aload_n 0, 1) := by decide +kernel
theorem dX12_nots_12 : decode cX12_nots 12 = .ok (.getfield 456, 3) := by decide +kernel
theorem dX12_nots_15 : decode cX12_nots 15 = .ok (.iconst 1, 1) := by decide +kernel
theorem dX12_nots_16 : decode cX12_nots 16 = .ok (.isub, 1) := by decide +kernel
theorem dX12_nots_17 : decode cX12_nots 17 = .ok (.iaload, 1) := by decide +kernel
theorem dX12_nots_18 : decode cX12_nots 18 = .ok (.bipush 20, 2) := by decide +kernel
theorem dX12_nots_20 : decode cX12_nots 20 = .ok (.if_icmp .ne 34, 3) := by decide +kernel
theorem dX12_nots_23 : decode cX12_nots 23 = .ok (.aload_n 0, 1) := by decide +kernel
theorem dX12_nots_24 : decode cX12_nots 24 = .ok (.dup, 1) := by decide +kernel
theorem dX12_nots_25 : decode cX12_nots 25 = .ok (.getfield 456, 3) := by decide +kernel
theorem dX12_nots_28 : decode cX12_nots 28 = .ok (.iconst 1, 1) := by decide +kernel
theorem dX12_nots_29 : decode cX12_nots 29 = .ok (.isub, 1) := by decide +kernel
theorem dX12_nots_30 : decode cX12_nots 30 = .ok (.putfield 456, 3) := by decide +kernel
theorem dX12_nots_33 : decode cX12_nots 33 = .ok (.aload_n 0, 1) := by decide +kernel
theorem dX12_nots_34 : decode cX12_nots 34 = .ok (.dup, 1) := by decide +kernel
theorem dX12_nots_35 : decode cX12_nots 35 = .ok (.getfield 463, 3) := by decide +kernel
theorem dX12_nots_38 : decode cX12_nots 38 = .ok (.iconst 1, 1) := by decide +kernel
theorem dX12_nots_39 : decode cX12_nots 39 = .ok (.isub, 1) := by decide +kernel
theorem dX12_nots_40 : decode cX12_nots 40 = .ok (.putfield 463, 3) := by decide +kernel
theorem dX12_nots_43 : decode cX12_nots 43 = .ok (.aload_n 0, 1) := by decide +kernel
theorem dX12_nots_44 : decode cX12_nots 44 = .ok (.bipush 20, 2) := by decide +kernel
theorem dX12_nots_46 : decode cX12_nots 46 = .ok (.iconst 0, 1) := by decide +kernel
theorem dX12_nots_47 : decode cX12_nots 47 = .ok (.iconst 0, 1) := by decide +kernel
theorem dX12_nots_48 : decode cX12_nots 48 = .ok (.invokevirtual 459, 3) := by decide +kernel
theorem dX12_nots_51 : decode cX12_nots 51 = .ok (.goto (-51), 3) := by decide +kernel
theorem dX12_nots_54 : decode cX12_nots 54 = .ok (.return_, 1) := by decide +kernel
def fX12_nots_0 (N n : Nat) : Nat → zF → Nat → Option zF
  | 0, _, _ => none
  | k + 1, f, a0 =>
    ((zgI n f 12 a0 43).bind fun x1 => (if x1 ≤ 0 then some f else ((zgR n f 12 a0 40).bind fun x2 => ((zgI n f 12 a0 43).bind fun x3 => ((zlI n f 0 x2 (x3 - (1 : Int32))).bind fun x4 => (if x4 = (20 : Int32) then ((zgI n f 12 a0 43).bind fun x5 => ((zpI n f 12 a0 43 (x5 - (1 : Int32))).bind fun f6 => ((zgI n f6 12 a0 44).bind fun x7 => ((zpI n f6 12 a0 44 (x7 - (1 : Int32))).bind fun f8 => ((zck n f8 12 a0).bind fun _ => ((fX12_code N n f8 a0 (20 : Int32) (0 : Int32) (0 : Int32)).bind fun f9 => (fX12_nots_0 N n k f9 a0))))))) else some f))))))
set_option maxRecDepth 100000 in
set_option maxHeartbeats 4000000 in
theorem gX12_nots_0 (l : Launch) {G : zG} {p : Program} {e : Env} {s : State} {m : MethodId} {args : Array Value} {below : List Frame} {meth : Method} {c : Code} {N n : Nat} {f9 : zF} (B : zB G p s m args meth c RX12 cX12_nots 1 (none)) : ∀ (k : Nat), ∀ (f : zF) (a0 : Nat) (H : Heap) (locs : List Loc) (ls : Array Slot), fX12_nots_0 N n k f a0 = some f9 → zS G n f H locs → lv_has ls 1 [(0, zr G a0)] → W p l e (zrm 1) s m args below meth c H locs 0 0 (MQ below (zQc G n f9 (none)) args s 0 0 (zA G)) (F0 m 0 ls []) := by
  have he := B.1
  have hb := B.2.1
  intro k
  induction k with
  | zero =>
    intro f a0 H locs ls h
    unfold fX12_nots_0 at h
    cases h
  | succ k ih =>
    intro f a0 H locs ls h hS hl
    unfold fX12_nots_0 at h
    refine z_aload_n he hb dX12_nots_0 rfl (lv_at hl 0 rfl) (zref_r _ _) ?_
    obtain ⟨x1, hx, h⟩ := zob h
    refine z_getI (ci := 12) (T := TX12) (N := 50) (j := 43) B hS hx rfl zin_X12 (by decide) zk_1390 dX12_nots_1 ?_
    refine lv_if_le (tgt := 54) he hb dX12_nots_4 (by decide) (fun hc => ?_) (fun hc => ?_)
    · rw [if_pos hc] at h
      obtain rfl := Option.some.inj h
      exact z_vret B hS dX12_nots_54
    · rw [if_neg hc] at h
      refine z_aload_n he hb dX12_nots_7 rfl (lv_at hl 0 rfl) (zref_r _ _) ?_
      obtain ⟨x2, hx, h⟩ := zob h
      refine z_getR (ci := 12) (T := TX12) (N := 50) (j := 40) B hS hx rfl zin_X12 (by decide) zk_1387 dX12_nots_8 ?_
      refine z_aload_n he hb dX12_nots_11 rfl (lv_at hl 0 rfl) (zref_r _ _) ?_
      obtain ⟨x3, hx, h⟩ := zob h
      refine z_getI (ci := 12) (T := TX12) (N := 50) (j := 43) B hS hx rfl zin_X12 (by decide) zk_1390 dX12_nots_12 ?_
      refine lv_iconst (v := (1 : Int32)) he hb dX12_nots_15 (by decide) ?_
      refine lv_isub he hb dX12_nots_16 ?_
      obtain ⟨x4, hx, h⟩ := zob h
      refine z_ildI B hS hx dX12_nots_17 ?_
      refine lv_bipush (v := (20 : Int32)) he hb dX12_nots_18 (by decide) ?_
      refine lv_icmp_ne (tgt := 54) he hb dX12_nots_20 (by decide) (fun hc => ?_) (fun hc => ?_)
      · rw [if_neg hc] at h
        obtain rfl := Option.some.inj h
        exact z_vret B hS dX12_nots_54
      · rw [if_pos hc] at h
        refine z_aload_n he hb dX12_nots_23 rfl (lv_at hl 0 rfl) (zref_r _ _) ?_
        refine lv_dup he hb dX12_nots_24 rfl ?_
        obtain ⟨x5, hx, h⟩ := zob h
        refine z_getI (ci := 12) (T := TX12) (N := 50) (j := 43) B hS hx rfl zin_X12 (by decide) zk_1390 dX12_nots_25 ?_
        refine lv_iconst (v := (1 : Int32)) he hb dX12_nots_28 (by decide) ?_
        refine lv_isub he hb dX12_nots_29 ?_
        obtain ⟨f6, hx, h⟩ := zob h
        refine z_putI (ci := 12) (T := TX12) (N := 50) (j := 43) B hS hx rfl zin_X12 tyX12 tyX12_ok nmX12 (by decide) zk_1390 rfl rfl dX12_nots_30 (fun H locs hS => ?_)
        refine z_aload_n he hb dX12_nots_33 rfl (lv_at hl 0 rfl) (zref_r _ _) ?_
        refine lv_dup he hb dX12_nots_34 rfl ?_
        obtain ⟨x7, hx, h⟩ := zob h
        refine z_getI (ci := 12) (T := TX12) (N := 50) (j := 44) B hS hx rfl zin_X12 (by decide) zk_1391 dX12_nots_35 ?_
        refine lv_iconst (v := (1 : Int32)) he hb dX12_nots_38 (by decide) ?_
        refine lv_isub he hb dX12_nots_39 ?_
        obtain ⟨f8, hx, h⟩ := zob h
        refine z_putI (ci := 12) (T := TX12) (N := 50) (j := 44) B hS hx rfl zin_X12 tyX12 tyX12_ok nmX12 (by decide) zk_1391 rfl rfl dX12_nots_40 (fun H locs hS => ?_)
        refine z_aload_n he hb dX12_nots_43 rfl (lv_at hl 0 rfl) (zref_r _ _) ?_
        refine lv_bipush (v := (20 : Int32)) he hb dX12_nots_44 (by decide) ?_
        refine lv_iconst (v := (0 : Int32)) he hb dX12_nots_46 (by decide) ?_
        refine lv_iconst (v := (0 : Int32)) he hb dX12_nots_47 (by decide) ?_
        obtain ⟨_, hc, h⟩ := zob h
        obtain ⟨f9, hx, h⟩ := zob h
        refine z_callV (ci := 12) (T := TX12) (N := 50) (rest := []) B hS (mX12_code l G hx) zy_X12_code zk_1933 (by decide) hc rfl rfl hl rfl (Nat.le_of_ble_eq_true rfl) dX12_nots_48 (kk := (fun H locs hS => ?_))
        refine lv_goto (tgt := 0) he hb dX12_nots_51 (by decide) ?_
        exact ih _ _ _ _ _ h hS (lv_sub hl [0] rfl)
def fX12_nots (N n : Nat) (f : zF) (a0 : Nat) : Option zF :=
    (fX12_nots_0 N n N f a0)
set_option maxRecDepth 100000 in
set_option maxHeartbeats 4000000 in
theorem mX12_nots (l : Launch) (G : zG) {N n : Nat} {f : zF} {f9 : zF} {a0 : Nat} (h : fX12_nots N n f a0 = some f9) : zM l G yX12_nots cX12_nots 1 (none) 1 n f [zr G a0] (none) f9 := by
  refine zM.of (by decide) (Nat.le_of_ble_eq_true rfl) ?_
  intro p e s m args below meth c locs ls B hS hl
  have he := B.1
  have hb := B.2.1
  have hl : lv_has ls 1 [(0, zr G a0)] := hl
  unfold fX12_nots at h
  generalize s.heap = H at hS ⊢
  exact gX12_nots_0 l B N _ _ _ _ _ h hS (lv_sub hl [0] rfl)
theorem dX12_leafOf_0 : decode cX12_leafOf 0 = .ok (.aload_n 0, 1) := by decide +kernel
theorem dX12_leafOf_1 : decode cX12_leafOf 1 = .ok (.ldc2_w 131, 3) := by decide +kernel
theorem dX12_leafOf_4 : decode cX12_leafOf 4 = .ok (.invokevirtual 203, 3) := by decide +kernel
theorem dX12_leafOf_7 : decode cX12_leafOf 7 = .ok (.ifCond .eq 7, 3) := by decide +kernel
theorem dX12_leafOf_10 : decode cX12_leafOf 10 = .ok (.iconst 0, 1) := by decide +kernel
theorem dX12_leafOf_11 : decode cX12_leafOf 11 = .ok (.goto 104, 3) := by decide +kernel
theorem dX12_leafOf_14 : decode cX12_leafOf 14 = .ok (.aload_n 0, 1) := by decide +kernel
theorem dX12_leafOf_15 : decode cX12_leafOf 15 = .ok (.ldc2_w 133, 3) := by decide +kernel
theorem dX12_leafOf_18 : decode cX12_leafOf 18 = .ok (.invokevirtual 203, 3) := by decide +kernel
theorem dX12_leafOf_21 : decode cX12_leafOf 21 = .ok (.ifCond .eq 7, 3) := by decide +kernel
theorem dX12_leafOf_24 : decode cX12_leafOf 24 = .ok (.iconst 1, 1) := by decide +kernel
theorem dX12_leafOf_25 : decode cX12_leafOf 25 = .ok (.goto 90, 3) := by decide +kernel
theorem dX12_leafOf_28 : decode cX12_leafOf 28 = .ok (.aload_n 0, 1) := by decide +kernel
theorem dX12_leafOf_29 : decode cX12_leafOf 29 = .ok (.ldc2_w 135, 3) := by decide +kernel
theorem dX12_leafOf_32 : decode cX12_leafOf 32 = .ok (.invokevirtual 203, 3) := by decide +kernel
theorem dX12_leafOf_35 : decode cX12_leafOf 35 = .ok (.ifCond .eq 7, 3) := by decide +kernel
theorem dX12_leafOf_38 : decode cX12_leafOf 38 = .ok (.iconst 2, 1) := by decide +kernel
theorem dX12_leafOf_39 : decode cX12_leafOf 39 = .ok (.goto 76, 3) := by decide +kernel
theorem dX12_leafOf_42 : decode cX12_leafOf 42 = .ok (.aload_n 0, 1) := by decide +kernel
theorem dX12_leafOf_43 : decode cX12_leafOf 43 = .ok (.ldc2_w 137, 3) := by decide +kernel
theorem dX12_leafOf_46 : decode cX12_leafOf 46 = .ok (.invokevirtual 203, 3) := by decide +kernel
theorem dX12_leafOf_49 : decode cX12_leafOf 49 = .ok (.ifCond .eq 7, 3) := by decide +kernel
theorem dX12_leafOf_52 : decode cX12_leafOf 52 = .ok (.iconst 3, 1) := by decide +kernel
theorem dX12_leafOf_53 : decode cX12_leafOf 53 = .ok (.goto 62, 3) := by decide +kernel
theorem dX12_leafOf_56 : decode cX12_leafOf 56 = .ok (.aload_n 0, 1) := by decide +kernel
theorem dX12_leafOf_57 : decode cX12_leafOf 57 = .ok (.ldc2_w 139, 3) := by decide +kernel
theorem dX12_leafOf_60 : decode cX12_leafOf 60 = .ok (.invokevirtual 203, 3) := by decide +kernel
theorem dX12_leafOf_63 : decode cX12_leafOf 63 = .ok (.ifCond .eq 7, 3) := by decide +kernel
theorem dX12_leafOf_66 : decode cX12_leafOf 66 = .ok (.iconst 4, 1) := by decide +kernel
theorem dX12_leafOf_67 : decode cX12_leafOf 67 = .ok (.goto 48, 3) := by decide +kernel
theorem dX12_leafOf_70 : decode cX12_leafOf 70 = .ok (.aload_n 0, 1) := by decide +kernel
theorem dX12_leafOf_71 : decode cX12_leafOf 71 = .ok (.ldc2_w 141, 3) := by decide +kernel
theorem dX12_leafOf_74 : decode cX12_leafOf 74 = .ok (.invokevirtual 203, 3) := by decide +kernel
theorem dX12_leafOf_77 : decode cX12_leafOf 77 = .ok (.ifCond .eq 7, 3) := by decide +kernel
theorem dX12_leafOf_80 : decode cX12_leafOf 80 = .ok (.iconst 5, 1) := by decide +kernel
theorem dX12_leafOf_81 : decode cX12_leafOf 81 = .ok (.goto 34, 3) := by decide +kernel
theorem dX12_leafOf_84 : decode cX12_leafOf 84 = .ok (.aload_n 0, 1) := by decide +kernel
theorem dX12_leafOf_85 : decode cX12_leafOf 85 = .ok (.ldc2_w 143, 3) := by decide +kernel
theorem dX12_leafOf_88 : decode cX12_leafOf 88 = .ok (.invokevirtual 203, 3) := by decide +kernel
theorem dX12_leafOf_91 : decode cX12_leafOf 91 = .ok (.ifCond .eq 8, 3) := by decide +kernel
theorem dX12_leafOf_94 : decode cX12_leafOf 94 = .ok (.bipush 6, 2) := by decide +kernel
theorem dX12_leafOf_96 : decode cX12_leafOf 96 = .ok (.goto 19, 3) := by decide +kernel
theorem dX12_leafOf_99 : decode cX12_leafOf 99 = .ok (.aload_n 0, 1) := by decide +kernel
theorem dX12_leafOf_100 : decode cX12_leafOf 100 = .ok (.ldc2_w 145, 3) := by decide +kernel
theorem dX12_leafOf_103 : decode cX12_leafOf 103 = .ok (.invokevirtual 203, 3) := by decide +kernel
theorem dX12_leafOf_106 : decode cX12_leafOf 106 = .ok (.ifCond .eq 8, 3) := by decide +kernel
theorem dX12_leafOf_109 : decode cX12_leafOf 109 = .ok (.bipush 7, 2) := by decide +kernel
theorem dX12_leafOf_111 : decode cX12_leafOf 111 = .ok (.goto 4, 3) := by decide +kernel
theorem dX12_leafOf_114 : decode cX12_leafOf 114 = .ok (.iconst (-1), 1) := by decide +kernel
theorem dX12_leafOf_115 : decode cX12_leafOf 115 = .ok (.ireturn, 1) := by decide +kernel
def fX12_leafOf (N n : Nat) (f : zF) (a0 : Nat) : Option Int32 :=
    ((zck n f 12 a0).bind fun _ => ((fX12_isWord N n f a0 (1936024942 : Int64)).bind fun x1 => (if x1 = 0 then ((zck n f 12 a0).bind fun _ => ((fX12_isWord N n f a0 (495875089259 : Int64)).bind fun x2 => (if x2 = 0 then ((zck n f 12 a0).bind fun _ => ((fX12_isWord N n f a0 (470021465444 : Int64)).bind fun x3 => (if x3 = 0 then ((zck n f 12 a0).bind fun _ => ((fX12_isWord N n f a0 (28518 : Int64)).bind fun x4 => (if x4 = 0 then ((zck n f 12 a0).bind fun _ => ((fX12_isWord N n f a0 (25209 : Int64)).bind fun x5 => (if x5 = 0 then ((zck n f 12 a0).bind fun _ => ((fX12_isWord N n f a0 (1735356005 : Int64)).bind fun x6 => (if x6 = 0 then ((zck n f 12 a0).bind fun _ => ((fX12_isWord N n f a0 (435778056825 : Int64)).bind fun x7 => (if x7 = 0 then ((zck n f 12 a0).bind fun _ => ((fX12_isWord N n f a0 (121450625394034 : Int64)).bind fun x8 => (if x8 = 0 then some (-1 : Int32) else some (7 : Int32)))) else some (6 : Int32)))) else some (5 : Int32)))) else some (4 : Int32)))) else some (3 : Int32)))) else some (2 : Int32)))) else some (1 : Int32)))) else some (0 : Int32))))
set_option maxRecDepth 100000 in
set_option maxHeartbeats 4000000 in
theorem mX12_leafOf (l : Launch) (G : zG) {N n : Nat} {f : zF} {r : Int32} {a0 : Nat} (h : fX12_leafOf N n f a0 = some r) : zM l G yX12_leafOf cX12_leafOf 1 (some .int) 1 n f [zr G a0] (some (.int r)) f := by
  refine zM.of (by decide) (Nat.le_of_ble_eq_true rfl) ?_
  intro p e s m args below meth c locs ls B hS hl
  have he := B.1
  have hb := B.2.1
  have hl : lv_has ls 1 [(0, zr G a0)] := hl
  unfold fX12_leafOf at h
  generalize s.heap = H at hS ⊢
  refine z_aload_n he hb dX12_leafOf_0 rfl (lv_at hl 0 rfl) (zref_r _ _) ?_
  refine lv_ldc2 (v := (1936024942 : Int64)) he hb B.2.2.2.1 (B.2.2.2.2.1 _ zk_1335) dX12_leafOf_1 ?_
  obtain ⟨_, hc, h⟩ := zob h
  obtain ⟨x1, hx, h⟩ := zob h
  refine z_callV (ci := 12) (T := TX12) (N := 50) (rest := []) B hS (mX12_isWord l G hx) zy_X12_isWord zk_1525 (by decide) hc rfl rfl hl rfl (Nat.le_of_ble_eq_true rfl) dX12_leafOf_4 (kk := (fun H locs hS => ?_))
  refine lv_if_eq (tgt := 14) he hb dX12_leafOf_7 (by decide) (fun hc => ?_) (fun hc => ?_)
  · rw [if_pos hc] at h
    refine z_aload_n he hb dX12_leafOf_14 rfl (lv_at hl 0 rfl) (zref_r _ _) ?_
    refine lv_ldc2 (v := (495875089259 : Int64)) he hb B.2.2.2.1 (B.2.2.2.2.1 _ zk_1336) dX12_leafOf_15 ?_
    obtain ⟨_, hc, h⟩ := zob h
    obtain ⟨x2, hx, h⟩ := zob h
    refine z_callV (ci := 12) (T := TX12) (N := 50) (rest := []) B hS (mX12_isWord l G hx) zy_X12_isWord zk_1525 (by decide) hc rfl rfl hl rfl (Nat.le_of_ble_eq_true rfl) dX12_leafOf_18 (kk := (fun H locs hS => ?_))
    refine lv_if_eq (tgt := 28) he hb dX12_leafOf_21 (by decide) (fun hc => ?_) (fun hc => ?_)
    · rw [if_pos hc] at h
      refine z_aload_n he hb dX12_leafOf_28 rfl (lv_at hl 0 rfl) (zref_r _ _) ?_
      refine lv_ldc2 (v := (470021465444 : Int64)) he hb B.2.2.2.1 (B.2.2.2.2.1 _ zk_1337) dX12_leafOf_29 ?_
      obtain ⟨_, hc, h⟩ := zob h
      obtain ⟨x3, hx, h⟩ := zob h
      refine z_callV (ci := 12) (T := TX12) (N := 50) (rest := []) B hS (mX12_isWord l G hx) zy_X12_isWord zk_1525 (by decide) hc rfl rfl hl rfl (Nat.le_of_ble_eq_true rfl) dX12_leafOf_32 (kk := (fun H locs hS => ?_))
      refine lv_if_eq (tgt := 42) he hb dX12_leafOf_35 (by decide) (fun hc => ?_) (fun hc => ?_)
      · rw [if_pos hc] at h
        refine z_aload_n he hb dX12_leafOf_42 rfl (lv_at hl 0 rfl) (zref_r _ _) ?_
        refine lv_ldc2 (v := (28518 : Int64)) he hb B.2.2.2.1 (B.2.2.2.2.1 _ zk_1338) dX12_leafOf_43 ?_
        obtain ⟨_, hc, h⟩ := zob h
        obtain ⟨x4, hx, h⟩ := zob h
        refine z_callV (ci := 12) (T := TX12) (N := 50) (rest := []) B hS (mX12_isWord l G hx) zy_X12_isWord zk_1525 (by decide) hc rfl rfl hl rfl (Nat.le_of_ble_eq_true rfl) dX12_leafOf_46 (kk := (fun H locs hS => ?_))
        refine lv_if_eq (tgt := 56) he hb dX12_leafOf_49 (by decide) (fun hc => ?_) (fun hc => ?_)
        · rw [if_pos hc] at h
          refine z_aload_n he hb dX12_leafOf_56 rfl (lv_at hl 0 rfl) (zref_r _ _) ?_
          refine lv_ldc2 (v := (25209 : Int64)) he hb B.2.2.2.1 (B.2.2.2.2.1 _ zk_1339) dX12_leafOf_57 ?_
          obtain ⟨_, hc, h⟩ := zob h
          obtain ⟨x5, hx, h⟩ := zob h
          refine z_callV (ci := 12) (T := TX12) (N := 50) (rest := []) B hS (mX12_isWord l G hx) zy_X12_isWord zk_1525 (by decide) hc rfl rfl hl rfl (Nat.le_of_ble_eq_true rfl) dX12_leafOf_60 (kk := (fun H locs hS => ?_))
          refine lv_if_eq (tgt := 70) he hb dX12_leafOf_63 (by decide) (fun hc => ?_) (fun hc => ?_)
          · rw [if_pos hc] at h
            refine z_aload_n he hb dX12_leafOf_70 rfl (lv_at hl 0 rfl) (zref_r _ _) ?_
            refine lv_ldc2 (v := (1735356005 : Int64)) he hb B.2.2.2.1 (B.2.2.2.2.1 _ zk_1340) dX12_leafOf_71 ?_
            obtain ⟨_, hc, h⟩ := zob h
            obtain ⟨x6, hx, h⟩ := zob h
            refine z_callV (ci := 12) (T := TX12) (N := 50) (rest := []) B hS (mX12_isWord l G hx) zy_X12_isWord zk_1525 (by decide) hc rfl rfl hl rfl (Nat.le_of_ble_eq_true rfl) dX12_leafOf_74 (kk := (fun H locs hS => ?_))
            refine lv_if_eq (tgt := 84) he hb dX12_leafOf_77 (by decide) (fun hc => ?_) (fun hc => ?_)
            · rw [if_pos hc] at h
              refine z_aload_n he hb dX12_leafOf_84 rfl (lv_at hl 0 rfl) (zref_r _ _) ?_
              refine lv_ldc2 (v := (435778056825 : Int64)) he hb B.2.2.2.1 (B.2.2.2.2.1 _ zk_1341) dX12_leafOf_85 ?_
              obtain ⟨_, hc, h⟩ := zob h
              obtain ⟨x7, hx, h⟩ := zob h
              refine z_callV (ci := 12) (T := TX12) (N := 50) (rest := []) B hS (mX12_isWord l G hx) zy_X12_isWord zk_1525 (by decide) hc rfl rfl hl rfl (Nat.le_of_ble_eq_true rfl) dX12_leafOf_88 (kk := (fun H locs hS => ?_))
              refine lv_if_eq (tgt := 99) he hb dX12_leafOf_91 (by decide) (fun hc => ?_) (fun hc => ?_)
              · rw [if_pos hc] at h
                refine z_aload_n he hb dX12_leafOf_99 rfl (lv_at hl 0 rfl) (zref_r _ _) ?_
                refine lv_ldc2 (v := (121450625394034 : Int64)) he hb B.2.2.2.1 (B.2.2.2.2.1 _ zk_1342) dX12_leafOf_100 ?_
                obtain ⟨_, hc, h⟩ := zob h
                obtain ⟨x8, hx, h⟩ := zob h
                refine z_callV (ci := 12) (T := TX12) (N := 50) (rest := []) B hS (mX12_isWord l G hx) zy_X12_isWord zk_1525 (by decide) hc rfl rfl hl rfl (Nat.le_of_ble_eq_true rfl) dX12_leafOf_103 (kk := (fun H locs hS => ?_))
                refine lv_if_eq (tgt := 114) he hb dX12_leafOf_106 (by decide) (fun hc => ?_) (fun hc => ?_)
                · rw [if_pos hc] at h
                  refine lv_iconst (v := (-1 : Int32)) he hb dX12_leafOf_114 (by decide) ?_
                  obtain rfl := Option.some.inj h
                  exact z_iret B hS dX12_leafOf_115
                · rw [if_neg hc] at h
                  refine lv_bipush (v := (7 : Int32)) he hb dX12_leafOf_109 (by decide) ?_
                  refine lv_goto (tgt := 115) he hb dX12_leafOf_111 (by decide) ?_
                  obtain rfl := Option.some.inj h
                  exact z_iret B hS dX12_leafOf_115
              · rw [if_neg hc] at h
                refine lv_bipush (v := (6 : Int32)) he hb dX12_leafOf_94 (by decide) ?_
                refine lv_goto (tgt := 115) he hb dX12_leafOf_96 (by decide) ?_
                obtain rfl := Option.some.inj h
                exact z_iret B hS dX12_leafOf_115
            · rw [if_neg hc] at h
              refine lv_iconst (v := (5 : Int32)) he hb dX12_leafOf_80 (by decide) ?_
              refine lv_goto (tgt := 115) he hb dX12_leafOf_81 (by decide) ?_
              obtain rfl := Option.some.inj h
              exact z_iret B hS dX12_leafOf_115
          · rw [if_neg hc] at h
            refine lv_iconst (v := (4 : Int32)) he hb dX12_leafOf_66 (by decide) ?_
            refine lv_goto (tgt := 115) he hb dX12_leafOf_67 (by decide) ?_
            obtain rfl := Option.some.inj h
            exact z_iret B hS dX12_leafOf_115
        · rw [if_neg hc] at h
          refine lv_iconst (v := (3 : Int32)) he hb dX12_leafOf_52 (by decide) ?_
          refine lv_goto (tgt := 115) he hb dX12_leafOf_53 (by decide) ?_
          obtain rfl := Option.some.inj h
          exact z_iret B hS dX12_leafOf_115
      · rw [if_neg hc] at h
        refine lv_iconst (v := (2 : Int32)) he hb dX12_leafOf_38 (by decide) ?_
        refine lv_goto (tgt := 115) he hb dX12_leafOf_39 (by decide) ?_
        obtain rfl := Option.some.inj h
        exact z_iret B hS dX12_leafOf_115
    · rw [if_neg hc] at h
      refine lv_iconst (v := (1 : Int32)) he hb dX12_leafOf_24 (by decide) ?_
      refine lv_goto (tgt := 115) he hb dX12_leafOf_25 (by decide) ?_
      obtain rfl := Option.some.inj h
      exact z_iret B hS dX12_leafOf_115
  · rw [if_neg hc] at h
    refine lv_iconst (v := (0 : Int32)) he hb dX12_leafOf_10 (by decide) ?_
    refine lv_goto (tgt := 115) he hb dX12_leafOf_11 (by decide) ?_
    obtain rfl := Option.some.inj h
    exact z_iret B hS dX12_leafOf_115
theorem dX12_operand_0 : decode cX12_operand 0 = .ok (.aload_n 0, 1) := by decide +kernel
theorem dX12_operand_1 : decode cX12_operand 1 = .ok (.ldc2_w 129, 3) := by decide +kernel
theorem dX12_operand_4 : decode cX12_operand 4 = .ok (.invokevirtual 203, 3) := by decide +kernel
theorem dX12_operand_7 : decode cX12_operand 7 = .ok (.istore_n 1, 1) := by decide +kernel
theorem dX12_operand_8 : decode cX12_operand 8 = .ok (.aload_n 0, 1) := by decide +kernel
theorem dX12_operand_9 : decode cX12_operand 9 = .ok (.bipush 40, 2) := by decide +kernel
theorem dX12_operand_11 : decode cX12_operand 11 = .ok (.invokevirtual 183, 3) := by decide +kernel
theorem dX12_operand_14 : decode cX12_operand 14 = .ok (.istore_n 2, 1) := by decide +kernel
theorem dX12_operand_15 : decode cX12_operand 15 = .ok (.aload_n 0, 1) := by decide +kernel
theorem dX12_operand_16 : decode cX12_operand 16 = .ok (.invokevirtual 466, 3) := by decide +kernel
theorem dX12_operand_19 : decode cX12_operand 19 = .ok (.istore_n 3, 1) := by decide +kernel
theorem dX12_operand_20 : decode cX12_operand 20 = .ok (.iload_n 1, 1) := by decide +kernel
theorem dX12_operand_21 : decode cX12_operand 21 = .ok (.ifCond .ne 17, 3) := by decide +kernel
theorem dX12_operand_24 : decode cX12_operand 24 = .ok (.iload_n 2, 1) := by decide +kernel
theorem dX12_operand_25 : decode cX12_operand 25 = .ok (.ifCond .ne 13, 3) := by decide +kernel
theorem dX12_operand_28 : decode cX12_operand 28 = .ok (.iload_n 3, 1) := by decide +kernel
theorem dX12_operand_29 : decode cX12_operand 29 = .ok (.ifCond .ge 9, 3) := by decide +kernel
theorem dX12_operand_32 : decode cX12_operand 32 = .ok (.aload_n 0, 1) := by decide +kernel
theorem dX12_operand_33 : decode cX12_operand 33 = .ok (.iconst 1, 1) := by decide +kernel
theorem dX12_operand_34 : decode cX12_operand 34 = .ok (.invokevirtual 186, 3) := by decide +kernel
theorem dX12_operand_37 : decode cX12_operand 37 = .ok (.ireturn, 1) := by decide +kernel
theorem dX12_operand_38 : decode cX12_operand 38 = .ok (.aload_n 0, 1) := by decide +kernel
theorem dX12_operand_39 : decode cX12_operand 39 = .ok (.getfield 469, 3) := by decide +kernel
theorem dX12_operand_42 : decode cX12_operand 42 = .ok (.bipush 20, 2) := by decide +kernel
theorem dX12_operand_44 : decode cX12_operand 44 = .ok (.if_icmp .eq 12, 3) := by decide +kernel
theorem dX12_operand_47 : decode cX12_operand 47 = .ok (.aload_n 0, 1) := by decide +kernel
theorem dX12_operand_48 : decode cX12_operand 48 = .ok (.getfield 463, 3) := by decide +kernel
theorem dX12_operand_51 : decode cX12_operand 51 = .ok (.bipush 8, 2) := by decide +kernel
theorem dX12_operand_53 : decode cX12_operand 53 = .ok (.if_icmp .le 9, 3) := by decide +kernel
theorem dX12_operand_56 : decode cX12_operand 56 = .ok (.aload_n 0, 1) := by decide +kernel
theorem dX12_operand_57 : decode cX12_operand 57 = .ok (.iconst 4, 1) := by decide +kernel
theorem dX12_operand_58 : decode cX12_operand 58 = .ok (.invokevirtual 186, 3) := by decide +kernel
theorem dX12_operand_61 : decode cX12_operand 61 = .ok (.ireturn, 1) := by decide +kernel
theorem dX12_operand_62 : decode cX12_operand 62 = .ok (.aload_n 0, 1) := by decide +kernel
theorem dX12_operand_63 : decode cX12_operand 63 = .ok (.dup, 1) := by decide +kernel
theorem dX12_operand_64 : decode cX12_operand 64 = .ok (.getfield 469, 3) := by decide +kernel
theorem dX12_operand_67 : decode cX12_operand 67 = .ok (.iconst 1, 1) := by decide +kernel
theorem dX12_operand_68 : decode cX12_operand 68 = .ok (.iadd, 1) := by decide +kernel
theorem dX12_operand_69 : decode cX12_operand 69 = .ok (.putfield 469, 3) := by decide +kernel
theorem dX12_operand_72 : decode cX12_operand 72 = .ok (.aload_n 0, 1) := by decide +kernel
theorem dX12_operand_73 : decode cX12_operand 73 = .ok (.invokevirtual 189, 3) := by decide +kernel
theorem dX12_operand_76 : decode cX12_operand 76 = .ok (.iload_n 1, 1) := by decide +kernel
theorem dX12_operand_77 : decode cX12_operand 77 = .ok (.ifCond .ne 7, 3) := by decide +kernel
theorem dX12_operand_80 : decode cX12_operand 80 = .ok (.iload_n 2, 1) := by decide +kernel
theorem dX12_operand_81 : decode cX12_operand 81 = .ok (.ifCond .eq 45, 3) := by decide +kernel
theorem dX12_operand_84 : decode cX12_operand 84 = .ok (.aload_n 0, 1) := by decide +kernel
theorem dX12_operand_85 : decode cX12_operand 85 = .ok (.getfield 77, 3) := by decide +kernel
theorem dX12_operand_88 : decode cX12_operand 88 = .ok (.aload_n 0, 1) := by decide +kernel
theorem dX12_operand_89 : decode cX12_operand 89 = .ok (.getfield 456, 3) := by decide +kernel
theorem dX12_operand_92 : decode cX12_operand 92 = .ok (.iload_n 1, 1) := by decide +kernel
theorem dX12_operand_93 : decode cX12_operand 93 = .ok (.ifCond .eq 8, 3) := by decide +kernel
theorem dX12_operand_96 : decode cX12_operand 96 = .ok (.bipush 20, 2) := by decide +kernel
theorem dX12_operand_98 : decode cX12_operand 98 = .ok (.goto 5, 3) := by decide +kernel
theorem dX12_operand_101 : decode cX12_operand 101 = .ok (.bipush 23, 2) := by decide +kernel
theorem dX12_operand_103 : decode cX12_operand 103 = .ok (.iastore, 1) := by decide +kernel
theorem dX12_operand_104 : decode cX12_operand 104 = .ok (.aload_n 0, 1) := by decide +kernel
theorem dX12_operand_105 : decode cX12_operand 105 = .ok (.dup, 1) := by decide +kernel
theorem dX12_operand_106 : decode cX12_operand 106 = .ok (.getfield 456, 3) := by decide +kernel
theorem dX12_operand_109 : decode cX12_operand 109 = .ok (.iconst 1, 1) := by decide +kernel
theorem dX12_operand_110 : decode cX12_operand 110 = .ok (.iadd, 1) := by decide +kernel
theorem dX12_operand_111 : decode cX12_operand 111 = .ok (.putfield 456, 3) := by decide +kernel
theorem dX12_operand_114 : decode cX12_operand 114 = .ok (.aload_n 0, 1) := by decide +kernel
theorem dX12_operand_115 : decode cX12_operand 115 = .ok (.dup, 1) := by decide +kernel
theorem dX12_operand_116 : decode cX12_operand 116 = .ok (.getfield 463, 3) := by decide +kernel
theorem dX12_operand_119 : decode cX12_operand 119 = .ok (.iconst 1, 1) := by decide +kernel
theorem dX12_operand_120 : decode cX12_operand 120 = .ok (.iadd, 1) := by decide +kernel
theorem dX12_operand_121 : decode cX12_operand 121 = .ok (.putfield 463, 3) := by decide +kernel
theorem dX12_operand_124 : decode cX12_operand 124 = .ok (.iconst 1, 1) := by decide +kernel
theorem dX12_operand_125 : decode cX12_operand 125 = .ok (.ireturn, 1) := by decide +kernel
theorem dX12_operand_126 : decode cX12_operand 126 = .ok (.aload_n 0, 1) := by decide +kernel
theorem dX12_operand_127 : decode cX12_operand 127 = .ok (.iconst 1, 1) := by decide +kernel
theorem dX12_operand_128 : decode cX12_operand 128 = .ok (.putfield 472, 3) := by decide +kernel
theorem dX12_operand_131 : decode cX12_operand 131 = .ok (.iload_n 3, 1) := by decide +kernel
theorem dX12_operand_132 : decode cX12_operand 132 = .ok (.iconst 3, 1) := by decide +kernel
theorem dX12_operand_133 : decode cX12_operand 133 = .ok (.if_icmp .ge 12, 3) := by decide +kernel
theorem dX12_operand_136 : decode cX12_operand 136 = .ok (.aload_n 0, 1) := by decide +kernel
theorem dX12_operand_137 : decode cX12_operand 137 = .ok (.iload_n 3, 1) := by decide +kernel
theorem dX12_operand_138 : decode cX12_operand 138 = .ok (.iconst 0, 1) := by decide +kernel
theorem dX12_operand_139 : decode cX12_operand 139 = .ok (.iconst 0, 1) := by decide +kernel
theorem dX12_operand_140 : decode cX12_operand 140 = .ok (.invokevirtual 459, 3) := by decide +kernel
theorem dX12_operand_143 : decode cX12_operand 143 = .ok (.iconst 1, 1) := by decide +kernel
theorem dX12_operand_144 : decode cX12_operand 144 = .ok (.ireturn, 1) := by decide +kernel
theorem dX12_operand_145 : decode cX12_operand 145 = .ok (.iload_n 3, 1) := by decide +kernel
theorem dX12_operand_146 : decode cX12_operand 146 = .ok (.iconst 5, 1) := by decide +kernel
theorem dX12_operand_147 : decode cX12_operand 147 = .ok (.if_icmp .ge 59, 3) := by decide +kernel
theorem dX12_operand_150 : decode cX12_operand 150 = .ok (.iload_n 3, 1) := by decide +kernel
theorem dX12_operand_151 : decode cX12_operand 151 = .ok (.iconst 3, 1) := by decide +kernel
theorem dX12_operand_152 : decode cX12_operand 152 = .ok (.if_icmp .ne 17, 3) := by decide +kernel
theorem dX12_operand_155 : decode cX12_operand 155 = .ok (.aload_n 0, 1) := by decide +kernel
theorem dX12_operand_156 : decode cX12_operand 156 = .ok (.iconst 0, 1) := by decide +kernel
theorem dX12_operand_157 : decode cX12_operand 157 = .ok (.aload_n 0, 1) := by decide +kernel
theorem dX12_operand_158 : decode cX12_operand 158 = .ok (.getfield 33, 3) := by decide +kernel
theorem dX12_operand_161 : decode cX12_operand 161 = .ok (.iconst 2, 1) := by decide +kernel
theorem dX12_operand_162 : decode cX12_operand 162 = .ok (.iaload, 1) := by decide +kernel
theorem dX12_operand_163 : decode cX12_operand 163 = .ok (.invokevirtual 218, 3) := by decide +kernel
theorem dX12_operand_166 : decode cX12_operand 166 = .ok (.goto 15, 3) := by decide +kernel
theorem dX12_operand_169 : decode cX12_operand 169 = .ok (.aload_n 0, 1) := by decide +kernel
theorem dX12_operand_170 : decode cX12_operand 170 = .ok (.bipush 10, 2) := by decide +kernel
theorem dX12_operand_172 : decode cX12_operand 172 = .ok (.aload_n 0, 1) := by decide +kernel
theorem dX12_operand_173 : decode cX12_operand 173 = .ok (.getfield 33, 3) := by decide +kernel
theorem dX12_operand_176 : decode cX12_operand 176 = .ok (.iconst 4, 1) := by decide +kernel
theorem dX12_operand_177 : decode cX12_operand 177 = .ok (.iaload, 1) := by decide +kernel
theorem dX12_operand_178 : decode cX12_operand 178 = .ok (.invokevirtual 218, 3) := by decide +kernel
theorem dX12_operand_181 : decode cX12_operand 181 = .ok (.istore 4, 2) := by decide +kernel
theorem dX12_operand_183 : decode cX12_operand 183 = .ok (.iload 4, 2) := by decide +kernel
theorem dX12_operand_185 : decode cX12_operand 185 = .ok (.ifCond .ne 5, 3) := by decide +kernel
theorem dX12_operand_188 : decode cX12_operand 188 = .ok (.iconst 0, 1) := by decide +kernel
theorem dX12_operand_189 : decode cX12_operand 189 = .ok (.ireturn, 1) := by decide +kernel
theorem dX12_operand_190 : decode cX12_operand 190 = .ok (.aload_n 0, 1) := by decide +kernel
theorem dX12_operand_191 : decode cX12_operand 191 = .ok (.iload_n 3, 1) := by decide +kernel
theorem dX12_operand_192 : decode cX12_operand 192 = .ok (.iconst 0, 1) := by decide +kernel
theorem dX12_operand_193 : decode cX12_operand 193 = .ok (.aload_n 0, 1) := by decide +kernel
theorem dX12_operand_194 : decode cX12_operand 194 = .ok (.getfield 196, 3) := by decide +kernel
theorem dX12_operand_197 : decode cX12_operand 197 = .ok (.invokevirtual 459, 3) := by decide +kernel
theorem dX12_operand_200 : decode cX12_operand 200 = .ok (.aload_n 0, 1) := by decide +kernel
theorem dX12_operand_201 : decode cX12_operand 201 = .ok (.invokevirtual 189, 3) := by decide +kernel
theorem dX12_operand_204 : decode cX12_operand 204 = .ok (.iconst 1, 1) := by decide +kernel
theorem dX12_operand_205 : decode cX12_operand 205 = .ok (.ireturn, 1) := by decide +kernel
theorem dX12_operand_206 : decode cX12_operand 206 = .ok (.aload_n 0, 1) := by decide +kernel
theorem dX12_operand_207 : decode cX12_operand 207 = .ok (.getfield 160, 3) := by decide +kernel
theorem dX12_operand_210 : decode cX12_operand 210 = .ok (.iconst 3, 1) := by decide +kernel
theorem dX12_operand_211 : decode cX12_operand 211 = .ok (.if_icmp .ne 21, 3) := by decide +kernel
theorem dX12_operand_214 : decode cX12_operand 214 = .ok (.aload_n 0, 1) := by decide +kernel
theorem dX12_operand_215 : decode cX12_operand 215 = .ok (.getfield 170, 3) := by decide +kernel
theorem dX12_operand_218 : decode cX12_operand 218 = .ok (.bipush 60, 2) := by decide +kernel
theorem dX12_operand_220 : decode cX12_operand 220 = .ok (.if_icmp .lt 12, 3) := by decide +kernel
theorem dX12_operand_223 : decode cX12_operand 223 = .ok (.aload_n 0, 1) := by decide +kernel
theorem dX12_operand_224 : decode cX12_operand 224 = .ok (.getfield 170, 3) := by decide +kernel
theorem dX12_operand_227 : decode cX12_operand 227 = .ok (.bipush 62, 2) := by decide +kernel
theorem dX12_operand_229 : decode cX12_operand 229 = .ok (.if_icmp .le 9, 3) := by decide +kernel
theorem dX12_operand_232 : decode cX12_operand 232 = .ok (.aload_n 0, 1) := by decide +kernel
theorem dX12_operand_233 : decode cX12_operand 233 = .ok (.iconst 1, 1) := by decide +kernel
theorem dX12_operand_234 : decode cX12_operand 234 = .ok (.invokevirtual 186, 3) := by decide +kernel
theorem dX12_operand_237 : decode cX12_operand 237 = .ok (.ireturn, 1) := by decide +kernel
theorem dX12_operand_238 : decode cX12_operand 238 = .ok (.aload_n 0, 1) := by decide +kernel
theorem dX12_operand_239 : decode cX12_operand 239 = .ok (.getfield 170, 3) := by decide +kernel
theorem dX12_operand_242 : decode cX12_operand 242 = .ok (.istore 4, 2) := by decide +kernel
theorem dX12_operand_244 : decode cX12_operand 244 = .ok (.aload_n 0, 1) := by decide +kernel
theorem dX12_operand_245 : decode cX12_operand 245 = .ok (.invokevirtual 189, 3) := by decide +kernel
theorem dX12_operand_248 : decode cX12_operand 248 = .ok (.aload_n 0, 1) := by decide +kernel
theorem dX12_operand_249 : decode cX12_operand 249 = .ok (.getfield 160, 3) := by decide +kernel
theorem dX12_operand_252 : decode cX12_operand 252 = .ok (.iconst 2, 1) := by decide +kernel
theorem dX12_operand_253 : decode cX12_operand 253 = .ok (.if_icmp .eq 9, 3) := by decide +kernel
theorem dX12_operand_256 : decode cX12_operand 256 = .ok (.aload_n 0, 1) := by decide +kernel
theorem dX12_operand_257 : decode cX12_operand 257 = .ok (.iconst 1, 1) := by decide +kernel
theorem dX12_operand_258 : decode cX12_operand 258 = .ok (.invokevirtual 186, 3) := by decide +kernel
theorem dX12_operand_261 : decode cX12_operand 261 = .ok (.ireturn, 1) := by decide +kernel
theorem dX12_operand_262 : decode cX12_operand 262 = .ok (.aload_n 0, 1) := by decide +kernel
theorem dX12_operand_263 : decode cX12_operand 263 = .ok (.iload_n 3, 1) := by decide +kernel
theorem dX12_operand_264 : decode cX12_operand 264 = .ok (.iload 4, 2) := by decide +kernel
theorem dX12_operand_266 : decode cX12_operand 266 = .ok (.aload_n 0, 1) := by decide +kernel
theorem dX12_operand_267 : decode cX12_operand 267 = .ok (.getfield 170, 3) := by decide +kernel
theorem dX12_operand_270 : decode cX12_operand 270 = .ok (.invokevirtual 459, 3) := by decide +kernel
theorem dX12_operand_273 : decode cX12_operand 273 = .ok (.aload_n 0, 1) := by decide +kernel
theorem dX12_operand_274 : decode cX12_operand 274 = .ok (.invokevirtual 189, 3) := by decide +kernel
theorem dX12_operand_277 : decode cX12_operand 277 = .ok (.iconst 1, 1) := by decide +kernel
theorem dX12_operand_278 : decode cX12_operand 278 = .ok (.ireturn, 1) := by decide +kernel
def fX12_operand_56 (N n : Nat) (f : zF) (a0 : Nat) : Option (zF × Int32) :=
    ((zck n f 12 a0).bind fun _ => (zbd (fX12_bad N n f a0 (4 : Int32)) fun f6 x5 => ((zbl x5).bind fun y => some (f6, y))))
set_option maxRecDepth 100000 in
set_option maxHeartbeats 4000000 in
theorem gX12_operand_56 (l : Launch) {G : zG} {p : Program} {e : Env} {s : State} {m : MethodId} {args : Array Value} {below : List Frame} {meth : Method} {c : Code} {N n : Nat} {f9 : zF} {r : Int32} (B : zB G p s m args meth c RX12 cX12_operand 5 (some .boolean)) : ∀ (f : zF) (a0 : Nat) (H : Heap) (locs : List Loc) (ls : Array Slot), fX12_operand_56 N n f a0 = some (f9, r) → zS G n f H locs → lv_has ls 5 [(0, zr G a0)] → W p l e (zrm 2) s m args below meth c H locs 0 0 (MQ below (zQc G n f9 (some (.int r))) args s 0 0 (zA G)) (F0 m 56 ls []) := by
  have he := B.1
  have hb := B.2.1
  intro f a0 H locs ls h hS hl
  unfold fX12_operand_56 at h
  refine z_aload_n he hb dX12_operand_56 rfl (lv_at hl 0 rfl) (zref_r _ _) ?_
  refine lv_iconst (v := (4 : Int32)) he hb dX12_operand_57 (by decide) ?_
  obtain ⟨_, hc, h⟩ := zob h
  obtain ⟨f6, x5, hx, h⟩ := zbd_i h
  refine z_callV (ci := 12) (T := TX12) (N := 50) (rest := []) B hS (mX12_bad l G hx) zy_X12_bad zk_1533 (by decide) hc rfl rfl hl rfl (Nat.le_of_ble_eq_true rfl) dX12_operand_58 (kk := (fun H locs hS => ?_))
  obtain ⟨y, hx, h⟩ := zob h
  obtain ⟨hz, rfl⟩ := zbl_i hx
  obtain ⟨rfl, rfl⟩ := Prod.mk.inj (Option.some.inj h)
  exact z_zret B hS hz dX12_operand_61
def fX12_operand_103 (N n : Nat) (f : zF) (a0 : Nat) (t0 : Nat) (t1 : Int32) (t2 : Int32) : Option (zF × Int32) :=
    ((zsI n f 0 t0 t1 t2).bind fun f13 => ((zgI n f13 12 a0 43).bind fun x14 => ((zpI n f13 12 a0 43 (x14 + (1 : Int32))).bind fun f15 => ((zgI n f15 12 a0 44).bind fun x16 => ((zpI n f15 12 a0 44 (x16 + (1 : Int32))).bind fun f17 => ((zbl (1 : Int32)).bind fun y => some (f17, y)))))))
set_option maxRecDepth 100000 in
set_option maxHeartbeats 4000000 in
theorem gX12_operand_103 (l : Launch) {G : zG} {p : Program} {e : Env} {s : State} {m : MethodId} {args : Array Value} {below : List Frame} {meth : Method} {c : Code} {N n : Nat} {f9 : zF} {r : Int32} (B : zB G p s m args meth c RX12 cX12_operand 5 (some .boolean)) : ∀ (f : zF) (a0 : Nat) (t0 : Nat) (t1 : Int32) (t2 : Int32) (H : Heap) (locs : List Loc) (ls : Array Slot), fX12_operand_103 N n f a0 t0 t1 t2 = some (f9, r) → zS G n f H locs → lv_has ls 5 [(0, zr G a0)] → W p l e (zrm 2) s m args below meth c H locs 0 0 (MQ below (zQc G n f9 (some (.int r))) args s 0 0 (zA G)) (F0 m 103 ls [.int t2, .int t1, zr G t0]) := by
  have he := B.1
  have hb := B.2.1
  intro f a0 t0 t1 t2 H locs ls h hS hl
  unfold fX12_operand_103 at h
  obtain ⟨f13, hx, h⟩ := zob h
  refine z_istI B hS hx dX12_operand_103 (fun H locs hS => ?_)
  refine z_aload_n he hb dX12_operand_104 rfl (lv_at hl 0 rfl) (zref_r _ _) ?_
  refine lv_dup he hb dX12_operand_105 rfl ?_
  obtain ⟨x14, hx, h⟩ := zob h
  refine z_getI (ci := 12) (T := TX12) (N := 50) (j := 43) B hS hx rfl zin_X12 (by decide) zk_1390 dX12_operand_106 ?_
  refine lv_iconst (v := (1 : Int32)) he hb dX12_operand_109 (by decide) ?_
  refine lv_iadd he hb dX12_operand_110 ?_
  obtain ⟨f15, hx, h⟩ := zob h
  refine z_putI (ci := 12) (T := TX12) (N := 50) (j := 43) B hS hx rfl zin_X12 tyX12 tyX12_ok nmX12 (by decide) zk_1390 rfl rfl dX12_operand_111 (fun H locs hS => ?_)
  refine z_aload_n he hb dX12_operand_114 rfl (lv_at hl 0 rfl) (zref_r _ _) ?_
  refine lv_dup he hb dX12_operand_115 rfl ?_
  obtain ⟨x16, hx, h⟩ := zob h
  refine z_getI (ci := 12) (T := TX12) (N := 50) (j := 44) B hS hx rfl zin_X12 (by decide) zk_1391 dX12_operand_116 ?_
  refine lv_iconst (v := (1 : Int32)) he hb dX12_operand_119 (by decide) ?_
  refine lv_iadd he hb dX12_operand_120 ?_
  obtain ⟨f17, hx, h⟩ := zob h
  refine z_putI (ci := 12) (T := TX12) (N := 50) (j := 44) B hS hx rfl zin_X12 tyX12 tyX12_ok nmX12 (by decide) zk_1391 rfl rfl dX12_operand_121 (fun H locs hS => ?_)
  refine lv_iconst (v := (1 : Int32)) he hb dX12_operand_124 (by decide) ?_
  obtain ⟨y, hx, h⟩ := zob h
  obtain ⟨hz, rfl⟩ := zbl_i hx
  obtain ⟨rfl, rfl⟩ := Prod.mk.inj (Option.some.inj h)
  exact z_zret B hS hz dX12_operand_125
def fX12_operand_84 (N n : Nat) (f : zF) (a0 : Nat) (a1 : Int32) : Option (zF × Int32) :=
    ((zgR n f 12 a0 40).bind fun x11 => ((zgI n f 12 a0 43).bind fun x12 => (if a1 = 0 then (fX12_operand_103 N n f a0 x11 x12 (23 : Int32)) else (fX12_operand_103 N n f a0 x11 x12 (20 : Int32)))))
set_option maxRecDepth 100000 in
set_option maxHeartbeats 4000000 in
theorem gX12_operand_84 (l : Launch) {G : zG} {p : Program} {e : Env} {s : State} {m : MethodId} {args : Array Value} {below : List Frame} {meth : Method} {c : Code} {N n : Nat} {f9 : zF} {r : Int32} (B : zB G p s m args meth c RX12 cX12_operand 5 (some .boolean)) : ∀ (f : zF) (a0 : Nat) (a1 : Int32) (H : Heap) (locs : List Loc) (ls : Array Slot), fX12_operand_84 N n f a0 a1 = some (f9, r) → zS G n f H locs → lv_has ls 5 [(0, zr G a0), (1, .int a1)] → W p l e (zrm 2) s m args below meth c H locs 0 0 (MQ below (zQc G n f9 (some (.int r))) args s 0 0 (zA G)) (F0 m 84 ls []) := by
  have he := B.1
  have hb := B.2.1
  intro f a0 a1 H locs ls h hS hl
  unfold fX12_operand_84 at h
  refine z_aload_n he hb dX12_operand_84 rfl (lv_at hl 0 rfl) (zref_r _ _) ?_
  obtain ⟨x11, hx, h⟩ := zob h
  refine z_getR (ci := 12) (T := TX12) (N := 50) (j := 40) B hS hx rfl zin_X12 (by decide) zk_1387 dX12_operand_85 ?_
  refine z_aload_n he hb dX12_operand_88 rfl (lv_at hl 0 rfl) (zref_r _ _) ?_
  obtain ⟨x12, hx, h⟩ := zob h
  refine z_getI (ci := 12) (T := TX12) (N := 50) (j := 43) B hS hx rfl zin_X12 (by decide) zk_1390 dX12_operand_89 ?_
  refine lv_iload_n he hb dX12_operand_92 rfl (lv_at hl 1 rfl) ?_
  refine lv_if_eq (tgt := 101) he hb dX12_operand_93 (by decide) (fun hc => ?_) (fun hc => ?_)
  · rw [if_pos hc] at h
    refine lv_bipush (v := (23 : Int32)) he hb dX12_operand_101 (by decide) ?_
    exact gX12_operand_103 l B _ _ _ _ _ _ _ _ h hS (lv_sub hl [0] rfl)
  · rw [if_neg hc] at h
    refine lv_bipush (v := (20 : Int32)) he hb dX12_operand_96 (by decide) ?_
    refine lv_goto (tgt := 103) he hb dX12_operand_98 (by decide) ?_
    exact gX12_operand_103 l B _ _ _ _ _ _ _ _ h hS (lv_sub hl [0] rfl)
def fX12_operand_232 (N n : Nat) (f : zF) (a0 : Nat) : Option (zF × Int32) :=
    ((zck n f 12 a0).bind fun _ => (zbd (fX12_bad N n f a0 (1 : Int32)) fun f21 x20 => ((zbl x20).bind fun y => some (f21, y))))
set_option maxRecDepth 100000 in
set_option maxHeartbeats 4000000 in
theorem gX12_operand_232 (l : Launch) {G : zG} {p : Program} {e : Env} {s : State} {m : MethodId} {args : Array Value} {below : List Frame} {meth : Method} {c : Code} {N n : Nat} {f9 : zF} {r : Int32} (B : zB G p s m args meth c RX12 cX12_operand 5 (some .boolean)) : ∀ (f : zF) (a0 : Nat) (H : Heap) (locs : List Loc) (ls : Array Slot), fX12_operand_232 N n f a0 = some (f9, r) → zS G n f H locs → lv_has ls 5 [(0, zr G a0)] → W p l e (zrm 2) s m args below meth c H locs 0 0 (MQ below (zQc G n f9 (some (.int r))) args s 0 0 (zA G)) (F0 m 232 ls []) := by
  have he := B.1
  have hb := B.2.1
  intro f a0 H locs ls h hS hl
  unfold fX12_operand_232 at h
  refine z_aload_n he hb dX12_operand_232 rfl (lv_at hl 0 rfl) (zref_r _ _) ?_
  refine lv_iconst (v := (1 : Int32)) he hb dX12_operand_233 (by decide) ?_
  obtain ⟨_, hc, h⟩ := zob h
  obtain ⟨f21, x20, hx, h⟩ := zbd_i h
  refine z_callV (ci := 12) (T := TX12) (N := 50) (rest := []) B hS (mX12_bad l G hx) zy_X12_bad zk_1533 (by decide) hc rfl rfl hl rfl (Nat.le_of_ble_eq_true rfl) dX12_operand_234 (kk := (fun H locs hS => ?_))
  obtain ⟨y, hx, h⟩ := zob h
  obtain ⟨hz, rfl⟩ := zbl_i hx
  obtain ⟨rfl, rfl⟩ := Prod.mk.inj (Option.some.inj h)
  exact z_zret B hS hz dX12_operand_237
def fX12_operand_181 (N n : Nat) (f : zF) (a0 : Nat) (a3 : Int32) (t0 : Int32) : Option (zF × Int32) :=
    (if t0 = 0 then ((zbl (0 : Int32)).bind fun y => some (f, y)) else ((zgI n f 12 a0 18).bind fun x36 => ((zck n f 12 a0).bind fun _ => ((fX12_code N n f a0 a3 (0 : Int32) x36).bind fun f37 => ((zck n f37 12 a0).bind fun _ => ((fX12_next N n f37 a0).bind fun f38 => ((zbl (1 : Int32)).bind fun y => some (f38, y))))))))
set_option maxRecDepth 100000 in
set_option maxHeartbeats 4000000 in
theorem gX12_operand_181 (l : Launch) {G : zG} {p : Program} {e : Env} {s : State} {m : MethodId} {args : Array Value} {below : List Frame} {meth : Method} {c : Code} {N n : Nat} {f9 : zF} {r : Int32} (B : zB G p s m args meth c RX12 cX12_operand 5 (some .boolean)) : ∀ (f : zF) (a0 : Nat) (a3 : Int32) (t0 : Int32) (H : Heap) (locs : List Loc) (ls : Array Slot), fX12_operand_181 N n f a0 a3 t0 = some (f9, r) → zS G n f H locs → lv_has ls 5 [(0, zr G a0), (3, .int a3)] → W p l e (zrm 2) s m args below meth c H locs 0 0 (MQ below (zQc G n f9 (some (.int r))) args s 0 0 (zA G)) (F0 m 181 ls [.int t0]) := by
  have he := B.1
  have hb := B.2.1
  intro f a0 a3 t0 H locs ls h hS hl
  unfold fX12_operand_181 at h
  refine lv_istore (lv' := [(4, _), (0, _), (3, _)]) he hb dX12_operand_181 hl (by decide) rfl (fun ls hl => ?_)
  refine lv_iload he hb dX12_operand_183 (lv_at hl 0 rfl) ?_
  refine lv_if_ne (tgt := 190) he hb dX12_operand_185 (by decide) (fun hc => ?_) (fun hc => ?_)
  · rw [if_neg hc] at h
    refine z_aload_n he hb dX12_operand_190 rfl (lv_at hl 1 rfl) (zref_r _ _) ?_
    refine lv_iload_n he hb dX12_operand_191 rfl (lv_at hl 2 rfl) ?_
    refine lv_iconst (v := (0 : Int32)) he hb dX12_operand_192 (by decide) ?_
    refine z_aload_n he hb dX12_operand_193 rfl (lv_at hl 1 rfl) (zref_r _ _) ?_
    obtain ⟨x36, hx, h⟩ := zob h
    refine z_getI (ci := 12) (T := TX12) (N := 50) (j := 18) B hS hx rfl zin_X12 (by decide) zk_1365 dX12_operand_194 ?_
    obtain ⟨_, hc, h⟩ := zob h
    obtain ⟨f37, hx, h⟩ := zob h
    refine z_callV (ci := 12) (T := TX12) (N := 50) (rest := []) B hS (mX12_code l G hx) zy_X12_code zk_1933 (by decide) hc rfl rfl hl rfl (Nat.le_of_ble_eq_true rfl) dX12_operand_197 (kk := (fun H locs hS => ?_))
    refine z_aload_n he hb dX12_operand_200 rfl (lv_at hl 1 rfl) (zref_r _ _) ?_
    obtain ⟨_, hc, h⟩ := zob h
    obtain ⟨f38, hx, h⟩ := zob h
    refine z_callV (ci := 12) (T := TX12) (N := 50) (rest := []) B hS (mX12_next l G hx) zy_X12_next zk_1507 (by decide) hc rfl rfl hl rfl (Nat.le_of_ble_eq_true rfl) dX12_operand_201 (kk := (fun H locs hS => ?_))
    refine lv_iconst (v := (1 : Int32)) he hb dX12_operand_204 (by decide) ?_
    obtain ⟨y, hx, h⟩ := zob h
    obtain ⟨hz, rfl⟩ := zbl_i hx
    obtain ⟨rfl, rfl⟩ := Prod.mk.inj (Option.some.inj h)
    exact z_zret B hS hz dX12_operand_205
  · rw [if_pos hc] at h
    refine lv_iconst (v := (0 : Int32)) he hb dX12_operand_188 (by decide) ?_
    obtain ⟨y, hx, h⟩ := zob h
    obtain ⟨hz, rfl⟩ := zbl_i hx
    obtain ⟨rfl, rfl⟩ := Prod.mk.inj (Option.some.inj h)
    exact z_zret B hS hz dX12_operand_189
def fX12_operand_38 (N n : Nat) (f : zF) (a0 : Nat) (a1 : Int32) (a2 : Int32) (a3 : Int32) : Option (zF × Int32) :=
    ((zgI n f 12 a0 42).bind fun x4 => (if x4 = (20 : Int32) then (fX12_operand_56 N n f a0) else ((zgI n f 12 a0 44).bind fun x7 => (if x7 ≤ (8 : Int32) then ((zgI n f 12 a0 42).bind fun x8 => ((zpI n f 12 a0 42 (x8 + (1 : Int32))).bind fun f9 => ((zck n f9 12 a0).bind fun _ => ((fX12_next N n f9 a0).bind fun f10 => (if a1 = 0 then (if a2 = 0 then ((zpZ n f10 12 a0 45 (1 : Int32)).bind fun f18 => (if (3 : Int32) ≤ a3 then (if (5 : Int32) ≤ a3 then ((zgI n f18 12 a0 11).bind fun x19 => (if x19 = (3 : Int32) then ((zgI n f18 12 a0 14).bind fun x22 => (if x22 < (60 : Int32) then (fX12_operand_232 N n f18 a0) else ((zgI n f18 12 a0 14).bind fun x23 => (if x23 ≤ (62 : Int32) then ((zgI n f18 12 a0 14).bind fun x24 => ((zck n f18 12 a0).bind fun _ => ((fX12_next N n f18 a0).bind fun f25 => ((zgI n f25 12 a0 11).bind fun x26 => (if x26 = (2 : Int32) then ((zgI n f25 12 a0 14).bind fun x27 => ((zck n f25 12 a0).bind fun _ => ((fX12_code N n f25 a0 a3 x24 x27).bind fun f28 => ((zck n f28 12 a0).bind fun _ => ((fX12_next N n f28 a0).bind fun f29 => ((zbl (1 : Int32)).bind fun y => some (f29, y))))))) else ((zck n f25 12 a0).bind fun _ => (zbd (fX12_bad N n f25 a0 (1 : Int32)) fun f31 x30 => ((zbl x30).bind fun y => some (f31, y))))))))) else (fX12_operand_232 N n f18 a0))))) else (fX12_operand_232 N n f18 a0))) else (if a3 = (3 : Int32) then ((zgR n f18 12 a0 6).bind fun x39 => ((zlI n f18 0 x39 (2 : Int32)).bind fun x40 => ((zck n f18 12 a0).bind fun _ => (zbd (fX12_looksAt N n f18 a0 (0 : Int32) x40) fun f42 x41 => (fX12_operand_181 N n f42 a0 a3 x41))))) else ((zgR n f18 12 a0 6).bind fun x32 => ((zlI n f18 0 x32 (4 : Int32)).bind fun x33 => ((zck n f18 12 a0).bind fun _ => (zbd (fX12_looksAt N n f18 a0 (10 : Int32) x33) fun f35 x34 => (fX12_operand_181 N n f35 a0 a3 x34))))))) else ((zck n f18 12 a0).bind fun _ => ((fX12_code N n f18 a0 a3 (0 : Int32) (0 : Int32)).bind fun f43 => ((zbl (1 : Int32)).bind fun y => some (f43, y)))))) else (fX12_operand_84 N n f10 a0 a1)) else (fX12_operand_84 N n f10 a0 a1)))))) else (fX12_operand_56 N n f a0)))))
set_option maxRecDepth 100000 in
set_option maxHeartbeats 4000000 in
theorem gX12_operand_38 (l : Launch) {G : zG} {p : Program} {e : Env} {s : State} {m : MethodId} {args : Array Value} {below : List Frame} {meth : Method} {c : Code} {N n : Nat} {f9 : zF} {r : Int32} (B : zB G p s m args meth c RX12 cX12_operand 5 (some .boolean)) : ∀ (f : zF) (a0 : Nat) (a1 : Int32) (a2 : Int32) (a3 : Int32) (H : Heap) (locs : List Loc) (ls : Array Slot), fX12_operand_38 N n f a0 a1 a2 a3 = some (f9, r) → zS G n f H locs → lv_has ls 5 [(0, zr G a0), (1, .int a1), (2, .int a2), (3, .int a3)] → W p l e (zrm 2) s m args below meth c H locs 0 0 (MQ below (zQc G n f9 (some (.int r))) args s 0 0 (zA G)) (F0 m 38 ls []) := by
  have he := B.1
  have hb := B.2.1
  intro f a0 a1 a2 a3 H locs ls h hS hl
  unfold fX12_operand_38 at h
  refine z_aload_n he hb dX12_operand_38 rfl (lv_at hl 0 rfl) (zref_r _ _) ?_
  obtain ⟨x4, hx, h⟩ := zob h
  refine z_getI (ci := 12) (T := TX12) (N := 50) (j := 42) B hS hx rfl zin_X12 (by decide) zk_1389 dX12_operand_39 ?_
  refine lv_bipush (v := (20 : Int32)) he hb dX12_operand_42 (by decide) ?_
  refine lv_icmp_eq (tgt := 56) he hb dX12_operand_44 (by decide) (fun hc => ?_) (fun hc => ?_)
  · rw [if_pos hc] at h
    exact gX12_operand_56 l B _ _ _ _ _ h hS (lv_sub hl [0] rfl)
  · rw [if_neg hc] at h
    refine z_aload_n he hb dX12_operand_47 rfl (lv_at hl 0 rfl) (zref_r _ _) ?_
    obtain ⟨x7, hx, h⟩ := zob h
    refine z_getI (ci := 12) (T := TX12) (N := 50) (j := 44) B hS hx rfl zin_X12 (by decide) zk_1391 dX12_operand_48 ?_
    refine lv_bipush (v := (8 : Int32)) he hb dX12_operand_51 (by decide) ?_
    refine lv_icmp_le (tgt := 62) he hb dX12_operand_53 (by decide) (fun hc => ?_) (fun hc => ?_)
    · rw [if_pos hc] at h
      refine z_aload_n he hb dX12_operand_62 rfl (lv_at hl 0 rfl) (zref_r _ _) ?_
      refine lv_dup he hb dX12_operand_63 rfl ?_
      obtain ⟨x8, hx, h⟩ := zob h
      refine z_getI (ci := 12) (T := TX12) (N := 50) (j := 42) B hS hx rfl zin_X12 (by decide) zk_1389 dX12_operand_64 ?_
      refine lv_iconst (v := (1 : Int32)) he hb dX12_operand_67 (by decide) ?_
      refine lv_iadd he hb dX12_operand_68 ?_
      obtain ⟨f9, hx, h⟩ := zob h
      refine z_putI (ci := 12) (T := TX12) (N := 50) (j := 42) B hS hx rfl zin_X12 tyX12 tyX12_ok nmX12 (by decide) zk_1389 rfl rfl dX12_operand_69 (fun H locs hS => ?_)
      refine z_aload_n he hb dX12_operand_72 rfl (lv_at hl 0 rfl) (zref_r _ _) ?_
      obtain ⟨_, hc, h⟩ := zob h
      obtain ⟨f10, hx, h⟩ := zob h
      refine z_callV (ci := 12) (T := TX12) (N := 50) (rest := []) B hS (mX12_next l G hx) zy_X12_next zk_1507 (by decide) hc rfl rfl hl rfl (Nat.le_of_ble_eq_true rfl) dX12_operand_73 (kk := (fun H locs hS => ?_))
      refine lv_iload_n he hb dX12_operand_76 rfl (lv_at hl 1 rfl) ?_
      refine lv_if_ne (tgt := 84) he hb dX12_operand_77 (by decide) (fun hc => ?_) (fun hc => ?_)
      · rw [if_neg hc] at h
        exact gX12_operand_84 l B _ _ _ _ _ _ h hS (lv_sub hl [0, 1] rfl)
      · rw [if_pos hc] at h
        refine lv_iload_n he hb dX12_operand_80 rfl (lv_at hl 2 rfl) ?_
        refine lv_if_eq (tgt := 126) he hb dX12_operand_81 (by decide) (fun hc => ?_) (fun hc => ?_)
        · rw [if_pos hc] at h
          refine z_aload_n he hb dX12_operand_126 rfl (lv_at hl 0 rfl) (zref_r _ _) ?_
          refine lv_iconst (v := (1 : Int32)) he hb dX12_operand_127 (by decide) ?_
          obtain ⟨f18, hx, h⟩ := zob h
          refine z_putZ (ci := 12) (T := TX12) (N := 50) (j := 45) B hS hx rfl zin_X12 tyX12 tyX12_ok nmX12 (by decide) zk_1392 rfl rfl dX12_operand_128 (fun H locs hS => ?_)
          refine lv_iload_n he hb dX12_operand_131 rfl (lv_at hl 3 rfl) ?_
          refine lv_iconst (v := (3 : Int32)) he hb dX12_operand_132 (by decide) ?_
          refine lv_icmp_ge (tgt := 145) he hb dX12_operand_133 (by decide) (fun hc => ?_) (fun hc => ?_)
          · rw [if_pos hc] at h
            refine lv_iload_n he hb dX12_operand_145 rfl (lv_at hl 3 rfl) ?_
            refine lv_iconst (v := (5 : Int32)) he hb dX12_operand_146 (by decide) ?_
            refine lv_icmp_ge (tgt := 206) he hb dX12_operand_147 (by decide) (fun hc => ?_) (fun hc => ?_)
            · rw [if_pos hc] at h
              refine z_aload_n he hb dX12_operand_206 rfl (lv_at hl 0 rfl) (zref_r _ _) ?_
              obtain ⟨x19, hx, h⟩ := zob h
              refine z_getI (ci := 12) (T := TX12) (N := 50) (j := 11) B hS hx rfl zin_X12 (by decide) zk_1358 dX12_operand_207 ?_
              refine lv_iconst (v := (3 : Int32)) he hb dX12_operand_210 (by decide) ?_
              refine lv_icmp_ne (tgt := 232) he hb dX12_operand_211 (by decide) (fun hc => ?_) (fun hc => ?_)
              · rw [if_neg hc] at h
                exact gX12_operand_232 l B _ _ _ _ _ h hS (lv_sub hl [0] rfl)
              · rw [if_pos hc] at h
                refine z_aload_n he hb dX12_operand_214 rfl (lv_at hl 0 rfl) (zref_r _ _) ?_
                obtain ⟨x22, hx, h⟩ := zob h
                refine z_getI (ci := 12) (T := TX12) (N := 50) (j := 14) B hS hx rfl zin_X12 (by decide) zk_1361 dX12_operand_215 ?_
                refine lv_bipush (v := (60 : Int32)) he hb dX12_operand_218 (by decide) ?_
                refine lv_icmp_lt (tgt := 232) he hb dX12_operand_220 (by decide) (fun hc => ?_) (fun hc => ?_)
                · rw [if_pos hc] at h
                  exact gX12_operand_232 l B _ _ _ _ _ h hS (lv_sub hl [0] rfl)
                · rw [if_neg hc] at h
                  refine z_aload_n he hb dX12_operand_223 rfl (lv_at hl 0 rfl) (zref_r _ _) ?_
                  obtain ⟨x23, hx, h⟩ := zob h
                  refine z_getI (ci := 12) (T := TX12) (N := 50) (j := 14) B hS hx rfl zin_X12 (by decide) zk_1361 dX12_operand_224 ?_
                  refine lv_bipush (v := (62 : Int32)) he hb dX12_operand_227 (by decide) ?_
                  refine lv_icmp_le (tgt := 238) he hb dX12_operand_229 (by decide) (fun hc => ?_) (fun hc => ?_)
                  · rw [if_pos hc] at h
                    refine z_aload_n he hb dX12_operand_238 rfl (lv_at hl 0 rfl) (zref_r _ _) ?_
                    obtain ⟨x24, hx, h⟩ := zob h
                    refine z_getI (ci := 12) (T := TX12) (N := 50) (j := 14) B hS hx rfl zin_X12 (by decide) zk_1361 dX12_operand_239 ?_
                    refine lv_istore (lv' := [(4, _), (0, _), (1, _), (2, _), (3, _)]) he hb dX12_operand_242 hl (by decide) rfl (fun ls hl => ?_)
                    refine z_aload_n he hb dX12_operand_244 rfl (lv_at hl 1 rfl) (zref_r _ _) ?_
                    obtain ⟨_, hc, h⟩ := zob h
                    obtain ⟨f25, hx, h⟩ := zob h
                    refine z_callV (ci := 12) (T := TX12) (N := 50) (rest := []) B hS (mX12_next l G hx) zy_X12_next zk_1507 (by decide) hc rfl rfl hl rfl (Nat.le_of_ble_eq_true rfl) dX12_operand_245 (kk := (fun H locs hS => ?_))
                    refine z_aload_n he hb dX12_operand_248 rfl (lv_at hl 1 rfl) (zref_r _ _) ?_
                    obtain ⟨x26, hx, h⟩ := zob h
                    refine z_getI (ci := 12) (T := TX12) (N := 50) (j := 11) B hS hx rfl zin_X12 (by decide) zk_1358 dX12_operand_249 ?_
                    refine lv_iconst (v := (2 : Int32)) he hb dX12_operand_252 (by decide) ?_
                    refine lv_icmp_eq (tgt := 262) he hb dX12_operand_253 (by decide) (fun hc => ?_) (fun hc => ?_)
                    · rw [if_pos hc] at h
                      refine z_aload_n he hb dX12_operand_262 rfl (lv_at hl 1 rfl) (zref_r _ _) ?_
                      refine lv_iload_n he hb dX12_operand_263 rfl (lv_at hl 4 rfl) ?_
                      refine lv_iload he hb dX12_operand_264 (lv_at hl 0 rfl) ?_
                      refine z_aload_n he hb dX12_operand_266 rfl (lv_at hl 1 rfl) (zref_r _ _) ?_
                      obtain ⟨x27, hx, h⟩ := zob h
                      refine z_getI (ci := 12) (T := TX12) (N := 50) (j := 14) B hS hx rfl zin_X12 (by decide) zk_1361 dX12_operand_267 ?_
                      obtain ⟨_, hc, h⟩ := zob h
                      obtain ⟨f28, hx, h⟩ := zob h
                      refine z_callV (ci := 12) (T := TX12) (N := 50) (rest := []) B hS (mX12_code l G hx) zy_X12_code zk_1933 (by decide) hc rfl rfl hl rfl (Nat.le_of_ble_eq_true rfl) dX12_operand_270 (kk := (fun H locs hS => ?_))
                      refine z_aload_n he hb dX12_operand_273 rfl (lv_at hl 1 rfl) (zref_r _ _) ?_
                      obtain ⟨_, hc, h⟩ := zob h
                      obtain ⟨f29, hx, h⟩ := zob h
                      refine z_callV (ci := 12) (T := TX12) (N := 50) (rest := []) B hS (mX12_next l G hx) zy_X12_next zk_1507 (by decide) hc rfl rfl hl rfl (Nat.le_of_ble_eq_true rfl) dX12_operand_274 (kk := (fun H locs hS => ?_))
                      refine lv_iconst (v := (1 : Int32)) he hb dX12_operand_277 (by decide) ?_
                      obtain ⟨y, hx, h⟩ := zob h
                      obtain ⟨hz, rfl⟩ := zbl_i hx
                      obtain ⟨rfl, rfl⟩ := Prod.mk.inj (Option.some.inj h)
                      exact z_zret B hS hz dX12_operand_278
                    · rw [if_neg hc] at h
                      refine z_aload_n he hb dX12_operand_256 rfl (lv_at hl 1 rfl) (zref_r _ _) ?_
                      refine lv_iconst (v := (1 : Int32)) he hb dX12_operand_257 (by decide) ?_
                      obtain ⟨_, hc, h⟩ := zob h
                      obtain ⟨f31, x30, hx, h⟩ := zbd_i h
                      refine z_callV (ci := 12) (T := TX12) (N := 50) (rest := []) B hS (mX12_bad l G hx) zy_X12_bad zk_1533 (by decide) hc rfl rfl hl rfl (Nat.le_of_ble_eq_true rfl) dX12_operand_258 (kk := (fun H locs hS => ?_))
                      obtain ⟨y, hx, h⟩ := zob h
                      obtain ⟨hz, rfl⟩ := zbl_i hx
                      obtain ⟨rfl, rfl⟩ := Prod.mk.inj (Option.some.inj h)
                      exact z_zret B hS hz dX12_operand_261
                  · rw [if_neg hc] at h
                    exact gX12_operand_232 l B _ _ _ _ _ h hS (lv_sub hl [0] rfl)
            · rw [if_neg hc] at h
              refine lv_iload_n he hb dX12_operand_150 rfl (lv_at hl 3 rfl) ?_
              refine lv_iconst (v := (3 : Int32)) he hb dX12_operand_151 (by decide) ?_
              refine lv_icmp_ne (tgt := 169) he hb dX12_operand_152 (by decide) (fun hc => ?_) (fun hc => ?_)
              · rw [if_neg hc] at h
                refine z_aload_n he hb dX12_operand_169 rfl (lv_at hl 0 rfl) (zref_r _ _) ?_
                refine lv_bipush (v := (10 : Int32)) he hb dX12_operand_170 (by decide) ?_
                refine z_aload_n he hb dX12_operand_172 rfl (lv_at hl 0 rfl) (zref_r _ _) ?_
                obtain ⟨x32, hx, h⟩ := zob h
                refine z_getR (ci := 12) (T := TX12) (N := 50) (j := 6) B hS hx rfl zin_X12 (by decide) zk_1353 dX12_operand_173 ?_
                refine lv_iconst (v := (4 : Int32)) he hb dX12_operand_176 (by decide) ?_
                obtain ⟨x33, hx, h⟩ := zob h
                refine z_ildI B hS hx dX12_operand_177 ?_
                obtain ⟨_, hc, h⟩ := zob h
                obtain ⟨f35, x34, hx, h⟩ := zbd_i h
                refine z_callV (ci := 12) (T := TX12) (N := 50) (rest := []) B hS (mX12_looksAt l G hx) zy_X12_looksAt zk_1580 (by decide) hc rfl rfl hl rfl (Nat.le_of_ble_eq_true rfl) dX12_operand_178 (kk := (fun H locs hS => ?_))
                exact gX12_operand_181 l B _ _ _ _ _ _ _ h hS (lv_sub hl [0, 3] rfl)
              · rw [if_pos hc] at h
                refine z_aload_n he hb dX12_operand_155 rfl (lv_at hl 0 rfl) (zref_r _ _) ?_
                refine lv_iconst (v := (0 : Int32)) he hb dX12_operand_156 (by decide) ?_
                refine z_aload_n he hb dX12_operand_157 rfl (lv_at hl 0 rfl) (zref_r _ _) ?_
                obtain ⟨x39, hx, h⟩ := zob h
                refine z_getR (ci := 12) (T := TX12) (N := 50) (j := 6) B hS hx rfl zin_X12 (by decide) zk_1353 dX12_operand_158 ?_
                refine lv_iconst (v := (2 : Int32)) he hb dX12_operand_161 (by decide) ?_
                obtain ⟨x40, hx, h⟩ := zob h
                refine z_ildI B hS hx dX12_operand_162 ?_
                obtain ⟨_, hc, h⟩ := zob h
                obtain ⟨f42, x41, hx, h⟩ := zbd_i h
                refine z_callV (ci := 12) (T := TX12) (N := 50) (rest := []) B hS (mX12_looksAt l G hx) zy_X12_looksAt zk_1580 (by decide) hc rfl rfl hl rfl (Nat.le_of_ble_eq_true rfl) dX12_operand_163 (kk := (fun H locs hS => ?_))
                refine lv_goto (tgt := 181) he hb dX12_operand_166 (by decide) ?_
                exact gX12_operand_181 l B _ _ _ _ _ _ _ h hS (lv_sub hl [0, 3] rfl)
          · rw [if_neg hc] at h
            refine z_aload_n he hb dX12_operand_136 rfl (lv_at hl 0 rfl) (zref_r _ _) ?_
            refine lv_iload_n he hb dX12_operand_137 rfl (lv_at hl 3 rfl) ?_
            refine lv_iconst (v := (0 : Int32)) he hb dX12_operand_138 (by decide) ?_
            refine lv_iconst (v := (0 : Int32)) he hb dX12_operand_139 (by decide) ?_
            obtain ⟨_, hc, h⟩ := zob h
            obtain ⟨f43, hx, h⟩ := zob h
            refine z_callV (ci := 12) (T := TX12) (N := 50) (rest := []) B hS (mX12_code l G hx) zy_X12_code zk_1933 (by decide) hc rfl rfl hl rfl (Nat.le_of_ble_eq_true rfl) dX12_operand_140 (kk := (fun H locs hS => ?_))
            refine lv_iconst (v := (1 : Int32)) he hb dX12_operand_143 (by decide) ?_
            obtain ⟨y, hx, h⟩ := zob h
            obtain ⟨hz, rfl⟩ := zbl_i hx
            obtain ⟨rfl, rfl⟩ := Prod.mk.inj (Option.some.inj h)
            exact z_zret B hS hz dX12_operand_144
        · rw [if_neg hc] at h
          exact gX12_operand_84 l B _ _ _ _ _ _ h hS (lv_sub hl [0, 1] rfl)
    · rw [if_neg hc] at h
      exact gX12_operand_56 l B _ _ _ _ _ h hS (lv_sub hl [0] rfl)
def fX12_operand (N n : Nat) (f : zF) (a0 : Nat) : Option (zF × Int32) :=
    ((zck n f 12 a0).bind fun _ => ((fX12_isWord N n f a0 (7237492 : Int64)).bind fun x1 => ((zck n f 12 a0).bind fun _ => ((fX12_isSign N n f a0 (40 : Int32)).bind fun x2 => ((zck n f 12 a0).bind fun _ => ((fX12_leafOf N n f a0).bind fun x3 => (if x1 = 0 then (if x2 = 0 then (if 0 ≤ x3 then (fX12_operand_38 N n f a0 x1 x2 x3) else ((zck n f 12 a0).bind fun _ => (zbd (fX12_bad N n f a0 (1 : Int32)) fun f45 x44 => ((zbl x44).bind fun y => some (f45, y))))) else (fX12_operand_38 N n f a0 x1 x2 x3)) else (fX12_operand_38 N n f a0 x1 x2 x3))))))))
set_option maxRecDepth 100000 in
set_option maxHeartbeats 4000000 in
theorem mX12_operand (l : Launch) (G : zG) {N n : Nat} {f : zF} {f9 : zF} {r : Int32} {a0 : Nat} (h : fX12_operand N n f a0 = some (f9, r)) : zM l G yX12_operand cX12_operand 5 (some .boolean) 2 n f [zr G a0] (some (.int r)) f9 := by
  refine zM.of (by decide) (Nat.le_of_ble_eq_true rfl) ?_
  intro p e s m args below meth c locs ls B hS hl
  have he := B.1
  have hb := B.2.1
  have hl : lv_has ls 5 [(0, zr G a0)] := hl
  unfold fX12_operand at h
  generalize s.heap = H at hS ⊢
  refine z_aload_n he hb dX12_operand_0 rfl (lv_at hl 0 rfl) (zref_r _ _) ?_
  refine lv_ldc2 (v := (7237492 : Int64)) he hb B.2.2.2.1 (B.2.2.2.2.1 _ zk_1334) dX12_operand_1 ?_
  obtain ⟨_, hc, h⟩ := zob h
  obtain ⟨x1, hx, h⟩ := zob h
  refine z_callV (ci := 12) (T := TX12) (N := 50) (rest := []) B hS (mX12_isWord l G hx) zy_X12_isWord zk_1525 (by decide) hc rfl rfl hl rfl (Nat.le_of_ble_eq_true rfl) dX12_operand_4 (kk := (fun H locs hS => ?_))
  refine lv_istore_n (lv' := [(1, _), (0, _)]) he hb dX12_operand_7 rfl hl (by decide) rfl (fun ls hl => ?_)
  refine z_aload_n he hb dX12_operand_8 rfl (lv_at hl 1 rfl) (zref_r _ _) ?_
  refine lv_bipush (v := (40 : Int32)) he hb dX12_operand_9 (by decide) ?_
  obtain ⟨_, hc, h⟩ := zob h
  obtain ⟨x2, hx, h⟩ := zob h
  refine z_callV (ci := 12) (T := TX12) (N := 50) (rest := []) B hS (mX12_isSign l G hx) zy_X12_isSign zk_1604 (by decide) hc rfl rfl hl rfl (Nat.le_of_ble_eq_true rfl) dX12_operand_11 (kk := (fun H locs hS => ?_))
  refine lv_istore_n (lv' := [(2, _), (1, _), (0, _)]) he hb dX12_operand_14 rfl hl (by decide) rfl (fun ls hl => ?_)
  refine z_aload_n he hb dX12_operand_15 rfl (lv_at hl 2 rfl) (zref_r _ _) ?_
  obtain ⟨_, hc, h⟩ := zob h
  obtain ⟨x3, hx, h⟩ := zob h
  refine z_callV (ci := 12) (T := TX12) (N := 50) (rest := []) B hS (mX12_leafOf l G hx) zy_X12_leafOf zk_1949 (by decide) hc rfl rfl hl rfl (Nat.le_of_ble_eq_true rfl) dX12_operand_16 (kk := (fun H locs hS => ?_))
  refine lv_istore_n (lv' := [(3, _), (2, _), (1, _), (0, _)]) he hb dX12_operand_19 rfl hl (by decide) rfl (fun ls hl => ?_)
  refine lv_iload_n he hb dX12_operand_20 rfl (lv_at hl 2 rfl) ?_
  refine lv_if_ne (tgt := 38) he hb dX12_operand_21 (by decide) (fun hc => ?_) (fun hc => ?_)
  · rw [if_neg hc] at h
    exact gX12_operand_38 l B _ _ _ _ _ _ _ _ h hS (lv_sub hl [3, 2, 1, 0] rfl)
  · rw [if_pos hc] at h
    refine lv_iload_n he hb dX12_operand_24 rfl (lv_at hl 1 rfl) ?_
    refine lv_if_ne (tgt := 38) he hb dX12_operand_25 (by decide) (fun hc => ?_) (fun hc => ?_)
    · rw [if_neg hc] at h
      exact gX12_operand_38 l B _ _ _ _ _ _ _ _ h hS (lv_sub hl [3, 2, 1, 0] rfl)
    · rw [if_pos hc] at h
      refine lv_iload_n he hb dX12_operand_28 rfl (lv_at hl 0 rfl) ?_
      refine lv_if_ge (tgt := 38) he hb dX12_operand_29 (by decide) (fun hc => ?_) (fun hc => ?_)
      · rw [if_pos hc] at h
        exact gX12_operand_38 l B _ _ _ _ _ _ _ _ h hS (lv_sub hl [3, 2, 1, 0] rfl)
      · rw [if_neg hc] at h
        refine z_aload_n he hb dX12_operand_32 rfl (lv_at hl 3 rfl) (zref_r _ _) ?_
        refine lv_iconst (v := (1 : Int32)) he hb dX12_operand_33 (by decide) ?_
        obtain ⟨_, hc, h⟩ := zob h
        obtain ⟨f45, x44, hx, h⟩ := zbd_i h
        refine z_callV (ci := 12) (T := TX12) (N := 50) (rest := []) B hS (mX12_bad l G hx) zy_X12_bad zk_1533 (by decide) hc rfl rfl hl rfl (Nat.le_of_ble_eq_true rfl) dX12_operand_34 (kk := (fun H locs hS => ?_))
        obtain ⟨y, hx, h⟩ := zob h
        obtain ⟨hz, rfl⟩ := zbl_i hx
        obtain ⟨rfl, rfl⟩ := Prod.mk.inj (Option.some.inj h)
        exact z_zret B hS hz dX12_operand_37
theorem dX12_behind_0 : decode cX12_behind 0 = .ok (.aload_n 0, 1) := by decide +kernel
theorem dX12_behind_1 : decode cX12_behind 1 = .ok (.invokevirtual 475, 3) := by decide +kernel
theorem dX12_behind_4 : decode cX12_behind 4 = .ok (.aload_n 0, 1) := by decide +kernel
theorem dX12_behind_5 : decode cX12_behind 5 = .ok (.ldc2_w 127, 3) := by decide +kernel
theorem dX12_behind_8 : decode cX12_behind 8 = .ok (.invokevirtual 203, 3) := by decide +kernel
theorem dX12_behind_11 : decode cX12_behind 11 = .ok (.ifCond .ne 13, 3) := by decide +kernel
theorem dX12_behind_14 : decode cX12_behind 14 = .ok (.aload_n 0, 1) := by decide +kernel
theorem dX12_behind_15 : decode cX12_behind 15 = .ok (.ldc2_w 125, 3) := by decide +kernel
theorem dX12_behind_18 : decode cX12_behind 18 = .ok (.invokevirtual 203, 3) := by decide +kernel
theorem dX12_behind_21 : decode cX12_behind 21 = .ok (.ifCond .eq 71, 3) := by decide +kernel
theorem dX12_behind_24 : decode cX12_behind 24 = .ok (.aload_n 0, 1) := by decide +kernel
theorem dX12_behind_25 : decode cX12_behind 25 = .ok (.aload_n 0, 1) := by decide +kernel
theorem dX12_behind_26 : decode cX12_behind 26 = .ok (.ldc2_w 127, 3) := by decide +kernel
theorem dX12_behind_29 : decode cX12_behind 29 = .ok (.invokevirtual 203, 3) := by decide +kernel
theorem dX12_behind_32 : decode cX12_behind 32 = .ok (.ifCond .eq 8, 3) := by decide +kernel
theorem dX12_behind_35 : decode cX12_behind 35 = .ok (.bipush 21, 2) := by decide +kernel
theorem dX12_behind_37 : decode cX12_behind 37 = .ok (.goto 5, 3) := by decide +kernel
theorem dX12_behind_40 : decode cX12_behind 40 = .ok (.bipush 22, 2) := by decide +kernel
theorem dX12_behind_42 : decode cX12_behind 42 = .ok (.invokevirtual 478, 3) := by decide +kernel
theorem dX12_behind_45 : decode cX12_behind 45 = .ok (.aload_n 0, 1) := by decide +kernel
theorem dX12_behind_46 : decode cX12_behind 46 = .ok (.getfield 77, 3) := by decide +kernel
theorem dX12_behind_49 : decode cX12_behind 49 = .ok (.aload_n 0, 1) := by decide +kernel
theorem dX12_behind_50 : decode cX12_behind 50 = .ok (.getfield 456, 3) := by decide +kernel
theorem dX12_behind_53 : decode cX12_behind 53 = .ok (.aload_n 0, 1) := by decide +kernel
theorem dX12_behind_54 : decode cX12_behind 54 = .ok (.ldc2_w 127, 3) := by decide +kernel
theorem dX12_behind_57 : decode cX12_behind 57 = .ok (.invokevirtual 203, 3) := by decide +kernel
theorem dX12_behind_60 : decode cX12_behind 60 = .ok (.ifCond .eq 8, 3) := by decide +kernel
theorem dX12_behind_63 : decode cX12_behind 63 = .ok (.bipush 21, 2) := by decide +kernel
theorem dX12_behind_65 : decode cX12_behind 65 = .ok (.goto 5, 3) := by decide +kernel
theorem dX12_behind_68 : decode cX12_behind 68 = .ok (.bipush 22, 2) := by decide +kernel
theorem dX12_behind_70 : decode cX12_behind 70 = .ok (.iastore, 1) := by decide +kernel
theorem dX12_behind_71 : decode cX12_behind 71 = .ok (.aload_n 0, 1) := by decide +kernel
theorem dX12_behind_72 : decode cX12_behind 72 = .ok (.dup, 1) := by decide +kernel
theorem dX12_behind_73 : decode cX12_behind 73 = .ok (.getfield 456, 3) := by decide +kernel
theorem dX12_behind_76 : decode cX12_behind 76 = .ok (.iconst 1, 1) := by decide +kernel
theorem dX12_behind_77 : decode cX12_behind 77 = .ok (.iadd, 1) := by decide +kernel
theorem dX12_behind_78 : decode cX12_behind 78 = .ok (.putfield 456, 3) := by decide +kernel
theorem dX12_behind_81 : decode cX12_behind 81 = .ok (.aload_n 0, 1) := by decide +kernel
theorem dX12_behind_82 : decode cX12_behind 82 = .ok (.iconst 0, 1) := by decide +kernel
theorem dX12_behind_83 : decode cX12_behind 83 = .ok (.putfield 472, 3) := by decide +kernel
theorem dX12_behind_86 : decode cX12_behind 86 = .ok (.aload_n 0, 1) := by decide +kernel
theorem dX12_behind_87 : decode cX12_behind 87 = .ok (.invokevirtual 189, 3) := by decide +kernel
theorem dX12_behind_90 : decode cX12_behind 90 = .ok (.iconst 1, 1) := by decide +kernel
theorem dX12_behind_91 : decode cX12_behind 91 = .ok (.ireturn, 1) := by decide +kernel
theorem dX12_behind_92 : decode cX12_behind 92 = .ok (.aload_n 0, 1) := by decide +kernel
theorem dX12_behind_93 : decode cX12_behind 93 = .ok (.bipush 22, 2) := by decide +kernel
theorem dX12_behind_95 : decode cX12_behind 95 = .ok (.invokevirtual 478, 3) := by decide +kernel
theorem dX12_behind_98 : decode cX12_behind 98 = .ok (.aload_n 0, 1) := by decide +kernel
theorem dX12_behind_99 : decode cX12_behind 99 = .ok (.bipush 41, 2) := by decide +kernel
theorem dX12_behind_101 : decode cX12_behind 101 = .ok (.invokevirtual 183, 3) := by decide +kernel
theorem dX12_behind_104 : decode cX12_behind 104 = .ok (.ifCond .eq 10, 3) := by decide +kernel
theorem dX12_behind_107 : decode cX12_behind 107 = .ok (.aload_n 0, 1) := by decide +kernel
theorem dX12_behind_108 : decode cX12_behind 108 = .ok (.getfield 456, 3) := by decide +kernel
theorem dX12_behind_111 : decode cX12_behind 111 = .ok (.ifCond .ne 9, 3) := by decide +kernel
theorem dX12_behind_114 : decode cX12_behind 114 = .ok (.aload_n 0, 1) := by decide +kernel
theorem dX12_behind_115 : decode cX12_behind 115 = .ok (.iconst 1, 1) := by decide +kernel
theorem dX12_behind_116 : decode cX12_behind 116 = .ok (.invokevirtual 186, 3) := by decide +kernel
theorem dX12_behind_119 : decode cX12_behind 119 = .ok (.ireturn, 1) := by decide +kernel
theorem dX12_behind_120 : decode cX12_behind 120 = .ok (.aload_n 0, 1) := by decide +kernel
theorem dX12_behind_121 : decode cX12_behind 121 = .ok (.dup, 1) := by decide +kernel
theorem dX12_behind_122 : decode cX12_behind 122 = .ok (.getfield 456, 3) := by decide +kernel
theorem dX12_behind_125 : decode cX12_behind 125 = .ok (.iconst 1, 1) := by decide +kernel
theorem dX12_behind_126 : decode cX12_behind 126 = .ok (.isub, 1) := by decide +kernel
theorem dX12_behind_127 : decode cX12_behind 127 = .ok (.putfield 456, 3) := by decide +kernel
theorem dX12_behind_130 : decode cX12_behind 130 = .ok (.aload_n 0, 1) := by decide +kernel
theorem dX12_behind_131 : decode cX12_behind 131 = .ok (.dup, 1) := by decide +kernel
theorem dX12_behind_132 : decode cX12_behind 132 = .ok (.getfield 463, 3) := by decide +kernel
theorem dX12_behind_135 : decode cX12_behind 135 = .ok (.iconst 1, 1) := by decide +kernel
theorem dX12_behind_136 : decode cX12_behind 136 = .ok (.isub, 1) := by decide +kernel
theorem dX12_behind_137 : decode cX12_behind 137 = .ok (.putfield 463, 3) := by decide +kernel
theorem dX12_behind_140 : decode cX12_behind 140 = .ok (.aload_n 0, 1) := by decide +kernel
theorem dX12_behind_141 : decode cX12_behind 141 = .ok (.invokevirtual 189, 3) := by decide +kernel
theorem dX12_behind_144 : decode cX12_behind 144 = .ok (.iconst 1, 1) := by decide +kernel
theorem dX12_behind_145 : decode cX12_behind 145 = .ok (.ireturn, 1) := by decide +kernel
def fX12_behind_70 (N n : Nat) (f : zF) (a0 : Nat) (t0 : Nat) (t1 : Int32) (t2 : Int32) : Option (zF × Int32) :=
    ((zsI n f 0 t0 t1 t2).bind fun f8 => ((zgI n f8 12 a0 43).bind fun x9 => ((zpI n f8 12 a0 43 (x9 + (1 : Int32))).bind fun f10 => ((zpZ n f10 12 a0 45 (0 : Int32)).bind fun f11 => ((zck n f11 12 a0).bind fun _ => ((fX12_next N n f11 a0).bind fun f12 => ((zbl (1 : Int32)).bind fun y => some (f12, y))))))))
set_option maxRecDepth 100000 in
set_option maxHeartbeats 4000000 in
theorem gX12_behind_70 (l : Launch) {G : zG} {p : Program} {e : Env} {s : State} {m : MethodId} {args : Array Value} {below : List Frame} {meth : Method} {c : Code} {N n : Nat} {f9 : zF} {r : Int32} (B : zB G p s m args meth c RX12 cX12_behind 1 (some .boolean)) : ∀ (f : zF) (a0 : Nat) (t0 : Nat) (t1 : Int32) (t2 : Int32) (H : Heap) (locs : List Loc) (ls : Array Slot), fX12_behind_70 N n f a0 t0 t1 t2 = some (f9, r) → zS G n f H locs → lv_has ls 1 [(0, zr G a0)] → W p l e (zrm 2) s m args below meth c H locs 0 0 (MQ below (zQc G n f9 (some (.int r))) args s 0 0 (zA G)) (F0 m 70 ls [.int t2, .int t1, zr G t0]) := by
  have he := B.1
  have hb := B.2.1
  intro f a0 t0 t1 t2 H locs ls h hS hl
  unfold fX12_behind_70 at h
  obtain ⟨f8, hx, h⟩ := zob h
  refine z_istI B hS hx dX12_behind_70 (fun H locs hS => ?_)
  refine z_aload_n he hb dX12_behind_71 rfl (lv_at hl 0 rfl) (zref_r _ _) ?_
  refine lv_dup he hb dX12_behind_72 rfl ?_
  obtain ⟨x9, hx, h⟩ := zob h
  refine z_getI (ci := 12) (T := TX12) (N := 50) (j := 43) B hS hx rfl zin_X12 (by decide) zk_1390 dX12_behind_73 ?_
  refine lv_iconst (v := (1 : Int32)) he hb dX12_behind_76 (by decide) ?_
  refine lv_iadd he hb dX12_behind_77 ?_
  obtain ⟨f10, hx, h⟩ := zob h
  refine z_putI (ci := 12) (T := TX12) (N := 50) (j := 43) B hS hx rfl zin_X12 tyX12 tyX12_ok nmX12 (by decide) zk_1390 rfl rfl dX12_behind_78 (fun H locs hS => ?_)
  refine z_aload_n he hb dX12_behind_81 rfl (lv_at hl 0 rfl) (zref_r _ _) ?_
  refine lv_iconst (v := (0 : Int32)) he hb dX12_behind_82 (by decide) ?_
  obtain ⟨f11, hx, h⟩ := zob h
  refine z_putZ (ci := 12) (T := TX12) (N := 50) (j := 45) B hS hx rfl zin_X12 tyX12 tyX12_ok nmX12 (by decide) zk_1392 rfl rfl dX12_behind_83 (fun H locs hS => ?_)
  refine z_aload_n he hb dX12_behind_86 rfl (lv_at hl 0 rfl) (zref_r _ _) ?_
  obtain ⟨_, hc, h⟩ := zob h
  obtain ⟨f12, hx, h⟩ := zob h
  refine z_callV (ci := 12) (T := TX12) (N := 50) (rest := []) B hS (mX12_next l G hx) zy_X12_next zk_1507 (by decide) hc rfl rfl hl rfl (Nat.le_of_ble_eq_true rfl) dX12_behind_87 (kk := (fun H locs hS => ?_))
  refine lv_iconst (v := (1 : Int32)) he hb dX12_behind_90 (by decide) ?_
  obtain ⟨y, hx, h⟩ := zob h
  obtain ⟨hz, rfl⟩ := zbl_i hx
  obtain ⟨rfl, rfl⟩ := Prod.mk.inj (Option.some.inj h)
  exact z_zret B hS hz dX12_behind_91
def fX12_behind_42 (N n : Nat) (f : zF) (a0 : Nat) (t0 : Nat) (t1 : Int32) : Option (zF × Int32) :=
    ((zck n f 12 t0).bind fun _ => ((fX12_joins N n f t0 t1).bind fun f4 => ((zgR n f4 12 a0 40).bind fun x5 => ((zgI n f4 12 a0 43).bind fun x6 => ((zck n f4 12 a0).bind fun _ => ((fX12_isWord N n f4 a0 (6385252 : Int64)).bind fun x7 => (if x7 = 0 then (fX12_behind_70 N n f4 a0 x5 x6 (22 : Int32)) else (fX12_behind_70 N n f4 a0 x5 x6 (21 : Int32)))))))))
set_option maxRecDepth 100000 in
set_option maxHeartbeats 4000000 in
theorem gX12_behind_42 (l : Launch) {G : zG} {p : Program} {e : Env} {s : State} {m : MethodId} {args : Array Value} {below : List Frame} {meth : Method} {c : Code} {N n : Nat} {f9 : zF} {r : Int32} (B : zB G p s m args meth c RX12 cX12_behind 1 (some .boolean)) : ∀ (f : zF) (a0 : Nat) (t0 : Nat) (t1 : Int32) (H : Heap) (locs : List Loc) (ls : Array Slot), fX12_behind_42 N n f a0 t0 t1 = some (f9, r) → zS G n f H locs → lv_has ls 1 [(0, zr G a0)] → W p l e (zrm 2) s m args below meth c H locs 0 0 (MQ below (zQc G n f9 (some (.int r))) args s 0 0 (zA G)) (F0 m 42 ls [.int t1, zr G t0]) := by
  have he := B.1
  have hb := B.2.1
  intro f a0 t0 t1 H locs ls h hS hl
  unfold fX12_behind_42 at h
  obtain ⟨_, hc, h⟩ := zob h
  obtain ⟨f4, hx, h⟩ := zob h
  refine z_callV (ci := 12) (T := TX12) (N := 50) (rest := []) B hS (mX12_joins l G hx) zy_X12_joins zk_1937 (by decide) hc rfl rfl hl rfl (Nat.le_of_ble_eq_true rfl) dX12_behind_42 (kk := (fun H locs hS => ?_))
  refine z_aload_n he hb dX12_behind_45 rfl (lv_at hl 0 rfl) (zref_r _ _) ?_
  obtain ⟨x5, hx, h⟩ := zob h
  refine z_getR (ci := 12) (T := TX12) (N := 50) (j := 40) B hS hx rfl zin_X12 (by decide) zk_1387 dX12_behind_46 ?_
  refine z_aload_n he hb dX12_behind_49 rfl (lv_at hl 0 rfl) (zref_r _ _) ?_
  obtain ⟨x6, hx, h⟩ := zob h
  refine z_getI (ci := 12) (T := TX12) (N := 50) (j := 43) B hS hx rfl zin_X12 (by decide) zk_1390 dX12_behind_50 ?_
  refine z_aload_n he hb dX12_behind_53 rfl (lv_at hl 0 rfl) (zref_r _ _) ?_
  refine lv_ldc2 (v := (6385252 : Int64)) he hb B.2.2.2.1 (B.2.2.2.2.1 _ zk_1333) dX12_behind_54 ?_
  obtain ⟨_, hc, h⟩ := zob h
  obtain ⟨x7, hx, h⟩ := zob h
  refine z_callV (ci := 12) (T := TX12) (N := 50) (rest := [_, _]) B hS (mX12_isWord l G hx) zy_X12_isWord zk_1525 (by decide) hc rfl rfl hl rfl (Nat.le_of_ble_eq_true rfl) dX12_behind_57 (kk := (fun H locs hS => ?_))
  refine lv_if_eq (tgt := 68) he hb dX12_behind_60 (by decide) (fun hc => ?_) (fun hc => ?_)
  · rw [if_pos hc] at h
    refine lv_bipush (v := (22 : Int32)) he hb dX12_behind_68 (by decide) ?_
    exact gX12_behind_70 l B _ _ _ _ _ _ _ _ h hS (lv_sub hl [0] rfl)
  · rw [if_neg hc] at h
    refine lv_bipush (v := (21 : Int32)) he hb dX12_behind_63 (by decide) ?_
    refine lv_goto (tgt := 70) he hb dX12_behind_65 (by decide) ?_
    exact gX12_behind_70 l B _ _ _ _ _ _ _ _ h hS (lv_sub hl [0] rfl)
def fX12_behind_24 (N n : Nat) (f : zF) (a0 : Nat) : Option (zF × Int32) :=
    ((zck n f 12 a0).bind fun _ => ((fX12_isWord N n f a0 (6385252 : Int64)).bind fun x3 => (if x3 = 0 then (fX12_behind_42 N n f a0 a0 (22 : Int32)) else (fX12_behind_42 N n f a0 a0 (21 : Int32)))))
set_option maxRecDepth 100000 in
set_option maxHeartbeats 4000000 in
theorem gX12_behind_24 (l : Launch) {G : zG} {p : Program} {e : Env} {s : State} {m : MethodId} {args : Array Value} {below : List Frame} {meth : Method} {c : Code} {N n : Nat} {f9 : zF} {r : Int32} (B : zB G p s m args meth c RX12 cX12_behind 1 (some .boolean)) : ∀ (f : zF) (a0 : Nat) (H : Heap) (locs : List Loc) (ls : Array Slot), fX12_behind_24 N n f a0 = some (f9, r) → zS G n f H locs → lv_has ls 1 [(0, zr G a0)] → W p l e (zrm 2) s m args below meth c H locs 0 0 (MQ below (zQc G n f9 (some (.int r))) args s 0 0 (zA G)) (F0 m 24 ls []) := by
  have he := B.1
  have hb := B.2.1
  intro f a0 H locs ls h hS hl
  unfold fX12_behind_24 at h
  refine z_aload_n he hb dX12_behind_24 rfl (lv_at hl 0 rfl) (zref_r _ _) ?_
  refine z_aload_n he hb dX12_behind_25 rfl (lv_at hl 0 rfl) (zref_r _ _) ?_
  refine lv_ldc2 (v := (6385252 : Int64)) he hb B.2.2.2.1 (B.2.2.2.2.1 _ zk_1333) dX12_behind_26 ?_
  obtain ⟨_, hc, h⟩ := zob h
  obtain ⟨x3, hx, h⟩ := zob h
  refine z_callV (ci := 12) (T := TX12) (N := 50) (rest := [_]) B hS (mX12_isWord l G hx) zy_X12_isWord zk_1525 (by decide) hc rfl rfl hl rfl (Nat.le_of_ble_eq_true rfl) dX12_behind_29 (kk := (fun H locs hS => ?_))
  refine lv_if_eq (tgt := 40) he hb dX12_behind_32 (by decide) (fun hc => ?_) (fun hc => ?_)
  · rw [if_pos hc] at h
    refine lv_bipush (v := (22 : Int32)) he hb dX12_behind_40 (by decide) ?_
    exact gX12_behind_42 l B _ _ _ _ _ _ _ h hS (lv_sub hl [0] rfl)
  · rw [if_neg hc] at h
    refine lv_bipush (v := (21 : Int32)) he hb dX12_behind_35 (by decide) ?_
    refine lv_goto (tgt := 42) he hb dX12_behind_37 (by decide) ?_
    exact gX12_behind_42 l B _ _ _ _ _ _ _ h hS (lv_sub hl [0] rfl)
def fX12_behind_114 (N n : Nat) (f : zF) (a0 : Nat) : Option (zF × Int32) :=
    ((zck n f 12 a0).bind fun _ => (zbd (fX12_bad N n f a0 (1 : Int32)) fun f17 x16 => ((zbl x16).bind fun y => some (f17, y))))
set_option maxRecDepth 100000 in
set_option maxHeartbeats 4000000 in
theorem gX12_behind_114 (l : Launch) {G : zG} {p : Program} {e : Env} {s : State} {m : MethodId} {args : Array Value} {below : List Frame} {meth : Method} {c : Code} {N n : Nat} {f9 : zF} {r : Int32} (B : zB G p s m args meth c RX12 cX12_behind 1 (some .boolean)) : ∀ (f : zF) (a0 : Nat) (H : Heap) (locs : List Loc) (ls : Array Slot), fX12_behind_114 N n f a0 = some (f9, r) → zS G n f H locs → lv_has ls 1 [(0, zr G a0)] → W p l e (zrm 2) s m args below meth c H locs 0 0 (MQ below (zQc G n f9 (some (.int r))) args s 0 0 (zA G)) (F0 m 114 ls []) := by
  have he := B.1
  have hb := B.2.1
  intro f a0 H locs ls h hS hl
  unfold fX12_behind_114 at h
  refine z_aload_n he hb dX12_behind_114 rfl (lv_at hl 0 rfl) (zref_r _ _) ?_
  refine lv_iconst (v := (1 : Int32)) he hb dX12_behind_115 (by decide) ?_
  obtain ⟨_, hc, h⟩ := zob h
  obtain ⟨f17, x16, hx, h⟩ := zbd_i h
  refine z_callV (ci := 12) (T := TX12) (N := 50) (rest := []) B hS (mX12_bad l G hx) zy_X12_bad zk_1533 (by decide) hc rfl rfl hl rfl (Nat.le_of_ble_eq_true rfl) dX12_behind_116 (kk := (fun H locs hS => ?_))
  obtain ⟨y, hx, h⟩ := zob h
  obtain ⟨hz, rfl⟩ := zbl_i hx
  obtain ⟨rfl, rfl⟩ := Prod.mk.inj (Option.some.inj h)
  exact z_zret B hS hz dX12_behind_119
def fX12_behind (N n : Nat) (f : zF) (a0 : Nat) : Option (zF × Int32) :=
    ((zck n f 12 a0).bind fun _ => ((fX12_nots N n f a0).bind fun f1 => ((zck n f1 12 a0).bind fun _ => ((fX12_isWord N n f1 a0 (6385252 : Int64)).bind fun x2 => (if x2 = 0 then ((zck n f1 12 a0).bind fun _ => ((fX12_isWord N n f1 a0 (28530 : Int64)).bind fun x13 => (if x13 = 0 then ((zck n f1 12 a0).bind fun _ => ((fX12_joins N n f1 a0 (22 : Int32)).bind fun f14 => ((zck n f14 12 a0).bind fun _ => ((fX12_isSign N n f14 a0 (41 : Int32)).bind fun x15 => (if x15 = 0 then (fX12_behind_114 N n f14 a0) else ((zgI n f14 12 a0 43).bind fun x18 => (if x18 = 0 then (fX12_behind_114 N n f14 a0) else ((zgI n f14 12 a0 43).bind fun x19 => ((zpI n f14 12 a0 43 (x19 - (1 : Int32))).bind fun f20 => ((zgI n f20 12 a0 44).bind fun x21 => ((zpI n f20 12 a0 44 (x21 - (1 : Int32))).bind fun f22 => ((zck n f22 12 a0).bind fun _ => ((fX12_next N n f22 a0).bind fun f23 => ((zbl (1 : Int32)).bind fun y => some (f23, y))))))))))))))) else (fX12_behind_24 N n f1 a0)))) else (fX12_behind_24 N n f1 a0))))))
set_option maxRecDepth 100000 in
set_option maxHeartbeats 4000000 in
theorem mX12_behind (l : Launch) (G : zG) {N n : Nat} {f : zF} {f9 : zF} {r : Int32} {a0 : Nat} (h : fX12_behind N n f a0 = some (f9, r)) : zM l G yX12_behind cX12_behind 1 (some .boolean) 2 n f [zr G a0] (some (.int r)) f9 := by
  refine zM.of (by decide) (Nat.le_of_ble_eq_true rfl) ?_
  intro p e s m args below meth c locs ls B hS hl
  have he := B.1
  have hb := B.2.1
  have hl : lv_has ls 1 [(0, zr G a0)] := hl
  unfold fX12_behind at h
  generalize s.heap = H at hS ⊢
  refine z_aload_n he hb dX12_behind_0 rfl (lv_at hl 0 rfl) (zref_r _ _) ?_
  obtain ⟨_, hc, h⟩ := zob h
  obtain ⟨f1, hx, h⟩ := zob h
  refine z_callV (ci := 12) (T := TX12) (N := 50) (rest := []) B hS (mX12_nots l G hx) zy_X12_nots zk_1929 (by decide) hc rfl rfl hl rfl (Nat.le_of_ble_eq_true rfl) dX12_behind_1 (kk := (fun H locs hS => ?_))
  refine z_aload_n he hb dX12_behind_4 rfl (lv_at hl 0 rfl) (zref_r _ _) ?_
  refine lv_ldc2 (v := (6385252 : Int64)) he hb B.2.2.2.1 (B.2.2.2.2.1 _ zk_1333) dX12_behind_5 ?_
  obtain ⟨_, hc, h⟩ := zob h
  obtain ⟨x2, hx, h⟩ := zob h
  refine z_callV (ci := 12) (T := TX12) (N := 50) (rest := []) B hS (mX12_isWord l G hx) zy_X12_isWord zk_1525 (by decide) hc rfl rfl hl rfl (Nat.le_of_ble_eq_true rfl) dX12_behind_8 (kk := (fun H locs hS => ?_))
  refine lv_if_ne (tgt := 24) he hb dX12_behind_11 (by decide) (fun hc => ?_) (fun hc => ?_)
  · rw [if_neg hc] at h
    exact gX12_behind_24 l B _ _ _ _ _ h hS (lv_sub hl [0] rfl)
  · rw [if_pos hc] at h
    refine z_aload_n he hb dX12_behind_14 rfl (lv_at hl 0 rfl) (zref_r _ _) ?_
    refine lv_ldc2 (v := (28530 : Int64)) he hb B.2.2.2.1 (B.2.2.2.2.1 _ zk_1332) dX12_behind_15 ?_
    obtain ⟨_, hc, h⟩ := zob h
    obtain ⟨x13, hx, h⟩ := zob h
    refine z_callV (ci := 12) (T := TX12) (N := 50) (rest := []) B hS (mX12_isWord l G hx) zy_X12_isWord zk_1525 (by decide) hc rfl rfl hl rfl (Nat.le_of_ble_eq_true rfl) dX12_behind_18 (kk := (fun H locs hS => ?_))
    refine lv_if_eq (tgt := 92) he hb dX12_behind_21 (by decide) (fun hc => ?_) (fun hc => ?_)
    · rw [if_pos hc] at h
      refine z_aload_n he hb dX12_behind_92 rfl (lv_at hl 0 rfl) (zref_r _ _) ?_
      refine lv_bipush (v := (22 : Int32)) he hb dX12_behind_93 (by decide) ?_
      obtain ⟨_, hc, h⟩ := zob h
      obtain ⟨f14, hx, h⟩ := zob h
      refine z_callV (ci := 12) (T := TX12) (N := 50) (rest := []) B hS (mX12_joins l G hx) zy_X12_joins zk_1937 (by decide) hc rfl rfl hl rfl (Nat.le_of_ble_eq_true rfl) dX12_behind_95 (kk := (fun H locs hS => ?_))
      refine z_aload_n he hb dX12_behind_98 rfl (lv_at hl 0 rfl) (zref_r _ _) ?_
      refine lv_bipush (v := (41 : Int32)) he hb dX12_behind_99 (by decide) ?_
      obtain ⟨_, hc, h⟩ := zob h
      obtain ⟨x15, hx, h⟩ := zob h
      refine z_callV (ci := 12) (T := TX12) (N := 50) (rest := []) B hS (mX12_isSign l G hx) zy_X12_isSign zk_1604 (by decide) hc rfl rfl hl rfl (Nat.le_of_ble_eq_true rfl) dX12_behind_101 (kk := (fun H locs hS => ?_))
      refine lv_if_eq (tgt := 114) he hb dX12_behind_104 (by decide) (fun hc => ?_) (fun hc => ?_)
      · rw [if_pos hc] at h
        exact gX12_behind_114 l B _ _ _ _ _ h hS (lv_sub hl [0] rfl)
      · rw [if_neg hc] at h
        refine z_aload_n he hb dX12_behind_107 rfl (lv_at hl 0 rfl) (zref_r _ _) ?_
        obtain ⟨x18, hx, h⟩ := zob h
        refine z_getI (ci := 12) (T := TX12) (N := 50) (j := 43) B hS hx rfl zin_X12 (by decide) zk_1390 dX12_behind_108 ?_
        refine lv_if_ne (tgt := 120) he hb dX12_behind_111 (by decide) (fun hc => ?_) (fun hc => ?_)
        · rw [if_neg hc] at h
          refine z_aload_n he hb dX12_behind_120 rfl (lv_at hl 0 rfl) (zref_r _ _) ?_
          refine lv_dup he hb dX12_behind_121 rfl ?_
          obtain ⟨x19, hx, h⟩ := zob h
          refine z_getI (ci := 12) (T := TX12) (N := 50) (j := 43) B hS hx rfl zin_X12 (by decide) zk_1390 dX12_behind_122 ?_
          refine lv_iconst (v := (1 : Int32)) he hb dX12_behind_125 (by decide) ?_
          refine lv_isub he hb dX12_behind_126 ?_
          obtain ⟨f20, hx, h⟩ := zob h
          refine z_putI (ci := 12) (T := TX12) (N := 50) (j := 43) B hS hx rfl zin_X12 tyX12 tyX12_ok nmX12 (by decide) zk_1390 rfl rfl dX12_behind_127 (fun H locs hS => ?_)
          refine z_aload_n he hb dX12_behind_130 rfl (lv_at hl 0 rfl) (zref_r _ _) ?_
          refine lv_dup he hb dX12_behind_131 rfl ?_
          obtain ⟨x21, hx, h⟩ := zob h
          refine z_getI (ci := 12) (T := TX12) (N := 50) (j := 44) B hS hx rfl zin_X12 (by decide) zk_1391 dX12_behind_132 ?_
          refine lv_iconst (v := (1 : Int32)) he hb dX12_behind_135 (by decide) ?_
          refine lv_isub he hb dX12_behind_136 ?_
          obtain ⟨f22, hx, h⟩ := zob h
          refine z_putI (ci := 12) (T := TX12) (N := 50) (j := 44) B hS hx rfl zin_X12 tyX12 tyX12_ok nmX12 (by decide) zk_1391 rfl rfl dX12_behind_137 (fun H locs hS => ?_)
          refine z_aload_n he hb dX12_behind_140 rfl (lv_at hl 0 rfl) (zref_r _ _) ?_
          obtain ⟨_, hc, h⟩ := zob h
          obtain ⟨f23, hx, h⟩ := zob h
          refine z_callV (ci := 12) (T := TX12) (N := 50) (rest := []) B hS (mX12_next l G hx) zy_X12_next zk_1507 (by decide) hc rfl rfl hl rfl (Nat.le_of_ble_eq_true rfl) dX12_behind_141 (kk := (fun H locs hS => ?_))
          refine lv_iconst (v := (1 : Int32)) he hb dX12_behind_144 (by decide) ?_
          obtain ⟨y, hx, h⟩ := zob h
          obtain ⟨hz, rfl⟩ := zbl_i hx
          obtain ⟨rfl, rfl⟩ := Prod.mk.inj (Option.some.inj h)
          exact z_zret B hS hz dX12_behind_145
        · rw [if_pos hc] at h
          exact gX12_behind_114 l B _ _ _ _ _ h hS (lv_sub hl [0] rfl)
    · rw [if_neg hc] at h
      exact gX12_behind_24 l B _ _ _ _ _ h hS (lv_sub hl [0] rfl)
theorem dX12_sentence_0 : decode cX12_sentence 0 = .ok (.aload_n 0, 1) := by decide +kernel
theorem dX12_sentence_1 : decode cX12_sentence 1 = .ok (.iconst 0, 1) := by decide +kernel
theorem dX12_sentence_2 : decode cX12_sentence 2 = .ok (.putfield 1, 3) := by decide +kernel
theorem dX12_sentence_5 : decode cX12_sentence 5 = .ok (.aload_n 0, 1) := by decide +kernel
theorem dX12_sentence_6 : decode cX12_sentence 6 = .ok (.sipush 200, 3) := by decide +kernel
theorem dX12_sentence_9 : decode cX12_sentence 9 = .ok (.invokevirtual 258, 3) := by decide +kernel
theorem dX12_sentence_12 : decode cX12_sentence 12 = .ok (.aload_n 0, 1) := by decide +kernel
theorem dX12_sentence_13 : decode cX12_sentence 13 = .ok (.iconst 0, 1) := by decide +kernel
theorem dX12_sentence_14 : decode cX12_sentence 14 = .ok (.putfield 177, 3) := by decide +kernel
theorem dX12_sentence_17 : decode cX12_sentence 17 = .ok (.aload_n 0, 1) := by decide +kernel
theorem dX12_sentence_18 : decode cX12_sentence 18 = .ok (.iconst 0, 1) := by decide +kernel
theorem dX12_sentence_19 : decode cX12_sentence 19 = .ok (.putfield 453, 3) := by decide +kernel
theorem dX12_sentence_22 : decode cX12_sentence 22 = .ok (.aload_n 0, 1) := by decide +kernel
theorem dX12_sentence_23 : decode cX12_sentence 23 = .ok (.iconst 0, 1) := by decide +kernel
theorem dX12_sentence_24 : decode cX12_sentence 24 = .ok (.putfield 469, 3) := by decide +kernel
theorem dX12_sentence_27 : decode cX12_sentence 27 = .ok (.aload_n 0, 1) := by decide +kernel
theorem dX12_sentence_28 : decode cX12_sentence 28 = .ok (.iconst 0, 1) := by decide +kernel
theorem dX12_sentence_29 : decode cX12_sentence 29 = .ok (.putfield 456, 3) := by decide +kernel
theorem dX12_sentence_32 : decode cX12_sentence 32 = .ok (.aload_n 0, 1) := by decide +kernel
theorem dX12_sentence_33 : decode cX12_sentence 33 = .ok (.iconst 1, 1) := by decide +kernel
theorem dX12_sentence_34 : decode cX12_sentence 34 = .ok (.putfield 463, 3) := by decide +kernel
theorem dX12_sentence_37 : decode cX12_sentence 37 = .ok (.aload_n 0, 1) := by decide +kernel
theorem dX12_sentence_38 : decode cX12_sentence 38 = .ok (.iconst 0, 1) := by decide +kernel
theorem dX12_sentence_39 : decode cX12_sentence 39 = .ok (.putfield 472, 3) := by decide +kernel
theorem dX12_sentence_42 : decode cX12_sentence 42 = .ok (.aload_n 0, 1) := by decide +kernel
theorem dX12_sentence_43 : decode cX12_sentence 43 = .ok (.invokevirtual 189, 3) := by decide +kernel
theorem dX12_sentence_46 : decode cX12_sentence 46 = .ok (.iconst 1, 1) := by decide +kernel
theorem dX12_sentence_47 : decode cX12_sentence 47 = .ok (.istore_n 1, 1) := by decide +kernel
theorem dX12_sentence_48 : decode cX12_sentence 48 = .ok (.iload_n 1, 1) := by decide +kernel
theorem dX12_sentence_49 : decode cX12_sentence 49 = .ok (.ifCond .eq 83, 3) := by decide +kernel
theorem dX12_sentence_52 : decode cX12_sentence 52 = .ok (.aload_n 0, 1) := by decide +kernel
theorem dX12_sentence_53 : decode cX12_sentence 53 = .ok (.getfield 472, 3) := by decide +kernel
theorem dX12_sentence_56 : decode cX12_sentence 56 = .ok (.ifCond .eq 45, 3) := by decide +kernel
theorem dX12_sentence_59 : decode cX12_sentence 59 = .ok (.aload_n 0, 1) := by decide +kernel
theorem dX12_sentence_60 : decode cX12_sentence 60 = .ok (.getfield 160, 3) := by decide +kernel
theorem dX12_sentence_63 : decode cX12_sentence 63 = .ok (.ifCond .ne 38, 3) := by decide +kernel
theorem dX12_sentence_66 : decode cX12_sentence 66 = .ok (.aload_n 0, 1) := by decide +kernel
theorem dX12_sentence_67 : decode cX12_sentence 67 = .ok (.invokevirtual 475, 3) := by decide +kernel
theorem dX12_sentence_70 : decode cX12_sentence 70 = .ok (.aload_n 0, 1) := by decide +kernel
theorem dX12_sentence_71 : decode cX12_sentence 71 = .ok (.bipush 22, 2) := by decide +kernel
theorem dX12_sentence_73 : decode cX12_sentence 73 = .ok (.invokevirtual 478, 3) := by decide +kernel
theorem dX12_sentence_76 : decode cX12_sentence 76 = .ok (.aload_n 0, 1) := by decide +kernel
theorem dX12_sentence_77 : decode cX12_sentence 77 = .ok (.getfield 456, 3) := by decide +kernel
theorem dX12_sentence_80 : decode cX12_sentence 80 = .ok (.ifCond .le 16, 3) := by decide +kernel
theorem dX12_sentence_83 : decode cX12_sentence 83 = .ok (.aload_n 0, 1) := by decide +kernel
theorem dX12_sentence_84 : decode cX12_sentence 84 = .ok (.iconst 1, 1) := by decide +kernel
theorem dX12_sentence_85 : decode cX12_sentence 85 = .ok (.invokevirtual 186, 3) := by decide +kernel
theorem dX12_sentence_88 : decode cX12_sentence 88 = .ok (.pop, 1) := by decide +kernel
theorem dX12_sentence_89 : decode cX12_sentence 89 = .ok (.iconst (-1), 1) := by decide +kernel
theorem dX12_sentence_90 : decode cX12_sentence 90 = .ok (.aload_n 0, 1) := by decide +kernel
theorem dX12_sentence_91 : decode cX12_sentence 91 = .ok (.getfield 180, 3) := by decide +kernel
theorem dX12_sentence_94 : decode cX12_sentence 94 = .ok (.isub, 1) := by decide +kernel
theorem dX12_sentence_95 : decode cX12_sentence 95 = .ok (.ireturn, 1) := by decide +kernel
theorem dX12_sentence_96 : decode cX12_sentence 96 = .ok (.iconst 0, 1) := by decide +kernel
theorem dX12_sentence_97 : decode cX12_sentence 97 = .ok (.istore_n 1, 1) := by decide +kernel
theorem dX12_sentence_98 : decode cX12_sentence 98 = .ok (.goto (-50), 3) := by decide +kernel
theorem dX12_sentence_101 : decode cX12_sentence 101 = .ok (.aload_n 0, 1) := by decide +kernel
theorem dX12_sentence_102 : decode cX12_sentence 102 = .ok (.getfield 472, 3) := by decide +kernel
theorem dX12_sentence_105 : decode cX12_sentence 105 = .ok (.ifCond .eq 13, 3) := by decide +kernel
theorem dX12_sentence_108 : decode cX12_sentence 108 = .ok (.aload_n 0, 1) := by decide +kernel
theorem dX12_sentence_109 : decode cX12_sentence 109 = .ok (.invokevirtual 481, 3) := by decide +kernel
theorem dX12_sentence_112 : decode cX12_sentence 112 = .ok (.ifCond .ne (-64), 3) := by decide +kernel
theorem dX12_sentence_115 : decode cX12_sentence 115 = .ok (.goto 10, 3) := by decide +kernel
theorem dX12_sentence_118 : decode cX12_sentence 118 = .ok (.aload_n 0, 1) := by decide +kernel
theorem dX12_sentence_119 : decode cX12_sentence 119 = .ok (.invokevirtual 484, 3) := by decide +kernel
theorem dX12_sentence_122 : decode cX12_sentence 122 = .ok (.ifCond .ne (-74), 3) := by decide +kernel
theorem dX12_sentence_125 : decode cX12_sentence 125 = .ok (.iconst (-1), 1) := by decide +kernel
theorem dX12_sentence_126 : decode cX12_sentence 126 = .ok (.aload_n 0, 1) := by decide +kernel
theorem dX12_sentence_127 : decode cX12_sentence 127 = .ok (.getfield 180, 3) := by decide +kernel
theorem dX12_sentence_130 : decode cX12_sentence 130 = .ok (.isub, 1) := by decide +kernel
theorem dX12_sentence_131 : decode cX12_sentence 131 = .ok (.ireturn, 1) := by decide +kernel
theorem dX12_sentence_132 : decode cX12_sentence 132 = .ok (.aload_n 0, 1) := by decide +kernel
theorem dX12_sentence_133 : decode cX12_sentence 133 = .ok (.getfield 33, 3) := by decide +kernel
theorem dX12_sentence_136 : decode cX12_sentence 136 = .ok (.sipush 250, 3) := by decide +kernel
theorem dX12_sentence_139 : decode cX12_sentence 139 = .ok (.aload_n 0, 1) := by decide +kernel
theorem dX12_sentence_140 : decode cX12_sentence 140 = .ok (.getfield 453, 3) := by decide +kernel
theorem dX12_sentence_143 : decode cX12_sentence 143 = .ok (.iastore, 1) := by decide +kernel
theorem dX12_sentence_144 : decode cX12_sentence 144 = .ok (.iconst 0, 1) := by decide +kernel
theorem dX12_sentence_145 : decode cX12_sentence 145 = .ok (.istore_n 2, 1) := by decide +kernel
theorem dX12_sentence_146 : decode cX12_sentence 146 = .ok (.iload_n 2, 1) := by decide +kernel
theorem dX12_sentence_147 : decode cX12_sentence 147 = .ok (.iconst 3, 1) := by decide +kernel
theorem dX12_sentence_148 : decode cX12_sentence 148 = .ok (.aload_n 0, 1) := by decide +kernel
theorem dX12_sentence_149 : decode cX12_sentence 149 = .ok (.getfield 453, 3) := by decide +kernel
theorem dX12_sentence_152 : decode cX12_sentence 152 = .ok (.imul, 1) := by decide +kernel
theorem dX12_sentence_153 : decode cX12_sentence 153 = .ok (.if_icmp .ge 25, 3) := by decide +kernel
theorem dX12_sentence_156 : decode cX12_sentence 156 = .ok (.aload_n 0, 1) := by decide +kernel
theorem dX12_sentence_157 : decode cX12_sentence 157 = .ok (.getfield 33, 3) := by decide +kernel
theorem dX12_sentence_160 : decode cX12_sentence 160 = .ok (.sipush 251, 3) := by decide +kernel
theorem dX12_sentence_163 : decode cX12_sentence 163 = .ok (.iload_n 2, 1) := by decide +kernel
theorem dX12_sentence_164 : decode cX12_sentence 164 = .ok (.iadd, 1) := by decide +kernel
theorem dX12_sentence_165 : decode cX12_sentence 165 = .ok (.aload_n 0, 1) := by decide +kernel
theorem dX12_sentence_166 : decode cX12_sentence 166 = .ok (.getfield 40, 3) := by decide +kernel
theorem dX12_sentence_169 : decode cX12_sentence 169 = .ok (.iload_n 2, 1) := by decide +kernel
theorem dX12_sentence_170 : decode cX12_sentence 170 = .ok (.iaload, 1) := by decide +kernel
theorem dX12_sentence_171 : decode cX12_sentence 171 = .ok (.iastore, 1) := by decide +kernel
theorem dX12_sentence_172 : decode cX12_sentence 172 = .ok (.iinc 2 1, 3) := by decide +kernel
theorem dX12_sentence_175 : decode cX12_sentence 175 = .ok (.goto (-29), 3) := by decide +kernel
theorem dX12_sentence_178 : decode cX12_sentence 178 = .ok (.aload_n 0, 1) := by decide +kernel
theorem dX12_sentence_179 : decode cX12_sentence 179 = .ok (.getfield 469, 3) := by decide +kernel
theorem dX12_sentence_182 : decode cX12_sentence 182 = .ok (.ireturn, 1) := by decide +kernel
def fX12_sentence_146 (N n : Nat) : Nat → zF → Nat → Int32 → Option (zF × Int32)
  | 0, _, _, _ => none
  | k + 1, f, a0, a2 =>
    ((zgI n f 12 a0 41).bind fun x13 => (if ((3 : Int32) * x13) ≤ a2 then ((zgI n f 12 a0 42).bind fun x14 => some (f, x14)) else ((zgR n f 12 a0 6).bind fun x15 => ((zgR n f 12 a0 8).bind fun x16 => ((zlI n f 0 x16 a2).bind fun x17 => ((zsI n f 0 x15 ((251 : Int32) + a2) x17).bind fun f18 => (fX12_sentence_146 N n k f18 a0 (a2 + 1))))))))
set_option maxRecDepth 100000 in
set_option maxHeartbeats 4000000 in
theorem gX12_sentence_146 (l : Launch) {G : zG} {p : Program} {e : Env} {s : State} {m : MethodId} {args : Array Value} {below : List Frame} {meth : Method} {c : Code} {N n : Nat} {f9 : zF} {r : Int32} (B : zB G p s m args meth c RX12 cX12_sentence 3 (some .int)) : ∀ (k : Nat), ∀ (f : zF) (a0 : Nat) (a2 : Int32) (H : Heap) (locs : List Loc) (ls : Array Slot), fX12_sentence_146 N n k f a0 a2 = some (f9, r) → zS G n f H locs → lv_has ls 3 [(0, zr G a0), (2, .int a2)] → W p l e (zrm 3) s m args below meth c H locs 0 0 (MQ below (zQc G n f9 (some (.int r))) args s 0 0 (zA G)) (F0 m 146 ls []) := by
  have he := B.1
  have hb := B.2.1
  intro k
  induction k with
  | zero =>
    intro f a0 a2 H locs ls h
    unfold fX12_sentence_146 at h
    cases h
  | succ k ih =>
    intro f a0 a2 H locs ls h hS hl
    unfold fX12_sentence_146 at h
    refine lv_iload_n he hb dX12_sentence_146 rfl (lv_at hl 1 rfl) ?_
    refine lv_iconst (v := (3 : Int32)) he hb dX12_sentence_147 (by decide) ?_
    refine z_aload_n he hb dX12_sentence_148 rfl (lv_at hl 0 rfl) (zref_r _ _) ?_
    obtain ⟨x13, hx, h⟩ := zob h
    refine z_getI (ci := 12) (T := TX12) (N := 50) (j := 41) B hS hx rfl zin_X12 (by decide) zk_1388 dX12_sentence_149 ?_
    refine lv_imul he hb dX12_sentence_152 ?_
    refine lv_icmp_ge (tgt := 178) he hb dX12_sentence_153 (by decide) (fun hc => ?_) (fun hc => ?_)
    · rw [if_pos hc] at h
      refine z_aload_n he hb dX12_sentence_178 rfl (lv_at hl 0 rfl) (zref_r _ _) ?_
      obtain ⟨x14, hx, h⟩ := zob h
      refine z_getI (ci := 12) (T := TX12) (N := 50) (j := 42) B hS hx rfl zin_X12 (by decide) zk_1389 dX12_sentence_179 ?_
      obtain ⟨rfl, rfl⟩ := Prod.mk.inj (Option.some.inj h)
      exact z_iret B hS dX12_sentence_182
    · rw [if_neg hc] at h
      refine z_aload_n he hb dX12_sentence_156 rfl (lv_at hl 0 rfl) (zref_r _ _) ?_
      obtain ⟨x15, hx, h⟩ := zob h
      refine z_getR (ci := 12) (T := TX12) (N := 50) (j := 6) B hS hx rfl zin_X12 (by decide) zk_1353 dX12_sentence_157 ?_
      refine lv_sipush (v := (251 : Int32)) he hb dX12_sentence_160 (by decide) ?_
      refine lv_iload_n he hb dX12_sentence_163 rfl (lv_at hl 1 rfl) ?_
      refine lv_iadd he hb dX12_sentence_164 ?_
      refine z_aload_n he hb dX12_sentence_165 rfl (lv_at hl 0 rfl) (zref_r _ _) ?_
      obtain ⟨x16, hx, h⟩ := zob h
      refine z_getR (ci := 12) (T := TX12) (N := 50) (j := 8) B hS hx rfl zin_X12 (by decide) zk_1355 dX12_sentence_166 ?_
      refine lv_iload_n he hb dX12_sentence_169 rfl (lv_at hl 1 rfl) ?_
      obtain ⟨x17, hx, h⟩ := zob h
      refine z_ildI B hS hx dX12_sentence_170 ?_
      obtain ⟨f18, hx, h⟩ := zob h
      refine z_istI B hS hx dX12_sentence_171 (fun H locs hS => ?_)
      refine lv_iinc (v := (a2 + 1)) (lv' := [(2, _), (0, _)]) he hb dX12_sentence_172 hl (k := 1) rfl rfl (by decide) rfl (fun ls hl => ?_)
      refine lv_goto (tgt := 146) he hb dX12_sentence_175 (by decide) ?_
      exact ih _ _ _ _ _ _ h hS (lv_sub hl [1, 0] rfl)
def fX12_sentence_125 (N n : Nat) (f : zF) (a0 : Nat) : Option (zF × Int32) :=
    ((zgI n f 12 a0 16).bind fun x23 => some (f, ((-1 : Int32) - x23)))
set_option maxRecDepth 100000 in
set_option maxHeartbeats 4000000 in
theorem gX12_sentence_125 (l : Launch) {G : zG} {p : Program} {e : Env} {s : State} {m : MethodId} {args : Array Value} {below : List Frame} {meth : Method} {c : Code} {N n : Nat} {f9 : zF} {r : Int32} (B : zB G p s m args meth c RX12 cX12_sentence 3 (some .int)) : ∀ (f : zF) (a0 : Nat) (H : Heap) (locs : List Loc) (ls : Array Slot), fX12_sentence_125 N n f a0 = some (f9, r) → zS G n f H locs → lv_has ls 3 [(0, zr G a0)] → W p l e (zrm 3) s m args below meth c H locs 0 0 (MQ below (zQc G n f9 (some (.int r))) args s 0 0 (zA G)) (F0 m 125 ls []) := by
  have he := B.1
  have hb := B.2.1
  intro f a0 H locs ls h hS hl
  unfold fX12_sentence_125 at h
  refine lv_iconst (v := (-1 : Int32)) he hb dX12_sentence_125 (by decide) ?_
  refine z_aload_n he hb dX12_sentence_126 rfl (lv_at hl 0 rfl) (zref_r _ _) ?_
  obtain ⟨x23, hx, h⟩ := zob h
  refine z_getI (ci := 12) (T := TX12) (N := 50) (j := 16) B hS hx rfl zin_X12 (by decide) zk_1363 dX12_sentence_127 ?_
  refine lv_isub he hb dX12_sentence_130 ?_
  obtain ⟨rfl, rfl⟩ := Prod.mk.inj (Option.some.inj h)
  exact z_iret B hS dX12_sentence_131
def fX12_sentence_101 (r48 : zF → Nat → Int32 → Option (zF × Int32)) (N n : Nat) (f : zF) (a0 : Nat) (a1 : Int32) : Option (zF × Int32) :=
    ((zgI n f 12 a0 45).bind fun x20 => (if x20 = 0 then ((zck n f 12 a0).bind fun _ => (zbd (fX12_operand N n f a0) fun f22 x21 => (if x21 = 0 then (fX12_sentence_125 N n f22 a0) else (r48 f22 a0 a1)))) else ((zck n f 12 a0).bind fun _ => (zbd (fX12_behind N n f a0) fun f25 x24 => (if x24 = 0 then (fX12_sentence_125 N n f25 a0) else (r48 f25 a0 a1))))))
set_option maxRecDepth 100000 in
set_option maxHeartbeats 4000000 in
theorem gX12_sentence_101 (l : Launch) {G : zG} {p : Program} {e : Env} {s : State} {m : MethodId} {args : Array Value} {below : List Frame} {meth : Method} {c : Code} {N n : Nat} {f9 : zF} {r : Int32} {r48 : zF → Nat → Int32 → Option (zF × Int32)} (B : zB G p s m args meth c RX12 cX12_sentence 3 (some .int)) (hr48 : ∀ (f : zF) (a0 : Nat) (a1 : Int32) (H : Heap) (locs : List Loc) (ls : Array Slot), r48 f a0 a1 = some (f9, r) → zS G n f H locs → lv_has ls 3 [(0, zr G a0), (1, .int a1)] → W p l e (zrm 3) s m args below meth c H locs 0 0 (MQ below (zQc G n f9 (some (.int r))) args s 0 0 (zA G)) (F0 m 48 ls [])) : ∀ (f : zF) (a0 : Nat) (a1 : Int32) (H : Heap) (locs : List Loc) (ls : Array Slot), fX12_sentence_101 r48 N n f a0 a1 = some (f9, r) → zS G n f H locs → lv_has ls 3 [(0, zr G a0), (1, .int a1)] → W p l e (zrm 3) s m args below meth c H locs 0 0 (MQ below (zQc G n f9 (some (.int r))) args s 0 0 (zA G)) (F0 m 101 ls []) := by
  have he := B.1
  have hb := B.2.1
  intro f a0 a1 H locs ls h hS hl
  unfold fX12_sentence_101 at h
  refine z_aload_n he hb dX12_sentence_101 rfl (lv_at hl 0 rfl) (zref_r _ _) ?_
  obtain ⟨x20, hx, h⟩ := zob h
  refine z_getI (ci := 12) (T := TX12) (N := 50) (j := 45) B hS hx rfl zin_X12 (by decide) zk_1392 dX12_sentence_102 ?_
  refine lv_if_eq (tgt := 118) he hb dX12_sentence_105 (by decide) (fun hc => ?_) (fun hc => ?_)
  · rw [if_pos hc] at h
    refine z_aload_n he hb dX12_sentence_118 rfl (lv_at hl 0 rfl) (zref_r _ _) ?_
    obtain ⟨_, hc, h⟩ := zob h
    obtain ⟨f22, x21, hx, h⟩ := zbd_i h
    refine z_callV (ci := 12) (T := TX12) (N := 50) (rest := []) B hS (mX12_operand l G hx) zy_X12_operand zk_1945 (by decide) hc rfl rfl hl rfl (Nat.le_of_ble_eq_true rfl) dX12_sentence_119 (kk := (fun H locs hS => ?_))
    refine lv_if_ne (tgt := 48) he hb dX12_sentence_122 (by decide) (fun hc => ?_) (fun hc => ?_)
    · rw [if_neg hc] at h
      exact hr48 _ _ _ _ _ _ h hS (lv_sub hl [0, 1] rfl)
    · rw [if_pos hc] at h
      exact gX12_sentence_125 l B _ _ _ _ _ h hS (lv_sub hl [0] rfl)
  · rw [if_neg hc] at h
    refine z_aload_n he hb dX12_sentence_108 rfl (lv_at hl 0 rfl) (zref_r _ _) ?_
    obtain ⟨_, hc, h⟩ := zob h
    obtain ⟨f25, x24, hx, h⟩ := zbd_i h
    refine z_callV (ci := 12) (T := TX12) (N := 50) (rest := []) B hS (mX12_behind l G hx) zy_X12_behind zk_1941 (by decide) hc rfl rfl hl rfl (Nat.le_of_ble_eq_true rfl) dX12_sentence_109 (kk := (fun H locs hS => ?_))
    refine lv_if_ne (tgt := 48) he hb dX12_sentence_112 (by decide) (fun hc => ?_) (fun hc => ?_)
    · rw [if_neg hc] at h
      exact hr48 _ _ _ _ _ _ h hS (lv_sub hl [0, 1] rfl)
    · rw [if_pos hc] at h
      refine lv_goto (tgt := 125) he hb dX12_sentence_115 (by decide) ?_
      exact gX12_sentence_125 l B _ _ _ _ _ h hS (lv_sub hl [0] rfl)
def fX12_sentence_48 (N n : Nat) : Nat → zF → Nat → Int32 → Option (zF × Int32)
  | 0, _, _, _ => none
  | k + 1, f, a0, a1 =>
    (if a1 = 0 then ((zgR n f 12 a0 6).bind fun x10 => ((zgI n f 12 a0 41).bind fun x11 => ((zsI n f 0 x10 (250 : Int32) x11).bind fun f12 => (fX12_sentence_146 N n N f12 a0 (0 : Int32))))) else ((zgI n f 12 a0 45).bind fun x19 => (if x19 = 0 then (fX12_sentence_101 (fX12_sentence_48 N n k) N n f a0 a1) else ((zgI n f 12 a0 11).bind fun x26 => (if x26 = 0 then ((zck n f 12 a0).bind fun _ => ((fX12_nots N n f a0).bind fun f27 => ((zck n f27 12 a0).bind fun _ => ((fX12_joins N n f27 a0 (22 : Int32)).bind fun f28 => ((zgI n f28 12 a0 43).bind fun x29 => (if x29 ≤ 0 then (fX12_sentence_48 N n k f28 a0 (0 : Int32)) else ((zck n f28 12 a0).bind fun _ => (zbd (fX12_bad N n f28 a0 (1 : Int32)) fun f31 x30 => ((zgI n f31 12 a0 16).bind fun x32 => some (f31, ((-1 : Int32) - x32))))))))))) else (fX12_sentence_101 (fX12_sentence_48 N n k) N n f a0 a1))))))
set_option maxRecDepth 100000 in
set_option maxHeartbeats 4000000 in
theorem gX12_sentence_48 (l : Launch) {G : zG} {p : Program} {e : Env} {s : State} {m : MethodId} {args : Array Value} {below : List Frame} {meth : Method} {c : Code} {N n : Nat} {f9 : zF} {r : Int32} (B : zB G p s m args meth c RX12 cX12_sentence 3 (some .int)) : ∀ (k : Nat), ∀ (f : zF) (a0 : Nat) (a1 : Int32) (H : Heap) (locs : List Loc) (ls : Array Slot), fX12_sentence_48 N n k f a0 a1 = some (f9, r) → zS G n f H locs → lv_has ls 3 [(0, zr G a0), (1, .int a1)] → W p l e (zrm 3) s m args below meth c H locs 0 0 (MQ below (zQc G n f9 (some (.int r))) args s 0 0 (zA G)) (F0 m 48 ls []) := by
  have he := B.1
  have hb := B.2.1
  intro k
  induction k with
  | zero =>
    intro f a0 a1 H locs ls h
    unfold fX12_sentence_48 at h
    cases h
  | succ k ih =>
    intro f a0 a1 H locs ls h hS hl
    unfold fX12_sentence_48 at h
    refine lv_iload_n he hb dX12_sentence_48 rfl (lv_at hl 1 rfl) ?_
    refine lv_if_eq (tgt := 132) he hb dX12_sentence_49 (by decide) (fun hc => ?_) (fun hc => ?_)
    · rw [if_pos hc] at h
      refine z_aload_n he hb dX12_sentence_132 rfl (lv_at hl 0 rfl) (zref_r _ _) ?_
      obtain ⟨x10, hx, h⟩ := zob h
      refine z_getR (ci := 12) (T := TX12) (N := 50) (j := 6) B hS hx rfl zin_X12 (by decide) zk_1353 dX12_sentence_133 ?_
      refine lv_sipush (v := (250 : Int32)) he hb dX12_sentence_136 (by decide) ?_
      refine z_aload_n he hb dX12_sentence_139 rfl (lv_at hl 0 rfl) (zref_r _ _) ?_
      obtain ⟨x11, hx, h⟩ := zob h
      refine z_getI (ci := 12) (T := TX12) (N := 50) (j := 41) B hS hx rfl zin_X12 (by decide) zk_1388 dX12_sentence_140 ?_
      obtain ⟨f12, hx, h⟩ := zob h
      refine z_istI B hS hx dX12_sentence_143 (fun H locs hS => ?_)
      refine lv_iconst (v := (0 : Int32)) he hb dX12_sentence_144 (by decide) ?_
      refine lv_istore_n (lv' := [(2, _), (0, _), (1, _)]) he hb dX12_sentence_145 rfl hl (by decide) rfl (fun ls hl => ?_)
      exact gX12_sentence_146 l B N _ _ _ _ _ _ h hS (lv_sub hl [1, 0] rfl)
    · rw [if_neg hc] at h
      refine z_aload_n he hb dX12_sentence_52 rfl (lv_at hl 0 rfl) (zref_r _ _) ?_
      obtain ⟨x19, hx, h⟩ := zob h
      refine z_getI (ci := 12) (T := TX12) (N := 50) (j := 45) B hS hx rfl zin_X12 (by decide) zk_1392 dX12_sentence_53 ?_
      refine lv_if_eq (tgt := 101) he hb dX12_sentence_56 (by decide) (fun hc => ?_) (fun hc => ?_)
      · rw [if_pos hc] at h
        exact gX12_sentence_101 l B ih _ _ _ _ _ _ h hS (lv_sub hl [0, 1] rfl)
      · rw [if_neg hc] at h
        refine z_aload_n he hb dX12_sentence_59 rfl (lv_at hl 0 rfl) (zref_r _ _) ?_
        obtain ⟨x26, hx, h⟩ := zob h
        refine z_getI (ci := 12) (T := TX12) (N := 50) (j := 11) B hS hx rfl zin_X12 (by decide) zk_1358 dX12_sentence_60 ?_
        refine lv_if_ne (tgt := 101) he hb dX12_sentence_63 (by decide) (fun hc => ?_) (fun hc => ?_)
        · rw [if_neg hc] at h
          exact gX12_sentence_101 l B ih _ _ _ _ _ _ h hS (lv_sub hl [0, 1] rfl)
        · rw [if_pos hc] at h
          refine z_aload_n he hb dX12_sentence_66 rfl (lv_at hl 0 rfl) (zref_r _ _) ?_
          obtain ⟨_, hc, h⟩ := zob h
          obtain ⟨f27, hx, h⟩ := zob h
          refine z_callV (ci := 12) (T := TX12) (N := 50) (rest := []) B hS (mX12_nots l G hx) zy_X12_nots zk_1929 (by decide) hc rfl rfl hl rfl (Nat.le_of_ble_eq_true rfl) dX12_sentence_67 (kk := (fun H locs hS => ?_))
          refine z_aload_n he hb dX12_sentence_70 rfl (lv_at hl 0 rfl) (zref_r _ _) ?_
          refine lv_bipush (v := (22 : Int32)) he hb dX12_sentence_71 (by decide) ?_
          obtain ⟨_, hc, h⟩ := zob h
          obtain ⟨f28, hx, h⟩ := zob h
          refine z_callV (ci := 12) (T := TX12) (N := 50) (rest := []) B hS (mX12_joins l G hx) zy_X12_joins zk_1937 (by decide) hc rfl rfl hl rfl (Nat.le_of_ble_eq_true rfl) dX12_sentence_73 (kk := (fun H locs hS => ?_))
          refine z_aload_n he hb dX12_sentence_76 rfl (lv_at hl 0 rfl) (zref_r _ _) ?_
          obtain ⟨x29, hx, h⟩ := zob h
          refine z_getI (ci := 12) (T := TX12) (N := 50) (j := 43) B hS hx rfl zin_X12 (by decide) zk_1390 dX12_sentence_77 ?_
          refine lv_if_le (tgt := 96) he hb dX12_sentence_80 (by decide) (fun hc => ?_) (fun hc => ?_)
          · rw [if_pos hc] at h
            refine lv_iconst (v := (0 : Int32)) he hb dX12_sentence_96 (by decide) ?_
            refine lv_istore_n (lv' := [(1, _), (0, _)]) he hb dX12_sentence_97 rfl hl (by decide) rfl (fun ls hl => ?_)
            refine lv_goto (tgt := 48) he hb dX12_sentence_98 (by decide) ?_
            exact ih _ _ _ _ _ _ h hS (lv_sub hl [1, 0] rfl)
          · rw [if_neg hc] at h
            refine z_aload_n he hb dX12_sentence_83 rfl (lv_at hl 0 rfl) (zref_r _ _) ?_
            refine lv_iconst (v := (1 : Int32)) he hb dX12_sentence_84 (by decide) ?_
            obtain ⟨_, hc, h⟩ := zob h
            obtain ⟨f31, x30, hx, h⟩ := zbd_i h
            refine z_callV (ci := 12) (T := TX12) (N := 50) (rest := []) B hS (mX12_bad l G hx) zy_X12_bad zk_1533 (by decide) hc rfl rfl hl rfl (Nat.le_of_ble_eq_true rfl) dX12_sentence_85 (kk := (fun H locs hS => ?_))
            refine lv_pop he hb dX12_sentence_88 rfl ?_
            refine lv_iconst (v := (-1 : Int32)) he hb dX12_sentence_89 (by decide) ?_
            refine z_aload_n he hb dX12_sentence_90 rfl (lv_at hl 0 rfl) (zref_r _ _) ?_
            obtain ⟨x32, hx, h⟩ := zob h
            refine z_getI (ci := 12) (T := TX12) (N := 50) (j := 16) B hS hx rfl zin_X12 (by decide) zk_1363 dX12_sentence_91 ?_
            refine lv_isub he hb dX12_sentence_94 ?_
            obtain ⟨rfl, rfl⟩ := Prod.mk.inj (Option.some.inj h)
            exact z_iret B hS dX12_sentence_95
def fX12_sentence (N n : Nat) (f : zF) (a0 : Nat) : Option (zF × Int32) :=
    ((zpI n f 12 a0 0 (0 : Int32)).bind fun f1 => ((zck n f1 12 a0).bind fun _ => ((fX12_taken N n f1 a0 (200 : Int32)).bind fun f2 => ((zpI n f2 12 a0 15 (0 : Int32)).bind fun f3 => ((zpI n f3 12 a0 41 (0 : Int32)).bind fun f4 => ((zpI n f4 12 a0 42 (0 : Int32)).bind fun f5 => ((zpI n f5 12 a0 43 (0 : Int32)).bind fun f6 => ((zpI n f6 12 a0 44 (1 : Int32)).bind fun f7 => ((zpZ n f7 12 a0 45 (0 : Int32)).bind fun f8 => ((zck n f8 12 a0).bind fun _ => ((fX12_next N n f8 a0).bind fun f9 => (fX12_sentence_48 N n N f9 a0 (1 : Int32)))))))))))))
set_option maxRecDepth 100000 in
set_option maxHeartbeats 4000000 in
theorem mX12_sentence (l : Launch) (G : zG) {N n : Nat} {f : zF} {f9 : zF} {r : Int32} {a0 : Nat} (h : fX12_sentence N n f a0 = some (f9, r)) : zM l G yX12_sentence cX12_sentence 3 (some .int) 3 n f [zr G a0] (some (.int r)) f9 := by
  refine zM.of (by decide) (Nat.le_of_ble_eq_true rfl) ?_
  intro p e s m args below meth c locs ls B hS hl
  have he := B.1
  have hb := B.2.1
  have hl : lv_has ls 3 [(0, zr G a0)] := hl
  unfold fX12_sentence at h
  generalize s.heap = H at hS ⊢
  refine z_aload_n he hb dX12_sentence_0 rfl (lv_at hl 0 rfl) (zref_r _ _) ?_
  refine lv_iconst (v := (0 : Int32)) he hb dX12_sentence_1 (by decide) ?_
  obtain ⟨f1, hx, h⟩ := zob h
  refine z_putI (ci := 12) (T := TX12) (N := 50) (j := 0) B hS hx rfl zin_X12 tyX12 tyX12_ok nmX12 (by decide) zk_1347 rfl rfl dX12_sentence_2 (fun H locs hS => ?_)
  refine z_aload_n he hb dX12_sentence_5 rfl (lv_at hl 0 rfl) (zref_r _ _) ?_
  refine lv_sipush (v := (200 : Int32)) he hb dX12_sentence_6 (by decide) ?_
  obtain ⟨_, hc, h⟩ := zob h
  obtain ⟨f2, hx, h⟩ := zob h
  refine z_callV (ci := 12) (T := TX12) (N := 50) (rest := []) B hS (mX12_taken l G hx) zy_X12_taken zk_1503 (by decide) hc rfl rfl hl rfl (Nat.le_of_ble_eq_true rfl) dX12_sentence_9 (kk := (fun H locs hS => ?_))
  refine z_aload_n he hb dX12_sentence_12 rfl (lv_at hl 0 rfl) (zref_r _ _) ?_
  refine lv_iconst (v := (0 : Int32)) he hb dX12_sentence_13 (by decide) ?_
  obtain ⟨f3, hx, h⟩ := zob h
  refine z_putI (ci := 12) (T := TX12) (N := 50) (j := 15) B hS hx rfl zin_X12 tyX12 tyX12_ok nmX12 (by decide) zk_1362 rfl rfl dX12_sentence_14 (fun H locs hS => ?_)
  refine z_aload_n he hb dX12_sentence_17 rfl (lv_at hl 0 rfl) (zref_r _ _) ?_
  refine lv_iconst (v := (0 : Int32)) he hb dX12_sentence_18 (by decide) ?_
  obtain ⟨f4, hx, h⟩ := zob h
  refine z_putI (ci := 12) (T := TX12) (N := 50) (j := 41) B hS hx rfl zin_X12 tyX12 tyX12_ok nmX12 (by decide) zk_1388 rfl rfl dX12_sentence_19 (fun H locs hS => ?_)
  refine z_aload_n he hb dX12_sentence_22 rfl (lv_at hl 0 rfl) (zref_r _ _) ?_
  refine lv_iconst (v := (0 : Int32)) he hb dX12_sentence_23 (by decide) ?_
  obtain ⟨f5, hx, h⟩ := zob h
  refine z_putI (ci := 12) (T := TX12) (N := 50) (j := 42) B hS hx rfl zin_X12 tyX12 tyX12_ok nmX12 (by decide) zk_1389 rfl rfl dX12_sentence_24 (fun H locs hS => ?_)
  refine z_aload_n he hb dX12_sentence_27 rfl (lv_at hl 0 rfl) (zref_r _ _) ?_
  refine lv_iconst (v := (0 : Int32)) he hb dX12_sentence_28 (by decide) ?_
  obtain ⟨f6, hx, h⟩ := zob h
  refine z_putI (ci := 12) (T := TX12) (N := 50) (j := 43) B hS hx rfl zin_X12 tyX12 tyX12_ok nmX12 (by decide) zk_1390 rfl rfl dX12_sentence_29 (fun H locs hS => ?_)
  refine z_aload_n he hb dX12_sentence_32 rfl (lv_at hl 0 rfl) (zref_r _ _) ?_
  refine lv_iconst (v := (1 : Int32)) he hb dX12_sentence_33 (by decide) ?_
  obtain ⟨f7, hx, h⟩ := zob h
  refine z_putI (ci := 12) (T := TX12) (N := 50) (j := 44) B hS hx rfl zin_X12 tyX12 tyX12_ok nmX12 (by decide) zk_1391 rfl rfl dX12_sentence_34 (fun H locs hS => ?_)
  refine z_aload_n he hb dX12_sentence_37 rfl (lv_at hl 0 rfl) (zref_r _ _) ?_
  refine lv_iconst (v := (0 : Int32)) he hb dX12_sentence_38 (by decide) ?_
  obtain ⟨f8, hx, h⟩ := zob h
  refine z_putZ (ci := 12) (T := TX12) (N := 50) (j := 45) B hS hx rfl zin_X12 tyX12 tyX12_ok nmX12 (by decide) zk_1392 rfl rfl dX12_sentence_39 (fun H locs hS => ?_)
  refine z_aload_n he hb dX12_sentence_42 rfl (lv_at hl 0 rfl) (zref_r _ _) ?_
  obtain ⟨_, hc, h⟩ := zob h
  obtain ⟨f9, hx, h⟩ := zob h
  refine z_callV (ci := 12) (T := TX12) (N := 50) (rest := []) B hS (mX12_next l G hx) zy_X12_next zk_1507 (by decide) hc rfl rfl hl rfl (Nat.le_of_ble_eq_true rfl) dX12_sentence_43 (kk := (fun H locs hS => ?_))
  refine lv_iconst (v := (1 : Int32)) he hb dX12_sentence_46 (by decide) ?_
  refine lv_istore_n (lv' := [(1, _), (0, _)]) he hb dX12_sentence_47 rfl hl (by decide) rfl (fun ls hl => ?_)
  exact gX12_sentence_48 l B N _ _ _ _ _ _ h hS (lv_sub hl [1, 0] rfl)
theorem dX12_isLeaf_0 : decode cX12_isLeaf 0 = .ok (.iload_n 2, 1) := by decide +kernel
theorem dX12_isLeaf_1 : decode cX12_isLeaf 1 = .ok (.tableswitch 122 0 4 #[35, 49, 63, 91, 111], 35) := by decide +kernel
theorem dX12_isLeaf_36 : decode cX12_isLeaf 36 = .ok (.aload_n 0, 1) := by decide +kernel
theorem dX12_isLeaf_37 : decode cX12_isLeaf 37 = .ok (.iload_n 1, 1) := by decide +kernel
theorem dX12_isLeaf_38 : decode cX12_isLeaf 38 = .ok (.invokevirtual 311, 3) := by decide +kernel
theorem dX12_isLeaf_41 : decode cX12_isLeaf 41 = .ok (.ifCond .eq 7, 3) := by decide +kernel
theorem dX12_isLeaf_44 : decode cX12_isLeaf 44 = .ok (.iconst 1, 1) := by decide +kernel
theorem dX12_isLeaf_45 : decode cX12_isLeaf 45 = .ok (.goto 4, 3) := by decide +kernel
theorem dX12_isLeaf_48 : decode cX12_isLeaf 48 = .ok (.iconst 0, 1) := by decide +kernel
theorem dX12_isLeaf_49 : decode cX12_isLeaf 49 = .ok (.ireturn, 1) := by decide +kernel
theorem dX12_isLeaf_50 : decode cX12_isLeaf 50 = .ok (.aload_n 0, 1) := by decide +kernel
theorem dX12_isLeaf_51 : decode cX12_isLeaf 51 = .ok (.iload_n 1, 1) := by decide +kernel
theorem dX12_isLeaf_52 : decode cX12_isLeaf 52 = .ok (.invokevirtual 314, 3) := by decide +kernel
theorem dX12_isLeaf_55 : decode cX12_isLeaf 55 = .ok (.ifCond .ne 7, 3) := by decide +kernel
theorem dX12_isLeaf_58 : decode cX12_isLeaf 58 = .ok (.iconst 1, 1) := by decide +kernel
theorem dX12_isLeaf_59 : decode cX12_isLeaf 59 = .ok (.goto 4, 3) := by decide +kernel
theorem dX12_isLeaf_62 : decode cX12_isLeaf 62 = .ok (.iconst 0, 1) := by decide +kernel
theorem dX12_isLeaf_63 : decode cX12_isLeaf 63 = .ok (.ireturn, 1) := by decide +kernel
theorem dX12_isLeaf_64 : decode cX12_isLeaf 64 = .ok (.aload_n 0, 1) := by decide +kernel
theorem dX12_isLeaf_65 : decode cX12_isLeaf 65 = .ok (.getfield 33, 3) := by decide +kernel
theorem dX12_isLeaf_68 : decode cX12_isLeaf 68 = .ok (.sipush 141, 3) := by decide +kernel
theorem dX12_isLeaf_71 : decode cX12_isLeaf 71 = .ok (.iload_n 1, 1) := by decide +kernel
theorem dX12_isLeaf_72 : decode cX12_isLeaf 72 = .ok (.iadd, 1) := by decide +kernel
theorem dX12_isLeaf_73 : decode cX12_isLeaf 73 = .ok (.iaload, 1) := by decide +kernel
theorem dX12_isLeaf_74 : decode cX12_isLeaf 74 = .ok (.aload_n 0, 1) := by decide +kernel
theorem dX12_isLeaf_75 : decode cX12_isLeaf 75 = .ok (.getfield 33, 3) := by decide +kernel
theorem dX12_isLeaf_78 : decode cX12_isLeaf 78 = .ok (.bipush 101, 2) := by decide +kernel
theorem dX12_isLeaf_80 : decode cX12_isLeaf 80 = .ok (.iload_n 1, 1) := by decide +kernel
theorem dX12_isLeaf_81 : decode cX12_isLeaf 81 = .ok (.iadd, 1) := by decide +kernel
theorem dX12_isLeaf_82 : decode cX12_isLeaf 82 = .ok (.iaload, 1) := by decide +kernel
theorem dX12_isLeaf_83 : decode cX12_isLeaf 83 = .ok (.if_icmp .eq 7, 3) := by decide +kernel
theorem dX12_isLeaf_86 : decode cX12_isLeaf 86 = .ok (.iconst 1, 1) := by decide +kernel
theorem dX12_isLeaf_87 : decode cX12_isLeaf 87 = .ok (.goto 4, 3) := by decide +kernel
theorem dX12_isLeaf_90 : decode cX12_isLeaf 90 = .ok (.iconst 0, 1) := by decide +kernel
theorem dX12_isLeaf_91 : decode cX12_isLeaf 91 = .ok (.ireturn, 1) := by decide +kernel
theorem dX12_isLeaf_92 : decode cX12_isLeaf 92 = .ok (.aload_n 0, 1) := by decide +kernel
theorem dX12_isLeaf_93 : decode cX12_isLeaf 93 = .ok (.getfield 33, 3) := by decide +kernel
theorem dX12_isLeaf_96 : decode cX12_isLeaf 96 = .ok (.bipush 95, 2) := by decide +kernel
theorem dX12_isLeaf_98 : decode cX12_isLeaf 98 = .ok (.iload_n 1, 1) := by decide +kernel
theorem dX12_isLeaf_99 : decode cX12_isLeaf 99 = .ok (.iadd, 1) := by decide +kernel
theorem dX12_isLeaf_100 : decode cX12_isLeaf 100 = .ok (.iaload, 1) := by decide +kernel
theorem dX12_isLeaf_101 : decode cX12_isLeaf 101 = .ok (.iload 4, 2) := by decide +kernel
theorem dX12_isLeaf_103 : decode cX12_isLeaf 103 = .ok (.if_icmp .ne 7, 3) := by decide +kernel
theorem dX12_isLeaf_106 : decode cX12_isLeaf 106 = .ok (.iconst 1, 1) := by decide +kernel
theorem dX12_isLeaf_107 : decode cX12_isLeaf 107 = .ok (.goto 4, 3) := by decide +kernel
theorem dX12_isLeaf_110 : decode cX12_isLeaf 110 = .ok (.iconst 0, 1) := by decide +kernel
theorem dX12_isLeaf_111 : decode cX12_isLeaf 111 = .ok (.ireturn, 1) := by decide +kernel
theorem dX12_isLeaf_112 : decode cX12_isLeaf 112 = .ok (.aload_n 0, 1) := by decide +kernel
theorem dX12_isLeaf_113 : decode cX12_isLeaf 113 = .ok (.iload 4, 2) := by decide +kernel
theorem dX12_isLeaf_115 : decode cX12_isLeaf 115 = .ok (.invokevirtual 301, 3) := by decide +kernel
theorem dX12_isLeaf_118 : decode cX12_isLeaf 118 = .ok (.iload_n 1, 1) := by decide +kernel
theorem dX12_isLeaf_119 : decode cX12_isLeaf 119 = .ok (.invokestatic 289, 3) := by decide +kernel
theorem dX12_isLeaf_122 : decode cX12_isLeaf 122 = .ok (.ireturn, 1) := by decide +kernel
theorem dX12_isLeaf_123 : decode cX12_isLeaf 123 = .ok (.iload_n 2, 1) := by decide +kernel
theorem dX12_isLeaf_124 : decode cX12_isLeaf 124 = .ok (.iconst 5, 1) := by decide +kernel
theorem dX12_isLeaf_125 : decode cX12_isLeaf 125 = .ok (.if_icmp .ne 16, 3) := by decide +kernel
theorem dX12_isLeaf_128 : decode cX12_isLeaf 128 = .ok (.aload_n 0, 1) := by decide +kernel
theorem dX12_isLeaf_129 : decode cX12_isLeaf 129 = .ok (.getfield 33, 3) := by decide +kernel
theorem dX12_isLeaf_132 : decode cX12_isLeaf 132 = .ok (.sipush 153, 3) := by decide +kernel
theorem dX12_isLeaf_135 : decode cX12_isLeaf 135 = .ok (.iload_n 1, 1) := by decide +kernel
theorem dX12_isLeaf_136 : decode cX12_isLeaf 136 = .ok (.iadd, 1) := by decide +kernel
theorem dX12_isLeaf_137 : decode cX12_isLeaf 137 = .ok (.iaload, 1) := by decide +kernel
theorem dX12_isLeaf_138 : decode cX12_isLeaf 138 = .ok (.goto 22, 3) := by decide +kernel
theorem dX12_isLeaf_141 : decode cX12_isLeaf 141 = .ok (.iload_n 2, 1) := by decide +kernel
theorem dX12_isLeaf_142 : decode cX12_isLeaf 142 = .ok (.bipush 6, 2) := by decide +kernel
theorem dX12_isLeaf_144 : decode cX12_isLeaf 144 = .ok (.if_icmp .ne 15, 3) := by decide +kernel
theorem dX12_isLeaf_147 : decode cX12_isLeaf 147 = .ok (.aload_n 0, 1) := by decide +kernel
theorem dX12_isLeaf_148 : decode cX12_isLeaf 148 = .ok (.getfield 33, 3) := by decide +kernel
theorem dX12_isLeaf_151 : decode cX12_isLeaf 151 = .ok (.bipush 113, 2) := by decide +kernel
theorem dX12_isLeaf_153 : decode cX12_isLeaf 153 = .ok (.iload_n 1, 1) := by decide +kernel
theorem dX12_isLeaf_154 : decode cX12_isLeaf 154 = .ok (.iadd, 1) := by decide +kernel
theorem dX12_isLeaf_155 : decode cX12_isLeaf 155 = .ok (.iaload, 1) := by decide +kernel
theorem dX12_isLeaf_156 : decode cX12_isLeaf 156 = .ok (.goto 4, 3) := by decide +kernel
theorem dX12_isLeaf_159 : decode cX12_isLeaf 159 = .ok (.iload_n 1, 1) := by decide +kernel
theorem dX12_isLeaf_160 : decode cX12_isLeaf 160 = .ok (.istore 5, 2) := by decide +kernel
theorem dX12_isLeaf_162 : decode cX12_isLeaf 162 = .ok (.iload_n 3, 1) := by decide +kernel
theorem dX12_isLeaf_163 : decode cX12_isLeaf 163 = .ok (.bipush 60, 2) := by decide +kernel
theorem dX12_isLeaf_165 : decode cX12_isLeaf 165 = .ok (.if_icmp .ne 18, 3) := by decide +kernel
theorem dX12_isLeaf_168 : decode cX12_isLeaf 168 = .ok (.iload 5, 2) := by decide +kernel
theorem dX12_isLeaf_170 : decode cX12_isLeaf 170 = .ok (.iload 4, 2) := by decide +kernel
theorem dX12_isLeaf_172 : decode cX12_isLeaf 172 = .ok (.if_icmp .ge 7, 3) := by decide +kernel
theorem dX12_isLeaf_175 : decode cX12_isLeaf 175 = .ok (.iconst 1, 1) := by decide +kernel
theorem dX12_isLeaf_176 : decode cX12_isLeaf 176 = .ok (.goto 40, 3) := by decide +kernel
theorem dX12_isLeaf_179 : decode cX12_isLeaf 179 = .ok (.iconst 0, 1) := by decide +kernel
theorem dX12_isLeaf_180 : decode cX12_isLeaf 180 = .ok (.goto 36, 3) := by decide +kernel
theorem dX12_isLeaf_183 : decode cX12_isLeaf 183 = .ok (.iload_n 3, 1) := by decide +kernel
theorem dX12_isLeaf_184 : decode cX12_isLeaf 184 = .ok (.bipush 61, 2) := by decide +kernel
theorem dX12_isLeaf_186 : decode cX12_isLeaf 186 = .ok (.if_icmp .ne 18, 3) := by decide +kernel
theorem dX12_isLeaf_189 : decode cX12_isLeaf 189 = .ok (.iload 5, 2) := by decide +kernel
theorem dX12_isLeaf_191 : decode cX12_isLeaf 191 = .ok (.iload 4, 2) := by decide +kernel
theorem dX12_isLeaf_193 : decode cX12_isLeaf 193 = .ok (.if_icmp .ne 7, 3) := by decide +kernel
theorem dX12_isLeaf_196 : decode cX12_isLeaf 196 = .ok (.iconst 1, 1) := by decide +kernel
theorem dX12_isLeaf_197 : decode cX12_isLeaf 197 = .ok (.goto 19, 3) := by decide +kernel
theorem dX12_isLeaf_200 : decode cX12_isLeaf 200 = .ok (.iconst 0, 1) := by decide +kernel
theorem dX12_isLeaf_201 : decode cX12_isLeaf 201 = .ok (.goto 15, 3) := by decide +kernel
theorem dX12_isLeaf_204 : decode cX12_isLeaf 204 = .ok (.iload 5, 2) := by decide +kernel
theorem dX12_isLeaf_206 : decode cX12_isLeaf 206 = .ok (.iload 4, 2) := by decide +kernel
theorem dX12_isLeaf_208 : decode cX12_isLeaf 208 = .ok (.if_icmp .le 7, 3) := by decide +kernel
theorem dX12_isLeaf_211 : decode cX12_isLeaf 211 = .ok (.iconst 1, 1) := by decide +kernel
theorem dX12_isLeaf_212 : decode cX12_isLeaf 212 = .ok (.goto 4, 3) := by decide +kernel
theorem dX12_isLeaf_215 : decode cX12_isLeaf 215 = .ok (.iconst 0, 1) := by decide +kernel
theorem dX12_isLeaf_216 : decode cX12_isLeaf 216 = .ok (.ireturn, 1) := by decide +kernel
def fX12_isLeaf_160 (N n : Nat) (f : zF) (a3 : Int32) (a4 : Int32) (t0 : Int32) : Option Int32 :=
    (if a3 = (60 : Int32) then (if a4 ≤ t0 then zbl (0 : Int32) else zbl (1 : Int32)) else (if a3 = (61 : Int32) then (if t0 = a4 then zbl (1 : Int32) else zbl (0 : Int32)) else (if t0 ≤ a4 then zbl (0 : Int32) else zbl (1 : Int32))))
set_option maxRecDepth 100000 in
set_option maxHeartbeats 4000000 in
theorem gX12_isLeaf_160 (l : Launch) {G : zG} {p : Program} {e : Env} {s : State} {m : MethodId} {args : Array Value} {below : List Frame} {meth : Method} {c : Code} {f : zF} {N n : Nat} {r : Int32} (B : zB G p s m args meth c RX12 cX12_isLeaf 6 (some .boolean)) : ∀ (a3 : Int32) (a4 : Int32) (t0 : Int32) (H : Heap) (locs : List Loc) (ls : Array Slot), fX12_isLeaf_160 N n f a3 a4 t0 = some r → zS G n f H locs → lv_has ls 6 [(3, .int a3), (4, .int a4)] → W p l e (zrm 6) s m args below meth c H locs 0 0 (MQ below (zQc G n f (some (.int r))) args s 0 0 (zA G)) (F0 m 160 ls [.int t0]) := by
  have he := B.1
  have hb := B.2.1
  intro a3 a4 t0 H locs ls h hS hl
  unfold fX12_isLeaf_160 at h
  refine lv_istore (lv' := [(5, _), (3, _), (4, _)]) he hb dX12_isLeaf_160 hl (by decide) rfl (fun ls hl => ?_)
  refine lv_iload_n he hb dX12_isLeaf_162 rfl (lv_at hl 1 rfl) ?_
  refine lv_bipush (v := (60 : Int32)) he hb dX12_isLeaf_163 (by decide) ?_
  refine lv_icmp_ne (tgt := 183) he hb dX12_isLeaf_165 (by decide) (fun hc => ?_) (fun hc => ?_)
  · rw [if_neg hc] at h
    refine lv_iload_n he hb dX12_isLeaf_183 rfl (lv_at hl 1 rfl) ?_
    refine lv_bipush (v := (61 : Int32)) he hb dX12_isLeaf_184 (by decide) ?_
    refine lv_icmp_ne (tgt := 204) he hb dX12_isLeaf_186 (by decide) (fun hc => ?_) (fun hc => ?_)
    · rw [if_neg hc] at h
      refine lv_iload he hb dX12_isLeaf_204 (lv_at hl 0 rfl) ?_
      refine lv_iload he hb dX12_isLeaf_206 (lv_at hl 2 rfl) ?_
      refine lv_icmp_le (tgt := 215) he hb dX12_isLeaf_208 (by decide) (fun hc => ?_) (fun hc => ?_)
      · rw [if_pos hc] at h
        refine lv_iconst (v := (0 : Int32)) he hb dX12_isLeaf_215 (by decide) ?_
        obtain ⟨hz, rfl⟩ := zbl_i h
        exact z_zret B hS hz dX12_isLeaf_216
      · rw [if_neg hc] at h
        refine lv_iconst (v := (1 : Int32)) he hb dX12_isLeaf_211 (by decide) ?_
        refine lv_goto (tgt := 216) he hb dX12_isLeaf_212 (by decide) ?_
        obtain ⟨hz, rfl⟩ := zbl_i h
        exact z_zret B hS hz dX12_isLeaf_216
    · rw [if_pos hc] at h
      refine lv_iload he hb dX12_isLeaf_189 (lv_at hl 0 rfl) ?_
      refine lv_iload he hb dX12_isLeaf_191 (lv_at hl 2 rfl) ?_
      refine lv_icmp_ne (tgt := 200) he hb dX12_isLeaf_193 (by decide) (fun hc => ?_) (fun hc => ?_)
      · rw [if_neg hc] at h
        refine lv_iconst (v := (0 : Int32)) he hb dX12_isLeaf_200 (by decide) ?_
        refine lv_goto (tgt := 216) he hb dX12_isLeaf_201 (by decide) ?_
        obtain ⟨hz, rfl⟩ := zbl_i h
        exact z_zret B hS hz dX12_isLeaf_216
      · rw [if_pos hc] at h
        refine lv_iconst (v := (1 : Int32)) he hb dX12_isLeaf_196 (by decide) ?_
        refine lv_goto (tgt := 216) he hb dX12_isLeaf_197 (by decide) ?_
        obtain ⟨hz, rfl⟩ := zbl_i h
        exact z_zret B hS hz dX12_isLeaf_216
  · rw [if_pos hc] at h
    refine lv_iload he hb dX12_isLeaf_168 (lv_at hl 0 rfl) ?_
    refine lv_iload he hb dX12_isLeaf_170 (lv_at hl 2 rfl) ?_
    refine lv_icmp_ge (tgt := 179) he hb dX12_isLeaf_172 (by decide) (fun hc => ?_) (fun hc => ?_)
    · rw [if_pos hc] at h
      refine lv_iconst (v := (0 : Int32)) he hb dX12_isLeaf_179 (by decide) ?_
      refine lv_goto (tgt := 216) he hb dX12_isLeaf_180 (by decide) ?_
      obtain ⟨hz, rfl⟩ := zbl_i h
      exact z_zret B hS hz dX12_isLeaf_216
    · rw [if_neg hc] at h
      refine lv_iconst (v := (1 : Int32)) he hb dX12_isLeaf_175 (by decide) ?_
      refine lv_goto (tgt := 216) he hb dX12_isLeaf_176 (by decide) ?_
      obtain ⟨hz, rfl⟩ := zbl_i h
      exact z_zret B hS hz dX12_isLeaf_216
def fX12_isLeaf (N n : Nat) (f : zF) (a0 : Nat) (a1 : Int32) (a2 : Int32) (a3 : Int32) (a4 : Int32) : Option Int32 :=
    (if a2 = (0 : Int32) then ((zck n f 12 a0).bind fun _ => ((fX12_seenBy N n f a0 a1).bind fun x1 => (if x1 = 0 then zbl (0 : Int32) else zbl (1 : Int32)))) else (if a2 = (1 : Int32) then ((zck n f 12 a0).bind fun _ => ((fX12_canGo N n f a0 a1).bind fun x2 => (if x2 = 0 then zbl (1 : Int32) else zbl (0 : Int32)))) else (if a2 = (2 : Int32) then ((zgR n f 12 a0 6).bind fun x3 => ((zlI n f 0 x3 ((141 : Int32) + a1)).bind fun x4 => ((zgR n f 12 a0 6).bind fun x5 => ((zlI n f 0 x5 ((101 : Int32) + a1)).bind fun x6 => (if x4 = x6 then zbl (0 : Int32) else zbl (1 : Int32)))))) else (if a2 = (3 : Int32) then ((zgR n f 12 a0 6).bind fun x7 => ((zlI n f 0 x7 ((95 : Int32) + a1)).bind fun x8 => (if x8 = a4 then zbl (1 : Int32) else zbl (0 : Int32)))) else (if a2 = (4 : Int32) then ((zck n f 12 a0).bind fun _ => ((fX12_seesOf N n f a0 a4).bind fun x9 => ((fX12_bitOf N n f x9 a1).bind fun x10 => zbl x10))) else (if a2 = (5 : Int32) then ((zgR n f 12 a0 6).bind fun x13 => ((zlI n f 0 x13 ((153 : Int32) + a1)).bind fun x14 => (fX12_isLeaf_160 N n f a3 a4 x14))) else (if a2 = (6 : Int32) then ((zgR n f 12 a0 6).bind fun x11 => ((zlI n f 0 x11 ((113 : Int32) + a1)).bind fun x12 => (fX12_isLeaf_160 N n f a3 a4 x12))) else (fX12_isLeaf_160 N n f a3 a4 a1))))))))
set_option maxRecDepth 100000 in
set_option maxHeartbeats 4000000 in
theorem mX12_isLeaf (l : Launch) (G : zG) {N n : Nat} {f : zF} {r : Int32} {a0 : Nat} {a1 : Int32} {a2 : Int32} {a3 : Int32} {a4 : Int32} (h : fX12_isLeaf N n f a0 a1 a2 a3 a4 = some r) : zM l G yX12_isLeaf cX12_isLeaf 6 (some .boolean) 6 n f [zr G a0, .int a1, .int a2, .int a3, .int a4] (some (.int r)) f := by
  refine zM.of (by decide) (Nat.le_of_ble_eq_true rfl) ?_
  intro p e s m args below meth c locs ls B hS hl
  have he := B.1
  have hb := B.2.1
  have hl : lv_has ls 6 [(0, zr G a0), (1, .int a1), (2, .int a2), (3, .int a3), (4, .int a4)] := hl
  unfold fX12_isLeaf at h
  generalize s.heap = H at hS ⊢
  refine lv_iload_n he hb dX12_isLeaf_0 rfl (lv_at hl 2 rfl) ?_
  by_cases hc0 : a2 = (0 : Int32)
  · rw [if_pos hc0] at h
    refine lv_tableIn (tgt := 36) he hb dX12_isLeaf_1 (by rw [hc0]; decide) (by rw [hc0]; decide) (by rw [hc0]; rfl) (by decide) ?_
    refine z_aload_n he hb dX12_isLeaf_36 rfl (lv_at hl 0 rfl) (zref_r _ _) ?_
    refine lv_iload_n he hb dX12_isLeaf_37 rfl (lv_at hl 1 rfl) ?_
    obtain ⟨_, hc, h⟩ := zob h
    obtain ⟨x1, hx, h⟩ := zob h
    refine z_callV (ci := 12) (T := TX12) (N := 50) (rest := []) B hS (mX12_seenBy l G hx) zy_X12_seenBy zk_1632 (by decide) hc rfl rfl hl rfl (Nat.le_of_ble_eq_true rfl) dX12_isLeaf_38 (kk := (fun H locs hS => ?_))
    refine lv_if_eq (tgt := 48) he hb dX12_isLeaf_41 (by decide) (fun hc => ?_) (fun hc => ?_)
    · rw [if_pos hc] at h
      refine lv_iconst (v := (0 : Int32)) he hb dX12_isLeaf_48 (by decide) ?_
      obtain ⟨hz, rfl⟩ := zbl_i h
      exact z_zret B hS hz dX12_isLeaf_49
    · rw [if_neg hc] at h
      refine lv_iconst (v := (1 : Int32)) he hb dX12_isLeaf_44 (by decide) ?_
      refine lv_goto (tgt := 49) he hb dX12_isLeaf_45 (by decide) ?_
      obtain ⟨hz, rfl⟩ := zbl_i h
      exact z_zret B hS hz dX12_isLeaf_49
  rw [if_neg hc0] at h
  by_cases hc1 : a2 = (1 : Int32)
  · rw [if_pos hc1] at h
    refine lv_tableIn (tgt := 50) he hb dX12_isLeaf_1 (by rw [hc1]; decide) (by rw [hc1]; decide) (by rw [hc1]; rfl) (by decide) ?_
    refine z_aload_n he hb dX12_isLeaf_50 rfl (lv_at hl 0 rfl) (zref_r _ _) ?_
    refine lv_iload_n he hb dX12_isLeaf_51 rfl (lv_at hl 1 rfl) ?_
    obtain ⟨_, hc, h⟩ := zob h
    obtain ⟨x2, hx, h⟩ := zob h
    refine z_callV (ci := 12) (T := TX12) (N := 50) (rest := []) B hS (mX12_canGo l G hx) zy_X12_canGo zk_1663 (by decide) hc rfl rfl hl rfl (Nat.le_of_ble_eq_true rfl) dX12_isLeaf_52 (kk := (fun H locs hS => ?_))
    refine lv_if_ne (tgt := 62) he hb dX12_isLeaf_55 (by decide) (fun hc => ?_) (fun hc => ?_)
    · rw [if_neg hc] at h
      refine lv_iconst (v := (0 : Int32)) he hb dX12_isLeaf_62 (by decide) ?_
      obtain ⟨hz, rfl⟩ := zbl_i h
      exact z_zret B hS hz dX12_isLeaf_63
    · rw [if_pos hc] at h
      refine lv_iconst (v := (1 : Int32)) he hb dX12_isLeaf_58 (by decide) ?_
      refine lv_goto (tgt := 63) he hb dX12_isLeaf_59 (by decide) ?_
      obtain ⟨hz, rfl⟩ := zbl_i h
      exact z_zret B hS hz dX12_isLeaf_63
  rw [if_neg hc1] at h
  by_cases hc2 : a2 = (2 : Int32)
  · rw [if_pos hc2] at h
    refine lv_tableIn (tgt := 64) he hb dX12_isLeaf_1 (by rw [hc2]; decide) (by rw [hc2]; decide) (by rw [hc2]; rfl) (by decide) ?_
    refine z_aload_n he hb dX12_isLeaf_64 rfl (lv_at hl 0 rfl) (zref_r _ _) ?_
    obtain ⟨x3, hx, h⟩ := zob h
    refine z_getR (ci := 12) (T := TX12) (N := 50) (j := 6) B hS hx rfl zin_X12 (by decide) zk_1353 dX12_isLeaf_65 ?_
    refine lv_sipush (v := (141 : Int32)) he hb dX12_isLeaf_68 (by decide) ?_
    refine lv_iload_n he hb dX12_isLeaf_71 rfl (lv_at hl 1 rfl) ?_
    refine lv_iadd he hb dX12_isLeaf_72 ?_
    obtain ⟨x4, hx, h⟩ := zob h
    refine z_ildI B hS hx dX12_isLeaf_73 ?_
    refine z_aload_n he hb dX12_isLeaf_74 rfl (lv_at hl 0 rfl) (zref_r _ _) ?_
    obtain ⟨x5, hx, h⟩ := zob h
    refine z_getR (ci := 12) (T := TX12) (N := 50) (j := 6) B hS hx rfl zin_X12 (by decide) zk_1353 dX12_isLeaf_75 ?_
    refine lv_bipush (v := (101 : Int32)) he hb dX12_isLeaf_78 (by decide) ?_
    refine lv_iload_n he hb dX12_isLeaf_80 rfl (lv_at hl 1 rfl) ?_
    refine lv_iadd he hb dX12_isLeaf_81 ?_
    obtain ⟨x6, hx, h⟩ := zob h
    refine z_ildI B hS hx dX12_isLeaf_82 ?_
    refine lv_icmp_eq (tgt := 90) he hb dX12_isLeaf_83 (by decide) (fun hc => ?_) (fun hc => ?_)
    · rw [if_pos hc] at h
      refine lv_iconst (v := (0 : Int32)) he hb dX12_isLeaf_90 (by decide) ?_
      obtain ⟨hz, rfl⟩ := zbl_i h
      exact z_zret B hS hz dX12_isLeaf_91
    · rw [if_neg hc] at h
      refine lv_iconst (v := (1 : Int32)) he hb dX12_isLeaf_86 (by decide) ?_
      refine lv_goto (tgt := 91) he hb dX12_isLeaf_87 (by decide) ?_
      obtain ⟨hz, rfl⟩ := zbl_i h
      exact z_zret B hS hz dX12_isLeaf_91
  rw [if_neg hc2] at h
  by_cases hc3 : a2 = (3 : Int32)
  · rw [if_pos hc3] at h
    refine lv_tableIn (tgt := 92) he hb dX12_isLeaf_1 (by rw [hc3]; decide) (by rw [hc3]; decide) (by rw [hc3]; rfl) (by decide) ?_
    refine z_aload_n he hb dX12_isLeaf_92 rfl (lv_at hl 0 rfl) (zref_r _ _) ?_
    obtain ⟨x7, hx, h⟩ := zob h
    refine z_getR (ci := 12) (T := TX12) (N := 50) (j := 6) B hS hx rfl zin_X12 (by decide) zk_1353 dX12_isLeaf_93 ?_
    refine lv_bipush (v := (95 : Int32)) he hb dX12_isLeaf_96 (by decide) ?_
    refine lv_iload_n he hb dX12_isLeaf_98 rfl (lv_at hl 1 rfl) ?_
    refine lv_iadd he hb dX12_isLeaf_99 ?_
    obtain ⟨x8, hx, h⟩ := zob h
    refine z_ildI B hS hx dX12_isLeaf_100 ?_
    refine lv_iload he hb dX12_isLeaf_101 (lv_at hl 4 rfl) ?_
    refine lv_icmp_ne (tgt := 110) he hb dX12_isLeaf_103 (by decide) (fun hc => ?_) (fun hc => ?_)
    · rw [if_neg hc] at h
      refine lv_iconst (v := (0 : Int32)) he hb dX12_isLeaf_110 (by decide) ?_
      obtain ⟨hz, rfl⟩ := zbl_i h
      exact z_zret B hS hz dX12_isLeaf_111
    · rw [if_pos hc] at h
      refine lv_iconst (v := (1 : Int32)) he hb dX12_isLeaf_106 (by decide) ?_
      refine lv_goto (tgt := 111) he hb dX12_isLeaf_107 (by decide) ?_
      obtain ⟨hz, rfl⟩ := zbl_i h
      exact z_zret B hS hz dX12_isLeaf_111
  rw [if_neg hc3] at h
  by_cases hc4 : a2 = (4 : Int32)
  · rw [if_pos hc4] at h
    refine lv_tableIn (tgt := 112) he hb dX12_isLeaf_1 (by rw [hc4]; decide) (by rw [hc4]; decide) (by rw [hc4]; rfl) (by decide) ?_
    refine z_aload_n he hb dX12_isLeaf_112 rfl (lv_at hl 0 rfl) (zref_r _ _) ?_
    refine lv_iload he hb dX12_isLeaf_113 (lv_at hl 4 rfl) ?_
    obtain ⟨_, hc, h⟩ := zob h
    obtain ⟨x9, hx, h⟩ := zob h
    refine z_callV (ci := 12) (T := TX12) (N := 50) (rest := []) B hS (mX12_seesOf l G hx) zy_X12_seesOf zk_1636 (by decide) hc rfl rfl hl rfl (Nat.le_of_ble_eq_true rfl) dX12_isLeaf_115 (kk := (fun H locs hS => ?_))
    refine lv_iload_n he hb dX12_isLeaf_118 rfl (lv_at hl 1 rfl) ?_
    obtain ⟨x10, hx, h⟩ := zob h
    refine z_callS (rest := []) B hS (mX12_bitOf l G hx) zy_X12_bitOf zk_1648 (by decide) rfl hl rfl (Nat.le_of_ble_eq_true rfl) dX12_isLeaf_119 (kk := (fun H locs hS => ?_))
    obtain ⟨hz, rfl⟩ := zbl_i h
    exact z_zret B hS hz dX12_isLeaf_122
  rw [if_neg hc4] at h
  refine lv_tableOut (tgt := 123) he hb dX12_isLeaf_1 ?_ (by decide) ?_
  · have h0 := lv_neT hc0 (a := 0) rfl; have h1 := lv_neT hc1 (a := 1) rfl; have h2 := lv_neT hc2 (a := 2) rfl; have h3 := lv_neT hc3 (a := 3) rfl; have h4 := lv_neT hc4 (a := 4) rfl; omega
  · skip
    refine lv_iload_n he hb dX12_isLeaf_123 rfl (lv_at hl 2 rfl) ?_
    refine lv_iconst (v := (5 : Int32)) he hb dX12_isLeaf_124 (by decide) ?_
    refine lv_icmp_ne (tgt := 141) he hb dX12_isLeaf_125 (by decide) (fun hc => ?_) (fun hc => ?_)
    · rw [if_neg hc] at h
      refine lv_iload_n he hb dX12_isLeaf_141 rfl (lv_at hl 2 rfl) ?_
      refine lv_bipush (v := (6 : Int32)) he hb dX12_isLeaf_142 (by decide) ?_
      refine lv_icmp_ne (tgt := 159) he hb dX12_isLeaf_144 (by decide) (fun hc => ?_) (fun hc => ?_)
      · rw [if_neg hc] at h
        refine lv_iload_n he hb dX12_isLeaf_159 rfl (lv_at hl 1 rfl) ?_
        exact gX12_isLeaf_160 l B _ _ _ _ _ _ h hS (lv_sub hl [3, 4] rfl)
      · rw [if_pos hc] at h
        refine z_aload_n he hb dX12_isLeaf_147 rfl (lv_at hl 0 rfl) (zref_r _ _) ?_
        obtain ⟨x11, hx, h⟩ := zob h
        refine z_getR (ci := 12) (T := TX12) (N := 50) (j := 6) B hS hx rfl zin_X12 (by decide) zk_1353 dX12_isLeaf_148 ?_
        refine lv_bipush (v := (113 : Int32)) he hb dX12_isLeaf_151 (by decide) ?_
        refine lv_iload_n he hb dX12_isLeaf_153 rfl (lv_at hl 1 rfl) ?_
        refine lv_iadd he hb dX12_isLeaf_154 ?_
        obtain ⟨x12, hx, h⟩ := zob h
        refine z_ildI B hS hx dX12_isLeaf_155 ?_
        refine lv_goto (tgt := 160) he hb dX12_isLeaf_156 (by decide) ?_
        exact gX12_isLeaf_160 l B _ _ _ _ _ _ h hS (lv_sub hl [3, 4] rfl)
    · rw [if_pos hc] at h
      refine z_aload_n he hb dX12_isLeaf_128 rfl (lv_at hl 0 rfl) (zref_r _ _) ?_
      obtain ⟨x13, hx, h⟩ := zob h
      refine z_getR (ci := 12) (T := TX12) (N := 50) (j := 6) B hS hx rfl zin_X12 (by decide) zk_1353 dX12_isLeaf_129 ?_
      refine lv_sipush (v := (153 : Int32)) he hb dX12_isLeaf_132 (by decide) ?_
      refine lv_iload_n he hb dX12_isLeaf_135 rfl (lv_at hl 1 rfl) ?_
      refine lv_iadd he hb dX12_isLeaf_136 ?_
      obtain ⟨x14, hx, h⟩ := zob h
      refine z_ildI B hS hx dX12_isLeaf_137 ?_
      refine lv_goto (tgt := 160) he hb dX12_isLeaf_138 (by decide) ?_
      exact gX12_isLeaf_160 l B _ _ _ _ _ _ h hS (lv_sub hl [3, 4] rfl)
theorem dX12_isSaid_0 : decode cX12_isSaid 0 = .ok (.iconst 0, 1) := by decide +kernel
theorem dX12_isSaid_1 : decode cX12_isSaid 1 = .ok (.istore_n 2, 1) := by decide +kernel
theorem dX12_isSaid_2 : decode cX12_isSaid 2 = .ok (.iconst 0, 1) := by decide +kernel
theorem dX12_isSaid_3 : decode cX12_isSaid 3 = .ok (.istore_n 3, 1) := by decide +kernel
theorem dX12_isSaid_4 : decode cX12_isSaid 4 = .ok (.iload_n 3, 1) := by decide +kernel
theorem dX12_isSaid_5 : decode cX12_isSaid 5 = .ok (.aload_n 0, 1) := by decide +kernel
theorem dX12_isSaid_6 : decode cX12_isSaid 6 = .ok (.getfield 33, 3) := by decide +kernel
theorem dX12_isSaid_9 : decode cX12_isSaid 9 = .ok (.sipush 250, 3) := by decide +kernel
theorem dX12_isSaid_12 : decode cX12_isSaid 12 = .ok (.iaload, 1) := by decide +kernel
theorem dX12_isSaid_13 : decode cX12_isSaid 13 = .ok (.if_icmp .ge 199, 3) := by decide +kernel
theorem dX12_isSaid_16 : decode cX12_isSaid 16 = .ok (.sipush 251, 3) := by decide +kernel
theorem dX12_isSaid_19 : decode cX12_isSaid 19 = .ok (.iconst 3, 1) := by decide +kernel
theorem dX12_isSaid_20 : decode cX12_isSaid 20 = .ok (.iload_n 3, 1) := by decide +kernel
theorem dX12_isSaid_21 : decode cX12_isSaid 21 = .ok (.imul, 1) := by decide +kernel
theorem dX12_isSaid_22 : decode cX12_isSaid 22 = .ok (.iadd, 1) := by decide +kernel
theorem dX12_isSaid_23 : decode cX12_isSaid 23 = .ok (.istore 4, 2) := by decide +kernel
theorem dX12_isSaid_25 : decode cX12_isSaid 25 = .ok (.aload_n 0, 1) := by decide +kernel
theorem dX12_isSaid_26 : decode cX12_isSaid 26 = .ok (.getfield 33, 3) := by decide +kernel
theorem dX12_isSaid_29 : decode cX12_isSaid 29 = .ok (.iload 4, 2) := by decide +kernel
theorem dX12_isSaid_31 : decode cX12_isSaid 31 = .ok (.iaload, 1) := by decide +kernel
theorem dX12_isSaid_32 : decode cX12_isSaid 32 = .ok (.bipush 20, 2) := by decide +kernel
theorem dX12_isSaid_34 : decode cX12_isSaid 34 = .ok (.if_icmp .ne 30, 3) := by decide +kernel
theorem dX12_isSaid_37 : decode cX12_isSaid 37 = .ok (.aload_n 0, 1) := by decide +kernel
theorem dX12_isSaid_38 : decode cX12_isSaid 38 = .ok (.getfield 80, 3) := by decide +kernel
theorem dX12_isSaid_41 : decode cX12_isSaid 41 = .ok (.iload_n 2, 1) := by decide +kernel
theorem dX12_isSaid_42 : decode cX12_isSaid 42 = .ok (.iconst 1, 1) := by decide +kernel
theorem dX12_isSaid_43 : decode cX12_isSaid 43 = .ok (.isub, 1) := by decide +kernel
theorem dX12_isSaid_44 : decode cX12_isSaid 44 = .ok (.aload_n 0, 1) := by decide +kernel
theorem dX12_isSaid_45 : decode cX12_isSaid 45 = .ok (.getfield 80, 3) := by decide +kernel
theorem dX12_isSaid_48 : decode cX12_isSaid 48 = .ok (.iload_n 2, 1) := by decide +kernel
theorem dX12_isSaid_49 : decode cX12_isSaid 49 = .ok (.iconst 1, 1) := by decide +kernel
theorem dX12_isSaid_50 : decode cX12_isSaid 50 = .ok (.isub, 1) := by decide +kernel
theorem dX12_isSaid_51 : decode cX12_isSaid 51 = .ok (.baload, 1) := by decide +kernel
theorem dX12_isSaid_52 : decode cX12_isSaid 52 = .ok (.ifCond .ne 7, 3) := by decide +kernel
theorem dX12_isSaid_55 : decode cX12_isSaid 55 = .ok (.iconst 1, 1) := by decide +kernel
theorem dX12_isSaid_56 : decode cX12_isSaid 56 = .ok (.goto 4, 3) := by decide +kernel
theorem dX12_isSaid_59 : decode cX12_isSaid 59 = .ok (.iconst 0, 1) := by decide +kernel
theorem dX12_isSaid_60 : decode cX12_isSaid 60 = .ok (.bastore, 1) := by decide +kernel
theorem dX12_isSaid_61 : decode cX12_isSaid 61 = .ok (.goto 145, 3) := by decide +kernel
theorem dX12_isSaid_64 : decode cX12_isSaid 64 = .ok (.aload_n 0, 1) := by decide +kernel
theorem dX12_isSaid_65 : decode cX12_isSaid 65 = .ok (.getfield 33, 3) := by decide +kernel
theorem dX12_isSaid_68 : decode cX12_isSaid 68 = .ok (.iload 4, 2) := by decide +kernel
theorem dX12_isSaid_70 : decode cX12_isSaid 70 = .ok (.iaload, 1) := by decide +kernel
theorem dX12_isSaid_71 : decode cX12_isSaid 71 = .ok (.bipush 21, 2) := by decide +kernel
theorem dX12_isSaid_73 : decode cX12_isSaid 73 = .ok (.if_icmp .eq 15, 3) := by decide +kernel
theorem dX12_isSaid_76 : decode cX12_isSaid 76 = .ok (.aload_n 0, 1) := by decide +kernel
theorem dX12_isSaid_77 : decode cX12_isSaid 77 = .ok (.getfield 33, 3) := by decide +kernel
theorem dX12_isSaid_80 : decode cX12_isSaid 80 = .ok (.iload 4, 2) := by decide +kernel
theorem dX12_isSaid_82 : decode cX12_isSaid 82 = .ok (.iaload, 1) := by decide +kernel
theorem dX12_isSaid_83 : decode cX12_isSaid 83 = .ok (.bipush 22, 2) := by decide +kernel
theorem dX12_isSaid_85 : decode cX12_isSaid 85 = .ok (.if_icmp .ne 82, 3) := by decide +kernel
theorem dX12_isSaid_88 : decode cX12_isSaid 88 = .ok (.iinc 2 (-1), 3) := by decide +kernel
theorem dX12_isSaid_91 : decode cX12_isSaid 91 = .ok (.aload_n 0, 1) := by decide +kernel
theorem dX12_isSaid_92 : decode cX12_isSaid 92 = .ok (.getfield 80, 3) := by decide +kernel
theorem dX12_isSaid_95 : decode cX12_isSaid 95 = .ok (.iload_n 2, 1) := by decide +kernel
theorem dX12_isSaid_96 : decode cX12_isSaid 96 = .ok (.iconst 1, 1) := by decide +kernel
theorem dX12_isSaid_97 : decode cX12_isSaid 97 = .ok (.isub, 1) := by decide +kernel
theorem dX12_isSaid_98 : decode cX12_isSaid 98 = .ok (.aload_n 0, 1) := by decide +kernel
theorem dX12_isSaid_99 : decode cX12_isSaid 99 = .ok (.getfield 33, 3) := by decide +kernel
theorem dX12_isSaid_102 : decode cX12_isSaid 102 = .ok (.iload 4, 2) := by decide +kernel
theorem dX12_isSaid_104 : decode cX12_isSaid 104 = .ok (.iaload, 1) := by decide +kernel
theorem dX12_isSaid_105 : decode cX12_isSaid 105 = .ok (.bipush 21, 2) := by decide +kernel
theorem dX12_isSaid_107 : decode cX12_isSaid 107 = .ok (.if_icmp .ne 31, 3) := by decide +kernel
theorem dX12_isSaid_110 : decode cX12_isSaid 110 = .ok (.aload_n 0, 1) := by decide +kernel
theorem dX12_isSaid_111 : decode cX12_isSaid 111 = .ok (.getfield 80, 3) := by decide +kernel
theorem dX12_isSaid_114 : decode cX12_isSaid 114 = .ok (.iload_n 2, 1) := by decide +kernel
theorem dX12_isSaid_115 : decode cX12_isSaid 115 = .ok (.iconst 1, 1) := by decide +kernel
theorem dX12_isSaid_116 : decode cX12_isSaid 116 = .ok (.isub, 1) := by decide +kernel
theorem dX12_isSaid_117 : decode cX12_isSaid 117 = .ok (.baload, 1) := by decide +kernel
theorem dX12_isSaid_118 : decode cX12_isSaid 118 = .ok (.ifCond .eq 16, 3) := by decide +kernel
theorem dX12_isSaid_121 : decode cX12_isSaid 121 = .ok (.aload_n 0, 1) := by decide +kernel
theorem dX12_isSaid_122 : decode cX12_isSaid 122 = .ok (.getfield 80, 3) := by decide +kernel
theorem dX12_isSaid_125 : decode cX12_isSaid 125 = .ok (.iload_n 2, 1) := by decide +kernel
theorem dX12_isSaid_126 : decode cX12_isSaid 126 = .ok (.baload, 1) := by decide +kernel
theorem dX12_isSaid_127 : decode cX12_isSaid 127 = .ok (.ifCond .eq 7, 3) := by decide +kernel
theorem dX12_isSaid_130 : decode cX12_isSaid 130 = .ok (.iconst 1, 1) := by decide +kernel
theorem dX12_isSaid_131 : decode cX12_isSaid 131 = .ok (.goto 32, 3) := by decide +kernel
theorem dX12_isSaid_134 : decode cX12_isSaid 134 = .ok (.iconst 0, 1) := by decide +kernel
theorem dX12_isSaid_135 : decode cX12_isSaid 135 = .ok (.goto 28, 3) := by decide +kernel
theorem dX12_isSaid_138 : decode cX12_isSaid 138 = .ok (.aload_n 0, 1) := by decide +kernel
theorem dX12_isSaid_139 : decode cX12_isSaid 139 = .ok (.getfield 80, 3) := by decide +kernel
theorem dX12_isSaid_142 : decode cX12_isSaid 142 = .ok (.iload_n 2, 1) := by decide +kernel
theorem dX12_isSaid_143 : decode cX12_isSaid 143 = .ok (.iconst 1, 1) := by decide +kernel
theorem dX12_isSaid_144 : decode cX12_isSaid 144 = .ok (.isub, 1) := by decide +kernel
theorem dX12_isSaid_145 : decode cX12_isSaid 145 = .ok (.baload, 1) := by decide +kernel
theorem dX12_isSaid_146 : decode cX12_isSaid 146 = .ok (.ifCond .ne 12, 3) := by decide +kernel
theorem dX12_isSaid_149 : decode cX12_isSaid 149 = .ok (.aload_n 0, 1) := by decide +kernel
theorem dX12_isSaid_150 : decode cX12_isSaid 150 = .ok (.getfield 80, 3) := by decide +kernel
theorem dX12_isSaid_153 : decode cX12_isSaid 153 = .ok (.iload_n 2, 1) := by decide +kernel
theorem dX12_isSaid_154 : decode cX12_isSaid 154 = .ok (.baload, 1) := by decide +kernel
theorem dX12_isSaid_155 : decode cX12_isSaid 155 = .ok (.ifCond .eq 7, 3) := by decide +kernel
theorem dX12_isSaid_158 : decode cX12_isSaid 158 = .ok (.iconst 1, 1) := by decide +kernel
theorem dX12_isSaid_159 : decode cX12_isSaid 159 = .ok (.goto 4, 3) := by decide +kernel
theorem dX12_isSaid_162 : decode cX12_isSaid 162 = .ok (.iconst 0, 1) := by decide +kernel
theorem dX12_isSaid_163 : decode cX12_isSaid 163 = .ok (.bastore, 1) := by decide +kernel
theorem dX12_isSaid_164 : decode cX12_isSaid 164 = .ok (.goto 42, 3) := by decide +kernel
theorem dX12_isSaid_167 : decode cX12_isSaid 167 = .ok (.aload_n 0, 1) := by decide +kernel
theorem dX12_isSaid_168 : decode cX12_isSaid 168 = .ok (.getfield 80, 3) := by decide +kernel
theorem dX12_isSaid_171 : decode cX12_isSaid 171 = .ok (.iload_n 2, 1) := by decide +kernel
theorem dX12_isSaid_172 : decode cX12_isSaid 172 = .ok (.aload_n 0, 1) := by decide +kernel
theorem dX12_isSaid_173 : decode cX12_isSaid 173 = .ok (.iload_n 1, 1) := by decide +kernel
theorem dX12_isSaid_174 : decode cX12_isSaid 174 = .ok (.aload_n 0, 1) := by decide +kernel
theorem dX12_isSaid_175 : decode cX12_isSaid 175 = .ok (.getfield 33, 3) := by decide +kernel
theorem dX12_isSaid_178 : decode cX12_isSaid 178 = .ok (.iload 4, 2) := by decide +kernel
theorem dX12_isSaid_180 : decode cX12_isSaid 180 = .ok (.iaload, 1) := by decide +kernel
theorem dX12_isSaid_181 : decode cX12_isSaid 181 = .ok (.aload_n 0, 1) := by decide +kernel
theorem dX12_isSaid_182 : decode cX12_isSaid 182 = .ok (.getfield 33, 3) := by decide +kernel
theorem dX12_isSaid_185 : decode cX12_isSaid 185 = .ok (.iload 4, 2) := by decide +kernel
theorem dX12_isSaid_187 : decode cX12_isSaid 187 = .ok (.iconst 1, 1) := by decide +kernel
theorem dX12_isSaid_188 : decode cX12_isSaid 188 = .ok (.iadd, 1) := by decide +kernel
theorem dX12_isSaid_189 : decode cX12_isSaid 189 = .ok (.iaload, 1) := by decide +kernel
theorem dX12_isSaid_190 : decode cX12_isSaid 190 = .ok (.aload_n 0, 1) := by decide +kernel
theorem dX12_isSaid_191 : decode cX12_isSaid 191 = .ok (.getfield 33, 3) := by decide +kernel
theorem dX12_isSaid_194 : decode cX12_isSaid 194 = .ok (.iload 4, 2) := by decide +kernel
theorem dX12_isSaid_196 : decode cX12_isSaid 196 = .ok (.iconst 2, 1) := by decide +kernel
theorem dX12_isSaid_197 : decode cX12_isSaid 197 = .ok (.iadd, 1) := by decide +kernel
theorem dX12_isSaid_198 : decode cX12_isSaid 198 = .ok (.iaload, 1) := by decide +kernel
theorem dX12_isSaid_199 : decode cX12_isSaid 199 = .ok (.invokevirtual 487, 3) := by decide +kernel
theorem dX12_isSaid_202 : decode cX12_isSaid 202 = .ok (.bastore, 1) := by decide +kernel
theorem dX12_isSaid_203 : decode cX12_isSaid 203 = .ok (.iinc 2 1, 3) := by decide +kernel
theorem dX12_isSaid_206 : decode cX12_isSaid 206 = .ok (.iinc 3 1, 3) := by decide +kernel
theorem dX12_isSaid_209 : decode cX12_isSaid 209 = .ok (.goto (-205), 3) := by decide +kernel
theorem dX12_isSaid_212 : decode cX12_isSaid 212 = .ok (.aload_n 0, 1) := by decide +kernel
theorem dX12_isSaid_213 : decode cX12_isSaid 213 = .ok (.getfield 80, 3) := by decide +kernel
theorem dX12_isSaid_216 : decode cX12_isSaid 216 = .ok (.iconst 0, 1) := by decide +kernel
theorem dX12_isSaid_217 : decode cX12_isSaid 217 = .ok (.baload, 1) := by decide +kernel
theorem dX12_isSaid_218 : decode cX12_isSaid 218 = .ok (.ireturn, 1) := by decide +kernel
def fX12_isSaid_206 (r4 : zF → Nat → Int32 → Int32 → Int32 → Option (zF × Int32)) (N n : Nat) (f : zF) (a0 : Nat) (a1 : Int32) (a2 : Int32) (a3 : Int32) : Option (zF × Int32) :=
    (r4 f a0 a1 a2 (a3 + 1))
set_option maxRecDepth 100000 in
set_option maxHeartbeats 4000000 in
theorem gX12_isSaid_206 (l : Launch) {G : zG} {p : Program} {e : Env} {s : State} {m : MethodId} {args : Array Value} {below : List Frame} {meth : Method} {c : Code} {N n : Nat} {f9 : zF} {r : Int32} {r4 : zF → Nat → Int32 → Int32 → Int32 → Option (zF × Int32)} (B : zB G p s m args meth c RX12 cX12_isSaid 5 (some .boolean)) (hr4 : ∀ (f : zF) (a0 : Nat) (a1 : Int32) (a2 : Int32) (a3 : Int32) (H : Heap) (locs : List Loc) (ls : Array Slot), r4 f a0 a1 a2 a3 = some (f9, r) → zS G n f H locs → lv_has ls 5 [(0, zr G a0), (1, .int a1), (2, .int a2), (3, .int a3)] → W p l e (zrm 7) s m args below meth c H locs 0 0 (MQ below (zQc G n f9 (some (.int r))) args s 0 0 (zA G)) (F0 m 4 ls [])) : ∀ (f : zF) (a0 : Nat) (a1 : Int32) (a2 : Int32) (a3 : Int32) (H : Heap) (locs : List Loc) (ls : Array Slot), fX12_isSaid_206 r4 N n f a0 a1 a2 a3 = some (f9, r) → zS G n f H locs → lv_has ls 5 [(0, zr G a0), (1, .int a1), (2, .int a2), (3, .int a3)] → W p l e (zrm 7) s m args below meth c H locs 0 0 (MQ below (zQc G n f9 (some (.int r))) args s 0 0 (zA G)) (F0 m 206 ls []) := by
  have he := B.1
  have hb := B.2.1
  intro f a0 a1 a2 a3 H locs ls h hS hl
  unfold fX12_isSaid_206 at h
  refine lv_iinc (v := (a3 + 1)) (lv' := [(3, _), (0, _), (1, _), (2, _)]) he hb dX12_isSaid_206 hl (k := 3) rfl rfl (by decide) rfl (fun ls hl => ?_)
  refine lv_goto (tgt := 4) he hb dX12_isSaid_209 (by decide) ?_
  exact hr4 _ _ _ _ _ _ _ _ h hS (lv_sub hl [1, 2, 3, 0] rfl)
def fX12_isSaid_163 (r4 : zF → Nat → Int32 → Int32 → Int32 → Option (zF × Int32)) (N n : Nat) (f : zF) (a0 : Nat) (a1 : Int32) (a2 : Int32) (a3 : Int32) (t0 : Nat) (t1 : Int32) (t2 : Int32) : Option (zF × Int32) :=
    ((zsZ n f 3 t0 t1 t2).bind fun f14 => (fX12_isSaid_206 r4 N n f14 a0 a1 a2 a3))
set_option maxRecDepth 100000 in
set_option maxHeartbeats 4000000 in
theorem gX12_isSaid_163 (l : Launch) {G : zG} {p : Program} {e : Env} {s : State} {m : MethodId} {args : Array Value} {below : List Frame} {meth : Method} {c : Code} {N n : Nat} {f9 : zF} {r : Int32} {r4 : zF → Nat → Int32 → Int32 → Int32 → Option (zF × Int32)} (B : zB G p s m args meth c RX12 cX12_isSaid 5 (some .boolean)) (hr4 : ∀ (f : zF) (a0 : Nat) (a1 : Int32) (a2 : Int32) (a3 : Int32) (H : Heap) (locs : List Loc) (ls : Array Slot), r4 f a0 a1 a2 a3 = some (f9, r) → zS G n f H locs → lv_has ls 5 [(0, zr G a0), (1, .int a1), (2, .int a2), (3, .int a3)] → W p l e (zrm 7) s m args below meth c H locs 0 0 (MQ below (zQc G n f9 (some (.int r))) args s 0 0 (zA G)) (F0 m 4 ls [])) : ∀ (f : zF) (a0 : Nat) (a1 : Int32) (a2 : Int32) (a3 : Int32) (t0 : Nat) (t1 : Int32) (t2 : Int32) (H : Heap) (locs : List Loc) (ls : Array Slot), fX12_isSaid_163 r4 N n f a0 a1 a2 a3 t0 t1 t2 = some (f9, r) → zS G n f H locs → lv_has ls 5 [(0, zr G a0), (1, .int a1), (2, .int a2), (3, .int a3)] → W p l e (zrm 7) s m args below meth c H locs 0 0 (MQ below (zQc G n f9 (some (.int r))) args s 0 0 (zA G)) (F0 m 163 ls [.int t2, .int t1, zr G t0]) := by
  have he := B.1
  have hb := B.2.1
  intro f a0 a1 a2 a3 t0 t1 t2 H locs ls h hS hl
  unfold fX12_isSaid_163 at h
  obtain ⟨f14, hx, h⟩ := zob h
  refine z_istZ B hS hx dX12_isSaid_163 (fun H locs hS => ?_)
  refine lv_goto (tgt := 206) he hb dX12_isSaid_164 (by decide) ?_
  exact gX12_isSaid_206 l B hr4 _ _ _ _ _ _ _ _ h hS (lv_sub hl [0, 1, 2, 3] rfl)
def fX12_isSaid_158 (r4 : zF → Nat → Int32 → Int32 → Int32 → Option (zF × Int32)) (N n : Nat) (f : zF) (a0 : Nat) (a1 : Int32) (a2 : Int32) (a3 : Int32) (t0 : Nat) (t1 : Int32) : Option (zF × Int32) :=
    (fX12_isSaid_163 r4 N n f a0 a1 a2 a3 t0 t1 (1 : Int32))
set_option maxRecDepth 100000 in
set_option maxHeartbeats 4000000 in
theorem gX12_isSaid_158 (l : Launch) {G : zG} {p : Program} {e : Env} {s : State} {m : MethodId} {args : Array Value} {below : List Frame} {meth : Method} {c : Code} {N n : Nat} {f9 : zF} {r : Int32} {r4 : zF → Nat → Int32 → Int32 → Int32 → Option (zF × Int32)} (B : zB G p s m args meth c RX12 cX12_isSaid 5 (some .boolean)) (hr4 : ∀ (f : zF) (a0 : Nat) (a1 : Int32) (a2 : Int32) (a3 : Int32) (H : Heap) (locs : List Loc) (ls : Array Slot), r4 f a0 a1 a2 a3 = some (f9, r) → zS G n f H locs → lv_has ls 5 [(0, zr G a0), (1, .int a1), (2, .int a2), (3, .int a3)] → W p l e (zrm 7) s m args below meth c H locs 0 0 (MQ below (zQc G n f9 (some (.int r))) args s 0 0 (zA G)) (F0 m 4 ls [])) : ∀ (f : zF) (a0 : Nat) (a1 : Int32) (a2 : Int32) (a3 : Int32) (t0 : Nat) (t1 : Int32) (H : Heap) (locs : List Loc) (ls : Array Slot), fX12_isSaid_158 r4 N n f a0 a1 a2 a3 t0 t1 = some (f9, r) → zS G n f H locs → lv_has ls 5 [(0, zr G a0), (1, .int a1), (2, .int a2), (3, .int a3)] → W p l e (zrm 7) s m args below meth c H locs 0 0 (MQ below (zQc G n f9 (some (.int r))) args s 0 0 (zA G)) (F0 m 158 ls [.int t1, zr G t0]) := by
  have he := B.1
  have hb := B.2.1
  intro f a0 a1 a2 a3 t0 t1 H locs ls h hS hl
  unfold fX12_isSaid_158 at h
  refine lv_iconst (v := (1 : Int32)) he hb dX12_isSaid_158 (by decide) ?_
  refine lv_goto (tgt := 163) he hb dX12_isSaid_159 (by decide) ?_
  exact gX12_isSaid_163 l B hr4 _ _ _ _ _ _ _ _ _ _ _ h hS (lv_sub hl [0, 1, 2, 3] rfl)
def fX12_isSaid_134 (r4 : zF → Nat → Int32 → Int32 → Int32 → Option (zF × Int32)) (N n : Nat) (f : zF) (a0 : Nat) (a1 : Int32) (a2 : Int32) (a3 : Int32) (t0 : Nat) (t1 : Int32) : Option (zF × Int32) :=
    (fX12_isSaid_163 r4 N n f a0 a1 a2 a3 t0 t1 (0 : Int32))
set_option maxRecDepth 100000 in
set_option maxHeartbeats 4000000 in
theorem gX12_isSaid_134 (l : Launch) {G : zG} {p : Program} {e : Env} {s : State} {m : MethodId} {args : Array Value} {below : List Frame} {meth : Method} {c : Code} {N n : Nat} {f9 : zF} {r : Int32} {r4 : zF → Nat → Int32 → Int32 → Int32 → Option (zF × Int32)} (B : zB G p s m args meth c RX12 cX12_isSaid 5 (some .boolean)) (hr4 : ∀ (f : zF) (a0 : Nat) (a1 : Int32) (a2 : Int32) (a3 : Int32) (H : Heap) (locs : List Loc) (ls : Array Slot), r4 f a0 a1 a2 a3 = some (f9, r) → zS G n f H locs → lv_has ls 5 [(0, zr G a0), (1, .int a1), (2, .int a2), (3, .int a3)] → W p l e (zrm 7) s m args below meth c H locs 0 0 (MQ below (zQc G n f9 (some (.int r))) args s 0 0 (zA G)) (F0 m 4 ls [])) : ∀ (f : zF) (a0 : Nat) (a1 : Int32) (a2 : Int32) (a3 : Int32) (t0 : Nat) (t1 : Int32) (H : Heap) (locs : List Loc) (ls : Array Slot), fX12_isSaid_134 r4 N n f a0 a1 a2 a3 t0 t1 = some (f9, r) → zS G n f H locs → lv_has ls 5 [(0, zr G a0), (1, .int a1), (2, .int a2), (3, .int a3)] → W p l e (zrm 7) s m args below meth c H locs 0 0 (MQ below (zQc G n f9 (some (.int r))) args s 0 0 (zA G)) (F0 m 134 ls [.int t1, zr G t0]) := by
  have he := B.1
  have hb := B.2.1
  intro f a0 a1 a2 a3 t0 t1 H locs ls h hS hl
  unfold fX12_isSaid_134 at h
  refine lv_iconst (v := (0 : Int32)) he hb dX12_isSaid_134 (by decide) ?_
  refine lv_goto (tgt := 163) he hb dX12_isSaid_135 (by decide) ?_
  exact gX12_isSaid_163 l B hr4 _ _ _ _ _ _ _ _ _ _ _ h hS (lv_sub hl [0, 1, 2, 3] rfl)
def fX12_isSaid_88 (r4 : zF → Nat → Int32 → Int32 → Int32 → Option (zF × Int32)) (N n : Nat) (f : zF) (a0 : Nat) (a1 : Int32) (a2 : Int32) (a3 : Int32) (a4 : Int32) : Option (zF × Int32) :=
    ((zgR n f 12 a0 46).bind fun x9 => ((zgR n f 12 a0 6).bind fun x10 => ((zlI n f 0 x10 a4).bind fun x11 => (if x11 = (21 : Int32) then ((zgR n f 12 a0 46).bind fun x17 => ((zlI n f 3 x17 ((a2 + (-1)) - (1 : Int32))).bind fun x18 => (if x18 = 0 then (fX12_isSaid_134 r4 N n f a0 a1 (a2 + (-1)) a3 x9 ((a2 + (-1)) - (1 : Int32))) else ((zgR n f 12 a0 46).bind fun x19 => ((zlI n f 3 x19 (a2 + (-1))).bind fun x20 => (if x20 = 0 then (fX12_isSaid_134 r4 N n f a0 a1 (a2 + (-1)) a3 x9 ((a2 + (-1)) - (1 : Int32))) else (fX12_isSaid_163 r4 N n f a0 a1 (a2 + (-1)) a3 x9 ((a2 + (-1)) - (1 : Int32)) (1 : Int32)))))))) else ((zgR n f 12 a0 46).bind fun x12 => ((zlI n f 3 x12 ((a2 + (-1)) - (1 : Int32))).bind fun x13 => (if x13 = 0 then ((zgR n f 12 a0 46).bind fun x15 => ((zlI n f 3 x15 (a2 + (-1))).bind fun x16 => (if x16 = 0 then (fX12_isSaid_163 r4 N n f a0 a1 (a2 + (-1)) a3 x9 ((a2 + (-1)) - (1 : Int32)) (0 : Int32)) else (fX12_isSaid_158 r4 N n f a0 a1 (a2 + (-1)) a3 x9 ((a2 + (-1)) - (1 : Int32)))))) else (fX12_isSaid_158 r4 N n f a0 a1 (a2 + (-1)) a3 x9 ((a2 + (-1)) - (1 : Int32))))))))))
set_option maxRecDepth 100000 in
set_option maxHeartbeats 4000000 in
theorem gX12_isSaid_88 (l : Launch) {G : zG} {p : Program} {e : Env} {s : State} {m : MethodId} {args : Array Value} {below : List Frame} {meth : Method} {c : Code} {N n : Nat} {f9 : zF} {r : Int32} {r4 : zF → Nat → Int32 → Int32 → Int32 → Option (zF × Int32)} (B : zB G p s m args meth c RX12 cX12_isSaid 5 (some .boolean)) (hr4 : ∀ (f : zF) (a0 : Nat) (a1 : Int32) (a2 : Int32) (a3 : Int32) (H : Heap) (locs : List Loc) (ls : Array Slot), r4 f a0 a1 a2 a3 = some (f9, r) → zS G n f H locs → lv_has ls 5 [(0, zr G a0), (1, .int a1), (2, .int a2), (3, .int a3)] → W p l e (zrm 7) s m args below meth c H locs 0 0 (MQ below (zQc G n f9 (some (.int r))) args s 0 0 (zA G)) (F0 m 4 ls [])) : ∀ (f : zF) (a0 : Nat) (a1 : Int32) (a2 : Int32) (a3 : Int32) (a4 : Int32) (H : Heap) (locs : List Loc) (ls : Array Slot), fX12_isSaid_88 r4 N n f a0 a1 a2 a3 a4 = some (f9, r) → zS G n f H locs → lv_has ls 5 [(0, zr G a0), (1, .int a1), (2, .int a2), (3, .int a3), (4, .int a4)] → W p l e (zrm 7) s m args below meth c H locs 0 0 (MQ below (zQc G n f9 (some (.int r))) args s 0 0 (zA G)) (F0 m 88 ls []) := by
  have he := B.1
  have hb := B.2.1
  intro f a0 a1 a2 a3 a4 H locs ls h hS hl
  unfold fX12_isSaid_88 at h
  refine lv_iinc (v := (a2 + (-1))) (lv' := [(2, _), (0, _), (1, _), (3, _), (4, _)]) he hb dX12_isSaid_88 hl (k := 2) rfl rfl (by decide) rfl (fun ls hl => ?_)
  refine z_aload_n he hb dX12_isSaid_91 rfl (lv_at hl 1 rfl) (zref_r _ _) ?_
  obtain ⟨x9, hx, h⟩ := zob h
  refine z_getR (ci := 12) (T := TX12) (N := 50) (j := 46) B hS hx rfl zin_X12 (by decide) zk_1393 dX12_isSaid_92 ?_
  refine lv_iload_n he hb dX12_isSaid_95 rfl (lv_at hl 0 rfl) ?_
  refine lv_iconst (v := (1 : Int32)) he hb dX12_isSaid_96 (by decide) ?_
  refine lv_isub he hb dX12_isSaid_97 ?_
  refine z_aload_n he hb dX12_isSaid_98 rfl (lv_at hl 1 rfl) (zref_r _ _) ?_
  obtain ⟨x10, hx, h⟩ := zob h
  refine z_getR (ci := 12) (T := TX12) (N := 50) (j := 6) B hS hx rfl zin_X12 (by decide) zk_1353 dX12_isSaid_99 ?_
  refine lv_iload he hb dX12_isSaid_102 (lv_at hl 4 rfl) ?_
  obtain ⟨x11, hx, h⟩ := zob h
  refine z_ildI B hS hx dX12_isSaid_104 ?_
  refine lv_bipush (v := (21 : Int32)) he hb dX12_isSaid_105 (by decide) ?_
  refine lv_icmp_ne (tgt := 138) he hb dX12_isSaid_107 (by decide) (fun hc => ?_) (fun hc => ?_)
  · rw [if_neg hc] at h
    refine z_aload_n he hb dX12_isSaid_138 rfl (lv_at hl 1 rfl) (zref_r _ _) ?_
    obtain ⟨x12, hx, h⟩ := zob h
    refine z_getR (ci := 12) (T := TX12) (N := 50) (j := 46) B hS hx rfl zin_X12 (by decide) zk_1393 dX12_isSaid_139 ?_
    refine lv_iload_n he hb dX12_isSaid_142 rfl (lv_at hl 0 rfl) ?_
    refine lv_iconst (v := (1 : Int32)) he hb dX12_isSaid_143 (by decide) ?_
    refine lv_isub he hb dX12_isSaid_144 ?_
    obtain ⟨x13, hx, h⟩ := zob h
    refine z_ildZ B hS hx dX12_isSaid_145 ?_
    refine lv_if_ne (tgt := 158) he hb dX12_isSaid_146 (by decide) (fun hc => ?_) (fun hc => ?_)
    · rw [if_neg hc] at h
      exact gX12_isSaid_158 l B hr4 _ _ _ _ _ _ _ _ _ _ h hS (lv_sub hl [1, 2, 0, 3] rfl)
    · rw [if_pos hc] at h
      refine z_aload_n he hb dX12_isSaid_149 rfl (lv_at hl 1 rfl) (zref_r _ _) ?_
      obtain ⟨x15, hx, h⟩ := zob h
      refine z_getR (ci := 12) (T := TX12) (N := 50) (j := 46) B hS hx rfl zin_X12 (by decide) zk_1393 dX12_isSaid_150 ?_
      refine lv_iload_n he hb dX12_isSaid_153 rfl (lv_at hl 0 rfl) ?_
      obtain ⟨x16, hx, h⟩ := zob h
      refine z_ildZ B hS hx dX12_isSaid_154 ?_
      refine lv_if_eq (tgt := 162) he hb dX12_isSaid_155 (by decide) (fun hc => ?_) (fun hc => ?_)
      · rw [if_pos hc] at h
        refine lv_iconst (v := (0 : Int32)) he hb dX12_isSaid_162 (by decide) ?_
        exact gX12_isSaid_163 l B hr4 _ _ _ _ _ _ _ _ _ _ _ h hS (lv_sub hl [1, 2, 0, 3] rfl)
      · rw [if_neg hc] at h
        exact gX12_isSaid_158 l B hr4 _ _ _ _ _ _ _ _ _ _ h hS (lv_sub hl [1, 2, 0, 3] rfl)
  · rw [if_pos hc] at h
    refine z_aload_n he hb dX12_isSaid_110 rfl (lv_at hl 1 rfl) (zref_r _ _) ?_
    obtain ⟨x17, hx, h⟩ := zob h
    refine z_getR (ci := 12) (T := TX12) (N := 50) (j := 46) B hS hx rfl zin_X12 (by decide) zk_1393 dX12_isSaid_111 ?_
    refine lv_iload_n he hb dX12_isSaid_114 rfl (lv_at hl 0 rfl) ?_
    refine lv_iconst (v := (1 : Int32)) he hb dX12_isSaid_115 (by decide) ?_
    refine lv_isub he hb dX12_isSaid_116 ?_
    obtain ⟨x18, hx, h⟩ := zob h
    refine z_ildZ B hS hx dX12_isSaid_117 ?_
    refine lv_if_eq (tgt := 134) he hb dX12_isSaid_118 (by decide) (fun hc => ?_) (fun hc => ?_)
    · rw [if_pos hc] at h
      exact gX12_isSaid_134 l B hr4 _ _ _ _ _ _ _ _ _ _ h hS (lv_sub hl [1, 2, 0, 3] rfl)
    · rw [if_neg hc] at h
      refine z_aload_n he hb dX12_isSaid_121 rfl (lv_at hl 1 rfl) (zref_r _ _) ?_
      obtain ⟨x19, hx, h⟩ := zob h
      refine z_getR (ci := 12) (T := TX12) (N := 50) (j := 46) B hS hx rfl zin_X12 (by decide) zk_1393 dX12_isSaid_122 ?_
      refine lv_iload_n he hb dX12_isSaid_125 rfl (lv_at hl 0 rfl) ?_
      obtain ⟨x20, hx, h⟩ := zob h
      refine z_ildZ B hS hx dX12_isSaid_126 ?_
      refine lv_if_eq (tgt := 134) he hb dX12_isSaid_127 (by decide) (fun hc => ?_) (fun hc => ?_)
      · rw [if_pos hc] at h
        exact gX12_isSaid_134 l B hr4 _ _ _ _ _ _ _ _ _ _ h hS (lv_sub hl [1, 2, 0, 3] rfl)
      · rw [if_neg hc] at h
        refine lv_iconst (v := (1 : Int32)) he hb dX12_isSaid_130 (by decide) ?_
        refine lv_goto (tgt := 163) he hb dX12_isSaid_131 (by decide) ?_
        exact gX12_isSaid_163 l B hr4 _ _ _ _ _ _ _ _ _ _ _ h hS (lv_sub hl [1, 2, 0, 3] rfl)
def fX12_isSaid_60 (r4 : zF → Nat → Int32 → Int32 → Int32 → Option (zF × Int32)) (N n : Nat) (f : zF) (a0 : Nat) (a1 : Int32) (a2 : Int32) (a3 : Int32) (t0 : Nat) (t1 : Int32) (t2 : Int32) : Option (zF × Int32) :=
    ((zsZ n f 3 t0 t1 t2).bind fun f35 => (fX12_isSaid_206 r4 N n f35 a0 a1 a2 a3))
set_option maxRecDepth 100000 in
set_option maxHeartbeats 4000000 in
theorem gX12_isSaid_60 (l : Launch) {G : zG} {p : Program} {e : Env} {s : State} {m : MethodId} {args : Array Value} {below : List Frame} {meth : Method} {c : Code} {N n : Nat} {f9 : zF} {r : Int32} {r4 : zF → Nat → Int32 → Int32 → Int32 → Option (zF × Int32)} (B : zB G p s m args meth c RX12 cX12_isSaid 5 (some .boolean)) (hr4 : ∀ (f : zF) (a0 : Nat) (a1 : Int32) (a2 : Int32) (a3 : Int32) (H : Heap) (locs : List Loc) (ls : Array Slot), r4 f a0 a1 a2 a3 = some (f9, r) → zS G n f H locs → lv_has ls 5 [(0, zr G a0), (1, .int a1), (2, .int a2), (3, .int a3)] → W p l e (zrm 7) s m args below meth c H locs 0 0 (MQ below (zQc G n f9 (some (.int r))) args s 0 0 (zA G)) (F0 m 4 ls [])) : ∀ (f : zF) (a0 : Nat) (a1 : Int32) (a2 : Int32) (a3 : Int32) (t0 : Nat) (t1 : Int32) (t2 : Int32) (H : Heap) (locs : List Loc) (ls : Array Slot), fX12_isSaid_60 r4 N n f a0 a1 a2 a3 t0 t1 t2 = some (f9, r) → zS G n f H locs → lv_has ls 5 [(0, zr G a0), (1, .int a1), (2, .int a2), (3, .int a3)] → W p l e (zrm 7) s m args below meth c H locs 0 0 (MQ below (zQc G n f9 (some (.int r))) args s 0 0 (zA G)) (F0 m 60 ls [.int t2, .int t1, zr G t0]) := by
  have he := B.1
  have hb := B.2.1
  intro f a0 a1 a2 a3 t0 t1 t2 H locs ls h hS hl
  unfold fX12_isSaid_60 at h
  obtain ⟨f35, hx, h⟩ := zob h
  refine z_istZ B hS hx dX12_isSaid_60 (fun H locs hS => ?_)
  refine lv_goto (tgt := 206) he hb dX12_isSaid_61 (by decide) ?_
  exact gX12_isSaid_206 l B hr4 _ _ _ _ _ _ _ _ h hS (lv_sub hl [0, 1, 2, 3] rfl)
def fX12_isSaid_4 (N n : Nat) : Nat → zF → Nat → Int32 → Int32 → Int32 → Option (zF × Int32)
  | 0, _, _, _, _, _ => none
  | k + 1, f, a0, a1, a2, a3 =>
    ((zgR n f 12 a0 6).bind fun x1 => ((zlI n f 0 x1 (250 : Int32)).bind fun x2 => (if x2 ≤ a3 then ((zgR n f 12 a0 46).bind fun x3 => ((zlI n f 3 x3 (0 : Int32)).bind fun x4 => ((zbl x4).bind fun y => some (f, y)))) else ((zgR n f 12 a0 6).bind fun x5 => ((zlI n f 0 x5 ((251 : Int32) + ((3 : Int32) * a3))).bind fun x6 => (if x6 = (20 : Int32) then ((zgR n f 12 a0 46).bind fun x32 => ((zgR n f 12 a0 46).bind fun x33 => ((zlI n f 3 x33 (a2 - (1 : Int32))).bind fun x34 => (if x34 = 0 then (fX12_isSaid_60 (fX12_isSaid_4 N n k) N n f a0 a1 a2 a3 x32 (a2 - (1 : Int32)) (1 : Int32)) else (fX12_isSaid_60 (fX12_isSaid_4 N n k) N n f a0 a1 a2 a3 x32 (a2 - (1 : Int32)) (0 : Int32)))))) else ((zgR n f 12 a0 6).bind fun x7 => ((zlI n f 0 x7 ((251 : Int32) + ((3 : Int32) * a3))).bind fun x8 => (if x8 = (21 : Int32) then (fX12_isSaid_88 (fX12_isSaid_4 N n k) N n f a0 a1 a2 a3 ((251 : Int32) + ((3 : Int32) * a3))) else ((zgR n f 12 a0 6).bind fun x21 => ((zlI n f 0 x21 ((251 : Int32) + ((3 : Int32) * a3))).bind fun x22 => (if x22 = (22 : Int32) then (fX12_isSaid_88 (fX12_isSaid_4 N n k) N n f a0 a1 a2 a3 ((251 : Int32) + ((3 : Int32) * a3))) else ((zgR n f 12 a0 46).bind fun x23 => ((zgR n f 12 a0 6).bind fun x24 => ((zlI n f 0 x24 ((251 : Int32) + ((3 : Int32) * a3))).bind fun x25 => ((zgR n f 12 a0 6).bind fun x26 => ((zlI n f 0 x26 (((251 : Int32) + ((3 : Int32) * a3)) + (1 : Int32))).bind fun x27 => ((zgR n f 12 a0 6).bind fun x28 => ((zlI n f 0 x28 (((251 : Int32) + ((3 : Int32) * a3)) + (2 : Int32))).bind fun x29 => ((zck n f 12 a0).bind fun _ => ((fX12_isLeaf N n f a0 a1 x25 x27 x29).bind fun x30 => ((zsZ n f 3 x23 a2 x30).bind fun f31 => (fX12_isSaid_206 (fX12_isSaid_4 N n k) N n f31 a0 a1 (a2 + 1) a3)))))))))))))))))))))))
set_option maxRecDepth 100000 in
set_option maxHeartbeats 4000000 in
theorem gX12_isSaid_4 (l : Launch) {G : zG} {p : Program} {e : Env} {s : State} {m : MethodId} {args : Array Value} {below : List Frame} {meth : Method} {c : Code} {N n : Nat} {f9 : zF} {r : Int32} (B : zB G p s m args meth c RX12 cX12_isSaid 5 (some .boolean)) : ∀ (k : Nat), ∀ (f : zF) (a0 : Nat) (a1 : Int32) (a2 : Int32) (a3 : Int32) (H : Heap) (locs : List Loc) (ls : Array Slot), fX12_isSaid_4 N n k f a0 a1 a2 a3 = some (f9, r) → zS G n f H locs → lv_has ls 5 [(0, zr G a0), (1, .int a1), (2, .int a2), (3, .int a3)] → W p l e (zrm 7) s m args below meth c H locs 0 0 (MQ below (zQc G n f9 (some (.int r))) args s 0 0 (zA G)) (F0 m 4 ls []) := by
  have he := B.1
  have hb := B.2.1
  intro k
  induction k with
  | zero =>
    intro f a0 a1 a2 a3 H locs ls h
    unfold fX12_isSaid_4 at h
    cases h
  | succ k ih =>
    intro f a0 a1 a2 a3 H locs ls h hS hl
    unfold fX12_isSaid_4 at h
    refine lv_iload_n he hb dX12_isSaid_4 rfl (lv_at hl 3 rfl) ?_
    refine z_aload_n he hb dX12_isSaid_5 rfl (lv_at hl 0 rfl) (zref_r _ _) ?_
    obtain ⟨x1, hx, h⟩ := zob h
    refine z_getR (ci := 12) (T := TX12) (N := 50) (j := 6) B hS hx rfl zin_X12 (by decide) zk_1353 dX12_isSaid_6 ?_
    refine lv_sipush (v := (250 : Int32)) he hb dX12_isSaid_9 (by decide) ?_
    obtain ⟨x2, hx, h⟩ := zob h
    refine z_ildI B hS hx dX12_isSaid_12 ?_
    refine lv_icmp_ge (tgt := 212) he hb dX12_isSaid_13 (by decide) (fun hc => ?_) (fun hc => ?_)
    · rw [if_pos hc] at h
      refine z_aload_n he hb dX12_isSaid_212 rfl (lv_at hl 0 rfl) (zref_r _ _) ?_
      obtain ⟨x3, hx, h⟩ := zob h
      refine z_getR (ci := 12) (T := TX12) (N := 50) (j := 46) B hS hx rfl zin_X12 (by decide) zk_1393 dX12_isSaid_213 ?_
      refine lv_iconst (v := (0 : Int32)) he hb dX12_isSaid_216 (by decide) ?_
      obtain ⟨x4, hx, h⟩ := zob h
      refine z_ildZ B hS hx dX12_isSaid_217 ?_
      obtain ⟨y, hx, h⟩ := zob h
      obtain ⟨hz, rfl⟩ := zbl_i hx
      obtain ⟨rfl, rfl⟩ := Prod.mk.inj (Option.some.inj h)
      exact z_zret B hS hz dX12_isSaid_218
    · rw [if_neg hc] at h
      refine lv_sipush (v := (251 : Int32)) he hb dX12_isSaid_16 (by decide) ?_
      refine lv_iconst (v := (3 : Int32)) he hb dX12_isSaid_19 (by decide) ?_
      refine lv_iload_n he hb dX12_isSaid_20 rfl (lv_at hl 3 rfl) ?_
      refine lv_imul he hb dX12_isSaid_21 ?_
      refine lv_iadd he hb dX12_isSaid_22 ?_
      refine lv_istore (lv' := [(4, _), (0, _), (1, _), (2, _), (3, _)]) he hb dX12_isSaid_23 hl (by decide) rfl (fun ls hl => ?_)
      refine z_aload_n he hb dX12_isSaid_25 rfl (lv_at hl 1 rfl) (zref_r _ _) ?_
      obtain ⟨x5, hx, h⟩ := zob h
      refine z_getR (ci := 12) (T := TX12) (N := 50) (j := 6) B hS hx rfl zin_X12 (by decide) zk_1353 dX12_isSaid_26 ?_
      refine lv_iload he hb dX12_isSaid_29 (lv_at hl 0 rfl) ?_
      obtain ⟨x6, hx, h⟩ := zob h
      refine z_ildI B hS hx dX12_isSaid_31 ?_
      refine lv_bipush (v := (20 : Int32)) he hb dX12_isSaid_32 (by decide) ?_
      refine lv_icmp_ne (tgt := 64) he hb dX12_isSaid_34 (by decide) (fun hc => ?_) (fun hc => ?_)
      · rw [if_neg hc] at h
        refine z_aload_n he hb dX12_isSaid_64 rfl (lv_at hl 1 rfl) (zref_r _ _) ?_
        obtain ⟨x7, hx, h⟩ := zob h
        refine z_getR (ci := 12) (T := TX12) (N := 50) (j := 6) B hS hx rfl zin_X12 (by decide) zk_1353 dX12_isSaid_65 ?_
        refine lv_iload he hb dX12_isSaid_68 (lv_at hl 0 rfl) ?_
        obtain ⟨x8, hx, h⟩ := zob h
        refine z_ildI B hS hx dX12_isSaid_70 ?_
        refine lv_bipush (v := (21 : Int32)) he hb dX12_isSaid_71 (by decide) ?_
        refine lv_icmp_eq (tgt := 88) he hb dX12_isSaid_73 (by decide) (fun hc => ?_) (fun hc => ?_)
        · rw [if_pos hc] at h
          exact gX12_isSaid_88 l B ih _ _ _ _ _ _ _ _ _ h hS (lv_sub hl [1, 2, 3, 4, 0] rfl)
        · rw [if_neg hc] at h
          refine z_aload_n he hb dX12_isSaid_76 rfl (lv_at hl 1 rfl) (zref_r _ _) ?_
          obtain ⟨x21, hx, h⟩ := zob h
          refine z_getR (ci := 12) (T := TX12) (N := 50) (j := 6) B hS hx rfl zin_X12 (by decide) zk_1353 dX12_isSaid_77 ?_
          refine lv_iload he hb dX12_isSaid_80 (lv_at hl 0 rfl) ?_
          obtain ⟨x22, hx, h⟩ := zob h
          refine z_ildI B hS hx dX12_isSaid_82 ?_
          refine lv_bipush (v := (22 : Int32)) he hb dX12_isSaid_83 (by decide) ?_
          refine lv_icmp_ne (tgt := 167) he hb dX12_isSaid_85 (by decide) (fun hc => ?_) (fun hc => ?_)
          · rw [if_neg hc] at h
            refine z_aload_n he hb dX12_isSaid_167 rfl (lv_at hl 1 rfl) (zref_r _ _) ?_
            obtain ⟨x23, hx, h⟩ := zob h
            refine z_getR (ci := 12) (T := TX12) (N := 50) (j := 46) B hS hx rfl zin_X12 (by decide) zk_1393 dX12_isSaid_168 ?_
            refine lv_iload_n he hb dX12_isSaid_171 rfl (lv_at hl 3 rfl) ?_
            refine z_aload_n he hb dX12_isSaid_172 rfl (lv_at hl 1 rfl) (zref_r _ _) ?_
            refine lv_iload_n he hb dX12_isSaid_173 rfl (lv_at hl 2 rfl) ?_
            refine z_aload_n he hb dX12_isSaid_174 rfl (lv_at hl 1 rfl) (zref_r _ _) ?_
            obtain ⟨x24, hx, h⟩ := zob h
            refine z_getR (ci := 12) (T := TX12) (N := 50) (j := 6) B hS hx rfl zin_X12 (by decide) zk_1353 dX12_isSaid_175 ?_
            refine lv_iload he hb dX12_isSaid_178 (lv_at hl 0 rfl) ?_
            obtain ⟨x25, hx, h⟩ := zob h
            refine z_ildI B hS hx dX12_isSaid_180 ?_
            refine z_aload_n he hb dX12_isSaid_181 rfl (lv_at hl 1 rfl) (zref_r _ _) ?_
            obtain ⟨x26, hx, h⟩ := zob h
            refine z_getR (ci := 12) (T := TX12) (N := 50) (j := 6) B hS hx rfl zin_X12 (by decide) zk_1353 dX12_isSaid_182 ?_
            refine lv_iload he hb dX12_isSaid_185 (lv_at hl 0 rfl) ?_
            refine lv_iconst (v := (1 : Int32)) he hb dX12_isSaid_187 (by decide) ?_
            refine lv_iadd he hb dX12_isSaid_188 ?_
            obtain ⟨x27, hx, h⟩ := zob h
            refine z_ildI B hS hx dX12_isSaid_189 ?_
            refine z_aload_n he hb dX12_isSaid_190 rfl (lv_at hl 1 rfl) (zref_r _ _) ?_
            obtain ⟨x28, hx, h⟩ := zob h
            refine z_getR (ci := 12) (T := TX12) (N := 50) (j := 6) B hS hx rfl zin_X12 (by decide) zk_1353 dX12_isSaid_191 ?_
            refine lv_iload he hb dX12_isSaid_194 (lv_at hl 0 rfl) ?_
            refine lv_iconst (v := (2 : Int32)) he hb dX12_isSaid_196 (by decide) ?_
            refine lv_iadd he hb dX12_isSaid_197 ?_
            obtain ⟨x29, hx, h⟩ := zob h
            refine z_ildI B hS hx dX12_isSaid_198 ?_
            obtain ⟨_, hc, h⟩ := zob h
            obtain ⟨x30, hx, h⟩ := zob h
            refine z_callV (ci := 12) (T := TX12) (N := 50) (rest := [_, _]) B hS (mX12_isLeaf l G hx) zy_X12_isLeaf zk_1961 (by decide) hc rfl rfl hl rfl (Nat.le_of_ble_eq_true rfl) dX12_isSaid_199 (kk := (fun H locs hS => ?_))
            obtain ⟨f31, hx, h⟩ := zob h
            refine z_istZ B hS hx dX12_isSaid_202 (fun H locs hS => ?_)
            refine lv_iinc (v := (a2 + 1)) (lv' := [(2, _), (4, _), (0, _), (1, _), (3, _)]) he hb dX12_isSaid_203 hl (k := 3) rfl rfl (by decide) rfl (fun ls hl => ?_)
            exact gX12_isSaid_206 l B ih _ _ _ _ _ _ _ _ h hS (lv_sub hl [2, 3, 0, 4] rfl)
          · rw [if_pos hc] at h
            exact gX12_isSaid_88 l B ih _ _ _ _ _ _ _ _ _ h hS (lv_sub hl [1, 2, 3, 4, 0] rfl)
      · rw [if_pos hc] at h
        refine z_aload_n he hb dX12_isSaid_37 rfl (lv_at hl 1 rfl) (zref_r _ _) ?_
        obtain ⟨x32, hx, h⟩ := zob h
        refine z_getR (ci := 12) (T := TX12) (N := 50) (j := 46) B hS hx rfl zin_X12 (by decide) zk_1393 dX12_isSaid_38 ?_
        refine lv_iload_n he hb dX12_isSaid_41 rfl (lv_at hl 3 rfl) ?_
        refine lv_iconst (v := (1 : Int32)) he hb dX12_isSaid_42 (by decide) ?_
        refine lv_isub he hb dX12_isSaid_43 ?_
        refine z_aload_n he hb dX12_isSaid_44 rfl (lv_at hl 1 rfl) (zref_r _ _) ?_
        obtain ⟨x33, hx, h⟩ := zob h
        refine z_getR (ci := 12) (T := TX12) (N := 50) (j := 46) B hS hx rfl zin_X12 (by decide) zk_1393 dX12_isSaid_45 ?_
        refine lv_iload_n he hb dX12_isSaid_48 rfl (lv_at hl 3 rfl) ?_
        refine lv_iconst (v := (1 : Int32)) he hb dX12_isSaid_49 (by decide) ?_
        refine lv_isub he hb dX12_isSaid_50 ?_
        obtain ⟨x34, hx, h⟩ := zob h
        refine z_ildZ B hS hx dX12_isSaid_51 ?_
        refine lv_if_ne (tgt := 59) he hb dX12_isSaid_52 (by decide) (fun hc => ?_) (fun hc => ?_)
        · rw [if_neg hc] at h
          refine lv_iconst (v := (0 : Int32)) he hb dX12_isSaid_59 (by decide) ?_
          exact gX12_isSaid_60 l B ih _ _ _ _ _ _ _ _ _ _ _ h hS (lv_sub hl [1, 2, 3, 4] rfl)
        · rw [if_pos hc] at h
          refine lv_iconst (v := (1 : Int32)) he hb dX12_isSaid_55 (by decide) ?_
          refine lv_goto (tgt := 60) he hb dX12_isSaid_56 (by decide) ?_
          exact gX12_isSaid_60 l B ih _ _ _ _ _ _ _ _ _ _ _ h hS (lv_sub hl [1, 2, 3, 4] rfl)
def fX12_isSaid (N n : Nat) (f : zF) (a0 : Nat) (a1 : Int32) : Option (zF × Int32) :=
    (fX12_isSaid_4 N n N f a0 a1 (0 : Int32) (0 : Int32))
set_option maxRecDepth 100000 in
set_option maxHeartbeats 4000000 in
theorem mX12_isSaid (l : Launch) (G : zG) {N n : Nat} {f : zF} {f9 : zF} {r : Int32} {a0 : Nat} {a1 : Int32} (h : fX12_isSaid N n f a0 a1 = some (f9, r)) : zM l G yX12_isSaid cX12_isSaid 5 (some .boolean) 7 n f [zr G a0, .int a1] (some (.int r)) f9 := by
  refine zM.of (by decide) (Nat.le_of_ble_eq_true rfl) ?_
  intro p e s m args below meth c locs ls B hS hl
  have he := B.1
  have hb := B.2.1
  have hl : lv_has ls 5 [(0, zr G a0), (1, .int a1)] := hl
  unfold fX12_isSaid at h
  generalize s.heap = H at hS ⊢
  refine lv_iconst (v := (0 : Int32)) he hb dX12_isSaid_0 (by decide) ?_
  refine lv_istore_n (lv' := [(2, _), (0, _), (1, _)]) he hb dX12_isSaid_1 rfl hl (by decide) rfl (fun ls hl => ?_)
  refine lv_iconst (v := (0 : Int32)) he hb dX12_isSaid_2 (by decide) ?_
  refine lv_istore_n (lv' := [(3, _), (2, _), (0, _), (1, _)]) he hb dX12_isSaid_3 rfl hl (by decide) rfl (fun ls hl => ?_)
  exact gX12_isSaid_4 l B N _ _ _ _ _ _ _ _ h hS (lv_sub hl [2, 3, 1, 0] rfl)
