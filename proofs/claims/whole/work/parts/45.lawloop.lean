/-! the law: one call, the loop, the start -/
def zgo (N n : Nat) (f : zF) (c p1 p2 p3 p4 p5 : Int32) : Option zF :=
  if c = (0 : Int32) then zlc0 N n f p1 p2 p3 p4 p5 else if c = (1 : Int32) then zlc1 N n f p1 else if c = (2 : Int32) then zlc2 N n f else if c = (3 : Int32) then zlc3 N n f else if c = (4 : Int32) then zlc4 N n f p1 p2 else if c = (5 : Int32) then zlc5 N n f p1 p2 else if c = (6 : Int32) then zlc6 N n f p1 p2 p3 else if c = (7 : Int32) then zlc7 N n f p1 else if c = (8 : Int32) then zlc8 N n f p1 else if c = (9 : Int32) then zlc9 N n f p1 p2 else if c = (10 : Int32) then zlc10 N n f p1 p2 else if c = (11 : Int32) then zlc11 N n f p1 else if c = (12 : Int32) then zlc12 N n f p1 else if c = (13 : Int32) then zlc13 N n f p1 p2 else if c = (14 : Int32) then zlc14 N n f p1 else if c = (15 : Int32) then zlc15 N n f else if c = (16 : Int32) then zlc16 N n f p1 p2 else if c = (17 : Int32) then zlc17 N n f p1 p2 p3 else if c = (18 : Int32) then zlc18 N n f else if c = (19 : Int32) then zlc19 N n f p1 else if c = (20 : Int32) then zlc20 N n f else if c = (21 : Int32) then zlc21 N n f else if c = (22 : Int32) then zlc22 N n f p1 p2 p3 p4 else if c = (23 : Int32) then zlc23 N n f else if c = (24 : Int32) then zlc24 N n f else if c = (25 : Int32) then zlc25 N n f p1 else if c = (26 : Int32) then zlc26 N n f else if c = (27 : Int32) then zlc27 N n f else if c = (28 : Int32) then zlc28 N n f else if c = (29 : Int32) then zlc29 N n f p1 else if c = (30 : Int32) then zlc30 N n f p1 else if c = (31 : Int32) then zlc31 N n f p1 else if c = (32 : Int32) then zlc32 N n f p1 p2 else if c = (33 : Int32) then zlc33 N n f p1 p2 p3 else if c = (34 : Int32) then zlc34 N n f p1 else if c = (35 : Int32) then zlc35 N n f p1 else if c = (36 : Int32) then zlc36 N n f else if c = (37 : Int32) then zlc37 N n f p1 else if c = (38 : Int32) then zlc38 N n f p1 else if c = (39 : Int32) then zlc39 N n f p1 else if c = (40 : Int32) then zlc40 N n f p1 else some f
def zN11 : List Value := [.null, .null, .null, .null, .null, .null, .null, .null, .null, .null, .null, .null, .null, .null]
def zN12 : List Value := [.int 0, .null, .int 0, .int 0, .int 0, .int 0, .null, .null, .null, .null, .null, .int 0, .int 0, .int 0, .int 0, .int 0, .int 0, .long 0, .int 0, .int 0, .int 0, .null, .null, .int 0, .int 0, .int 0, .null, .int 0, .int 0, .int 0, .null, .null, .int 0, .int 0, .null, .int 0, .int 0, .int 0, .null, .int 0, .null, .int 0, .int 0, .int 0, .int 0, .int 0, .null, .null, .null, .null]
def zf0 : zF := fun _ => .inl (0, 0, .inl (fun _ => 0))
/-- what the pure half owes: the start, and every call -/
def zPure (N : Nat) (Inv : zF → Prop) : Prop :=
  (∃ f1 f2, fX11_init N 1 (zu zf0 0 (.inr (11, zN11))) 0 = some f1 ∧ fX12_init N 197 (zu f1 196 (.inr (12, zN12))) 196 = some f2 ∧ Inv (zu f2 215 (.inl (1, 1, .inr (.inl (fun _ => 0)))))) ∧
  ∀ f c p1 p2 p3 p4 p5, Inv f → ∃ f2, zgo N 216 f c p1 p2 p3 p4 p5 = some f2 ∧ Inv f2
theorem zlt_sub {q L : Nat} (hL : L ≤ 3072) (hq : q ≤ 4000) : (Int32.ofNat L - 6 < Int32.ofNat q) ↔ L < q + 6 := by
  have h1 : (Int32.ofNat L - 6).toInt = (L : Int) - 6 := by
    rw [Int32.toInt_sub, Int32.toInt_ofNat_of_lt (by omega), show (6 : Int32).toInt = 6 from rfl, Int.bmod_eq_of_le (by omega) (by omega)]
  have h2 : (Int32.ofNat q).toInt = (q : Int) := Int32.toInt_ofNat_of_lt (by omega)
  rw [Int32.lt_iff_toInt_lt, h1, h2]
  omega
set_option maxRecDepth 100000 in
set_option maxHeartbeats 8000000 in
theorem zlaw_loop {G : zG} {p : Program} {l : Launch} {e : Env} {s : State} {m : MethodId} {b : Nat} {below : List Frame} {meth : Method} {c : Code} {N L : Nat} {xs : Nat → Int32} {Inv : zF → Prop} (hstep : ∀ f c p1 p2 p3 p4 p5, Inv f → ∃ f2, zgo N 216 f c p1 p2 p3 p4 p5 = some f2 ∧ Inv f2)
    (hGh : G.2.2.2 = s.heap) (B : zB G p s m #[Value.ref b] meth c RL cL_law 7 (some .boolean)) (hG : zOK G) (hLf : l.stackTraces = false) (hX : va_X b L xs s G.2.2.2) (hbl : b < G.2.2.2.size) (hL : L ≤ 3072) :
    ∀ (k q : Nat) (f : zF) (H : Heap) (locs : List Loc) (ls : Array Slot) (cells slots : Nat), Inv f → L < q + 6 * k + 6 → q ≤ L + 6 → cells + k ≤ 600000 ∧ slots + 6 * k ≤ 7200000 → zS G 216 f H locs → lv_has ls 7 [(0, .ref b), (1, zr G 0), (2, zr G 196), (3, zr G 215), (4, .int (Int32.ofNat q))] →
      W p l e room_1 s m #[Value.ref b] below meth c H locs cells slots (lw_Z below #[Value.ref b] s) (F0 m 23 ls []) := by
  have he := B.1
  have hb := B.2.1
  have hend : ∀ (H : Heap) (locs : List Loc) (ls : Array Slot) (cells slots : Nat) (f : zF), cells ≤ 600000 ∧ slots ≤ 7200000 → zS G 216 f H locs → W p l e room_1 s m #[Value.ref b] below meth c H locs cells slots (lw_Z below #[Value.ref b] s) (F0 m 1409 ls []) := by
    intro H locs ls cells slots f hc hS
    refine lv_iconst (v := (1 : Int32)) he hb dL_law_1409 (by decide) ?_
    refine va_forget (fun q9 hq9 => by have h9 : zA G q9.base := hS.2.2.2 q9 hq9; unfold zA at h9; rw [hGh] at h9; exact h9) ?_
    refine W.widen (k := 601024) (n := 7293034) (Nat.le_trans hc.1 (Nat.le_of_ble_eq_true rfl)) (Nat.le_trans hc.2 (Nat.le_of_ble_eq_true rfl)) ?_
    exact lw_ret B.1 B.2.1 B.2.2.2.2.2.2.1 B.2.2.2.2.2.2.2 dL_law_1410
  intro k
  induction k with
  | zero =>
    intro q f H locs ls cells slots hI hk hq hc hS hl
    refine lv_iload he hb dL_law_23 (lv_at hl 4 rfl) ?_
    refine lv_aload_n he hb dL_law_25 rfl (lv_at hl 0 rfl) ?_
    refine va_slen (A := zA G) he hb hX hbl (fun h => Nat.not_le.mpr hbl h) hS.2 dL_law_26 ?_
    refine lv_bipush (v := (6 : Int32)) he hb dL_law_27 (by decide) ?_
    refine lv_isub he hb dL_law_29 ?_
    refine lv_icmp_gt (tgt := 1409) he hb dL_law_30 (by decide) (fun hc2 => hend _ _ _ _ _ f ⟨by omega, by omega⟩ hS) (fun hc2 => ?_)
    exact absurd ((zlt_sub hL (by omega)).mpr (by omega)) hc2
  | succ k ih =>
    intro q f H locs ls cells slots hI hk hq hc hS hl
    refine lv_iload he hb dL_law_23 (lv_at hl 4 rfl) ?_
    refine lv_aload_n he hb dL_law_25 rfl (lv_at hl 0 rfl) ?_
    refine va_slen (A := zA G) he hb hX hbl (fun h => Nat.not_le.mpr hbl h) hS.2 dL_law_26 ?_
    refine lv_bipush (v := (6 : Int32)) he hb dL_law_27 (by decide) ?_
    refine lv_isub he hb dL_law_29 ?_
    refine lv_icmp_gt (tgt := 1409) he hb dL_law_30 (by decide) (fun hc2 => hend _ _ _ _ _ f ⟨by omega, by omega⟩ hS) (fun hc2 => ?_)
    have hj : q + 6 ≤ L := by
      rcases Nat.lt_or_ge L (q + 6) with h | h
      · exact absurd ((zlt_sub hL (by omega)).mpr h) hc2
      · exact h
    refine lv_aload_n he hb dL_law_33 rfl (lv_at hl 0 rfl) ?_
    refine lv_iload he hb dL_law_34 (lv_at hl 4 rfl) ?_
    refine va_sld (A := zA G) he hb hX hbl (fun h => Nat.not_le.mpr hbl h) hS.2 (zof_in (by omega) hL) dL_law_36 ?_
    rw [zof_nat (by omega)]
    refine lv_bipush (v := (63 : Int32)) he hb dL_law_37 (by decide) ?_
    refine lv_iand he hb dL_law_39 ?_
    obtain ⟨f2, hgo, hI2⟩ := hstep f (xs q &&& 63) (xs (q + 1)) (xs (q + 2)) (xs (q + 3)) (xs (q + 4)) (xs (q + 5)) hI
    have hcs : cells + 1 ≤ room_1.cells ∧ slots + 6 ≤ room_1.slots := ⟨by show cells + 1 ≤ 601024; omega, by show slots + 6 ≤ 7293034; omega⟩
    have K : ∀ H1 locs1, zS G 216 f2 H1 locs1 → ∀ ls1, lv_has ls1 7 [(0, .ref b), (1, zr G 0), (2, zr G 196), (3, zr G 215), (4, .int (Int32.ofNat q))] → W p l e room_1 s m #[Value.ref b] below meth c H1 locs1 (cells + 1) (slots + 6) (lw_Z below #[Value.ref b] s) (F0 m 1403 ls1 []) := by
      intro H1 locs1 hS1 ls1 hl1
      refine lv_iinc (v := Int32.ofNat (q + 6)) (lv' := [(4, _), (0, _), (1, _), (2, _), (3, _)]) he hb dL_law_1403 hl1 (k := 4) rfl (by show Int32.ofNat q + Int32.ofNat 6 = _; exact zof_add (by omega)) (by decide) rfl (fun ls hl => ?_)
      refine lv_goto (tgt := 23) he hb dL_law_1406 (by decide) ?_
      exact ih (q + 6) f2 _ _ _ _ _ hI2 (by omega) (by omega) ⟨by omega, by omega⟩ hS1 (lv_sub hl [1, 2, 3, 4, 0] rfl)
    generalize hcv : (xs q &&& 63) = cv at hgo ⊢
    unfold zgo at hgo
    by_cases hc0 : cv = (0 : Int32)
    · rw [if_pos hc0] at hgo
      refine lv_tableIn (tgt := 220) he hb dL_law_40 (by rw [hc0]; decide) (by rw [hc0]; decide) (by rw [hc0]; rfl) (by decide) ?_
      exact zlw0 B hG hLf hX hbl ⟨hj, hL⟩ hcs hgo hS hl K
    rw [if_neg hc0] at hgo
    by_cases hc1 : cv = (1 : Int32)
    · rw [if_pos hc1] at hgo
      refine lv_tableIn (tgt := 293) he hb dL_law_40 (by rw [hc1]; decide) (by rw [hc1]; decide) (by rw [hc1]; rfl) (by decide) ?_
      exact zlw1 B hG hLf hX hbl ⟨hj, hL⟩ hcs hgo hS hl K
    rw [if_neg hc1] at hgo
    by_cases hc2 : cv = (2 : Int32)
    · rw [if_pos hc2] at hgo
      refine lv_tableIn (tgt := 318) he hb dL_law_40 (by rw [hc2]; decide) (by rw [hc2]; decide) (by rw [hc2]; rfl) (by decide) ?_
      exact zlw2 B hG hLf hX hbl ⟨hj, hL⟩ hcs hgo hS hl K
    rw [if_neg hc2] at hgo
    by_cases hc3 : cv = (3 : Int32)
    · rw [if_pos hc3] at hgo
      refine lv_tableIn (tgt := 331) he hb dL_law_40 (by rw [hc3]; decide) (by rw [hc3]; decide) (by rw [hc3]; rfl) (by decide) ?_
      exact zlw3 B hG hLf hX hbl ⟨hj, hL⟩ hcs hgo hS hl K
    rw [if_neg hc3] at hgo
    by_cases hc4 : cv = (4 : Int32)
    · rw [if_pos hc4] at hgo
      refine lv_tableIn (tgt := 344) he hb dL_law_40 (by rw [hc4]; decide) (by rw [hc4]; decide) (by rw [hc4]; rfl) (by decide) ?_
      exact zlw4 B hG hLf hX hbl ⟨hj, hL⟩ hcs hgo hS hl K
    rw [if_neg hc4] at hgo
    by_cases hc5 : cv = (5 : Int32)
    · rw [if_pos hc5] at hgo
      refine lv_tableIn (tgt := 412) he hb dL_law_40 (by rw [hc5]; decide) (by rw [hc5]; decide) (by rw [hc5]; rfl) (by decide) ?_
      exact zlw5 B hG hLf hX hbl ⟨hj, hL⟩ hcs hgo hS hl K
    rw [if_neg hc5] at hgo
    by_cases hc6 : cv = (6 : Int32)
    · rw [if_pos hc6] at hgo
      refine lv_tableIn (tgt := 449) he hb dL_law_40 (by rw [hc6]; decide) (by rw [hc6]; decide) (by rw [hc6]; rfl) (by decide) ?_
      exact zlw6 B hG hLf hX hbl ⟨hj, hL⟩ hcs hgo hS hl K
    rw [if_neg hc6] at hgo
    by_cases hc7 : cv = (7 : Int32)
    · rw [if_pos hc7] at hgo
      refine lv_tableIn (tgt := 498) he hb dL_law_40 (by rw [hc7]; decide) (by rw [hc7]; decide) (by rw [hc7]; rfl) (by decide) ?_
      exact zlw7 B hG hLf hX hbl ⟨hj, hL⟩ hcs hgo hS hl K
    rw [if_neg hc7] at hgo
    by_cases hc8 : cv = (8 : Int32)
    · rw [if_pos hc8] at hgo
      refine lv_tableIn (tgt := 523) he hb dL_law_40 (by rw [hc8]; decide) (by rw [hc8]; decide) (by rw [hc8]; rfl) (by decide) ?_
      exact zlw8 B hG hLf hX hbl ⟨hj, hL⟩ hcs hgo hS hl K
    rw [if_neg hc8] at hgo
    by_cases hc9 : cv = (9 : Int32)
    · rw [if_pos hc9] at hgo
      refine lv_tableIn (tgt := 548) he hb dL_law_40 (by rw [hc9]; decide) (by rw [hc9]; decide) (by rw [hc9]; rfl) (by decide) ?_
      exact zlw9 B hG hLf hX hbl ⟨hj, hL⟩ hcs hgo hS hl K
    rw [if_neg hc9] at hgo
    by_cases hc10 : cv = (10 : Int32)
    · rw [if_pos hc10] at hgo
      refine lv_tableIn (tgt := 585) he hb dL_law_40 (by rw [hc10]; decide) (by rw [hc10]; decide) (by rw [hc10]; rfl) (by decide) ?_
      exact zlw10 B hG hLf hX hbl ⟨hj, hL⟩ hcs hgo hS hl K
    rw [if_neg hc10] at hgo
    by_cases hc11 : cv = (11 : Int32)
    · rw [if_pos hc11] at hgo
      refine lv_tableIn (tgt := 622) he hb dL_law_40 (by rw [hc11]; decide) (by rw [hc11]; decide) (by rw [hc11]; rfl) (by decide) ?_
      exact zlw11 B hG hLf hX hbl ⟨hj, hL⟩ hcs hgo hS hl K
    rw [if_neg hc11] at hgo
    by_cases hc12 : cv = (12 : Int32)
    · rw [if_pos hc12] at hgo
      refine lv_tableIn (tgt := 647) he hb dL_law_40 (by rw [hc12]; decide) (by rw [hc12]; decide) (by rw [hc12]; rfl) (by decide) ?_
      exact zlw12 B hG hLf hX hbl ⟨hj, hL⟩ hcs hgo hS hl K
    rw [if_neg hc12] at hgo
    by_cases hc13 : cv = (13 : Int32)
    · rw [if_pos hc13] at hgo
      refine lv_tableIn (tgt := 672) he hb dL_law_40 (by rw [hc13]; decide) (by rw [hc13]; decide) (by rw [hc13]; rfl) (by decide) ?_
      exact zlw13 B hG hLf hX hbl ⟨hj, hL⟩ hcs hgo hS hl K
    rw [if_neg hc13] at hgo
    by_cases hc14 : cv = (14 : Int32)
    · rw [if_pos hc14] at hgo
      refine lv_tableIn (tgt := 709) he hb dL_law_40 (by rw [hc14]; decide) (by rw [hc14]; decide) (by rw [hc14]; rfl) (by decide) ?_
      exact zlw14 B hG hLf hX hbl ⟨hj, hL⟩ hcs hgo hS hl K
    rw [if_neg hc14] at hgo
    by_cases hc15 : cv = (15 : Int32)
    · rw [if_pos hc15] at hgo
      refine lv_tableIn (tgt := 734) he hb dL_law_40 (by rw [hc15]; decide) (by rw [hc15]; decide) (by rw [hc15]; rfl) (by decide) ?_
      exact zlw15 B hG hLf hX hbl ⟨hj, hL⟩ hcs hgo hS hl K
    rw [if_neg hc15] at hgo
    by_cases hc16 : cv = (16 : Int32)
    · rw [if_pos hc16] at hgo
      refine lv_tableIn (tgt := 747) he hb dL_law_40 (by rw [hc16]; decide) (by rw [hc16]; decide) (by rw [hc16]; rfl) (by decide) ?_
      exact zlw16 B hG hLf hX hbl ⟨hj, hL⟩ hcs hgo hS hl K
    rw [if_neg hc16] at hgo
    by_cases hc17 : cv = (17 : Int32)
    · rw [if_pos hc17] at hgo
      refine lv_tableIn (tgt := 784) he hb dL_law_40 (by rw [hc17]; decide) (by rw [hc17]; decide) (by rw [hc17]; rfl) (by decide) ?_
      exact zlw17 B hG hLf hX hbl ⟨hj, hL⟩ hcs hgo hS hl K
    rw [if_neg hc17] at hgo
    by_cases hc18 : cv = (18 : Int32)
    · rw [if_pos hc18] at hgo
      refine lv_tableIn (tgt := 833) he hb dL_law_40 (by rw [hc18]; decide) (by rw [hc18]; decide) (by rw [hc18]; rfl) (by decide) ?_
      exact zlw18 B hG hLf hX hbl ⟨hj, hL⟩ hcs hgo hS hl K
    rw [if_neg hc18] at hgo
    by_cases hc19 : cv = (19 : Int32)
    · rw [if_pos hc19] at hgo
      refine lv_tableIn (tgt := 846) he hb dL_law_40 (by rw [hc19]; decide) (by rw [hc19]; decide) (by rw [hc19]; rfl) (by decide) ?_
      exact zlw19 B hG hLf hX hbl ⟨hj, hL⟩ hcs hgo hS hl K
    rw [if_neg hc19] at hgo
    by_cases hc20 : cv = (20 : Int32)
    · rw [if_pos hc20] at hgo
      refine lv_tableIn (tgt := 871) he hb dL_law_40 (by rw [hc20]; decide) (by rw [hc20]; decide) (by rw [hc20]; rfl) (by decide) ?_
      exact zlw20 B hG hLf hX hbl ⟨hj, hL⟩ hcs hgo hS hl K
    rw [if_neg hc20] at hgo
    by_cases hc21 : cv = (21 : Int32)
    · rw [if_pos hc21] at hgo
      refine lv_tableIn (tgt := 884) he hb dL_law_40 (by rw [hc21]; decide) (by rw [hc21]; decide) (by rw [hc21]; rfl) (by decide) ?_
      exact zlw21 B hG hLf hX hbl ⟨hj, hL⟩ hcs hgo hS hl K
    rw [if_neg hc21] at hgo
    by_cases hc22 : cv = (22 : Int32)
    · rw [if_pos hc22] at hgo
      refine lv_tableIn (tgt := 897) he hb dL_law_40 (by rw [hc22]; decide) (by rw [hc22]; decide) (by rw [hc22]; rfl) (by decide) ?_
      exact zlw22 B hG hLf hX hbl ⟨hj, hL⟩ hcs hgo hS hl K
    rw [if_neg hc22] at hgo
    by_cases hc23 : cv = (23 : Int32)
    · rw [if_pos hc23] at hgo
      refine lv_tableIn (tgt := 958) he hb dL_law_40 (by rw [hc23]; decide) (by rw [hc23]; decide) (by rw [hc23]; rfl) (by decide) ?_
      exact zlw23 B hG hLf hX hbl ⟨hj, hL⟩ hcs hgo hS hl K
    rw [if_neg hc23] at hgo
    by_cases hc24 : cv = (24 : Int32)
    · rw [if_pos hc24] at hgo
      refine lv_tableIn (tgt := 971) he hb dL_law_40 (by rw [hc24]; decide) (by rw [hc24]; decide) (by rw [hc24]; rfl) (by decide) ?_
      exact zlw24 B hG hLf hX hbl ⟨hj, hL⟩ hcs hgo hS hl K
    rw [if_neg hc24] at hgo
    by_cases hc25 : cv = (25 : Int32)
    · rw [if_pos hc25] at hgo
      refine lv_tableIn (tgt := 984) he hb dL_law_40 (by rw [hc25]; decide) (by rw [hc25]; decide) (by rw [hc25]; rfl) (by decide) ?_
      exact zlw25 B hG hLf hX hbl ⟨hj, hL⟩ hcs hgo hS hl K
    rw [if_neg hc25] at hgo
    by_cases hc26 : cv = (26 : Int32)
    · rw [if_pos hc26] at hgo
      refine lv_tableIn (tgt := 1009) he hb dL_law_40 (by rw [hc26]; decide) (by rw [hc26]; decide) (by rw [hc26]; rfl) (by decide) ?_
      exact zlw26 B hG hLf hX hbl ⟨hj, hL⟩ hcs hgo hS hl K
    rw [if_neg hc26] at hgo
    by_cases hc27 : cv = (27 : Int32)
    · rw [if_pos hc27] at hgo
      refine lv_tableIn (tgt := 1022) he hb dL_law_40 (by rw [hc27]; decide) (by rw [hc27]; decide) (by rw [hc27]; rfl) (by decide) ?_
      exact zlw27 B hG hLf hX hbl ⟨hj, hL⟩ hcs hgo hS hl K
    rw [if_neg hc27] at hgo
    by_cases hc28 : cv = (28 : Int32)
    · rw [if_pos hc28] at hgo
      refine lv_tableIn (tgt := 1035) he hb dL_law_40 (by rw [hc28]; decide) (by rw [hc28]; decide) (by rw [hc28]; rfl) (by decide) ?_
      exact zlw28 B hG hLf hX hbl ⟨hj, hL⟩ hcs hgo hS hl K
    rw [if_neg hc28] at hgo
    by_cases hc29 : cv = (29 : Int32)
    · rw [if_pos hc29] at hgo
      refine lv_tableIn (tgt := 1048) he hb dL_law_40 (by rw [hc29]; decide) (by rw [hc29]; decide) (by rw [hc29]; rfl) (by decide) ?_
      exact zlw29 B hG hLf hX hbl ⟨hj, hL⟩ hcs hgo hS hl K
    rw [if_neg hc29] at hgo
    by_cases hc30 : cv = (30 : Int32)
    · rw [if_pos hc30] at hgo
      refine lv_tableIn (tgt := 1104) he hb dL_law_40 (by rw [hc30]; decide) (by rw [hc30]; decide) (by rw [hc30]; rfl) (by decide) ?_
      exact zlw30 B hG hLf hX hbl ⟨hj, hL⟩ hcs hgo hS hl K
    rw [if_neg hc30] at hgo
    by_cases hc31 : cv = (31 : Int32)
    · rw [if_pos hc31] at hgo
      refine lv_tableIn (tgt := 1129) he hb dL_law_40 (by rw [hc31]; decide) (by rw [hc31]; decide) (by rw [hc31]; rfl) (by decide) ?_
      exact zlw31 B hG hLf hX hbl ⟨hj, hL⟩ hcs hgo hS hl K
    rw [if_neg hc31] at hgo
    by_cases hc32 : cv = (32 : Int32)
    · rw [if_pos hc32] at hgo
      refine lv_tableIn (tgt := 1154) he hb dL_law_40 (by rw [hc32]; decide) (by rw [hc32]; decide) (by rw [hc32]; rfl) (by decide) ?_
      exact zlw32 B hG hLf hX hbl ⟨hj, hL⟩ hcs hgo hS hl K
    rw [if_neg hc32] at hgo
    by_cases hc33 : cv = (33 : Int32)
    · rw [if_pos hc33] at hgo
      refine lv_tableIn (tgt := 1191) he hb dL_law_40 (by rw [hc33]; decide) (by rw [hc33]; decide) (by rw [hc33]; rfl) (by decide) ?_
      exact zlw33 B hG hLf hX hbl ⟨hj, hL⟩ hcs hgo hS hl K
    rw [if_neg hc33] at hgo
    by_cases hc34 : cv = (34 : Int32)
    · rw [if_pos hc34] at hgo
      refine lv_tableIn (tgt := 1240) he hb dL_law_40 (by rw [hc34]; decide) (by rw [hc34]; decide) (by rw [hc34]; rfl) (by decide) ?_
      exact zlw34 B hG hLf hX hbl ⟨hj, hL⟩ hcs hgo hS hl K
    rw [if_neg hc34] at hgo
    by_cases hc35 : cv = (35 : Int32)
    · rw [if_pos hc35] at hgo
      refine lv_tableIn (tgt := 1265) he hb dL_law_40 (by rw [hc35]; decide) (by rw [hc35]; decide) (by rw [hc35]; rfl) (by decide) ?_
      exact zlw35 B hG hLf hX hbl ⟨hj, hL⟩ hcs hgo hS hl K
    rw [if_neg hc35] at hgo
    by_cases hc36 : cv = (36 : Int32)
    · rw [if_pos hc36] at hgo
      refine lv_tableIn (tgt := 1290) he hb dL_law_40 (by rw [hc36]; decide) (by rw [hc36]; decide) (by rw [hc36]; rfl) (by decide) ?_
      exact zlw36 B hG hLf hX hbl ⟨hj, hL⟩ hcs hgo hS hl K
    rw [if_neg hc36] at hgo
    by_cases hc37 : cv = (37 : Int32)
    · rw [if_pos hc37] at hgo
      refine lv_tableIn (tgt := 1303) he hb dL_law_40 (by rw [hc37]; decide) (by rw [hc37]; decide) (by rw [hc37]; rfl) (by decide) ?_
      exact zlw37 B hG hLf hX hbl ⟨hj, hL⟩ hcs hgo hS hl K
    rw [if_neg hc37] at hgo
    by_cases hc38 : cv = (38 : Int32)
    · rw [if_pos hc38] at hgo
      refine lv_tableIn (tgt := 1328) he hb dL_law_40 (by rw [hc38]; decide) (by rw [hc38]; decide) (by rw [hc38]; rfl) (by decide) ?_
      exact zlw38 B hG hLf hX hbl ⟨hj, hL⟩ hcs hgo hS hl K
    rw [if_neg hc38] at hgo
    by_cases hc39 : cv = (39 : Int32)
    · rw [if_pos hc39] at hgo
      refine lv_tableIn (tgt := 1353) he hb dL_law_40 (by rw [hc39]; decide) (by rw [hc39]; decide) (by rw [hc39]; rfl) (by decide) ?_
      exact zlw39 B hG hLf hX hbl ⟨hj, hL⟩ hcs hgo hS hl K
    rw [if_neg hc39] at hgo
    by_cases hc40 : cv = (40 : Int32)
    · rw [if_pos hc40] at hgo
      refine lv_tableIn (tgt := 1378) he hb dL_law_40 (by rw [hc40]; decide) (by rw [hc40]; decide) (by rw [hc40]; rfl) (by decide) ?_
      exact zlw40 B hG hLf hX hbl ⟨hj, hL⟩ hcs hgo hS hl K
    rw [if_neg hc40] at hgo
    obtain rfl := Option.some.inj hgo
    refine lv_tableOut (tgt := 1403) he hb dL_law_40 ?_ (by decide) ?_
    · have h0 := lv_neT hc0 (a := 0) rfl; have h1 := lv_neT hc1 (a := 1) rfl; have h2 := lv_neT hc2 (a := 2) rfl; have h3 := lv_neT hc3 (a := 3) rfl; have h4 := lv_neT hc4 (a := 4) rfl; have h5 := lv_neT hc5 (a := 5) rfl; have h6 := lv_neT hc6 (a := 6) rfl; have h7 := lv_neT hc7 (a := 7) rfl; have h8 := lv_neT hc8 (a := 8) rfl; have h9 := lv_neT hc9 (a := 9) rfl; have h10 := lv_neT hc10 (a := 10) rfl; have h11 := lv_neT hc11 (a := 11) rfl; have h12 := lv_neT hc12 (a := 12) rfl; have h13 := lv_neT hc13 (a := 13) rfl; have h14 := lv_neT hc14 (a := 14) rfl; have h15 := lv_neT hc15 (a := 15) rfl; have h16 := lv_neT hc16 (a := 16) rfl; have h17 := lv_neT hc17 (a := 17) rfl; have h18 := lv_neT hc18 (a := 18) rfl; have h19 := lv_neT hc19 (a := 19) rfl; have h20 := lv_neT hc20 (a := 20) rfl; have h21 := lv_neT hc21 (a := 21) rfl; have h22 := lv_neT hc22 (a := 22) rfl; have h23 := lv_neT hc23 (a := 23) rfl; have h24 := lv_neT hc24 (a := 24) rfl; have h25 := lv_neT hc25 (a := 25) rfl; have h26 := lv_neT hc26 (a := 26) rfl; have h27 := lv_neT hc27 (a := 27) rfl; have h28 := lv_neT hc28 (a := 28) rfl; have h29 := lv_neT hc29 (a := 29) rfl; have h30 := lv_neT hc30 (a := 30) rfl; have h31 := lv_neT hc31 (a := 31) rfl; have h32 := lv_neT hc32 (a := 32) rfl; have h33 := lv_neT hc33 (a := 33) rfl; have h34 := lv_neT hc34 (a := 34) rfl; have h35 := lv_neT hc35 (a := 35) rfl; have h36 := lv_neT hc36 (a := 36) rfl; have h37 := lv_neT hc37 (a := 37) rfl; have h38 := lv_neT hc38 (a := 38) rfl; have h39 := lv_neT hc39 (a := 39) rfl; have h40 := lv_neT hc40 (a := 40) rfl; omega
    · exact W.widen (Nat.le_add_right _ 1) (Nat.le_add_right _ 6) (K _ _ hS _ hl)
set_option maxRecDepth 100000 in
set_option maxHeartbeats 8000000 in
theorem zstart {N : Nat} {Inv : zF → Prop} (hP : zPure N Inv) {p : Program} {e : Env} {s : State} {m : MethodId} {below : List Frame} {meth : Method} {c : Code} (l : Launch) (hflags : l.flags = flags0) {b L : Nat} {xs : Nat → Int32} (hL : L ≤ 3072) (C0 : lw_At p s m meth c b L xs) : W p l e room_1 s m #[Value.ref b] below meth c s.heap [] 0 0 (lw_Z below #[Value.ref b] s) (entryFrame m ([Value.ref b] : List Value).toArray 7) := by
  obtain ⟨G, hGh, hG, B⟩ := z_ground C0
  obtain ⟨hx, hb9, hr, hml, hown, hts, hX, hbl, hlocks, hgv⟩ := C0
  rw [← hGh] at hX hbl
  have hLf : l.stackTraces = false := by unfold Launch.stackTraces; rw [hflags]; decide +kernel
  have he := B.1
  have hb := B.2.1
  have hl := lv_entry ([.ref b]) (n := 7) (Nat.le_of_ble_eq_true rfl)
  rw [lg_entry_eq]
  generalize (lg_sl ([.ref b]) ++ List.replicate (7 - (lg_sl ([.ref b])).length) Slot.unset).toArray = ls at hl ⊢
  have hl : lv_has ls 7 [(0, .ref b)] := hl
  have hS : zS G 0 zf0 s.heap [] := by
    refine ⟨fun k q h => by simp [zw] at h, ?_⟩
    rw [hGh]
    exact va_S.rf
  obtain ⟨⟨f1, f2, h1, h2, hI⟩, hstep⟩ := hP
  have hzz : G.2.2.2.size = s.heap.size := by rw [hGh]
  generalize hHs : s.heap = H at hS
  refine z_new (n := 0) (ci := 11) (T := TX11) (N := 14) (fs := zN11) B hS (by omega) rfl zin_X11 tyX11 tyX11_ok zk_25 zk_26 zk_1 (fun j hj => by rcases (show j = 0 ∨ j = 1 ∨ j = 2 ∨ j = 3 ∨ j = 4 ∨ j = 5 ∨ j = 6 ∨ j = 7 ∨ j = 8 ∨ j = 9 ∨ j = 10 ∨ j = 11 ∨ j = 12 ∨ j = 13 by omega) with rfl | rfl | rfl | rfl | rfl | rfl | rfl | rfl | rfl | rfl | rfl | rfl | rfl | rfl <;> rfl) (by decide) (by decide) dL_law_0 (fun H hS => ?_)
  refine lv_dup he hb dL_law_3 rfl ?_
  refine zq_callI (rest := [_]) B hS (by omega) (mX11_init l G hG h1) zyi_X11_init zk_27 ⟨by decide, by decide⟩ rfl hl rfl (Nat.le_of_ble_eq_true rfl) dL_law_4 ⟨by decide, by decide⟩ (fun H locs hS => ?_)
  refine z_astore_n (lv' := [(1, zr G 0), (0, _)]) he hb dL_law_7 rfl hl (by decide) (zref_r _ _) rfl (fun ls hl => ?_)
  refine z_new (n := 196) (ci := 12) (T := TX12) (N := 50) (fs := zN12) B hS (by omega) rfl zin_X12 tyX12 tyX12_ok zk_1311 zk_1305 zk_17 (fun j hj => by rcases (show j = 0 ∨ j = 1 ∨ j = 2 ∨ j = 3 ∨ j = 4 ∨ j = 5 ∨ j = 6 ∨ j = 7 ∨ j = 8 ∨ j = 9 ∨ j = 10 ∨ j = 11 ∨ j = 12 ∨ j = 13 ∨ j = 14 ∨ j = 15 ∨ j = 16 ∨ j = 17 ∨ j = 18 ∨ j = 19 ∨ j = 20 ∨ j = 21 ∨ j = 22 ∨ j = 23 ∨ j = 24 ∨ j = 25 ∨ j = 26 ∨ j = 27 ∨ j = 28 ∨ j = 29 ∨ j = 30 ∨ j = 31 ∨ j = 32 ∨ j = 33 ∨ j = 34 ∨ j = 35 ∨ j = 36 ∨ j = 37 ∨ j = 38 ∨ j = 39 ∨ j = 40 ∨ j = 41 ∨ j = 42 ∨ j = 43 ∨ j = 44 ∨ j = 45 ∨ j = 46 ∨ j = 47 ∨ j = 48 ∨ j = 49 by omega) with rfl | rfl | rfl | rfl | rfl | rfl | rfl | rfl | rfl | rfl | rfl | rfl | rfl | rfl | rfl | rfl | rfl | rfl | rfl | rfl | rfl | rfl | rfl | rfl | rfl | rfl | rfl | rfl | rfl | rfl | rfl | rfl | rfl | rfl | rfl | rfl | rfl | rfl | rfl | rfl | rfl | rfl | rfl | rfl | rfl | rfl | rfl | rfl | rfl | rfl <;> rfl) (by decide) (by decide) dL_law_8 (fun H hS => ?_)
  refine lv_dup he hb dL_law_11 rfl ?_
  refine zq_callI (rest := [_]) B hS (by omega) (mX12_init l G h2) zyi_X12_init zk_1312 ⟨by decide, by decide⟩ rfl hl rfl (Nat.le_of_ble_eq_true rfl) dL_law_12 ⟨by decide, by decide⟩ (fun H locs hS => ?_)
  refine z_astore_n (lv' := [(2, zr G 196), (1, _), (0, _)]) he hb dL_law_15 rfl hl (by decide) (zref_r _ _) rfl (fun ls hl => ?_)
  refine lv_iconst (v := (1 : Int32)) he hb dL_law_16 (by decide) ?_
  refine z_newL (n := 215) (len := 1) B hS (by omega) zk_143 (by decide) (by decide) (by decide) (by decide) (by decide) dL_law_17 (fun H hS => ?_)
  refine z_astore_n (lv' := [(3, zr G 215), (2, _), (1, _), (0, _)]) he hb dL_law_19 rfl hl (by decide) (zref_r _ _) rfl (fun ls hl => ?_)
  refine lv_iconst (v := Int32.ofNat 0) he hb dL_law_20 (by decide) ?_
  refine lv_istore (lv' := [(4, _), (3, _), (2, _), (1, _), (0, _)]) he hb dL_law_21 hl (by decide) rfl (fun ls hl => ?_)
  exact zlaw_loop hstep hGh B hG hLf hX hbl hL 600 0 _ _ _ _ _ _ hI (by omega) (by omega) ⟨by omega, by omega⟩ hS (lv_sub hl [4, 3, 2, 1, 0] rfl)
