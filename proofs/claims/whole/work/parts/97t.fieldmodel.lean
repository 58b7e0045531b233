/-! a field: the reference, whole -/
section QFO
variable {g : zF} {V W U K C : Nat → Nat → Int32} {X Y Z D : Nat → Nat → Int64} {N n m p o k pl d e c ln w : Nat} {s t u B h r : Nat → Nat} {q : Nat → List Nat} {fl : Bool}
theorem G_clr : ∀ m i k V, i + m = 139 → m < k → (∀ j, j < i → V 199 j = Int32.ofNat 0) → ∃ W, fX12_clears_2 N 216 k (qH g V X) 196 (Int32.ofNat i) = some (qH g W X) ∧ (∀ b, b ≠ 199 → W b = V b) ∧ ∀ j, j < 139 → W 199 j = Int32.ofNat (fH0 j) := by
  intro m
  induction m with
  | zero =>
    intro i k V hi hk h0
    obtain ⟨k, rfl⟩ : ∃ j, k = j + 1 := ⟨k - 1, by omega⟩
    have p0 : ∀ (V : Nat → Nat → Int32) (x : Int32), zsI 216 (qH g V X) 0 199 (0 : Int32) x = some (qH g (qw V 199 (upd (V 199) 0 x)) X) := fun V x => g_put (j := 0) (by omega)
    have p1 : ∀ (V : Nat → Nat → Int32) (x : Int32), zsI 216 (qH g V X) 0 199 (1 : Int32) x = some (qH g (qw V 199 (upd (V 199) 1 x)) X) := fun V x => g_put (j := 1) (by omega)
    unfold fX12_clears_2
    rw [if_pos (by rw [show (139 : Int32) = Int32.ofNat 139 from rfl, qle (by omega) (by omega)]; omega), q196_g7, Option.bind_some, p0, Option.bind_some, q196_g7, Option.bind_some, p1, Option.bind_some]
    refine ⟨_, rfl, fun b hb => by rw [qw_n hb, qw_n hb], fun j hj => ?_⟩
    rw [qw_s, qw_s]
    unfold fH0
    by_cases e1 : j = 1
    · rw [e1, upd_s, if_pos (by omega)]; rfl
    rw [upd_n e1]
    by_cases e0 : j = 0
    · rw [e0, upd_s, if_pos (by omega)]; rfl
    rw [upd_n e0, if_neg (by omega)]
    exact h0 j (by omega)
  | succ m ih =>
    intro i k V hi hk h0
    obtain ⟨k, rfl⟩ : ∃ j, k = j + 1 := ⟨k - 1, by omega⟩
    unfold fX12_clears_2
    rw [if_neg (by rw [show (139 : Int32) = Int32.ofNat 139 from rfl, qle (by omega) (by omega)]; omega), q196_g7, Option.bind_some, g_put (by omega), Option.bind_some, l1, qadd]
    obtain ⟨W, w1, w2, w3⟩ := ih (i + 1) k (qw V 199 (upd (V 199) i 0)) (by omega) (by omega) (fun j hj => by
      rw [qw_s]
      by_cases e : j = i
      · rw [e, upd_s]; rfl
      · rw [upd_n e]; exact h0 j (by omega))
    exact ⟨W, w1, fun b hb => by rw [w2 b hb, qw_n hb], w3⟩
theorem fH0_B : fdB fH0 := by
  refine ⟨by decide, by decide, by decide, by decide, by decide, fun c hc => ?_, fun y hy => ?_, fun f hf => ?_, fun l hl => ?_, fun f f2 hf => ?_⟩
  · unfold fH0; rw [if_neg (by omega)]; omega
  · unfold fH0; rw [if_neg (by omega)]; omega
  · have : fH0 3 = 0 := rfl
    omega
  · have : fH0 4 = 0 := rfl
    omega
  · have : fH0 3 = 0 := rfl
    omega
theorem fH0_N : fdN fH0 q := ⟨fun i hi => by have : fH0 2 = 0 := rfl; omega, fun i hi => by have : fH0 3 = 0 := rfl; omega, fun i hi => by have : fH0 4 = 0 := rfl; omega, fun f l hf => by have : fH0 3 = 0 := rfl; omega⟩
theorem fH0_G : fdG fH0 false := ⟨fun i hi => by have : fH0 3 = 0 := rfl; omega, fun _ => rfl⟩
/-- what a field leaves in the reference -/
def gLast (W : Nat → Nat → Int32) (V : Nat → Nat → Int32) (X Y : Nat → Nat → Int64) (z : Int32) : Except (Nat × Nat) (Nat × (Nat → Nat) × (Nat → List Nat)) → Prop
  | .error (k, pl) => z = -1 - Int32.ofNat pl ∧ W 196 15 = Int32.ofNat k ∧ W 198 = V 198 ∧ W 196 23 = V 196 23 ∧ ∀ j, j < 15 → Y 201 j = X 201 j
  | .ok (ln, h, q) => z = Int32.ofNat ln ∧ W 196 15 = Int32.ofNat 0 ∧ rM W (fS h) ∧ W 196 23 = Int32.ofNat 0 ∧ (∀ i, i < h 2 → Y 201 i = Int64.ofNat (r8 (q i))) ∧ (∀ i, i < h 3 → Y 201 (4 + i) = Int64.ofNat (r8 (q (4 + i)))) ∧ ∀ i, i < h 4 → Y 201 (10 + i) = Int64.ofNat (r8 (q (10 + i)))
theorem M_field (hN : 3000 ≤ N) (hn : n ≤ 940) (h2 : V 196 2 = Int32.ofNat n) (hB : ∀ i, i < n → B i < 256 ∧ V 197 i &&& Int32.ofNat 255 = Int32.ofNat (B i)) (hX : wMsR X) : hV g (fX12_field N 216 (qH g V X) 196) (fun W Y z => gLast W V X Y z (fRd B n 900 (n + 1) 0 0 fH0 q false) ∧ W 196 2 = Int32.ofNat 0 ∧ (∀ b, b ≠ 196 → b ≠ 198 → b ≠ 199 → W b = V b) ∧ (∀ j, (j = 1 ∨ 20 < j) → j ≠ 23 → W 196 j = V 196 j) ∧ ∀ b, b ≠ 196 → b ≠ 201 → Y b = X b) := by
  unfold fX12_field
  rw [q196_p0, Option.bind_some, q196_c, Option.bind_some, m_taken, Option.bind_some, qw_qw, qw_s, q196_p15, Option.bind_some, qw_qw, qw_s, q196_p19, Option.bind_some, qw_qw, qw_s, q196_p20 _ (Or.inl rfl), Option.bind_some, qw_qw, qw_s, q196_c, Option.bind_some, upd_n (show 2 ≠ 0 by decide), h2]
  generalize hV1 : qw V 196 (upd (upd (upd (upd (upd (upd (upd (upd (V 196) 0 0) 3 (Int32.ofNat n)) 2 0) 4 0) 5 900) 15 0) 19 0) 20 0) = V1
  have e196 : ∀ j, V1 196 j = upd (upd (upd (upd (upd (upd (upd (upd (V 196) 0 0) 3 (Int32.ofNat n)) 2 0) 4 0) 5 900) 15 0) 19 0) 20 0 j := fun j => by rw [← hV1, qw_s]
  have en : ∀ b, b ≠ 196 → V1 b = V b := fun b hb => by rw [← hV1, qw_n hb]
  have c3 : V1 196 3 = Int32.ofNat n := by rw [e196]; simp [upd]
  have c2 : V1 196 2 = Int32.ofNat 0 := by rw [e196]; simp [upd]
  have c4 : V1 196 4 = Int32.ofNat 0 := by rw [e196]; simp [upd]
  have c5 : V1 196 5 = Int32.ofNat 900 := by rw [e196]; simp [upd]
  have c15 : V1 196 15 = Int32.ofNat 0 := by rw [e196]; simp [upd]
  have c19 : V1 196 19 = Int32.ofNat 0 := by rw [e196]; simp [upd]
  have c20 : V1 196 20 = Int32.ofNat 0 := by rw [e196]; simp [upd]
  have hj : ∀ j, (j = 1 ∨ 20 < j) → V1 196 j = V 196 j := by
    intro j a
    rw [e196, upd_n (by omega), upd_n (by omega), upd_n (by omega), upd_n (by omega), upd_n (by omega), upd_n (by omega), upd_n (by omega), upd_n (by omega)]
  obtain ⟨V2, d1, d2, d3⟩ := G_clr (g := g) (X := X) (N := N) 139 0 N V1 (by omega) (by omega) (fun j hj => by omega)
  have d1' : fX12_clears N 216 (qH g V1 X) 196 = some (qH g V2 X) := d1
  rw [d1', Option.bind_some, q196_c, Option.bind_some]
  have k196 : V2 196 = V1 196 := d2 196 (by decide)
  have hmB : mB V2 B n := ⟨by rw [k196]; exact c3, hn, fun i hi => ⟨(hB i hi).1, by rw [d2 197 (by decide), en 197 (by decide)]; exact (hB i hi).2⟩⟩
  unfold fX12_next
  refine hV_bind (m_next (g := g) (B := B) (n := n) (m := 900) hN n N 0 V2 X hmB (by rw [k196]; exact c5) (by omega) (by rw [k196]; exact c4) (by omega) (by omega)) (fun W Y hx => ?_)
  obtain ⟨x1, x2⟩ := hx
  have hN1 : mN B n 900 W Y 0 := ⟨hmB.l x2, by rw [x2.1 5 (by decide) (by decide), k196]; exact c5, by omega, Nat.zero_le _, x1⟩
  have g1 : gN B n 900 false W Y 0 fH0 := ⟨hN1, by rw [x2.1 15 (by decide) (by decide), k196]; exact c15, by rw [x2.1 20 (by decide) (by decide), k196]; exact c20, fun j hj => by rw [x2.2.1 199 (by decide)]; exact d3 j hj⟩
  have wb : ∀ b, b ≠ 196 → b ≠ 199 → W b = V b := fun b hb h9 => by rw [x2.2.1 b hb, d2 b h9, en b hb]
  have wj : ∀ j, (j = 1 ∨ 20 < j) → W 196 j = V 196 j := fun j a => by rw [x2.1 j (by omega) (by omega), k196, hj j a]
  have w2 : W 196 2 = Int32.ofNat 0 := by rw [x2.1 2 (by decide) (by decide), k196]; exact c2
  have hX0 : gX Y fH0 q := by
    refine ⟨?_, fun i hi => ?_, fun i hi => ?_, fun i hi => ?_⟩
    · unfold wMsR at hX ⊢
      rw [x2.2.2 202 (by decide)]; exact hX
    · have : fH0 2 = 0 := rfl
      omega
    · have : fH0 3 = 0 := rfl
      omega
    · have : fH0 4 = 0 := rfl
      omega
  refine G_fieldL hN hn (n + 1) N W Y 0 0 fH0 q false g1 fH0_B hX0 fH0_N fH0_G (by rw [x2.1 19 (by decide) (by decide), k196]; exact c19) (by omega) (by omega) (by omega) (fun W3 Y3 kk pl i1 i2 i3 => ?_) (fun W3 Y3 p' ln' h' q' fl' i1 i2 i3 i4 i5 => ?_)
  · unfold fX12_field_58
    rw [q196_g16, Option.bind_some, i2.2, i1]
    refine hV_pure ⟨⟨rfl, i2.1, by rw [i3.2.1 198 (by decide) (by decide), wb 198 (by decide) (by decide)], by rw [i3.1 23 (by decide) (by decide), wj 23 (by omega)], fun j hj => by rw [i3.2.2.2 j hj, x2.2.2 201 (by decide)]⟩, by rw [i3.1 2 (by decide) (by decide)]; exact w2, fun b b1 b2 b3 => by rw [i3.2.1 b b1 b3, wb b b1 b3], fun j a _ => by rw [i3.1 j (by omega) (by omega), wj j a], fun b b1 b2 => by rw [i3.2.2.1 b b1 b2, x2.2.2 b b1]⟩
  · obtain ⟨k1, k2, fl2, k3⟩ := fRd_ok (n + 1) 0 0 fH0 q false ln' h' q' (Nat.zero_le _) fH0_B fH0_N fH0_G i1
    obtain ⟨W4, Y4, f1, f2, f3, f4, f5⟩ := G_end (g := g) (X := Y3) hN k1 i2.2.2.2
    obtain ⟨b1, b2, b3, b4, b5, -⟩ := k1
    rw [f1, i1]
    refine hV_pure ⟨⟨?_, ?_, ?_, ?_, fun i hi => ?_, fun i hi => ?_, fun i hi => ?_⟩, ?_, fun b b1 b2 b3 => ?_, fun j a b => ?_, fun b b1 b2 => ?_⟩
    · rw [f2 196 (by decide)]; exact i4
    · rw [qw_s, upd_n (by decide), f2 196 (by decide)]; exact i2.2.1
    · exact f3.fr (qw_n (by decide))
    · rw [qw_s, upd_s]; rfl
    · rw [f5 i (by omega)]; exact i3.2.1 i hi
    · rw [f5 (4 + i) (by omega), show 15 + (4 + i) = 19 + i by omega]; exact i3.2.2.1 i hi
    · rw [f5 (10 + i) (by omega), show 15 + (10 + i) = 25 + i by omega]; exact i3.2.2.2 i hi
    · rw [qw_s, upd_n (by decide), f2 196 (by decide), i5.1 2 (by decide) (by decide)]; exact w2
    · rw [qw_n b1, f2 b b2, i5.2.1 b b1 b3, wb b b1 b3]
    · rw [qw_s, upd_n b, f2 196 (by decide), i5.1 j (by omega) (by omega), wj j a]
    · rw [f4 b b2, i5.2.2.1 b b1 b2, x2.2.2 b b1]
end QFO
