/-! a field: the reference reads all its lines -/
section QFM
variable {g : zF} {V W U K C : Nat → Nat → Int32} {X Y Z D : Nat → Nat → Int64} {N n m p o k pl d e c ln w : Nat} {s t u B h r : Nat → Nat} {q : Nat → List Nat} {fl : Bool}
def lFr (V W : Nat → Nat → Int32) (X Y : Nat → Nat → Int64) : Prop := (∀ j, j ≠ 4 → (j < 11 ∨ 20 < j) → W 196 j = V 196 j) ∧ (∀ b, b ≠ 196 → b ≠ 199 → W b = V b) ∧ (∀ b, b ≠ 196 → b ≠ 201 → Y b = X b) ∧ ∀ j, j < 15 → Y 201 j = X 201 j
theorem lFr.rf : lFr V V X X := ⟨fun _ _ _ => rfl, fun _ _ _ => rfl, fun _ _ _ => rfl, fun _ _ => rfl⟩
theorem lFr.tr (h1 : lFr V W X Y) (h2 : lFr W U Y Z) : lFr V U X Z := ⟨fun j a b => by rw [h2.1 j a b, h1.1 j a b], fun b x y => by rw [h2.2.1 b x y, h1.2.1 b x y], fun b x y => by rw [h2.2.2.1 b x y, h1.2.2.1 b x y], fun j hj => by rw [h2.2.2.2 j hj, h1.2.2.2 j hj]⟩
theorem gFr.lf (h1 : gFr V W X Y) : lFr V W X Y := ⟨fun j a b => h1.1 j a (by omega) (by omega), h1.2.1, h1.2.2.1, h1.2.2.2⟩
theorem G_fieldL (hN : 3000 ≤ N) (hn9 : n ≤ 940) {R : (Nat → Nat → Int32) → (Nat → Nat → Int64) → Int32 → Prop} : ∀ k j V X p ln h q fl, gN B n m fl V X p h → fdB h → gX X h q → fdN h q → fdG h fl → V 196 19 = Int32.ofNat ln → n - p < k → 2 * ln ≤ p → 1000 ≤ j + ln → (∀ W Y kk pl, fRd B n m k p ln h q fl = .error (kk, pl) → mFl W kk pl → lFr V W X Y → hV g (fX12_field_58 N 216 (qH g W Y) 196) R) → (∀ W Y p' ln' h' q' fl', fRd B n m k p ln h q fl = .ok (ln', h', q') → gN B n m fl' W Y p' h' → gX Y h' q' → W 196 19 = Int32.ofNat ln' → lFr V W X Y → hV g (fX12_field_80 N 216 N (qH g W Y) 196 (0 : Int32)) R) → hV g (fX12_field_35 N 216 j (qH g V X) 196) R := by
  intro k
  induction k with
  | zero => intro j V X p ln h q fl h0 hB hX hn hG h19 h1; omega
  | succ k ih =>
    intro j V X p ln h q fl h0 hB hX hn hG h19 h1 h2 h3 hE hO
    have hp := h0.1.2.2.2.1
    obtain ⟨j, rfl⟩ := Nat.exists_eq_succ_of_ne_zero (n := j) (by omega)
    unfold fX12_field_35
    have hkd := h0.1.kd (c := 0) (by omega)
    rw [(mKd_2 _ tTok_k).2.2.2] at hkd
    rw [q196_g11, Option.bind_some]
    by_cases k0 : (tTok B n m p).1 = 0
    · rw [if_pos (by exact hkd.mpr k0)]
      exact hO V X p ln h q fl (by unfold fRd; rw [if_pos k0]) h0 hX h19 lFr.rf
    rw [if_neg (by exact fun e => k0 (hkd.mp e)), q196_c, Option.bind_some]
    refine hV_zbd (M_fline hN h0 hB hX hn) (fun W Y z hz => ?_)
    unfold fRd at hE hO
    rw [if_neg k0] at hE hO
    cases hb : fLine B n m h q fl p with
    | error e =>
      obtain ⟨kk, pl⟩ := e
      rw [hb] at hz hE
      obtain ⟨z0, y1, y2⟩ := hz
      rw [z0, if_pos (show Int32.ofNat 0 = (0 : Int32) from rfl)]
      exact hE W Y kk pl rfl y1 y2.lf
    | ok v =>
      obtain ⟨p2, h5, q5⟩ := v
      rw [hb] at hz hE hO
      dsimp only at hE hO
      obtain ⟨z0, y1, y2, y3⟩ := hz
      obtain ⟨z1, z2, z3, z4, z5⟩ := fLine_ok hp hB hn hG hb
      rw [z0, if_neg (show ¬ Int32.ofNat 1 = (0 : Int32) by decide), q196_c, Option.bind_some]
      refine hV_zbd (m_sgn hN y1.1 (c := 59) (by omega)) (fun W3 Y3 z hz => ?_)
      obtain ⟨hz, hf3⟩ := hz
      cases hs : aSgn B n m 59 p2 with
      | error e =>
        obtain ⟨kk, pl⟩ := e
        rw [hs] at hz hE
        rw [hz.1, if_pos (show Int32.ofNat 0 = (0 : Int32) from rfl)]
        exact hE W3 Y3 kk pl rfl hz.2 (y3.tr hf3.gf).lf
      | ok v =>
        obtain ⟨v1, p3⟩ := v
        rw [hs] at hz hE hO
        obtain ⟨w1, w2, w3⟩ := hz
        have hnx := aSgn_nx hs
        have htk := tok_nx (B := B) (m := m) z5 (by omega)
        have e19 : W3 196 19 = Int32.ofNat ln := by rw [hf3.1 19 (by decide) (by decide), y3.1 19 (by decide) (by decide) (by decide)]; exact h19
        rw [w1, if_neg (show ¬ Int32.ofNat 1 = (0 : Int32) by decide), q196_g19, Option.bind_some, e19, l1, qadd, q196_p19, Option.bind_some]
        have g3 : gN B n m (fFl B n m fl p) W3 Y3 p3 h5 := y1.fr w3 w2 hf3
        have g4 : gN B n m (fFl B n m fl p) (qw W3 196 (upd (W3 196) 19 (Int32.ofNat (ln + 1)))) Y3 p3 h5 := ⟨g3.1.put (j := 19) (by omega), by rw [qw_s, upd_n (by decide)]; exact g3.2.1, by rw [qw_s, upd_n (by decide)]; exact g3.2.2.1, fun j hj => by rw [qw_n (by decide)]; exact g3.2.2.2 j hj⟩
        have hf4 : lFr V (qw W3 196 (upd (W3 196) 19 (Int32.ofNat (ln + 1)))) X Y3 := (y3.tr hf3.gf).lf.tr ⟨fun j a b => by rw [qw_s, upd_n (by omega)], fun b x y => qw_n x, fun _ _ _ => rfl, fun _ _ => rfl⟩
        exact ih j _ Y3 p3 (ln + 1) h5 q5 (fFl B n m fl p) g4 z1 (y2.cg (hf3.2.2 201 (by decide)) (hf3.2.2 202 (by decide))) z2 z3 (by rw [qw_s, upd_s]) (by omega) (by omega) (by omega) (fun W4 Y4 kk pl i1 i2 i3 => hE W4 Y4 kk pl i1 i2 (hf4.tr i3)) (fun W4 Y4 p' ln' h' q' fl' i1 i2 i3 i4 i5 => hO W4 Y4 p' ln' h' q' fl' i1 i2 i3 i4 (hf4.tr i5))
end QFM
