/-! a field: the class, whole -/
section QFP
variable {g : zF} {V W U K C : Nat → Nat → Int32} {X Y Z D : Nat → Nat → Int64} {N n m p o k pl d e c ln w : Nat} {s t u B h r : Nat → Nat} {q : Nat → List Nat} {fl : Bool}
/-- the class has read a field into its scratch -/
def rdEnd (V W : Nat → Nat → Int32) (X Y : Nat → Nat → Int64) (z : Int32) : Except (Nat × Nat) (Nat × (Nat → Nat) × (Nat → List Nat)) → Prop
  | .error (k, pl) => 1 ≤ k ∧ k < 10 ∧ W 1 10 = Int32.ofNat k ∧ W 1 11 = Int32.ofNat pl ∧ fFr V W X Y
  | .ok (ln, h, q) => z = Int32.ofNat ln ∧ W 1 10 = Int32.ofNat 0 ∧ fdB h ∧ fdN h q ∧ rF W 36 (fS h) ∧ rL W 36 (fS h) ∧ rS W 47 (fS h) ∧ fdX Y h q ∧ fFr V W X Y
theorem K_readF (hN : 3000 ≤ N) (hB : cB V B n) (hW : cW X) : hV g (fX3_read N 216 (qH g V X) 35) (fun W Y z => rdEnd V W X Y z (fRd B n 900 (n + 1) 0 0 fH0 q false)) := by
  refine F_read (q := q) hN hB hW (fun W Y a h1 h2 => ?_)
  unfold fX3_read_184
  rw [q35_g0, Option.bind_some, q1_g10, Option.bind_some]
  cases hr : fRd B n 900 (n + 1) 0 0 fH0 q false with
  | error e =>
    obtain ⟨k, pl⟩ := e
    rw [hr] at h1
    obtain ⟨a1, a2, a3, a4, a5, a6, a7, a8, a9⟩ := h1
    rw [if_neg (by rw [a7, l0, qeq (by omega) (by omega)]; omega)]
    exact hV_pure ⟨a4, a5, a7, a8, h2⟩
  | ok v =>
    obtain ⟨ln, h, q5⟩ := v
    obtain ⟨k1, k2, fl2, k3⟩ := fRd_ok (n + 1) 0 0 fH0 q false ln h q5 (Nat.zero_le _) fH0_B fH0_N fH0_G hr
    rw [hr] at h1
    obtain ⟨rfl, hle, ⟨p, hc⟩, hC, hX⟩ := h1
    have h10 := hc.2.2.2.2.2.1
    rw [if_pos (by rw [h10]; rfl), q35_g2, Option.bind_some, q35_g3, Option.bind_some, qS_c qS_47, Option.bind_some]
    refine hV_bind (F_begin hN hC k1 k3) (fun W2 Y2 hx => ?_)
    obtain ⟨rfl, x1, x2, x3, x4⟩ := hx
    refine hV_pure ⟨rfl, by rw [x4 1 (by omega)]; exact h10, k1, k2, x1, x2, x3, hX, h2.tr ⟨fun b b1 b2 => x4 b (by omega), fun _ _ _ => rfl⟩⟩
/-- a field copied out of the scratch -/
theorem rF_cp (hR : rF V 36 s) (hW : sWF s) : rF (qcb V 4 36 (rC5 (V 4) (V 36)) qLG 10) 4 s := by
  obtain ⟨⟨w0, w0b⟩, ⟨w1, w1b⟩, w2, w3, w4, w5, w95, w113, w101, w129, w134⟩ := id hW
  obtain ⟨f0, f1, f2, f3, f4, f5, f95, f113, f101, f129, f134⟩ := id hR
  refine ⟨?_, ?_, ?_, ?_, ?_, fun j hj => ?_, fun j hj => ?_, fun j hj => ?_, fun j hj => ?_, fun j hj => ?_, fun j hj => ?_⟩
  · rw [qcb_r]; simp only [rC5, upd]; exact f0
  · rw [qcb_r]; simp only [rC5, upd]; exact f1
  · rw [qcb_r]; simp only [rC5, upd]; exact f2
  · rw [qcb_r]; simp only [rC5, upd]; exact f3
  · rw [qcb_r]; simp only [rC5, upd]; exact f4
  · rw [qcb_a (by omega) (by omega) (by show j < 81; omega)]; exact f5 j hj
  · rw [qcb_a (by omega) (by omega) (by show j < 6; omega)]; exact f95 j hj
  · rw [qcb_a (by omega) (by omega) (by show j < 6; omega)]; exact f113 j hj
  · rw [qcb_a (by omega) (by omega) (by show j < 6; omega)]; exact f101 j hj
  · rw [qcb_a (by omega) (by omega) (by show j < 5; omega)]; exact f129 j hj
  · rw [qcb_a (by omega) (by omega) (by show j < 5; omega)]; exact f134 j hj
theorem rL_cp (hR : rL V 36 s) (hW : sWF s) : rL (qcb V 4 36 (rC5 (V 4) (V 36)) qLG 10) 4 s := by
  have w2 := hW.2.2.1
  intro j hj
  rw [qcb_a (by omega) (by omega) (by show j < 4; omega)]
  exact hR j hj
end QFP
