/-! a field: the class's call -/
section QFQ
variable {g : zF} {V W U K C : Nat → Nat → Int32} {X Y Z D : Nat → Nat → Int64} {N n m p o k pl d e c ln w : Nat} {s t u B h r : Nat → Nat} {q : Nat → List Nat} {fl : Bool}
def kfLast (V W : Nat → Nat → Int32) (X Y : Nat → Nat → Int64) (z : Int32) : Except (Nat × Nat) (Nat × (Nat → Nat) × (Nat → List Nat)) → Prop
  | .error (k, pl) => z = -1 - Int32.ofNat pl ∧ W 191 0 = Int32.ofNat k ∧ (∀ b, b ≠ 1 → b ≠ 191 → ¬ (35 ≤ b ∧ b ≤ 55) → W b = V b) ∧ ∀ b, b ≠ 1 → ¬ (37 ≤ b ∧ b ≤ 39) → Y b = X b
  | .ok (ln, h, q) => z = Int32.ofNat ln ∧ W 191 0 = Int32.ofNat 0 ∧ fdB h ∧ fdN h q ∧ rF W 4 (fS h) ∧ rL W 4 (fS h) ∧ rS W 15 (fS h) ∧ W 31 0 = Int32.ofNat 0 ∧ W 65 1 = Int32.ofNat 0 ∧ (∀ j, j ≠ 1 → W 65 j = V 65 j) ∧ ((∀ i, i < h 2 → Y 5 i = Int64.ofNat (r5 (q i))) ∧ (∀ i, i < h 3 → Y 6 i = Int64.ofNat (r5 (q (4 + i)))) ∧ ∀ i, i < h 4 → Y 7 i = Int64.ofNat (r5 (q (10 + i)))) ∧ (∀ b, b ≠ 1 → b ≠ 191 → ¬ (4 ≤ b ∧ b < 23) → b ≠ 31 → b ≠ 65 → ¬ (35 ≤ b ∧ b ≤ 55) → W b = V b) ∧ ∀ b, b ≠ 1 → ¬ (4 ≤ b ∧ b < 8) → ¬ (37 ≤ b ∧ b ≤ 39) → Y b = X b
theorem K_field (hN : 3000 ≤ N) (hB : cB V B n) (hW : cW X) : hV g (fX11_field N 216 (qH g V X) 0) (fun W Y z => kfLast V W X Y z (fRd B n 900 (n + 1) 0 0 fH0 q false) ∧ W 1 2 = Int32.ofNat 0 ∧ ∀ j, j ≠ 0 → W 191 j = V 191 j) := by
  unfold fX11_field
  rw [q0_g5, Option.bind_some, q35_c, Option.bind_some]
  refine hV_zbd (K_readF (q := q) hN hB hW) (fun W Y z hx => ?_)
  rw [q0_g0, Option.bind_some, q1_p2, Option.bind_some, q0_g12, Option.bind_some, q0_g0, Option.bind_some, q1_g10, Option.bind_some, qw_s, upd_n (by decide), q191_p0, Option.bind_some, q0_g0, Option.bind_some, q1_g10, Option.bind_some, qw_n (by decide), qw_s, upd_n (by decide), qw_n (by decide)]
  cases hs : fRd B n 900 (n + 1) 0 0 fH0 q false with
  | error x =>
    obtain ⟨kk, pl⟩ := x
    rw [hs] at hx
    obtain ⟨f1, f2, f3, f4, f5⟩ := hx
    rw [f3, if_neg (by rw [l0, qeq (by omega) (by omega)]; omega), Option.bind_some, q1_g11, Option.bind_some, qw_n (by decide), qw_s, upd_n (by decide), f4]
    refine hV_pure ⟨⟨rfl, ?_, fun b b1 b2 b3 => ?_, fun b b1 b2 => f5.2 b b1 b2⟩, ?_, fun j hj => ?_⟩
    · rw [qw_s, upd_s]
    · rw [qw_n b2, qw_n b1]; exact f5.1 b b1 b3
    · rw [qw_n (by decide), qw_s, upd_s]; rfl
    · rw [qw_s, upd_n hj, f5.1 191 (by decide) (by omega)]
  | ok x =>
    obtain ⟨ln, h, q5⟩ := x
    rw [hs] at hx
    obtain ⟨rfl, f1, f2, f3, f4, f5, f6, f7, f8⟩ := hx
    rw [f1, if_pos (show Int32.ofNat 0 = (0 : Int32) from rfl)]
    have hOK := (fS_ok f2).1
    generalize hK : qw (qw W 1 (upd (W 1) 2 0)) 191 (upd (W 191) 0 (Int32.ofNat 0)) = K
    have nK : ∀ b, b ≠ 1 → b ≠ 191 → K b = W b := fun b b1 b2 => by rw [← hK, qw_n b2, qw_n b1]
    have k1 : K 1 2 = Int32.ofNat 0 := by rw [← hK, qw_n (by decide), qw_s, upd_s]; rfl
    have k191 : K 191 0 = Int32.ofNat 0 := by rw [← hK, qw_s, upd_s]
    have k191j : ∀ j, j ≠ 0 → K 191 j = V 191 j := fun j hj => by rw [← hK, qw_s, upd_n hj, f8.1 191 (by decide) (by omega)]
    have kF : rF K 36 (fS h) := f4.pt (fun b j x y => by rw [nK b (by omega) (by omega)])
    have kL : rL K 36 (fS h) := f5.pt (fun b j x y => by rw [nK b (by omega) (by omega)])
    have kS : rS K 47 (fS h) := f6.pt (fun b j x y => by rw [nK b (by omega) (by omega)])
    have F1 := rF_cp kF hOK.1
    have L1 := rL_cp kL hOK.1
    rw [q0_g1, Option.bind_some, q0_g5, Option.bind_some, q35_g1, Option.bind_some, qF_c qF_4, Option.bind_some, e_copyF qF_4 qF_36 (by omega), Option.bind_some]
    have nA : ∀ b, ¬ (4 ≤ b ∧ b ≤ 14) → qcb K 4 36 (rC5 (K 4) (K 36)) qLG 10 b = K b := fun b hb => qcb_n (by omega)
    have xA : ∀ b, ¬ (4 < b ∧ b ≤ 7) → xcb Y 4 36 3 b = Y b := fun b hb => xcb_n (by omega)
    have x5 : ∀ i, i < 4 → xcb Y 4 36 3 5 i = Y 37 i := fun i hi => xcb_a (a := 4) (b := 36) (j := 1) (by omega) (by omega) (by show i < 4; omega)
    have x6 : ∀ i, i < 6 → xcb Y 4 36 3 6 i = Y 38 i := fun i hi => xcb_a (a := 4) (b := 36) (j := 2) (by omega) (by omega) (by show i < 6; omega)
    have x7 : ∀ i, i < 5 → xcb Y 4 36 3 7 i = Y 39 i := fun i hi => xcb_a (a := 4) (b := 36) (j := 3) (by omega) (by omega) (by show i < 5; omega)
    generalize qcb K 4 36 (rC5 (K 4) (K 36)) qLG 10 = A at F1 L1 nA ⊢
    generalize xcb Y 4 36 3 = XA at xA x5 x6 x7 ⊢
    have S1 : rS A 47 (fS h) := kS.pt (fun b j x y => by rw [nA b (by omega)])
    have S2 := S1.copy (a := 15) hOK.1
    rw [q0_g2, Option.bind_some, q0_g5, Option.bind_some, q35_g2, Option.bind_some, qS_c qS_15, Option.bind_some, e_copyS qS_15 qS_47 (by omega), Option.bind_some]
    have nE : ∀ b, ¬ (15 ≤ b ∧ b ≤ 22) → qcb A 15 47 (upd (A 15) 1 (A 47 1)) qLS 7 b = A b := fun b hb => qcb_n (by omega)
    generalize qcb A 15 47 (upd (A 15) 1 (A 47 1)) qLS 7 = E at S2 nE ⊢
    unfold fX6_clear fX10_clear
    rw [q0_g4, Option.bind_some, qN_c qN_31, Option.bind_some, qN_p0 qN_31, Option.bind_some, Option.bind_some, q0_g8, Option.bind_some, q65_c, Option.bind_some, q65_p1, Option.bind_some, Option.bind_some]
    have all : ∀ b, b ≠ 1 → b ≠ 191 → ¬ (4 ≤ b ∧ b < 23) → ¬ (35 ≤ b ∧ b ≤ 55) → E b = V b := fun b b1 b2 b3 b4 => by rw [nE b (by omega), nA b (by omega), nK b b1 b2, f8.1 b b1 b4]
    obtain ⟨-, -, w2, w3, w4, -⟩ := id f2
    refine hV_pure ⟨⟨rfl, ?_, f2, f3, ?_, ?_, ?_, ?_, ?_, fun j hj => ?_, ⟨fun i hi => ?_, fun i hi => ?_, fun i hi => ?_⟩, fun b b1 b2 b3 b4 b5 b6 => ?_, fun b b1 b2 b3 => ?_⟩, ?_, fun j hj => ?_⟩
    · rw [qw_n (by decide), qw_n (by decide), nE 191 (by omega), nA 191 (by omega)]; exact k191
    · exact F1.pt (fun b j x y => by rw [qw_n (by omega), qw_n (by omega), nE b (by omega)])
    · exact L1.pt (fun b j x y => by rw [qw_n (by omega), qw_n (by omega), nE b (by omega)])
    · exact S2.pt (fun b j x y => by rw [qw_n (by omega), qw_n (by omega)])
    · rw [qw_n (by decide), qw_s, upd_s]; rfl
    · rw [qw_s, upd_s]; rfl
    · rw [qw_s, upd_n hj, qw_n (by decide), all 65 (by decide) (by decide) (by omega) (by omega)]
    · rw [x5 i (by omega)]; exact f7.1 i hi
    · rw [x6 i (by omega)]; exact f7.2.1 i hi
    · rw [x7 i (by omega)]; exact f7.2.2 i hi
    · rw [qw_n b5, qw_n b4]; exact all b b1 b2 b3 b6
    · rw [xA b (by omega)]; exact f8.2 b b1 b3
    · rw [qw_n (by decide), qw_n (by decide), nE 1 (by omega), nA 1 (by omega)]; exact k1
    · rw [qw_n (by decide), qw_n (by decide), nE 191 (by omega), nA 191 (by omega)]; exact k191j j hj
end QFQ
