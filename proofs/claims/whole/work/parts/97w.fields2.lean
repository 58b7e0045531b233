/-! a field: both calls -/
section QFR
variable {g : zF} {V W U K C : Nat → Nat → Int32} {X Y Z D : Nat → Nat → Int64} {N n m p o k pl d e c ln w : Nat} {s t u B h r : Nat → Nat} {q : Nat → List Nat} {fl : Bool}
theorem r5_eq {v x : List Nat} (h1 : wOK v ∧ v.length ≤ 7) (h2 : wOK x ∧ x.length ≤ 7) (e : Int64.ofNat (r5 v) = Int64.ofNat (r5 x)) : v = x := by
  have b1 := r5_b h1.1 h1.2
  have b2 := r5_b h2.1 h2.2
  rw [q64_inj (by omega) (by omega)] at e
  exact r5_inj _ _ h1.1 h2.1 e
theorem s_2 (hN : 3000 ≤ N) {f : zF} (hI : Inv f) : ∃ f2, zlc2 N 216 f = some f2 ∧ Inv f2 := by
  obtain ⟨g, V, X, s, rfl, hg, hJ⟩ := hI
  obtain ⟨hMm, hU, hR2⟩ := id hJ
  obtain ⟨n, B, hcB, hn2, hB197⟩ := hR2.1
  obtain ⟨hcW, hWm⟩ := hR2.2.1
  unfold zlc2
  obtain ⟨W, Y, r, e1, k1, k2, k3⟩ := K_field (g := g) (q := fun _ => []) hN hcB hcW
  have kb : ∀ b, b ≠ 1 → b ≠ 191 → ¬ (4 ≤ b ∧ b < 23) → b ≠ 31 → b ≠ 65 → ¬ (35 ≤ b ∧ b ≤ 55) → W b = V b := by
    intro b b1 b2 b3 b4 b5 b6
    cases hr : fRd B n 900 (n + 1) 0 0 fH0 (fun _ => []) false with
    | error x => rw [hr] at k1; exact k1.2.2.1 b b1 b2 b6
    | ok x => rw [hr] at k1; exact k1.2.2.2.2.2.2.2.2.2.2.2.1 b b1 b2 b3 b4 b5 b6
  have kX : ∀ b, b ≠ 1 → ¬ (4 ≤ b ∧ b < 8) → ¬ (37 ≤ b ∧ b ≤ 39) → Y b = X b := by
    intro b b1 b2 b3
    cases hr : fRd B n 900 (n + 1) 0 0 fH0 (fun _ => []) false with
    | error x => rw [hr] at k1; exact k1.2.2.2 b b1 b3
    | ok x => rw [hr] at k1; exact k1.2.2.2.2.2.2.2.2.2.2.2.2 b b1 b2 b3
  obtain ⟨E, Z, r2, e2, l1', l2, l3, l4, l5⟩ := M_field (g := g) (V := W) (X := Y) (B := B) (n := n) (q := fun _ => []) hN hcB.2.1 (by rw [kb 196 (by decide) (by decide) (by omega) (by decide) (by decide) (by omega)]; exact hn2) (fun i hi => ⟨(hcB.2.2 i hi).1, by rw [kb 197 (by decide) (by decide) (by omega) (by decide) (by decide) (by omega)]; exact hB197 i hi⟩) (fun v hv => by rw [kX 202 (by decide) (by omega) (by omega)]; exact hWm v hv)
  have k196 : W 196 = V 196 := kb 196 (by decide) (by decide) (by omega) (by decide) (by decide) (by omega)
  have eb : ∀ b, b ≠ 1 → b ≠ 191 → ¬ (4 ≤ b ∧ b < 23) → b ≠ 31 → b ≠ 65 → ¬ (35 ≤ b ∧ b ≤ 55) → b ≠ 196 → b ≠ 198 → b ≠ 199 → E b = V b := fun b b1 b2 b3 b4 b5 b6 b7 b8 b9 => by rw [l3 b b7 b8 b9, kb b b1 b2 b3 b4 b5 b6]
  have eX : ∀ b, b ≠ 1 → ¬ (4 ≤ b ∧ b < 8) → ¬ (37 ≤ b ∧ b ≤ 39) → b ≠ 196 → b ≠ 201 → Z b = X b := fun b b1 b2 b3 b4 b5 => by rw [l5 b b4 b5, kX b b1 b2 b3]
  have e191 : E 191 = W 191 := l3 191 (by decide) (by decide) (by decide)
  have hD : jD E := hR2.2.2.2.2.2.2.2.2.2.2.pt (fun b j hb => by
    rcases hb with ⟨rfl, rfl⟩ | rfl | ⟨rfl, rfl⟩ | rfl
    · rw [e191, k3 8 (by decide)]
    · rw [eb 194 (by decide) (by decide) (by omega) (by decide) (by decide) (by omega) (by decide) (by decide) (by decide)]
    · rw [l4 39 (by omega) (by decide), k196]
    · rw [eb 209 (by decide) (by decide) (by omega) (by decide) (by decide) (by omega) (by decide) (by decide) (by decide)])
  have hT : jT E := jT0 (by rw [l3 1 (by decide) (by decide) (by decide)]; exact k2) l2
  have hJR : jG E → jR E Z := fun hG => jRead hR2 hT hG hD (fun b j c1 c2 c3 c4 c5 c6 c7 c8 c9 c10 c11 => by
    unfold scr at c1
    by_cases h196 : b = 196
    · subst h196
      rw [l4 j (by omega) (by omega), k196]
    · by_cases h191 : b = 191
      · subst h191
        rw [e191, k3 j (by omega)]
      · rw [eb b (by omega) h191 (by omega) (by omega) (by omega) (by omega) h196 c9 (by omega)]) (fun b j c1 c2 c3 => by
    unfold scx at c1
    rw [eX b (by omega) (by omega) (by omega) (by omega) c3])
  cases hr : fRd B n 900 (n + 1) 0 0 fH0 (fun _ => []) false with
  | error x =>
    obtain ⟨kk, pl⟩ := x
    rw [hr] at k1 l1'
    obtain ⟨a1, a2, a3, a4⟩ := k1
    obtain ⟨m1, m2, m3, m4, m5⟩ := l1'
    obtain rfl : r = r2 := a1.trans m1.symm
    have w3 : ∀ b, b ≠ 1 → b ≠ 191 → ¬ (35 ≤ b ∧ b ≤ 55) → b ≠ 196 → b ≠ 199 → E b = V b := by
      intro b b1 b2 b3 b4 b5
      by_cases h8 : b = 198
      · subst h8
        rw [m3, a3 198 b1 b2 b3]
      · rw [l3 b b4 h8 b5, a3 b b1 b2 b3]
    refine cstep (o1 := fX11_field N 216 (qH g V X) 0) (m := fun ff => fX12_field N 216 ff 196) hg e1 e2 (s := s) ⟨hMm.pt (fun b j hb => by rw [w3 b (by omega) (by omega) (by omega) (by omega) (by omega)]) (fun b j hb => ?_), hU.pt sEq.rf (fun b j hb => ?_), hJR ?_⟩
    · by_cases h1 : b = 201
      · subst h1
        rw [m5 j (by omega), a4 201 (by decide) (by omega)]
      · rw [l5 b (by omega) h1, a4 b (by omega) (by omega)]
    · by_cases h1 : b = 196
      · subst h1
        obtain rfl : j = 23 := by omega
        rw [m4, k196]
      · rw [w3 b (by omega) (by omega) (by omega) h1 (by omega)]
    · unfold jG
      rw [e191, a2, m2]
  | ok x =>
    obtain ⟨ln, h, q5⟩ := x
    rw [hr] at k1 l1'
    obtain ⟨a1, a2, hB, hNn, a3, a4, a5, a6, a7, a8, ⟨a9, a10, a11⟩, a12, a13⟩ := k1
    obtain ⟨m1, m2, m3, m4, m5, m6, m7⟩ := l1'
    obtain rfl : r = r2 := a1.trans m1.symm
    obtain ⟨hOK, hWL⟩ := fS_ok hB
    obtain ⟨b1, b2, b3, b4, b5, -⟩ := id hB
    have ew : ∀ b, b ≠ 196 → b ≠ 198 → b ≠ 199 → E b = W b := l3
    have ez : ∀ b, b ≠ 196 → b ≠ 201 → Z b = Y b := l5
    have s2 : fS h 2 = h 2 := fS_lo (by omega)
    have s3 : fS h 3 = h 3 := fS_lo (by omega)
    have s4 : fS h 4 = h 4 := fS_lo (by omega)
    have s250 : fS h 250 = 0 := fS_0 (by omega)
    refine cstep (o1 := fX11_field N 216 (qH g V X) 0) (m := fun ff => fX12_field N 216 ff 196) hg e1 e2 (s := fS h) ⟨⟨hOK, hWL, a3.pt (fun b j x y => by rw [ew b (by omega) (by omega) (by omega)]), a4.pt (fun b j x y => by rw [ew b (by omega) (by omega) (by omega)]), a5.pt (fun b j x y => by rw [ew b (by omega) (by omega) (by omega)]), m3, ⟨?_, by omega, Or.inl s250, fun i hi => by omega⟩, ⟨fun o ho => ?_, fun f hf => ?_, fun l hl => ?_, fun f l hf hl => ?_⟩⟩, ?_, hJR ?_⟩
    · rw [ew 31 (by decide) (by decide) (by decide), s250]; exact a6
    · rw [s2] at ho
      refine ⟨q5 o, (hNn.1 o ho).1, (hNn.1 o ho).2, ?_, ?_⟩
      · rw [ez (4 + 1) (by decide) (by decide)]; exact a9 o ho
      · rw [Nat.zero_add]; exact m5 o ho
    · rw [s3] at hf
      refine ⟨q5 (4 + f), (hNn.2.1 f hf).1, (hNn.2.1 f hf).2, ?_, ?_⟩
      · rw [ez (4 + 2) (by decide) (by decide)]; exact a10 f hf
      · rw [Nat.zero_add]; exact m6 f hf
    · rw [s4] at hl
      refine ⟨q5 (10 + l), (hNn.2.2.1 l hl).1, (hNn.2.2.1 l hl).2, ?_, ?_⟩
      · rw [ez (4 + 3) (by decide) (by decide)]; exact a11 l hl
      · rw [Nat.zero_add]; exact m7 l hl
    · rw [s3] at hf
      rw [s4] at hl
      rw [ez (4 + 2) (by decide) (by decide), ez (4 + 3) (by decide) (by decide)]
      intro e
      have n1 : nmR (Y (4 + 2) f) (Z 201 (4 + f)) := ⟨q5 (4 + f), (hNn.2.1 f hf).1, (hNn.2.1 f hf).2, a10 f hf, m6 f hf⟩
      have n2 : nmR (Y (4 + 3) l) (Z 201 (10 + l)) := ⟨q5 (10 + l), (hNn.2.2.1 l hl).1, (hNn.2.2.1 l hl).2, a11 l hl, m7 l hl⟩
      have e3 : Int64.ofNat (r5 (q5 (4 + f))) = Int64.ofNat (r5 (q5 (10 + l))) := (a10 f hf).symm.trans (e.trans (a11 l hl))
      exact hNn.2.2.2 f l hf hl (r5_eq (hNn.2.1 f hf) (hNn.2.2.1 l hl) e3)
    · obtain ⟨nU, nx, UU, hnU, hx, u1, u2, u3, hU4⟩ := id hU
      refine ⟨0, nx, UU, by omega, hx, by rw [ew 65 (by decide) (by decide) (by decide)]; exact a7, by rw [ew 65 (by decide) (by decide) (by decide), a8 2 (by decide)]; exact u2, m4, fun j hj => by omega⟩
    · unfold jG
      rw [e191, a2, m2]
end QFR
