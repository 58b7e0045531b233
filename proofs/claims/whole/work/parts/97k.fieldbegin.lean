/-! a field: the class's state put at its beginning -/
section QFF
variable {g : zF} {V W U K C : Nat → Nat → Int32} {X Y Z D : Nat → Nat → Int64} {N n m p o k pl d e c w y : Nat} {s t u B h : Nat → Nat} {q : Nat → List Nat} {fl : Bool}
def ow : Option Nat → Nat
  | some o => o + 1
  | none => 0
/-- the reference's row when a field was read -/
def fS (h : Nat → Nat) (j : Nat) : Nat := if j < 139 then h j else if j < 141 then 0 else if j < 153 then h (j - 40) else if j < 159 then 0 else if j < 169 then h (j - 40) else if j < 250 then ow (sFO h (j - 169)) else 0
theorem fS_lo {j : Nat} (hj : j < 139) : fS h j = h j := if_pos hj
theorem fS_m {i j : Nat} (hi : i = j + 40) (hj : (101 ≤ j ∧ j < 113) ∨ (119 ≤ j ∧ j < 129)) : fS h i = h j := by
  subst hi
  unfold fS
  rcases hj with hj | hj
  · rw [if_neg (by omega), if_neg (by omega), if_pos (by omega), show j + 40 - 40 = j by omega]
  · rw [if_neg (by omega), if_neg (by omega), if_neg (by omega), if_neg (by omega), if_pos (by omega), show j + 40 - 40 = j by omega]
theorem fS_0 {j : Nat} (hj : j = 139 ∨ j = 140 ∨ (153 ≤ j ∧ j < 159) ∨ 250 ≤ j) : fS h j = 0 := by
  unfold fS
  rw [if_neg (by omega)]
  by_cases h1 : j < 141
  · rw [if_pos h1]
  rw [if_neg h1, if_neg (by omega)]
  by_cases h2 : j < 159
  · rw [if_pos h2]
  rw [if_neg h2, if_neg (by omega), if_neg (by omega)]
theorem fS_o (hc : c < 81) : fS h (169 + c) = ow (sFO h c) := by
  unfold fS
  rw [if_neg (by omega), if_neg (by omega), if_neg (by omega), if_neg (by omega), if_neg (by omega), if_pos (by omega), show 169 + c - 169 = c by omega]
theorem fS_eq : sEq h (fS h) := fun i hi => fS_lo hi
theorem fdB.wf (hB : fdB h) : sWF h := by
  obtain ⟨b1, b2, b3, b4, b5, b6, b7, b8, b9, b10⟩ := hB
  exact ⟨b1, b2, b3, b4, b5, b6, fun f hf => (b8 f hf).1, fun f hf => (b8 f hf).2.2.2, fun f hf => (b8 f hf).2.1, fun l hl => (b9 l hl).2.2.1, fun l hl => (b9 l hl).2.2.2⟩
theorem fS_ok (hB : fdB h) : sOK (fS h) ∧ sWL (fS h) := by
  have hW := hB.wf
  have w := fS_eq.wf hW
  obtain ⟨b1, b2, b3, b4, b5, b6, b7, b8, b9, b10⟩ := id hB
  refine ⟨⟨w, ⟨?_, ?_, fun f hf => ?_, fun f hf => ?_, fun l hl => ?_, fun l hl => ?_, fun c hc => ?_, fun f f2 hf hf2 => ?_⟩, fun f hf => ?_, ?_⟩, fun y hy => ?_⟩
  · rw [fS_0 (by omega)]; omega
  · rw [fS_0 (by omega)]; exact Nat.pow_pos (by decide)
  · rw [fS_lo (by omega)] at hf
    rw [fS_m (i := 141 + f) (j := 101 + f) (by omega) (by omega)]; exact (b8 f hf).2.1
  · rw [fS_lo (by omega)] at hf
    rw [fS_m (i := 147 + f) (j := 107 + f) (by omega) (by omega)]; exact (b8 f hf).2.2.1
  · rw [fS_lo (by omega)] at hl
    rw [fS_m (i := 159 + l) (j := 119 + l) (by omega) (by omega)]; exact (b9 l hl).1
  · rw [fS_lo (by omega)] at hl
    rw [fS_m (i := 164 + l) (j := 124 + l) (by omega) (by omega)]; exact (b9 l hl).2.1
  · rw [fS_o hc]
    cases hx : sFO h c with
    | none => show 0 ≤ 4; omega
    | some o =>
      have := sFO_lt hW b7 hc hx
      show o + 1 ≤ 4
      omega
  · rw [fS_lo (by omega)] at hf hf2
    rw [fS_m (i := 141 + f) (j := 101 + f) (by omega) (by omega), fS_m (i := 141 + f2) (j := 101 + f2) (by omega) (by omega)]
    exact b10 f f2 hf hf2
  · rw [fS_lo (by omega)] at hf
    rw [fS_0 (by omega)]; exact Nat.zero_le _
  · rw [fS_0 (by omega)]; omega
  · rw [fS_lo (by omega), fS_lo (by omega)]; exact b7 y hy
theorem f47_0 : zgR 216 (qH g V X) 8 47 0 = some 36 := qS_g0 qS_47
theorem f47_8 : zgR 216 (qH g V X) 8 47 8 = some 54 := qS_g8 qS_47
theorem f47_2 : zgR 216 (qH g V X) 8 47 2 = some 48 := qS_g2 qS_47
theorem f47_4 : zgR 216 (qH g V X) 8 47 4 = some 50 := qS_g4 qS_47
theorem f47_7 : zgR 216 (qH g V X) 8 47 7 = some 53 := qS_g7 qS_47
theorem f36_10 : zgR 216 (qH g V X) 2 36 10 = some 42 := qF_g10 qF_36
theorem f36_12 : zgR 216 (qH g V X) 2 36 12 = some 44 := qF_g12 qF_36
theorem f36_9 : zgR 216 (qH g V X) 2 36 9 = some 41 := qF_g9 qF_36
theorem k54 : 54 < 216 ∧ qK 54 = 20 ∧ qL 54 = 81 := qS_k7 qS_47
theorem k53 : 53 < 216 ∧ qK 53 = 20 ∧ qL 53 = 5 := qS_k6 qS_47
theorem k50 : 50 < 216 ∧ qK 50 = 20 ∧ qL 50 = 6 := qS_k3 qS_47
theorem k48 : 48 < 216 ∧ qK 48 = 20 ∧ qL 48 = 6 := qS_k1 qS_47
theorem k42 : 42 < 216 ∧ qK 42 = 20 ∧ qL 42 = 6 := qF_k6 qF_36
theorem k44 : 44 < 216 ∧ qK 44 = 20 ∧ qL 44 = 6 := qF_k8 qF_36
theorem k41 : 41 < 216 ∧ qK 41 = 20 ∧ qL 41 = 4 := qF_k5 qF_36
theorem F_b44 {r : zF → Nat → Nat → Int32 → Option zF} (hy : y < 9) (hw : w ≤ 9) (h0 : V 36 0 = Int32.ofNat w) : ∀ m i k u, i + m = w → m < k → fX8_begin_44 r N 216 k (qH g (qw V 54 u) X) 47 55 (Int32.ofNat y) (Int32.ofNat i) = r (qH g (qw V 54 (fun c => if c / 9 = y ∧ i ≤ c % 9 ∧ c % 9 < w then V 55 y else u c)) X) 47 55 (Int32.ofNat (y + 1)) := by
  intro m
  induction m with
  | zero =>
    intro i k u hi hk
    obtain ⟨k, rfl⟩ : ∃ j, k = j + 1 := ⟨k - 1, by omega⟩
    unfold fX8_begin_44
    rw [f47_0, Option.bind_some, qF_g0 qF_36, Option.bind_some, qw_n (by decide), h0, if_pos (by rw [qle (by omega) (by omega)]; omega), l1, qadd]
    have e : (fun c => if c / 9 = y ∧ i ≤ c % 9 ∧ c % 9 < w then V 55 y else u c) = u := by
      funext c
      rw [if_neg (by omega)]
    rw [e]
  | succ m ih =>
    intro i k u hi hk
    obtain ⟨k, rfl⟩ : ∃ j, k = j + 1 := ⟨k - 1, by omega⟩
    unfold fX8_begin_44
    rw [f47_0, Option.bind_some, qF_g0 qF_36, Option.bind_some, qw_n (by decide), h0, if_neg (by rw [qle (by omega) (by omega)]; omega), f47_8, Option.bind_some, e_at qk_55 hy (by omega), Option.bind_some, qw_n (by decide), l9, qmul, qadd, e_put k54 (by omega) (by omega), Option.bind_some, qw_qw, qw_s, l1, qadd, ih (i + 1) k _ (by omega) (by omega)]
    have e : (fun c => if c / 9 = y ∧ i + 1 ≤ c % 9 ∧ c % 9 < w then V 55 y else upd u (9 * y + i) (V 55 y) c) = (fun c => if c / 9 = y ∧ i ≤ c % 9 ∧ c % 9 < w then V 55 y else u c) := by
      funext c
      by_cases ec : c = 9 * y + i
      · rw [if_neg (by omega), if_pos (by omega), ec, upd_s]
      · rw [upd_n ec]
        by_cases hc : c / 9 = y ∧ i + 1 ≤ c % 9 ∧ c % 9 < w
        · rw [if_pos hc, if_pos (by omega)]
        · rw [if_neg hc, if_neg (by omega)]
    rw [e]
theorem F_b31 (hN : 3000 ≤ N) {hh : Nat} (hw : w ≤ 9) (h9 : hh ≤ 9) (h0 : V 36 0 = Int32.ofNat w) (h1 : V 36 1 = Int32.ofNat hh) : ∀ m y k u, y + m = hh → m < k → fX8_begin_31 N 216 k (qH g (qw V 54 u) X) 47 55 (Int32.ofNat y) = fX8_begin_87 N 216 N (qH g (qw V 54 (fun c => if c / 9 < hh ∧ y ≤ c / 9 ∧ c % 9 < w then V 55 (c / 9) else u c)) X) 47 (0 : Int32) := by
  intro m
  induction m with
  | zero =>
    intro y k u hi hk
    obtain ⟨k, rfl⟩ : ∃ j, k = j + 1 := ⟨k - 1, by omega⟩
    unfold fX8_begin_31
    rw [f47_0, Option.bind_some, qF_g1 qF_36, Option.bind_some, qw_n (by decide), h1, if_pos (by rw [qle (by omega) (by omega)]; omega)]
    have e : (fun c => if c / 9 < hh ∧ y ≤ c / 9 ∧ c % 9 < w then V 55 (c / 9) else u c) = u := by
      funext c
      rw [if_neg (by omega)]
    rw [e]
  | succ m ih =>
    intro y k u hi hk
    obtain ⟨k, rfl⟩ : ∃ j, k = j + 1 := ⟨k - 1, by omega⟩
    unfold fX8_begin_31
    rw [f47_0, Option.bind_some, qF_g1 qF_36, Option.bind_some, qw_n (by decide), h1, if_neg (by rw [qle (by omega) (by omega)]; omega)]
    show fX8_begin_44 (fX8_begin_31 N 216 k) N 216 N (qH g (qw V 54 u) X) 47 55 (Int32.ofNat y) (Int32.ofNat 0) = _
    rw [F_b44 (by omega) hw h0 w 0 N u (by omega) (by omega), ih (y + 1) k _ (by omega) (by omega)]
    have e : (fun c => if c / 9 < hh ∧ y + 1 ≤ c / 9 ∧ c % 9 < w then V 55 (c / 9) else if c / 9 = y ∧ 0 ≤ c % 9 ∧ c % 9 < w then V 55 y else u c) = (fun c => if c / 9 < hh ∧ y ≤ c / 9 ∧ c % 9 < w then V 55 (c / 9) else u c) := by
      funext c
      by_cases ec : c / 9 = y
      · rw [if_neg (by omega), ec]
        by_cases hc : c % 9 < w
        · rw [if_pos (by omega), if_pos (by omega)]
        · rw [if_neg (by omega), if_neg (by omega)]
      · by_cases hc : c / 9 < hh ∧ y + 1 ≤ c / 9 ∧ c % 9 < w
        · rw [if_pos hc, if_pos (by omega)]
        · rw [if_neg hc, if_neg (by omega), if_neg (by omega)]
    rw [e]
/-- the cells of the first i figures told -/
def bInv (h : Nat → Nat) (base : Nat → Int32) (i : Nat) (W : Nat → Nat → Int32) : Prop := (∀ c, c < 81 → (∀ f, f < i → h (101 + f) = c → W 54 c = Int32.ofNat (h (95 + f))) ∧ ((∀ f, f < i → h (101 + f) ≠ c) → W 54 c = base c)) ∧ ∀ f, f < i → W 44 f = Int32.ofNat (h (101 + f))
theorem F_b87 (hN : 3000 ≤ N) {base : Nat → Int32} (hC : fdC V h) (hB : fdB h) : ∀ m i k W, i + m = h 3 → m < k → (∀ b, b ≠ 54 → b ≠ 44 → W b = V b) → bInv h base i W → ∃ U, fX8_begin_87 N 216 k (qH g W X) 47 (Int32.ofNat i) = fX8_begin_151 N 216 N (qH g U X) 47 (0 : Int32) ∧ (∀ b, b ≠ 54 → b ≠ 44 → U b = V b) ∧ bInv h base (h 3) U := by
  obtain ⟨⟨c0, c1, c2, c3, c4⟩, c5, c6, c7, c8⟩ := id hC
  obtain ⟨b1, b2, b3, b4, b5, b6, b7, b8, b9, b10⟩ := id hB
  intro m
  induction m with
  | zero =>
    intro i k W hi hk hf hI
    obtain ⟨k, rfl⟩ : ∃ j, k = j + 1 := ⟨k - 1, by omega⟩
    unfold fX8_begin_87
    rw [f47_0, Option.bind_some, qF_g3 qF_36, Option.bind_some, hf 36 (by decide) (by decide), c3, if_pos (by rw [qle (by omega) (by omega)]; omega)]
    have hi : i = h 3 := by omega
    rw [hi] at hI
    exact ⟨W, rfl, hf, hI⟩
  | succ m ih =>
    intro i k W hi hk hf hI
    obtain ⟨k, rfl⟩ : ∃ j, k = j + 1 := ⟨k - 1, by omega⟩
    obtain ⟨d1, d2, d3, d4⟩ := c7 i (by omega)
    obtain ⟨e1, e2, e3, e4⟩ := b8 i (by omega)
    unfold fX8_begin_87
    rw [f47_0, Option.bind_some, qF_g3 qF_36, Option.bind_some, hf 36 (by decide) (by decide), c3, if_neg (by rw [qle (by omega) (by omega)]; omega), f47_8, Option.bind_some, f47_2, Option.bind_some, e_at k48 (by omega) (by omega), Option.bind_some, Option.bind_some, f36_10, Option.bind_some, e_at k42 (by omega) (by omega), Option.bind_some, hf 48 (by decide) (by decide), hf 42 (by decide) (by decide), d1, d2, e_put k54 e2 (by omega), Option.bind_some, f47_0, Option.bind_some, f36_12, Option.bind_some, f47_2, Option.bind_some, e_at k48 (by omega) (by omega), Option.bind_some, qw_n (by decide), hf 48 (by decide) (by decide), d2, e_put k44 (by omega) (by omega), Option.bind_some, l1, qadd]
    refine ih (i + 1) k _ (by omega) (by omega) (fun b x y => by rw [qw_n y, qw_n x, hf b x y]) ⟨fun c hc => ⟨fun f hf2 hh => ?_, fun hh => ?_⟩, fun f hf2 => ?_⟩
    · rw [qw_n (by decide), qw_s]
      by_cases ef : f = i
      · rw [ef] at hh ⊢
        rw [hh, upd_s]
      · have : h (101 + i) ≠ c := fun e => ef (b10 f i (by omega) (by omega) (by omega))
        rw [upd_n (fun e => this e.symm)]
        exact (hI.1 c hc).1 f (by omega) hh
    · rw [qw_n (by decide), qw_s, upd_n (fun e => hh i (by omega) e.symm)]
      exact (hI.1 c hc).2 (fun f hf2 => hh f (by omega))
    · rw [qw_s]
      by_cases ef : f = i
      · rw [ef, upd_s]
      · rw [upd_n ef, qw_n (by decide)]
        exact hI.2 f (by omega)
theorem F_b151 (hN : 3000 ≤ N) (hD : sWD s) (h2 : s 2 ≤ 4) : ∀ m i k W, i + m = s 2 → m < k → rS W 47 s → W 36 2 = Int32.ofNat (s 2) → ∃ U, fX8_begin_151 N 216 k (qH g W X) 47 (Int32.ofNat i) = some (qH g U X) ∧ (∀ b, b ≠ 41 → U b = W b) ∧ (∀ o, i ≤ o → o < s 2 → U 41 o = Int32.ofNat (sLand s o)) ∧ ∀ o, o < i → U 41 o = W 41 o := by
  intro m
  induction m with
  | zero =>
    intro i k W hi hk hS h36
    obtain ⟨k, rfl⟩ : ∃ j, k = j + 1 := ⟨k - 1, by omega⟩
    unfold fX8_begin_151
    rw [f47_0, Option.bind_some, qF_g2 qF_36, Option.bind_some, h36, if_pos (by rw [qle (by omega) (by omega)]; omega)]
    exact ⟨W, rfl, fun _ _ => rfl, fun o h1 h2 => by omega, fun _ _ => rfl⟩
  | succ m ih =>
    intro i k W hi hk hS h36
    obtain ⟨k, rfl⟩ : ∃ j, k = j + 1 := ⟨k - 1, by omega⟩
    unfold fX8_begin_151
    rw [f47_0, Option.bind_some, qF_g2 qF_36, Option.bind_some, h36, if_neg (by rw [qle (by omega) (by omega)]; omega), Option.bind_some, f36_9, Option.bind_some, qS_c qS_47, Option.bind_some, e_landOf hN qS_47 hS hD (by omega), Option.bind_some, e_put k41 (by omega) (by omega), Option.bind_some, l1, qadd]
    obtain ⟨U, e1, e2, e3, e4⟩ := ih (i + 1) k (qw W 41 (upd (W 41) i (Int32.ofNat (sLand s i)))) (by omega) (by omega) (hS.pt (fun b j x y => by rw [qw_n (by omega)])) (by rw [qw_n (by decide)]; exact h36)
    refine ⟨U, e1, fun b hb => by rw [e2 b hb, qw_n hb], fun o h1 h2 => ?_, fun o ho => ?_⟩
    · by_cases eo : o = i
      · rw [eo, e4 i (by omega), qw_s, upd_s]
      · exact e3 o (by omega) h2
    · rw [e4 o (by omega), qw_s, upd_n (by omega)]
theorem F_begin (hN : 3000 ≤ N) (hC : fdC V h) (hB : fdB h) (hG : fdG h fl) : hS g (fX8_begin N 216 (qH g V X) 47 55) (fun W Y => Y = X ∧ rF W 36 (fS h) ∧ rL W 36 (fS h) ∧ rS W 47 (fS h) ∧ ∀ b, ¬ (36 ≤ b ∧ b ≤ 54) → W b = V b) := by
  obtain ⟨⟨c0, c1, c2, c3, c4⟩, c5, c6, c7, c8⟩ := id hC
  obtain ⟨b1, b2, b3, b4, b5, b6, b7, b8, b9, b10⟩ := id hB
  have hW := hB.wf
  obtain ⟨hOK, hWL⟩ := fS_ok hB
  unfold fX8_begin
  rw [qS_p1 qS_47, Option.bind_some, f47_4, Option.bind_some, e_fill hN k50 (by omega), Option.bind_some, f47_7, Option.bind_some, e_fill hN k53 (by omega), Option.bind_some, f47_8, Option.bind_some, e_fill hN k54 (by omega), Option.bind_some]
  generalize hK : qw (qw (qw V 47 (upd (V 47) 1 0)) 50 (fun j => if j < 6 then 0 else (qw V 47 (upd (V 47) 1 0)) 50 j)) 53 (fun j => if j < 5 then 0 else (qw (qw V 47 (upd (V 47) 1 0)) 50 (fun j => if j < 6 then 0 else (qw V 47 (upd (V 47) 1 0)) 50 j)) 53 j) = K
  have n1 : ∀ b, b ≠ 47 → b ≠ 50 → b ≠ 53 → K b = V b := fun b x y z => by rw [← hK, qw_n z, qw_n y, qw_n x]
  have n47 : K 47 1 = Int32.ofNat 0 := by rw [← hK, qw_n (by decide), qw_n (by decide), qw_s, upd_s]; rfl
  have n50 : ∀ f, f < 6 → K 50 f = Int32.ofNat 0 := fun f hf => by rw [← hK, qw_n (by decide), qw_s, if_pos hf]; rfl
  have n53 : ∀ f, f < 5 → K 53 f = Int32.ofNat 0 := fun f hf => by rw [← hK, qw_s, if_pos hf]; rfl
  show hS g (fX8_begin_31 N 216 N (qH g (qw K 54 (fun j => if j < 81 then -1 else K 54 j)) X) 47 55 (Int32.ofNat 0)) _
  rw [F_b31 hN (w := h 0) (hh := h 1) (by omega) (by omega) (by rw [n1 36 (by decide) (by decide) (by decide)]; exact c0) (by rw [n1 36 (by decide) (by decide) (by decide)]; exact c1) (h 1) 0 N _ (by omega) (by omega)]
  generalize hL : qw K 54 (fun c => if c / 9 < h 1 ∧ 0 ≤ c / 9 ∧ c % 9 < h 0 then K 55 (c / 9) else if c < 81 then -1 else K 54 c) = L
  have l1' : ∀ b, b ≠ 54 → L b = K b := fun b x => by rw [← hL, qw_n x]
  have hCL : fdC L h := by
    refine ⟨?_, fun c hc => ?_, fun y hy => ?_, fun f hf => ?_, fun l hl => ?_⟩
    · rw [l1' 36 (by decide), n1 36 (by decide) (by decide) (by decide)]; exact hC.1
    · rw [l1' 40 (by decide), n1 40 (by decide) (by decide) (by decide)]; exact c5 c hc
    · rw [l1' 55 (by decide), n1 55 (by decide) (by decide) (by decide)]; exact c6 y hy
    · rw [l1' 42 (by decide), l1' 43 (by decide), l1' 48 (by decide), l1' 49 (by decide), n1 42 (by decide) (by decide) (by decide), n1 43 (by decide) (by decide) (by decide), n1 48 (by decide) (by decide) (by decide), n1 49 (by decide) (by decide) (by decide)]; exact c7 f hf
    · rw [l1' 45 (by decide), l1' 46 (by decide), l1' 51 (by decide), l1' 52 (by decide), n1 45 (by decide) (by decide) (by decide), n1 46 (by decide) (by decide) (by decide), n1 51 (by decide) (by decide) (by decide), n1 52 (by decide) (by decide) (by decide)]; exact c8 l hl
  have base : ∀ c, c < 81 → L 54 c = if c % 9 < h 0 ∧ c / 9 < h 1 then Int32.ofNat (h (86 + c / 9)) + -1 else -1 := by
    intro c hc
    rw [← hL, qw_s]
    by_cases hi : c % 9 < h 0 ∧ c / 9 < h 1
    · rw [if_pos hi, if_pos (by omega), n1 55 (by decide) (by decide) (by decide)]
      exact c6 (c / 9) (by omega)
    · rw [if_neg hi, if_neg (by omega), if_pos hc]
  show hS g (fX8_begin_87 N 216 N (qH g L X) 47 (Int32.ofNat 0)) _
  obtain ⟨M, e1, e2, e3⟩ := F_b87 (g := g) (X := X) hN (base := L 54) hCL hB (h 3) 0 N L (by omega) (by omega) (fun _ _ _ => rfl) ⟨fun c hc => ⟨fun f hf => by omega, fun _ => rfl⟩, fun f hf => by omega⟩
  rw [e1]
  have hM : ∀ b, b ≠ 54 → b ≠ 44 → b ≠ 47 → b ≠ 50 → b ≠ 53 → M b = V b := fun b x1 x2 x3 x4 x5 => by rw [e2 b x1 x2, l1' b x1, n1 b x3 x4 x5]
  have hSM : rS M 47 (fS h) := by
    refine ⟨?_, fun f hf => ?_, fun f hf => ?_, fun f hf => ?_, fun l hl => ?_, fun l hl => ?_, fun l hl => ?_, fun c hc => ?_⟩
    · rw [fS_0 (by omega), e2 47 (by decide) (by decide), l1' 47 (by decide)]; exact n47
    · rw [fS_lo (by omega)] at hf
      rw [fS_m (i := 141 + f) (j := 101 + f) (by omega) (by omega), hM 48 (by decide) (by decide) (by decide) (by decide) (by decide)]; exact (c7 f hf).2.1
    · rw [fS_lo (by omega)] at hf
      rw [fS_m (i := 147 + f) (j := 107 + f) (by omega) (by omega), hM 49 (by decide) (by decide) (by decide) (by decide) (by decide)]; exact (c7 f hf).2.2.1
    · rw [fS_lo (by omega)] at hf
      rw [fS_0 (by omega), e2 50 (by decide) (by decide), l1' 50 (by decide)]; exact n50 f (by omega)
    · rw [fS_lo (by omega)] at hl
      rw [fS_m (i := 159 + l) (j := 119 + l) (by omega) (by omega), hM 51 (by decide) (by decide) (by decide) (by decide) (by decide)]; exact (c8 l hl).1
    · rw [fS_lo (by omega)] at hl
      rw [fS_m (i := 164 + l) (j := 124 + l) (by omega) (by omega), hM 52 (by decide) (by decide) (by decide) (by decide) (by decide)]; exact (c8 l hl).2.1
    · rw [fS_lo (by omega)] at hl
      have e0 : sShut (fS h) l = 0 := by
        unfold sShut
        rw [fS_0 (by omega), Nat.zero_div]
      rw [e0, e2 53 (by decide) (by decide), l1' 53 (by decide)]; exact n53 l (by omega)
    · rw [fS_o hc]
      obtain ⟨i1, i2⟩ := e3.1 c hc
      unfold sFO
      by_cases hi : c % 9 < h 0 ∧ c / 9 < h 1
      · rw [if_pos hi]
        cases hx : qfnd (fun f => decide (h (101 + f) = c)) 0 (h 3) with
        | some f =>
          have h5 := qfnd_lt hx
          have h6 : h (101 + f) = c := of_decide_eq_true h5.2.2
          show M 54 c = Int32.ofNat (h (95 + f) + 1) + -1
          rw [qdec (by omega), i1 f (by omega) h6]; rfl
        | none =>
          have h5 := qfnd_none hx
          have h6 := i2 (fun f hf => of_decide_eq_false (h5 f (Nat.zero_le _) (by omega)))
          show M 54 c = Int32.ofNat (ow (if h (86 + c / 9) = 0 then none else some (h (86 + c / 9) - 1))) + -1
          have e7 : ow (if h (86 + c / 9) = 0 then none else some (h (86 + c / 9) - 1)) = h (86 + c / 9) := by
            by_cases h8 : h (86 + c / 9) = 0
            · rw [if_pos h8, h8]; rfl
            · rw [if_neg h8]
              show h (86 + c / 9) - 1 + 1 = h (86 + c / 9)
              omega
          rw [e7, h6, base c hc, if_pos hi]
      · rw [if_neg hi]
        have h6 := i2 (fun f hf e => hi (by have := hG.1 f hf; rw [e] at this; exact this))
        rw [h6, base c hc, if_neg hi]; rfl
  have h36 : M 36 = V 36 := hM 36 (by decide) (by decide) (by decide) (by decide) (by decide)
  have e2' : fS h 2 = h 2 := fS_lo (by omega)
  obtain ⟨U, f1, f2, f3, f4⟩ := F_b151 (g := g) (X := X) hN hOK.2.1 (by omega) (fS h 2) 0 N M (by omega) (by omega) hSM (by rw [h36, e2']; exact c2)
  have hU : ∀ b, b ≠ 41 → b ≠ 54 → b ≠ 44 → b ≠ 47 → b ≠ 50 → b ≠ 53 → U b = V b := fun b x0 x1 x2 x3 x4 x5 => by rw [f2 b x0, hM b x1 x2 x3 x4 x5]
  have f1' : fX8_begin_151 N 216 N (qH g M X) 47 (0 : Int32) = some (qH g U X) := f1
  rw [f1']
  refine ⟨U, X, rfl, rfl, ?_, fun o ho => ?_, hSM.pt (fun b j x y => by rw [f2 b (by omega)]), fun b hb => hU b (by omega) (by omega) (by omega) (by omega) (by omega) (by omega)⟩
  · have h36u : U 36 = V 36 := hU 36 (by decide) (by decide) (by decide) (by decide) (by decide) (by decide)
    refine ⟨?_, ?_, ?_, ?_, ?_, fun c hc => ?_, fun f hf => ?_, fun f hf => ?_, fun f hf => ?_, fun l hl => ?_, fun l hl => ?_⟩
    · rw [h36u, fS_lo (by omega)]; exact c0
    · rw [h36u, fS_lo (by omega)]; exact c1
    · rw [h36u, fS_lo (by omega)]; exact c2
    · rw [h36u, fS_lo (by omega)]; exact c3
    · rw [h36u, fS_lo (by omega)]; exact c4
    · rw [fS_lo (by omega), hU 40 (by decide) (by decide) (by decide) (by decide) (by decide) (by decide)]; exact c5 c hc
    · rw [fS_lo (by omega)] at hf
      rw [fS_lo (by omega), hU 42 (by decide) (by decide) (by decide) (by decide) (by decide) (by decide)]; exact (c7 f hf).1
    · rw [fS_lo (by omega)] at hf
      rw [fS_lo (by omega), hU 43 (by decide) (by decide) (by decide) (by decide) (by decide) (by decide)]; exact (c7 f hf).2.2.2
    · rw [fS_lo (by omega)] at hf
      rw [fS_lo (by omega), f2 44 (by decide)]; exact e3.2 f hf
    · rw [fS_lo (by omega)] at hl
      rw [fS_lo (by omega), hU 45 (by decide) (by decide) (by decide) (by decide) (by decide) (by decide)]; exact (c8 l hl).2.2.1
    · rw [fS_lo (by omega)] at hl
      rw [fS_lo (by omega), hU 46 (by decide) (by decide) (by decide) (by decide) (by decide) (by decide)]; exact (c8 l hl).2.2.2
  · have h1 := f3 o (Nat.zero_le _) ho
    show U 41 o = _
    rw [h1]
    unfold sLand sFL
    rw [qsum_cg 81 (fun c hc => ?_)]
    rw [fS_o hc, sFO.k hW fS_eq hc]
    cases sFO h c with
    | none => rfl
    | some v =>
      by_cases ev : v = o
      · rw [if_pos (by rw [ev]; rfl), if_pos (by rw [ev])]
      · rw [if_neg (fun e => ev (by have : v + 1 = o + 1 := e; omega)), if_neg (fun e => ev (by injection e))]
end QFF
