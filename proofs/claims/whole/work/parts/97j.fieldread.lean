/-! a field: the class reads all its lines -/
section QFE
variable {g : zF} {V W U K C : Nat → Nat → Int32} {X Y Z D : Nat → Nat → Int64} {N n m p o k pl d e c ln : Nat} {s t u B h : Nat → Nat} {q : Nat → List Nat} {a b : aA} {fl : Bool}
theorem fdX.cg (hx : fdX X h q) (e : ∀ b, b ≠ 1 → Y b = X b) : fdX Y h q := by
  unfold fdX at hx ⊢
  rw [e 37 (by decide), e 38 (by decide), e 39 (by decide)]
  exact hx
/-- what reading a field's lines comes to -/
def fEnd (B : Nat → Nat) (n m : Nat) (W : Nat → Nat → Int32) (Y : Nat → Nat → Int64) (a : Int32) : Except (Nat × Nat) (Nat × (Nat → Nat) × (Nat → List Nat)) → Prop
  | .error (k, pl) => cFl B n m W Y k pl
  | .ok (ln, h, q) => a = Int32.ofNat ln ∧ ln ≤ 470 ∧ (∃ p, cN B n m W Y p) ∧ fdC W h ∧ fdX Y h q
theorem fLine_no (hk : (tTok B n m p).1 ≠ 4) : fLine B n m h q fl p = .error (1, (tTok B n m p).2.1) := by
  have e : ∀ v, aIs B n m v p = false := fun v => decide_eq_false (fun e => hk e.1)
  unfold fLine
  rw [e 4, if_neg (show ¬ false = true by decide), e 5, if_neg (show ¬ false = true by decide), e 6, if_neg (show ¬ false = true by decide), e 7, if_neg (show ¬ false = true by decide), e 8, if_neg (show ¬ false = true by decide), e 9, if_neg (show ¬ false = true by decide)]
theorem F_readL (hN : 3000 ≤ N) (hn9 : n ≤ 940) {R : (Nat → Nat → Int32) → (Nat → Nat → Int64) → Int32 → Prop} : ∀ k j V X p ln h q fl, cN B n m V X p → fdC V h → fdB h → fdX X h q → fdN h q → fdG h fl → flg V fl → n - p < k → 2 * ln ≤ p → 1000 ≤ j + ln → (∀ W Y a, fEnd B n m W Y a (fRd B n m k p ln h q fl) → fFr V W X Y → hV g (fX3_read_184 N 216 (qH g W Y) 35 a) R) → hV g (fX3_read_39 N 216 j (qH g V X) 35 (Int32.ofNat ln) (Int32.ofNat ln)) R := by
  intro k
  induction k with
  | zero => intro j V X p ln h q fl h0 hC hB hX hn hG hf h1; omega
  | succ k ih =>
    intro j V X p ln h q fl h0 hC hB hX hn hG hf h1 h2 h3 hR
    have hp := h0.2.2.2.2.1
    obtain ⟨j, rfl⟩ := Nat.exists_eq_succ_of_ne_zero (n := j) (by omega)
    unfold fX3_read_39
    rw [if_neg (by rw [show (900 : Int32) = Int32.ofNat 900 from rfl, qle (by omega) (by omega)]; omega), q35_g0, Option.bind_some, q1_c, Option.bind_some]
    refine hV_zbd (C_go (a := .ok p) h0) (fun W Y r hr => ?_)
    obtain ⟨rfl, r2, r3⟩ := hr
    rw [rdGo_ok] at r2 ⊢
    have hC1 : fdC W h := hC.cg (fun b b1 b2 => r3.1 b (by omega))
    have hX1 : fdX Y h q := hX.cg r3.2
    have hf1 : flg W fl := hf.cg (r3.1 35 (by decide))
    unfold fRd at hR
    by_cases k0 : (tTok B n m p).1 = 0
    · rw [if_pos k0] at r2 ⊢
      rw [if_pos k0] at hR
      rw [if_pos qzf]
      exact hR W Y _ ⟨rfl, by omega, ⟨p, r2⟩, hC1, hX1⟩ r3.ff
    rw [if_neg k0] at r2 ⊢
    rw [if_neg k0] at hR
    by_cases k1 : (tTok B n m p).1 = 1
    · rw [if_pos k1] at r2 ⊢
      rw [if_pos qzf]
      rw [fLine_no (by omega)] at hR
      exact hR W Y _ r2 r3.ff
    rw [if_neg k1] at r2 ⊢
    have r2 : cN B n m W Y p := r2
    have rest : ∀ W2 Y2, fRel B n m (fFl B n m fl p) W Y W2 Y2 (fLine B n m h q fl p) → hV g (fX3_read_166 (fX3_read_39 N 216 j) N 216 (qH g W2 Y2) 35 (Int32.ofNat ln) (Int32.ofNat ln)) R := by
      intro W2 Y2 hr
      unfold fX3_read_166
      rw [q35_g0, Option.bind_some, q1_c, Option.bind_some, l1, qadd]
      cases hb : fLine B n m h q fl p with
      | error e =>
        obtain ⟨kk, pl⟩ := e
        rw [hb] at hr hR
        obtain ⟨y1, y2⟩ := hr
        refine hV_bind (C_sgn hN (a := .error (kk, pl)) y1 (c := 59) (by omega)) (fun W3 Y3 hs3 => ?_)
        obtain ⟨j, rfl⟩ := Nat.exists_eq_succ_of_ne_zero (n := j) (by omega)
        unfold fX3_read_39
        rw [if_neg (by rw [show (900 : Int32) = Int32.ofNat 900 from rfl, qle (by omega) (by omega)]; omega), q35_g0, Option.bind_some, q1_c, Option.bind_some]
        refine hV_zbd (C_go (a := .error (kk, pl)) hs3.1) (fun W4 Y4 r h4 => ?_)
        rw [h4.1, if_pos (show qz (rdGo B n m (.error (kk, pl))).1 = 0 from rfl)]
        exact hR W4 Y4 _ h4.2.1 ((r3.ff.tr y2).tr (hs3.2.ff.tr h4.2.2.ff))
      | ok v =>
        obtain ⟨p2, h5, q5⟩ := v
        rw [hb] at hr hR
        obtain ⟨y1, y2, y3, y4, y5⟩ := hr
        obtain ⟨z1, z2, z3, z4, z5⟩ := fLine_ok hp hB hn hG hb
        refine hV_bind (C_sgn hN (a := .ok p2) y1 (c := 59) (by omega)) (fun W3 Y3 h6 => ?_)
        have ea : rdSgn B n m 59 (.ok p2) = aP (aSgn B n m 59 p2) := rfl
        rw [ea] at h6
        dsimp only at hR
        have hff : fFr V W3 X Y3 := (r3.ff.tr y5).tr h6.2.ff
        cases hs : aSgn B n m 59 p2 with
        | error e =>
          obtain ⟨kk, pl⟩ := e
          rw [hs] at h6 hR
          obtain ⟨j, rfl⟩ := Nat.exists_eq_succ_of_ne_zero (n := j) (by omega)
          unfold fX3_read_39
          rw [if_neg (by rw [show (900 : Int32) = Int32.ofNat 900 from rfl, qle (by omega) (by omega)]; omega), q35_g0, Option.bind_some, q1_c, Option.bind_some]
          refine hV_zbd (C_go (a := .error (kk, pl)) h6.1) (fun W4 Y4 r h4 => ?_)
          rw [h4.1, if_pos (show qz (rdGo B n m (.error (kk, pl))).1 = 0 from rfl)]
          exact hR W4 Y4 _ h4.2.1 (hff.tr h4.2.2.ff)
        | ok v =>
          obtain ⟨v1, p3⟩ := v
          rw [hs] at h6 hR
          have hnx := aSgn_nx hs
          have htk := tok_nx (B := B) (m := m) z5 (by omega)
          exact ih j W3 Y3 p3 (ln + 1) h5 q5 (fFl B n m fl p) h6.1 (y2.cg (fun b b1 b2 => h6.2.1 b (by omega))) z1 (y3.cg h6.2.2) z2 z3 (y4.cg (h6.2.1 35 (by decide))) (by omega) (by omega) (by omega) (fun W4 Y4 a h7 h8 => hR W4 Y4 a h7 (hff.tr h8))
    have hct := r2.2.2.2.2.2.2.2
    rw [if_neg qzt, q35_g0, Option.bind_some, q1_g5, Option.bind_some]
    have hkd : (W 1 5 = (2 : Int32)) = ((tTok B n m p).1 = 4) := r2.kd (a := 4) (by omega) (by omega)
    by_cases k4 : (tTok B n m p).1 = 4
    · rw [if_pos (by rw [hkd]; exact k4), Option.bind_some, q1_g8, Option.bind_some]
      exact F_78 hN r2 hC1 hB hX1 hn hf1 (by rw [if_pos k4]; exact hct.2.2.2.1 ⟨by omega, by omega⟩) rest
    · rw [if_neg (by rw [hkd]; exact k4)]
      exact F_78 hN r2 hC1 hB hX1 hn hf1 (by rw [if_neg k4]) rest
/-- a row of ints filled -/
theorem e_fill2 {r L : Nat} (hr : r < 216 ∧ qK r = 20 ∧ qL r = L) (hL : L < 1000) {x : Int32} : ∀ m i k u, i + m = L → m < k → fX11_fill_2 N 216 k (qH g (qw V r u) X) r x (Int32.ofNat i) = some (qH g (qw V r (fun j => if i ≤ j ∧ j < L then x else u j)) X) := by
  intro m
  induction m with
  | zero =>
    intro i k u hi hk
    obtain ⟨k, rfl⟩ : ∃ j, k = j + 1 := ⟨k - 1, by omega⟩
    unfold fX11_fill_2
    rw [qlen (t := 0) hr (Or.inl rfl), Option.bind_some, if_pos (by rw [qle (by omega) (by omega)]; omega)]
    have e : (fun j => if i ≤ j ∧ j < L then x else u j) = u := by
      funext j
      rw [if_neg (by omega)]
    rw [e]
  | succ m ih =>
    intro i k u hi hk
    obtain ⟨k, rfl⟩ : ∃ j, k = j + 1 := ⟨k - 1, by omega⟩
    unfold fX11_fill_2
    rw [qlen (t := 0) hr (Or.inl rfl), Option.bind_some, if_neg (by rw [qle (by omega) (by omega)]; omega), qsI (t := 0) hr (Or.inl rfl) (by omega) (by omega), Option.bind_some, qw_qw, qw_s, l1, qadd, ih (i + 1) k _ (by omega) (by omega)]
    have e : (fun j => if i + 1 ≤ j ∧ j < L then x else upd u i x j) = (fun j => if i ≤ j ∧ j < L then x else u j) := by
      funext j
      by_cases ej : j = i
      · rw [ej, upd_s, if_neg (by omega), if_pos (by omega)]
      · rw [upd_n ej]
        by_cases hj : i + 1 ≤ j ∧ j < L
        · rw [if_pos hj, if_pos (by omega)]
        · rw [if_neg hj, if_neg (by omega)]
    rw [e]
theorem qw_id {r : Nat} : qw V r (V r) = V := by
  funext b
  by_cases e : b = r
  · rw [e, qw_s]
  · rw [qw_n e]
theorem e_fill (hN : 3000 ≤ N) {r L : Nat} (hr : r < 216 ∧ qK r = 20 ∧ qL r = L) (hL : L < 1000) {x : Int32} : fX11_fill N 216 (qH g V X) r x = some (qH g (qw V r (fun j => if j < L then x else V r j)) X) := by
  unfold fX11_fill
  have h := e_fill2 (g := g) (V := V) (X := X) (N := N) hr hL (x := x) L 0 N (V r) (by omega) (by omega)
  rw [qw_id] at h
  have e : (fun j => if 0 ≤ j ∧ j < L then x else V r j) = (fun j => if j < L then x else V r j) := by
    funext j
    by_cases hj : j < L
    · rw [if_pos hj, if_pos ⟨Nat.zero_le _, hj⟩]
    · rw [if_neg hj, if_neg (fun hh => hj hh.2)]
  rw [e] at h
  exact h
/-- the row that reading begins with -/
def fH0 : Nat → Nat := fun j => if j < 2 then 6 else 0
theorem F_clear (hN : 3000 ≤ N) : hS g (fX2_clear N 216 (qH g V X) 36) (fun W Y => (W 36 0 = Int32.ofNat 6 ∧ W 36 1 = Int32.ofNat 6 ∧ W 36 2 = Int32.ofNat 0 ∧ W 36 3 = Int32.ofNat 0 ∧ W 36 4 = Int32.ofNat 0) ∧ (∀ c, c < 81 → W 40 c = Int32.ofNat 0) ∧ (∀ b, b ≠ 36 → b ≠ 40 → W b = V b) ∧ Y = X) := by
  unfold fX2_clear
  rw [qF_p0 qF_36, Option.bind_some, qF_p1 qF_36, Option.bind_some, qF_p2 qF_36, Option.bind_some, qF_p3 qF_36, Option.bind_some, qF_p4 qF_36, Option.bind_some, qF_g8 qF_36, Option.bind_some, e_fill hN (r := 40) (L := 81) (qF_k4 qF_36) (by omega), Option.bind_some]
  refine ⟨_, _, rfl, ⟨?_, ?_, ?_, ?_, ?_⟩, fun c hc => ?_, fun b b1 b2 => ?_, rfl⟩
  · rw [qw_n (by decide)]; simp only [qw_s, upd]; rfl
  · rw [qw_n (by decide)]; simp only [qw_s, upd]; rfl
  · rw [qw_n (by decide)]; simp only [qw_s, upd]; rfl
  · rw [qw_n (by decide)]; simp only [qw_s, upd]; rfl
  · rw [qw_n (by decide)]; simp only [qw_s, upd]; rfl
  · rw [qw_s, if_pos hc]; rfl
  · rw [qw_n b2, qw_n b1, qw_n b1, qw_n b1, qw_n b1, qw_n b1]
theorem F_read (hN : 3000 ≤ N) (hB : cB V B n) (hW : cW X) {R : (Nat → Nat → Int32) → (Nat → Nat → Int64) → Int32 → Prop} (hR : ∀ W Y a, fEnd B n 900 W Y a (fRd B n 900 (n + 1) 0 0 fH0 q false) → fFr V W X Y → hV g (fX3_read_184 N 216 (qH g W Y) 35 a) R) : hV g (fX3_read N 216 (qH g V X) 35) R := by
  unfold fX3_read
  rw [q35_g1, Option.bind_some, qF_c qF_36, Option.bind_some]
  refine hV_bind (F_clear hN) (fun W Y hx => ?_)
  obtain ⟨⟨x0, x1, x2, x3, x4⟩, x5, x6, rfl⟩ := hx
  rw [q35_g3, Option.bind_some, e_fill hN (r := 55) (L := 9) qk_55 (by omega), Option.bind_some, q35_p4 _ (Or.inl rfl), Option.bind_some, q35_p5 _ (Or.inl rfl), Option.bind_some, q35_g0, Option.bind_some, q1_c, Option.bind_some]
  have hK : ∀ b, b ≠ 35 → b ≠ 55 → (qw (qw (qw W 55 (fun j => if j < 9 then -1 else W 55 j)) 35 (upd (qw W 55 (fun j => if j < 9 then -1 else W 55 j) 35) 4 0)) 35 (upd (qw (qw W 55 (fun j => if j < 9 then -1 else W 55 j)) 35 (upd (qw W 55 (fun j => if j < 9 then -1 else W 55 j) 35) 4 0) 35) 5 0)) b = W b := fun b b1 b2 => by rw [qw_n b1, qw_n b1, qw_n b2]
  have h55 : ∀ y, y < 9 → (qw (qw (qw W 55 (fun j => if j < 9 then -1 else W 55 j)) 35 (upd (qw W 55 (fun j => if j < 9 then -1 else W 55 j) 35) 4 0)) 35 (upd (qw (qw W 55 (fun j => if j < 9 then -1 else W 55 j)) 35 (upd (qw W 55 (fun j => if j < 9 then -1 else W 55 j) 35) 4 0) 35) 5 0)) 55 y = -1 := fun y hy => by rw [qw_n (by decide), qw_n (by decide), qw_s, if_pos hy]
  have h35 : (qw (qw (qw W 55 (fun j => if j < 9 then -1 else W 55 j)) 35 (upd (qw W 55 (fun j => if j < 9 then -1 else W 55 j) 35) 4 0)) 35 (upd (qw (qw W 55 (fun j => if j < 9 then -1 else W 55 j)) 35 (upd (qw W 55 (fun j => if j < 9 then -1 else W 55 j) 35) 4 0) 35) 5 0)) 35 4 = Int32.ofNat 0 ∧ (qw (qw (qw W 55 (fun j => if j < 9 then -1 else W 55 j)) 35 (upd (qw W 55 (fun j => if j < 9 then -1 else W 55 j) 35) 4 0)) 35 (upd (qw (qw W 55 (fun j => if j < 9 then -1 else W 55 j)) 35 (upd (qw W 55 (fun j => if j < 9 then -1 else W 55 j) 35) 4 0) 35) 5 0)) 35 5 = Int32.ofNat 0 := ⟨by rw [qw_s, upd_n (by decide), qw_s, upd_s]; rfl, by rw [qw_s, upd_s]; rfl⟩
  revert hK h55 h35
  generalize (qw (qw (qw W 55 (fun j => if j < 9 then -1 else W 55 j)) 35 (upd (qw W 55 (fun j => if j < 9 then -1 else W 55 j) 35) 4 0)) 35 (upd (qw (qw W 55 (fun j => if j < 9 then -1 else W 55 j)) 35 (upd (qw W 55 (fun j => if j < 9 then -1 else W 55 j) 35) 4 0) 35) 5 0)) = K
  intro hK h55 h35
  have hf0 : fFr V K Y Y := ⟨fun b b1 b2 => by rw [hK b (by omega) (by omega), x6 b (by omega) (by omega)], fun _ _ _ => rfl⟩
  refine hV_bind (c_begin hN (⟨by rw [hK 1 (by decide) (by decide), x6 1 (by decide) (by decide)]; exact hB.1, hB.2.1, fun i hi => by rw [hK 2 (by decide) (by decide), x6 2 (by decide) (by decide)]; exact hB.2.2 i hi⟩ : cB K B n) hW (m := 900) (by omega)) (fun W2 Y2 hx => ?_)
  obtain ⟨z1, z2⟩ := hx
  have zK : ∀ b, b ≠ 1 → b ≠ 35 → b ≠ 55 → W2 b = W b := fun b b1 b2 b3 => by rw [z2.1 b b1, hK b b2 b3]
  have hC : fdC W2 fH0 := by
    refine ⟨?_, fun c hc => ?_, fun y hy => ?_, fun f hf => ?_, fun l hl => ?_⟩
    · rw [zK 36 (by decide) (by decide) (by decide)]; exact ⟨x0, x1, x2, x3, x4⟩
    · rw [zK 40 (by decide) (by decide) (by decide), x5 c hc]
      unfold fH0
      rw [if_neg (by omega)]
    · rw [z2.1 55 (by decide), h55 y hy]
      unfold fH0
      rw [if_neg (by omega)]; rfl
    · have : fH0 3 = 0 := rfl
      omega
    · have : fH0 4 = 0 := rfl
      omega
  have hB0 : fdB fH0 := by
    refine ⟨by decide, by decide, by decide, by decide, by decide, fun c hc => ?_, fun y hy => ?_, fun f hf => ?_, fun l hl => ?_, fun f f2 hf => ?_⟩
    · unfold fH0; rw [if_neg (by omega)]; omega
    · unfold fH0; rw [if_neg (by omega)]; omega
    · have : fH0 3 = 0 := rfl
      omega
    · have : fH0 4 = 0 := rfl
      omega
    · have : fH0 3 = 0 := rfl
      omega
  have hX0 : fdX Y2 fH0 q := ⟨fun i hi => by have : fH0 2 = 0 := rfl; omega, fun i hi => by have : fH0 3 = 0 := rfl; omega, fun i hi => by have : fH0 4 = 0 := rfl; omega⟩
  have hN0 : fdN fH0 q := ⟨fun i hi => by have : fH0 2 = 0 := rfl; omega, fun i hi => by have : fH0 3 = 0 := rfl; omega, fun i hi => by have : fH0 4 = 0 := rfl; omega, fun f l hf => by have : fH0 3 = 0 := rfl; omega⟩
  have hG0 : fdG fH0 false := ⟨fun i hi => by have : fH0 3 = 0 := rfl; omega, fun _ => rfl⟩
  have hf2 : flg W2 false := by
    refine Or.inl ⟨?_, ?_, rfl⟩
    · rw [z2.1 35 (by decide)]; exact h35.1
    · rw [z2.1 35 (by decide)]; exact h35.2
  exact F_readL hN hB.2.1 (n + 1) N W2 Y2 0 0 fH0 q false z1 hC hB0 hX0 hN0 hG0 hf2 (by omega) (by omega) (by omega) (fun W3 Y3 a h1 h2 => hR W3 Y3 a h1 ((hf0.tr z2.ff).tr h2))
end QFE
