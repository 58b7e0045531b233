/-! a book: both ends -/
section QBD
variable {g : zF} {V W U K : Nat → Nat → Int32} {X Y Z : Nat → Nat → Int64} {N n m p o k pl d e c : Nat} {s t u B : Nat → Nat} {Q : sQ} {cs : List sC}
def bmFr (V W : Nat → Nat → Int32) (X Y : Nat → Nat → Int64) : Prop := (∀ j, 19 ≤ j → (j < 41 ∨ 45 < j) → j ≠ 37 → W 196 j = V 196 j) ∧ W 196 2 = V 196 2 ∧ (∀ b, b ≠ 196 → b ≠ 200 → b ≠ 210 → W b = V b) ∧ ∀ b, b ≠ 196 → Y b = X b
theorem bmFr.rf : bmFr V V X X := ⟨fun _ _ _ _ => rfl, rfl, fun _ _ _ _ => rfl, fun _ _ => rfl⟩
theorem bmFr.tr (h : bmFr V W X Y) (h2 : bmFr W U Y Z) : bmFr V U X Z := ⟨fun j a b c => by rw [h2.1 j a b c, h.1 j a b c], by rw [h2.2.1, h.2.1], fun b x y z => by rw [h2.2.2.1 b x y z, h.2.2.1 b x y z], fun b x => by rw [h2.2.2.2 b x, h.2.2.2 b x]⟩
theorem sFr.bm (h : sFr V W X Y) : bmFr V W X Y := ⟨fun j a b _ => h.1 j (by omega) (by omega) b, h.1 2 (by omega) (by omega) (by omega), h.2.1, h.2.2⟩
theorem mFr.bm (h : mFr V W X Y) : bmFr V W X Y := h.sf.bm
theorem mbQ.bm (h : mbQ V X Q) (hf : bmFr V W X Y) : mbQ W Y Q := h.fr (fun j => by rw [hf.2.2.1 198 (by decide) (by decide) (by decide)]) hf.2.2.2
theorem M_readL (hN : 3000 ≤ N) {a1 : Int32} {R : (Nat → Nat → Int32) → (Nat → Nat → Int64) → Int32 → Prop} : ∀ k j V X p cs, mN B n m V X p → V 196 15 = Int32.ofNat 0 → V 196 37 = Int32.ofNat cs.length → bMo V cs → cs.length ≤ 40 → mbQ V X Q → n - p < k → k < j →
    (∀ W Y cs', bRd B n m Q k p cs = .ok cs' → W 196 15 = Int32.ofNat 0 → W 196 37 = Int32.ofNat cs'.length → bMo W cs' → bmFr V W X Y → hV g ((fX12_tries N 216 (qH g W Y) 196).bind fun f8 => (fX12_book_89 N 216 N f8 196 a1 (0 : Int32))) R) →
    (∀ W Y kk pl, bRd B n m Q k p cs = .error (kk, pl) → W 196 15 = Int32.ofNat kk → bmFr V W X Y → R W Y (-2 - Int32.ofNat pl)) → hV g (fX12_book_39 N 216 j (qH g V X) 196 a1) R := by
  intro k
  induction k with
  | zero => intro j V X p cs h h15 h37 hc hl hq h1; omega
  | succ k ih =>
    intro j V X p cs h h15 h37 hc hl hq h1 h2 hok her
    obtain ⟨j, rfl⟩ := Nat.exists_eq_succ_of_ne_zero (n := j) (by omega)
    have hp := h.2.2.2.1
    have hk7 := tTok_k (B := B) (n := n) (m := m) (p := p)
    have hkd := h.kd (c := 0) (by omega)
    rw [(mKd_2 _ hk7).2.2.2] at hkd
    unfold fX12_book_39
    rw [q196_g11, Option.bind_some]
    unfold bRd at hok her
    by_cases h0 : (tTok B n m p).1 = 0
    · rw [if_pos h0] at hok
      rw [if_pos (by rw [l0, hkd]; exact h0), q196_c, Option.bind_some]
      exact hok V X cs rfl h15 h37 hc bmFr.rf
    rw [if_neg h0] at hok her
    rw [if_neg (by rw [l0, hkd]; exact h0), q196_c, Option.bind_some]
    refine hV_zbd (M_line hN h h37 hl hq) (fun W Y r hx => ?_)
    have e62 : ∀ {W : Nat → Nat → Int32} {Y : Nat → Nat → Int64} {kk pl : Nat}, mFl W kk pl → bmFr V W X Y → R W Y (-2 - Int32.ofNat pl) → hV g (fX12_book_62 N 216 (qH g W Y) 196) R := by
      intro W Y kk pl h1 h2 h3
      unfold fX12_book_62
      rw [q196_g16, Option.bind_some, h1.2]
      exact hV_pure h3
    cases hb : bLine B n m Q cs.length p with
    | error ee =>
      obtain ⟨kk, pl⟩ := ee
      rw [hb] at hx her
      rw [hx.1, if_pos (show Int32.ofNat 0 = (0 : Int32) from rfl)]
      exact e62 hx.2.1 hx.2.2.bm (her W Y kk pl rfl hx.2.1.1 hx.2.2.bm)
    | ok vv =>
      obtain ⟨p2, x⟩ := vv
      rw [hb] at hx hok her
      obtain ⟨x1, x2, x3, x4, x5, x6⟩ := hx
      obtain ⟨z1, z2, z3, z4⟩ := bLine_nx hp hb
      rw [x1, if_neg (show ¬ Int32.ofNat 1 = (0 : Int32) by decide), q196_c, Option.bind_some, show (59 : Int32) = Int32.ofNat 59 from rfl]
      refine hV_zbd (m_sgn hN x2 (c := 59) (by omega)) (fun W2 Y2 r2 hy => ?_)
      obtain ⟨hy, hf2⟩ := hy
      dsimp only at hok her
      have hff := x6.bm.tr hf2.bm
      cases hs : aSgn B n m 59 p2 with
      | error ee =>
        obtain ⟨kk, pl⟩ := ee
        rw [hs] at hy her
        rw [hy.1, if_pos (show Int32.ofNat 0 = (0 : Int32) from rfl)]
        exact e62 hy.2 hff (her W2 Y2 kk pl rfl hy.2.1 hff)
      | ok vv =>
        obtain ⟨v1, p3⟩ := vv
        rw [hs] at hy hok her
        obtain ⟨y1, y2, y3⟩ := hy
        have hnx := aSgn_nx hs
        have htk := tok_nx (B := B) (m := m) z2 (by omega)
        have w37 : W2 196 37 = Int32.ofNat cs.length := by rw [hff.1 37 (by omega) (by omega) |> fun _ => hf2.1 37 (by omega) (by omega), x6.1 37 (by omega) (by omega) (by omega)]; exact h37
        rw [y1, if_neg (show ¬ Int32.ofNat 1 = (0 : Int32) by decide), q196_g37, Option.bind_some, w37, show Int32.ofNat cs.length + (1 : Int32) = Int32.ofNat (cs.length + 1) by rw [l1, qadd], q196_p37, Option.bind_some]
        have hf3 : bmFr W2 (qw W2 196 (upd (W2 196) 37 (Int32.ofNat (cs.length + 1)))) Y2 Y2 := ⟨fun j _ _ h => by rw [qw_s, upd_n h], by rw [qw_s, upd_n (by decide)], fun b h1 _ _ => qw_n h1, fun _ _ => rfl⟩
        have hfa := hff.tr hf3
        have hN3 : mN B n m (qw W2 196 (upd (W2 196) 37 (Int32.ofNat (cs.length + 1)))) Y2 p3 := y3.cg (fun j hj => by rw [qw_s, upd_n (by omega)]) (fun j => by rw [qw_n (by decide)]) (fun _ => rfl)
        refine ih j _ Y2 p3 (cs ++ [x]) hN3 (by rw [qw_s, upd_n (by decide), y2, x3]; exact h15) (by rw [qw_s, upd_s, len_s]) (fun i x' hi => ?_) (by rw [len_s]; omega) (hq.bm hfa) (by omega) (by omega) (fun W4 Y4 cs' e1 e2 e3 e4 e5 => hok W4 Y4 cs' e1 e2 e3 e4 (hfa.tr e5)) (fun W4 Y4 kk pl e1 e2 e3 => her W4 Y4 kk pl e1 e2 (hfa.tr e3))
        rw [qw_n (by decide), hf2.cc, hf2.cc, hf2.cc]
        by_cases hil : i < cs.length
        · rw [List.getElem?_append_left hil] at hi
          rw [x5 _ (by omega), x5 _ (by omega), x5 _ (by omega)]
          exact hc i x' hi
        · rw [List.getElem?_append_right (by omega)] at hi
          have hi2 : i = cs.length := by
            have := (List.getElem?_eq_some_iff.mp hi).1
            rw [List.length_singleton] at this
            omega
          subst hi2
          rw [Nat.sub_self] at hi
          have h3 : x = x' := Option.some.inj hi
          rw [← h3]
          exact x4
theorem M_240 {q : Nat} {a1 a2 : Int32} (hq1 : 1 ≤ q) (hq8 : q ≤ 8) : ∀ m i k V, i + m = 111 → m < k → V 196 23 = Int32.ofNat q → ∃ W, fX12_book_240 N 216 k (qH g V X) 196 a1 a2 (Int32.ofNat i) = fX12_book_274 N 216 (qH g W X) 196 a1 a2 ∧ (∀ j, W 203 j = if 111 * (q - 1) + i ≤ j ∧ j < 111 * (q - 1) + 111 then V 204 (j - 111 * (q - 1)) else V 203 j) ∧ ∀ b, b ≠ 203 → W b = V b := by
  intro m
  induction m with
  | zero =>
    intro i k V hi hk h23
    obtain ⟨k, rfl⟩ := Nat.exists_eq_succ_of_ne_zero (n := k) (by omega)
    unfold fX12_book_240
    rw [show (111 : Int32) = Int32.ofNat 111 from rfl, if_pos (by rw [qle (by omega) (by omega)]; omega)]
    exact ⟨V, rfl, fun j => by rw [if_neg (by omega)], fun _ _ => rfl⟩
  | succ m ih =>
    intro i k V hi hk h23
    obtain ⟨k, rfl⟩ := Nat.exists_eq_succ_of_ne_zero (n := k) (by omega)
    unfold fX12_book_240
    rw [show (111 : Int32) = Int32.ofNat 111 from rfl, if_neg (by rw [qle (by omega) (by omega)]; omega), q196_g21, Option.bind_some, q196_g23, Option.bind_some, h23, q196_g22, Option.bind_some, qlI (t := 0) qk_204 (Or.inl rfl) (by omega) (by omega), Option.bind_some, show Int32.ofNat q - (1 : Int32) = Int32.ofNat (q - 1) by rw [l1, qsub (by omega)], qmul, qadd, qsI (t := 0) qk_203 (Or.inl rfl) (by omega) (by omega), Option.bind_some, l1, qadd]
    obtain ⟨W, x1, x2, x3⟩ := ih (i + 1) k (qw V 203 (upd (V 203) (111 * (q - 1) + i) (V 204 i))) (by omega) (by omega) (by rw [qw_n (by decide)]; exact h23)
    refine ⟨W, x1, fun j => ?_, fun b hb => by rw [x3 b hb, qw_n hb]⟩
    rw [x2 j, qw_n (by decide), qw_s]
    by_cases e : j = 111 * (q - 1) + i
    · rw [if_neg (by omega), if_pos (by omega), e, upd_s]
      congr 1
      omega
    · rw [upd_n e]
      by_cases e2 : 111 * (q - 1) + (i + 1) ≤ j ∧ j < 111 * (q - 1) + 111
      · rw [if_pos e2, if_pos (by omega)]
      · rw [if_neg e2, if_neg (by omega)]
/-- what the reference comes to behind the lines: V before, t behind, s what was -/
def mEnd (n v why line : Nat) (s t : Nat → Nat) (V W : Nat → Nat → Int32) (r : Int32) : Prop :=
  r = (if why = 0 then -1 else Int32.ofNat line) ∧ rM W (if v = 1 then t else s) ∧ W 196 39 = Int32.ofNat 1 ∧ W 209 0 = Int32.ofNat why ∧ W 209 1 = Int32.ofNat line ∧ W 209 2 = Int32.ofNat (t 139) ∧ W 209 3 = Int32.ofNat (sGone t) ∧ (∀ b, b ≠ 196 → b ≠ 198 → b ≠ 203 → b ≠ 209 → W b = V b) ∧ (∀ j, j ≠ 23 → j ≠ 39 → W 196 j = V 196 j) ∧
  (¬ (v = 1 ∧ 0 < line) → W 203 = V 203 ∧ W 196 23 = V 196 23) ∧
  (v = 1 ∧ 0 < line → W 196 23 = Int32.ofNat (min (n + 1) 8) ∧ (∀ j i, j < n ∧ (n = 8 → j < 7) → i < 111 → W 203 (111 * j + i) = V 203 (111 * (if n = 8 then j + 1 else j) + i)) ∧ ∀ i, i < 111 → W 203 (111 * (if n = 8 then 7 else n) + i) = Int32.ofNat (s (139 + i)))
theorem M_191 (hN : 3000 ≤ N) {v why line : Nat} (hn : n ≤ 8) (h23 : V 196 23 = Int32.ofNat n) (hv : v < 2) (hw : why < 200) (hl : line ≤ 40) (hM : rM V t) (ht : sOK t) (hk : sKp s t) (hb : ∀ j, j < 111 → V 204 j = Int32.ofNat (s (139 + j))) (h0 : V 209 0 = Int32.ofNat why) (h1 : V 209 1 = Int32.ofNat line) : ∃ W r, fX12_book_191 N 216 (qH g V X) 196 (Int32.ofNat v) (if why = 0 then -1 else Int32.ofNat line) = some (qH g W X, r) ∧ mEnd n v why line s t V W r := by
  obtain ⟨hW, hD, hG, h9⟩ := id ht
  unfold fX12_book_191
  rw [q196_g38, Option.bind_some, q196_g6, Option.bind_some, show (139 : Int32) = Int32.ofNat 139 from rfl, m_ld hM (by omega), Option.bind_some, show (2 : Int32) = Int32.ofNat 2 from rfl, qsI (t := 0) qk_209 (Or.inl rfl) (by omega) (by omega), Option.bind_some, q196_g38, Option.bind_some, q196_c, Option.bind_some]
  have hM1 : rM (qw V 209 (upd (V 209) 2 (Int32.ofNat (t 139)))) t := fun i hi => by rw [qw_n (by decide)]; exact hM i hi
  rw [m_wentInAll hN hM1 hW, Option.bind_some, l3, qsI (t := 0) qk_209 (Or.inl rfl) (by omega) (by omega), Option.bind_some, qw_qw, qw_s, q196_p39 _ (Or.inr rfl), Option.bind_some, qw_n (by decide)]
  generalize hV2 : qw (qw V 209 (upd (upd (V 209) 2 (Int32.ofNat (t 139))) 3 (Int32.ofNat (sGone t)))) 196 (upd (V 196) 39 (1 : Int32)) = V2
  have en : ∀ b, b ≠ 196 → b ≠ 209 → V2 b = V b := fun b b1 b2 => by rw [← hV2, qw_n b1, qw_n b2]
  have e196 : ∀ j, j ≠ 39 → V2 196 j = V 196 j := fun j hj => by rw [← hV2, qw_s, upd_n hj]
  have e39 : V2 196 39 = Int32.ofNat 1 := by rw [← hV2, qw_s, upd_s]; rfl
  have f0 : V2 209 0 = Int32.ofNat why := by rw [← hV2, qw_n (by decide), qw_s, upd_n (by decide), upd_n (by decide)]; exact h0
  have f1 : V2 209 1 = Int32.ofNat line := by rw [← hV2, qw_n (by decide), qw_s, upd_n (by decide), upd_n (by decide)]; exact h1
  have f2 : V2 209 2 = Int32.ofNat (t 139) := by rw [← hV2, qw_n (by decide), qw_s, upd_n (by decide), upd_s]
  have f3 : V2 209 3 = Int32.ofNat (sGone t) := by rw [← hV2, qw_n (by decide), qw_s, upd_s]
  have hM2 : rM V2 t := fun i hi => by rw [en 198 (by decide) (by decide)]; exact hM i hi
  by_cases hv1 : v = 1
  · subst hv1
    rw [if_pos (show Int32.ofNat 1 = (1 : Int32) from rfl), q196_g38, Option.bind_some, show zlI 216 (qH g V2 X) 0 209 (1 : Int32) = some (V2 209 1) from qlI (t := 0) (k := 1) qk_209 (Or.inl rfl) (by omega) (by omega), Option.bind_some, f1]
    have hend : ∀ f : zF, fX12_book_274 N 216 f 196 (Int32.ofNat 1) (if why = 0 then -1 else Int32.ofNat line) = some (f, if why = 0 then -1 else Int32.ofNat line) := by
      intro f
      unfold fX12_book_274
      rw [if_neg (by decide)]
    by_cases hl0 : 0 < line
    · rw [if_neg (by rw [l0, qle (by omega) (by omega)]; omega), q196_c, Option.bind_some]
      obtain ⟨K, k0, k1, k2, k3, k4, k5⟩ := m_keep (g := g) (X := X) (V := V2) hN hn (by rw [e196 23 (by decide)]; exact h23)
      rw [k0, Option.bind_some, l0]
      obtain ⟨W, x1, x2, x3⟩ := M_240 (g := g) (X := X) (N := N) (q := min (n + 1) 8) (a1 := Int32.ofNat 1) (a2 := if why = 0 then -1 else Int32.ofNat line) (by omega) (by omega) 111 0 N K (by omega) (by omega) k1
      rw [x1, hend]
      refine ⟨W, _, rfl, rfl, ?_, ?_, ?_, ?_, ?_, ?_, fun b b1 b2 b3 b4 => ?_, fun j j1 j2 => ?_, fun h => absurd ⟨rfl, hl0⟩ h, fun _ => ⟨?_, fun j i hj hi => ?_, fun i hi => ?_⟩⟩
      · rw [if_pos rfl]
        exact fun i hi => by rw [x3 198 (by decide), k4 198 (by decide) (by decide)]; exact hM2 i hi
      · rw [x3 196 (by decide), k5 39 (by decide)]; exact e39
      · rw [x3 209 (by decide), k4 209 (by decide) (by decide)]; exact f0
      · rw [x3 209 (by decide), k4 209 (by decide) (by decide)]; exact f1
      · rw [x3 209 (by decide), k4 209 (by decide) (by decide)]; exact f2
      · rw [x3 209 (by decide), k4 209 (by decide) (by decide)]; exact f3
      · rw [x3 b b3, k4 b b1 b3, en b b1 b4]
      · rw [x3 196 (by decide), k5 j j1, e196 j j2]
      · rw [x3 196 (by decide)]; exact k1
      · rw [x2, if_neg (by omega), k2 j i hj hi, en 203 (by decide) (by decide)]
      · rw [x2, if_pos (by split <;> omega), k4 204 (by decide) (by decide), en 204 (by decide) (by decide), show 111 * (if n = 8 then 7 else n) + i - 111 * (min (n + 1) 8 - 1) = i by split <;> omega]
        exact hb i hi
    · rw [if_pos (by rw [l0, qle (by omega) (by omega)]; omega), hend]
      refine ⟨V2, _, rfl, rfl, ?_, e39, f0, f1, f2, f3, fun b b1 b2 b3 b4 => en b b1 b4, fun j j1 j2 => e196 j j2, fun _ => ⟨en 203 (by decide) (by decide), e196 23 (by decide)⟩, fun h => absurd h.2 hl0⟩
      rw [if_pos rfl]; exact hM2
  · have hv0 : v = 0 := by omega
    subst hv0
    rw [if_neg (by decide)]
    unfold fX12_book_274
    rw [if_pos (show Int32.ofNat 0 = (0 : Int32) from rfl), q196_c, Option.bind_some]
    obtain ⟨W, x1, x2, x3⟩ := m_back (g := g) (X := X) (V := V2) (s := s) (t := t) hN hM2 hk (fun j hj => by rw [en 204 (by decide) (by decide)]; exact hb j hj)
    rw [x1, Option.bind_some]
    have xn : ∀ b, b ≠ 198 → W b = V2 b := fun b hb => x3 b (by omega)
    refine ⟨W, _, rfl, rfl, ?_, ?_, ?_, ?_, ?_, ?_, fun b b1 b2 b3 b4 => ?_, fun j j1 j2 => ?_, fun _ => ⟨?_, ?_⟩, fun h => absurd h.1 (by decide)⟩
    · rw [if_neg (by decide)]; exact x2
    · rw [xn 196 (by decide)]; exact e39
    · rw [xn 209 (by decide)]; exact f0
    · rw [xn 209 (by decide)]; exact f1
    · rw [xn 209 (by decide)]; exact f2
    · rw [xn 209 (by decide)]; exact f3
    · rw [xn b b2, en b b1 b4]
    · rw [xn 196 (by decide), e196 j j2]
    · rw [xn 203 (by decide), en 203 (by decide) (by decide)]
    · rw [xn 196 (by decide), e196 23 (by decide)]
/-- the four told made 0 -/
theorem M_89 {a1 : Int32} : ∀ m i k V, i + m = 4 → m < k → ∃ W, fX12_book_89 N 216 k (qH g V X) 196 a1 (Int32.ofNat i) = fX12_book_111 N 216 N (qH g W X) 196 a1 (-1) 0 ∧ (∀ j, i ≤ j → j < 4 → W 209 j = Int32.ofNat 0) ∧ (∀ j, ¬ (i ≤ j ∧ j < 4) → W 209 j = V 209 j) ∧ ∀ b, b ≠ 209 → W b = V b := by
  intro m
  induction m with
  | zero =>
    intro i k V hi hk
    obtain ⟨k, rfl⟩ := Nat.exists_eq_succ_of_ne_zero (n := k) (by omega)
    unfold fX12_book_89
    rw [show (4 : Int32) = Int32.ofNat 4 from rfl, if_pos (by rw [qle (by omega) (by omega)]; omega)]
    exact ⟨V, rfl, fun j a b => by omega, fun _ _ => rfl, fun _ _ => rfl⟩
  | succ m ih =>
    intro i k V hi hk
    obtain ⟨k, rfl⟩ := Nat.exists_eq_succ_of_ne_zero (n := k) (by omega)
    unfold fX12_book_89
    rw [show (4 : Int32) = Int32.ofNat 4 from rfl, if_neg (by rw [qle (by omega) (by omega)]; omega), q196_g38, Option.bind_some, qsI (t := 0) qk_209 (Or.inl rfl) (by omega) (by omega), Option.bind_some, l1, qadd]
    obtain ⟨W, x1, x2, x3, x4⟩ := ih (i + 1) k (qw V 209 (upd (V 209) i 0)) (by omega) (by omega)
    refine ⟨W, x1, fun j a b => ?_, fun j hj => ?_, fun b hb => by rw [x4 b hb, qw_n hb]⟩
    · by_cases e : j = i
      · subst e
        rw [x3 _ (by omega), qw_s, upd_s]; rfl
      · exact x2 j (by omega) b
    · rw [x3 j (by omega), qw_s, upd_n (by omega)]
/-- the reference's book -/
def bmLast (n v : Nat) (s : Nat → Nat) (V W : Nat → Nat → Int32) (r : Int32) : Except (Nat × Nat) (List sC) → Prop
  | .error (kk, pl) => r = -2 - Int32.ofNat pl ∧ W 196 15 = Int32.ofNat kk ∧ (∀ b, b ≠ 196 → b ≠ 200 → b ≠ 210 → W b = V b) ∧ ∀ j, 19 ≤ j → (j < 41 ∨ 45 < j) → j ≠ 37 → W 196 j = V 196 j
  | .ok cs => W 196 15 = Int32.ofNat 0 ∧ ∃ K, mEnd n v (bkRun cs cs.length 0 s).1 (bkRun cs cs.length 0 s).2.1 s (bkRun cs cs.length 0 s).2.2 K W r ∧ (∀ b, b ≠ 196 → b ≠ 198 → b ≠ 200 → b ≠ 204 → b ≠ 209 → b ≠ 210 → K b = V b) ∧ ∀ j, 19 ≤ j → (j < 41 ∨ 45 < j) → j ≠ 37 → K 196 j = V 196 j
theorem M_book (hN : 3000 ≤ N) {v nU : Nat} (hv : v < 2) (hn : n ≤ 940) (h2 : V 196 2 = Int32.ofNat n) (hB : ∀ i, i < n → B i < 256 ∧ V 197 i &&& Int32.ofNat 255 = Int32.ofNat (B i)) (hQ : mbQ V X Q) (hnU : nU ≤ 8) (h23 : V 196 23 = Int32.ofNat nU) (hM : rM V s) (hs : sOK s) (h3 : Q.2.1 = s 3) (h4 : Q.2.2.2 = s 4) : hV g (fX12_book N 216 (qH g V X) 196 (Int32.ofNat v)) (fun W Y r => bmLast nU v s V W r (bRd B n 400 Q (n + 1) 0 []) ∧ W 196 2 = Int32.ofNat 0 ∧ ∀ b, b ≠ 196 → Y b = X b) := by
  unfold fX12_book
  rw [m_thr0, Option.bind_some, m_in2, Option.bind_some, qrg_k (by omega), decide_eq_true (by omega), if_neg qzt, q196_c, Option.bind_some, m_taken, Option.bind_some, q196_p15, Option.bind_some, qw_qw, qw_s, q196_p37, Option.bind_some, qw_qw, qw_s, q196_c, Option.bind_some]
  have hT2 : qT V 196 2 = Int32.ofNat n := by rw [qT_j (by decide)]; exact h2
  rw [hT2]
  generalize hV1 : qw (qT V) 196 (upd (upd (upd (upd (upd (upd (qT V 196) 3 (Int32.ofNat n)) 2 0) 4 0) 5 400) 15 0) 37 0) = V1
  have e196 : ∀ j, V1 196 j = upd (upd (upd (upd (upd (upd (qT V 196) 3 (Int32.ofNat n)) 2 0) 4 0) 5 400) 15 0) 37 0 j := fun j => by rw [← hV1, qw_s]
  have en : ∀ b, b ≠ 196 → V1 b = V b := fun b hb => by rw [← hV1, qw_n hb, qT_n hb]
  have c3 : V1 196 3 = Int32.ofNat n := by rw [e196]; simp [upd]
  have c2 : V1 196 2 = Int32.ofNat 0 := by rw [e196]; simp [upd]
  have c4 : V1 196 4 = Int32.ofNat 0 := by rw [e196]; simp [upd]
  have c5 : V1 196 5 = Int32.ofNat 400 := by rw [e196]; simp [upd]
  have c15 : V1 196 15 = Int32.ofNat 0 := by rw [e196]; simp [upd]
  have c37 : V1 196 37 = Int32.ofNat 0 := by rw [e196]; simp [upd]
  have hj : ∀ j, 19 ≤ j → j ≠ 37 → V1 196 j = V 196 j := by
    intro j a b
    rw [e196, upd_n (by omega), upd_n (by omega), upd_n (by omega), upd_n (by omega), upd_n (by omega), upd_n (by omega), qT_j (by omega)]
  have hmB : mB V1 B n := ⟨c3, hn, fun i hi => ⟨(hB i hi).1, by rw [en 197 (by decide)]; exact (hB i hi).2⟩⟩
  unfold fX12_next
  refine hV_bind (m_next (g := g) (B := B) (n := n) (m := 400) hN n N 0 V1 X hmB c5 (by omega) c4 (by omega) (by omega)) (fun W Y hx => ?_)
  obtain ⟨x1, x2⟩ := hx
  have hN1 : mN B n 400 W Y 0 := ⟨hmB.l x2, by rw [x2.1 5 (by decide) (by decide)]; exact c5, by omega, Nat.zero_le _, x1⟩
  have w198 : W 198 = V 198 := by rw [x2.2.1 198 (by decide), en 198 (by decide)]
  have wj : ∀ j, 19 ≤ j → j ≠ 37 → W 196 j = V 196 j := fun j a b => by rw [x2.1 j (by omega) (by omega), hj j a b]
  have wb : ∀ b, b ≠ 196 → W b = V b := fun b hb => by rw [x2.2.1 b hb, en b hb]
  have hQ2 : mbQ W Y Q := hQ.fr (fun j => by rw [w198]) x2.2.2
  have w2 : W 196 2 = Int32.ofNat 0 := by rw [x2.1 2 (by decide) (by decide)]; exact c2
  refine M_readL hN (n + 1) N W Y 0 [] hN1 (by rw [x2.1 15 (by decide) (by decide)]; exact c15) (by rw [x2.1 37 (by decide) (by decide)]; exact c37) (fun i c hi => by rw [List.getElem?_nil] at hi; cases hi) (Nat.zero_le _) hQ2 (by omega) (by omega) (fun W2 Y2 cs hr k15 k37 kM hf => ?_) (fun W2 Y2 kk pl hr k15 hf => ?_)
  · obtain ⟨hl40, hcs⟩ := bRd_ok (n + 1) 0 [] cs (Nat.zero_le _) (fun c hc => by cases hc) (Nat.zero_le _) hr
    obtain ⟨T, t1, t2, t3⟩ := m_tries (g := g) (X := Y2) (V := W2) hN
    rw [t1, Option.bind_some, l0]
    have tn : ∀ b, b ≠ 204 → T b = W2 b := fun b hb => t3 b (by omega)
    obtain ⟨D, d1, d2, d3, d4⟩ := M_89 (g := g) (X := Y2) (N := N) (a1 := Int32.ofNat v) 4 0 N T (by omega) (by omega)
    rw [d1]
    have k198 : D 198 = V 198 := by rw [d4 198 (by decide), tn 198 (by decide), hf.2.2.1 198 (by decide) (by decide) (by decide), w198]
    have k196 : ∀ j, D 196 j = W2 196 j := fun j => by rw [d4 196 (by decide), tn 196 (by decide)]
    obtain ⟨L, y1, y2, y3, y4, y5⟩ := M_bookL (g := g) (X := Y2) (a1 := Int32.ofNat v) hN hl40 hcs cs.length 0 N D s (by omega) (by omega) (fun i hi => by rw [k198]; exact hM i hi) hs h3 h4 (kM.cg (fun j _ => by rw [d4 200 (by decide), tn 200 (by decide)])) (by rw [k196]; exact k37) (d2 0 (by omega) (by omega)) (d2 1 (by omega) (by omega))
    obtain ⟨b1, b2, b3, b4, b5, b6⟩ := bkRun_ok hcs cs.length 0 s hs h3 h4
    rw [show (0 : Int32) = Int32.ofNat 0 from rfl, y1]
    have l196 : ∀ j, L 196 j = W2 196 j := fun j => by rw [y5 196 (by decide) (by decide), k196]
    obtain ⟨E, r, z1, z2⟩ := M_191 (g := g) (X := Y2) (V := L) (s := s) (n := nU) hN hnU (by rw [l196, hf.1 23 (by omega) (by omega) (by omega), wj 23 (by omega) (by omega)]; exact h23) hv b3 (by omega) y2 b1 b2 (fun j hj => by rw [y5 204 (by decide) (by decide), d4 204 (by decide), t2 j hj, hf.2.2.1 198 (by decide) (by decide) (by decide), w198]; exact hM (139 + j) (by omega)) y3 y4
    rw [z1]
    refine ⟨E, Y2, r, rfl, ?_, ?_, fun b hb => by rw [hf.2.2.2 b hb, x2.2.2 b hb]⟩
    · rw [hr]
      refine ⟨?_, L, z2, fun b a1 a2 a3 a4 a5 a6 => ?_, fun j a1 a2 a3 => ?_⟩
      · rw [z2.2.2.2.2.2.2.2.2.1 15 (by decide) (by decide), l196]; exact k15
      · rw [y5 b a2 a5, d4 b a5, tn b a4, hf.2.2.1 b a1 a3 a6, wb b a1]
      · rw [l196, hf.1 j a1 a2 a3, wj j a1 a3]
    · rw [z2.2.2.2.2.2.2.2.2.1 2 (by decide) (by decide), l196, hf.2.1]; exact w2
  · refine ⟨?_, by rw [hf.2.1]; exact w2, fun b hb => by rw [hf.2.2.2 b hb, x2.2.2 b hb]⟩
    rw [hr]
    exact ⟨rfl, k15, fun b a1 a2 a3 => by rw [hf.2.2.1 b a1 a2 a3, wb b a1], fun j a1 a2 a3 => by rw [hf.1 j a1 a2 a3, wj j a1 a3]⟩
end QBD
