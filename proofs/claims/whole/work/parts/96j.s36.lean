/-! a sentence: the step -/
section QSJ
variable {g : zF} {V W U K : Nat → Nat → Int32} {X Y Z : Nat → Nat → Int64} {N n m p o k pl d e : Nat} {s t u B : Nat → Nat} {Q : sQ} {cs : List sC} {st : List Nat} {w : Bool}
theorem S_copy {L : Nat} (hL : L ≤ 45) : ∀ m i k V, i + m = 3 * L → m < k → V 196 41 = Int32.ofNat L → ∃ W, fX12_sentence_146 N 216 k (qH g V X) 196 (Int32.ofNat i) = some (qH g W X, V 196 42) ∧ (∀ j, i ≤ j → j < 3 * L → W 198 (251 + j) = V 200 j) ∧ (∀ j, ¬ (251 + i ≤ j ∧ j < 251 + 3 * L) → W 198 j = V 198 j) ∧ ∀ b, b ≠ 198 → W b = V b := by
  intro m
  induction m with
  | zero =>
    intro i k V hi hk h41
    obtain ⟨k, rfl⟩ := Nat.exists_eq_succ_of_ne_zero (n := k) (by omega)
    unfold fX12_sentence_146
    rw [q196_g41, Option.bind_some, h41, l3, qmul, if_pos (by rw [qle (by omega) (by omega)]; omega), q196_g42, Option.bind_some]
    exact ⟨V, rfl, fun j a b => by omega, fun _ _ => rfl, fun _ _ => rfl⟩
  | succ m ih =>
    intro i k V hi hk h41
    obtain ⟨k, rfl⟩ := Nat.exists_eq_succ_of_ne_zero (n := k) (by omega)
    unfold fX12_sentence_146
    rw [q196_g41, Option.bind_some, h41, l3, qmul, if_neg (by rw [qle (by omega) (by omega)]; omega), q196_g6, Option.bind_some, q196_g8, Option.bind_some, qlI (t := 0) qk_200 (Or.inl rfl) (by omega) (by omega), Option.bind_some, show (251 : Int32) = Int32.ofNat 251 from rfl, qadd, qsI (t := 0) qk_198 (Or.inl rfl) (by omega) (by omega), Option.bind_some, l1, qadd]
    obtain ⟨W, x1, x2, x3, x4⟩ := ih (i + 1) k (qw V 198 (upd (V 198) (251 + i) (V 200 i))) (by omega) (by omega) (by rw [qw_n (by decide)]; exact h41)
    rw [qw_n (by decide)] at x1
    refine ⟨W, x1, fun j a b => ?_, fun j hj => ?_, fun b hb => by rw [x4 b hb, qw_n hb]⟩
    · by_cases e : j = i
      · subst e
        rw [x3 _ (by omega), qw_s, upd_s]
      · rw [x2 j (by omega) b, qw_n (by decide)]
    · rw [x3 j (by omega), qw_s, upd_n (by omega)]
def mSn (W : Nat → Nat → Int32) (cs : List sC) : Prop := ∀ i c, cs[i]? = some c → W 198 (251 + 3 * i) = Int32.ofNat (mWd c.1) ∧ W 198 (252 + 3 * i) = Int32.ofNat c.2.1 ∧ W 198 (253 + 3 * i) = Int32.ofNat c.2.2
/-- what the reference comes to -/
def lastP (V W : Nat → Nat → Int32) (r : Int32) : sF → Prop
  | .error (kk, pl) => r = -1 - Int32.ofNat pl ∧ W 196 15 = Int32.ofNat kk ∧ ∀ j, W 198 j = V 198 j
  | .ok (o, cs) => r = Int32.ofNat o ∧ W 196 15 = Int32.ofNat 0 ∧ W 198 250 = Int32.ofNat cs.length ∧ mSn W cs ∧ ∀ j, ¬ (250 ≤ j ∧ j < 251 + 3 * cs.length) → W 198 j = V 198 j
def sFr2 (V W : Nat → Nat → Int32) (X Y : Nat → Nat → Int64) : Prop := (∀ j, j ≠ 4 → (j < 11 ∨ 18 < j) → (j < 41 ∨ 45 < j) → W 196 j = V 196 j) ∧ (∀ b, b ≠ 196 → b ≠ 198 → b ≠ 200 → b ≠ 210 → W b = V b) ∧ ∀ b, b ≠ 196 → Y b = X b
theorem sFr.two (h : sFr V W X Y) : sFr2 V W X Y := ⟨h.1, fun b a _ c d => h.2.1 b a c d, h.2.2⟩
theorem sFr2.pre (h : sFr V W X Y) (h2 : sFr2 W U Y Z) : sFr2 V U X Z := ⟨fun j a b c => by rw [h2.1 j a b c, h.1 j a b c], fun b a a2 a3 a4 => by rw [h2.2.1 b a a2 a3 a4, h.2.1 b a a3 a4], fun b a => by rw [h2.2.2 b a, h.2.2 b a]⟩
theorem lastP.pre {r : Int32} {f : sF} (h : ∀ j, V 198 j = U 198 j) (h2 : lastP V W r f) : lastP U W r f := by
  cases f with
  | error x =>
    obtain ⟨kk, pl⟩ := x
    exact ⟨h2.1, h2.2.1, fun j => by rw [h2.2.2 j]; exact h j⟩
  | ok x =>
    obtain ⟨o, cs⟩ := x
    exact ⟨h2.1, h2.2.1, h2.2.2.1, h2.2.2.2.1, fun j hj => by rw [h2.2.2.2.2 j hj]; exact h j⟩
theorem S_loop (hN : 3000 ≤ N) : ∀ k j w p o cs st V X, mZ B n m V X p o cs st w → mQ V X Q → n - p < k → k < j → hV g (fX12_sentence_48 N 216 j (qH g V X) 196 1) (fun W Y r => sFr2 V W X Y ∧ lastP V W r (rRun B n m Q k w p o cs st)) := by
  intro k
  induction k with
  | zero => intro j w p o cs st V X h hQ h1 h2; omega
  | succ k ih =>
    intro j w p o cs st V X h hQ h1 h2
    obtain ⟨j, rfl⟩ := Nat.exists_eq_succ_of_ne_zero (n := j) (by omega)
    have hp := h.1.2.2.2.1
    have goOn : ∀ (o2 : Option (zF × Int32)), hV g o2 (stepR B n m Q V X w p o cs st) → hV g (zbd o2 fun f22 x21 => (if x21 = 0 then (fX12_sentence_125 N 216 f22 196) else (fX12_sentence_48 N 216 j f22 196 1))) (fun W Y r => sFr2 V W X Y ∧ lastP V W r (rRun B n m Q (k + 1) w p o cs st)) := by
      intro o2 ho
      refine hV_zbd ho (fun W Y r hx => ?_)
      obtain ⟨hf, hx⟩ := hx
      rcases hx with ⟨rfl, kk, pl, y1, y2, y3⟩ | ⟨rfl, w', p', o', cs', st', y1, y2, y3⟩
      · rw [if_pos (show Int32.ofNat 0 = (0 : Int32) from rfl), y3 k]
        unfold fX12_sentence_125
        rw [q196_g16, Option.bind_some, y1.2]
        exact hV_pure ⟨hf.two, rfl, y1.1, fun j => by rw [hf.2.1 198 (by decide) (by decide) (by decide)]⟩
      · have hp' := y1.1.2.2.2.1
        rw [if_neg (show ¬ Int32.ofNat 1 = (0 : Int32) by decide), y3 k]
        exact hV_mono (ih j w' p' o' cs' st' W Y y1 (hQ.sf hf) (by omega) (by omega)) (fun W2 Y2 r h3 => ⟨sFr2.pre hf h3.1, h3.2.pre (fun j => by rw [hf.2.1 198 (by decide) (by decide) (by decide)])⟩)
    unfold fX12_sentence_48
    rw [if_neg (show ¬ (1 : Int32) = 0 by decide), q196_g45, Option.bind_some, h.2.2.2.2.2.2.1]
    cases w with
    | false =>
      unfold fX12_sentence_101
      rw [if_pos qzf, q196_g45, Option.bind_some, h.2.2.2.2.2.2.1, if_pos qzf, q196_c, Option.bind_some]
      exact goOn _ (S_oper hN h hQ)
    | true =>
      have hk7 := tTok_k (B := B) (n := n) (m := m) (p := p)
      have hkd := h.1.kd (c := 0) (by omega)
      rw [(mKd_2 _ hk7).2.2.2] at hkd
      rw [if_neg qzt, q196_g11, Option.bind_some]
      by_cases h0 : (tTok B n m p).1 = 0
      · have hst : st.length < N := by have := h.2.2.2.2.2.2.2.2.2.1; have := h.2.2.2.2.2.2.2.2.2.2; omega
        have er : rRun B n m Q (k + 1) true p o cs st = (if (rJn true (rNot cs st).1 (rNot cs st).2).2 = [] then .ok (o, (rJn true (rNot cs st).1 (rNot cs st).2).1) else .error (1, (tTok B n m p).2.1)) := by
          conv => lhs; unfold rRun
          rw [if_pos h0]
        rw [if_pos (by rw [l0, hkd]; exact h0), q196_c, Option.bind_some, er]
        unfold fX12_nots fX12_joins
        refine hV_bind (S_nots st N V cs hst h) (fun W Y hx => ?_)
        obtain ⟨hx, hfW, rfl⟩ := hx
        have hst2 : (rNot cs st).2.length < N := by have := hx.2.2.2.2.2.2.2.2.2.1; have := hx.2.2.2.2.2.2.2.2.2.2; omega
        rw [q196_c, Option.bind_some]
        have hj := S_joins (g := g) (N := N) (b := true) (rNot cs st).2 N W (rNot cs st).1 hst2 hx
        rw [if_pos rfl] at hj
        refine hV_bind hj (fun W2 Y2 hy => ?_)
        obtain ⟨hy, hfW2, rfl⟩ := hy
        obtain ⟨iN1, iF, i1, i2, i3, i4, i5, i6, i7, i8, i9⟩ := id hy
        rw [if_pos rfl] at i8
        have hf := hfW.tr hfW2
        rw [q196_g43, Option.bind_some, i3]
        cases hs : (rJn true (rNot cs st).1 (rNot cs st).2).2 with
        | nil =>
          rw [if_pos (by decide), if_pos rfl]
          obtain ⟨j, rfl⟩ := Nat.exists_eq_succ_of_ne_zero (n := j) (by omega)
          unfold fX12_sentence_48
          rw [if_pos rfl, q196_g6, Option.bind_some, q196_g41, Option.bind_some, i1, show (250 : Int32) = Int32.ofNat 250 from rfl, qsI (t := 0) qk_198 (Or.inl rfl) (by omega) (by omega), Option.bind_some, l0]
          obtain ⟨W3, x1, x2, x3, x4⟩ := S_copy (g := g) (X := Y2) (N := N) (L := (rJn true (rNot cs st).1 (rNot cs st).2).1.length) (by omega) (3 * (rJn true (rNot cs st).1 (rNot cs st).2).1.length) 0 N (qw W2 198 (upd (W2 198) 250 (Int32.ofNat (rJn true (rNot cs st).1 (rNot cs st).2).1.length))) (by omega) (by omega) (by rw [qw_n (by decide)]; exact i1)
          rw [x1]
          refine ⟨W3, Y2, _, rfl, ⟨fun j a b c => ?_, fun b a1 a2 a3 a4 => ?_, hf.2.2⟩, ?_, ?_, ?_, fun i c hi => ?_, fun j hj => ?_⟩
          · rw [x4 196 (by decide), qw_n (by decide)]; exact hf.1 j a b c
          · rw [x4 b a2, qw_n a2]; exact hf.2.1 b a1 a3 a4
          · rw [qw_n (by decide)]; exact i2
          · rw [x4 196 (by decide), qw_n (by decide)]; exact iF
          · rw [x3 250 (by omega), qw_s, upd_s]
          · have hil := (List.getElem?_eq_some_iff.mp hi).1
            have e1 := x2 (3 * i) (by omega) (by omega)
            have e2 := x2 (3 * i + 1) (by omega) (by omega)
            have e3 := x2 (3 * i + 2) (by omega) (by omega)
            rw [qw_n (by decide)] at e1 e2 e3
            rw [show 252 + 3 * i = 251 + (3 * i + 1) by omega, show 253 + 3 * i = 251 + (3 * i + 2) by omega, e1, e2, e3]
            exact i6 i c hi
          · rw [x3 j (by omega), qw_s, upd_n (by omega), hf.2.1 198 (by decide) (by decide) (by decide)]
        | cons x t =>
          rw [hs, List.length_cons] at i3 i8
          rw [List.length_cons, if_neg (by rw [l0, qle (by omega) (by omega)]; omega), if_neg (fun h => by cases h), q196_c, Option.bind_some]
          refine hV_zbd (m_bad iN1 (k := 1)) (fun W3 Y3 r h3 => ?_)
          rw [q196_g16, Option.bind_some, h3.2.1.2]
          exact hV_pure ⟨(hf.tr h3.2.2.sf).two, rfl, h3.2.1.1, fun j => by rw [(hf.tr h3.2.2.sf).2.1 198 (by decide) (by decide) (by decide)]⟩
      · unfold fX12_sentence_101
        rw [if_neg (by rw [l0, hkd]; exact h0), q196_g45, Option.bind_some, h.2.2.2.2.2.2.1, if_neg qzt, q196_c, Option.bind_some]
        exact goOn _ (S_beh hN h h0)
/-- what changes in the reference when it reads a sentence -/
def sFr3 (V W : Nat → Nat → Int32) (X Y : Nat → Nat → Int64) : Prop := (∀ j, 19 ≤ j → (j < 41 ∨ 45 < j) → W 196 j = V 196 j) ∧ (∀ b, b ≠ 196 → b ≠ 198 → b ≠ 200 → b ≠ 210 → W b = V b) ∧ (∀ b, b ≠ 196 → Y b = X b) ∧ W 196 2 = Int32.ofNat 0
theorem m_sentence (hN : 3000 ≤ N) (hn : n ≤ 940) (h2 : V 196 2 = Int32.ofNat n) (hB : ∀ i, i < n → B i < 256 ∧ V 197 i &&& Int32.ofNat 255 = Int32.ofNat (B i)) (hQ : mQ V X Q) : hV g (fX12_sentence N 216 (qH g V X) 196) (fun W Y r => sFr3 V W X Y ∧ lastP V W r (rO B n 200 Q 0 0 [] [])) := by
  unfold fX12_sentence
  rw [m_thr0, Option.bind_some, q196_c, Option.bind_some, m_taken, Option.bind_some, q196_p15, Option.bind_some, qw_qw, qw_s, q196_p41, Option.bind_some, qw_qw, qw_s, q196_p42, Option.bind_some, qw_qw, qw_s, q196_p43, Option.bind_some, qw_qw, qw_s, q196_p44, Option.bind_some, qw_qw, qw_s, q196_p45 _ (Or.inl rfl), Option.bind_some, qw_qw, qw_s, q196_c, Option.bind_some]
  have hT2 : qT V 196 2 = Int32.ofNat n := by rw [qT_j (by decide)]; exact h2
  rw [hT2]
  generalize hV1 : qw (qT V) 196 (upd (upd (upd (upd (upd (upd (upd (upd (upd (upd (qT V 196) 3 (Int32.ofNat n)) 2 0) 4 0) 5 200) 15 0) 41 0) 42 0) 43 0) 44 1) 45 0) = V1
  have e196 : ∀ j, V1 196 j = upd (upd (upd (upd (upd (upd (upd (upd (upd (upd (qT V 196) 3 (Int32.ofNat n)) 2 0) 4 0) 5 200) 15 0) 41 0) 42 0) 43 0) 44 1) 45 0 j := fun j => by rw [← hV1, qw_s]
  have en : ∀ b, b ≠ 196 → V1 b = V b := fun b hb => by rw [← hV1, qw_n hb, qT_n hb]
  have c3 : V1 196 3 = Int32.ofNat n := by rw [e196]; simp [upd]
  have c2 : V1 196 2 = Int32.ofNat 0 := by rw [e196]; simp [upd]
  have c4 : V1 196 4 = Int32.ofNat 0 := by rw [e196]; simp [upd]
  have c5 : V1 196 5 = Int32.ofNat 200 := by rw [e196]; simp [upd]
  have c15 : V1 196 15 = Int32.ofNat 0 := by rw [e196]; simp [upd]
  have c41 : V1 196 41 = Int32.ofNat 0 := by rw [e196]; simp [upd]
  have c42 : V1 196 42 = Int32.ofNat 0 := by rw [e196]; simp [upd]
  have c43 : V1 196 43 = Int32.ofNat 0 := by rw [e196]; simp [upd]
  have c44 : V1 196 44 = Int32.ofNat 1 := by rw [e196]; simp [upd]
  have c45 : V1 196 45 = Int32.ofNat 0 := by rw [e196]; simp [upd]
  have hj : ∀ j, 19 ≤ j → (j < 41 ∨ 45 < j) → V1 196 j = V 196 j := by
    intro j a b
    rw [e196, upd_n (by omega), upd_n (by omega), upd_n (by omega), upd_n (by omega), upd_n (by omega), upd_n (by omega), upd_n (by omega), upd_n (by omega), upd_n (by omega), upd_n (by omega), qT_j (by omega)]
  have hmB : mB V1 B n := ⟨c3, hn, fun i hi => ⟨(hB i hi).1, by rw [en 197 (by decide)]; exact (hB i hi).2⟩⟩
  unfold fX12_next
  refine hV_bind (m_next (g := g) (B := B) (n := n) (m := 200) hN n N 0 V1 X hmB c5 (by omega) c4 (by omega) (by omega)) (fun W Y hx => ?_)
  obtain ⟨x1, x2⟩ := hx
  have hz : mZ B n 200 W Y 0 0 [] [] false := by
    refine ⟨⟨hmB.l x2, by rw [x2.1 5 (by decide) (by decide)]; exact c5, by omega, Nat.zero_le _, x1⟩, by rw [x2.1 15 (by decide) (by decide)]; exact c15, ?_, ?_, ?_, ?_, ?_, fun i c hi => ?_, trivial, ?_, by omega⟩
    · rw [x2.1 41 (by decide) (by decide)]; exact c41
    · rw [x2.1 42 (by decide) (by decide)]; exact c42
    · rw [x2.1 43 (by decide) (by decide)]; exact c43
    · rw [x2.1 44 (by decide) (by decide)]; exact c44
    · rw [x2.1 45 (by decide) (by decide)]; exact c45
    · rw [List.getElem?_nil] at hi; cases hi
    · rw [if_neg (by decide)]; exact Nat.le_refl _
  have hQ2 : mQ W Y Q := hQ.fr (fun j => by rw [x2.2.1 198 (by decide), en 198 (by decide)]) x2.2.2
  refine hV_mono (S_loop hN (n + 1) N false 0 0 [] [] W Y hz hQ2 (by omega) (by omega)) (fun W2 Y2 r hy => ?_)
  obtain ⟨y1, y2⟩ := hy
  refine ⟨⟨fun j a b => ?_, fun b a1 a2 a3 a4 => ?_, fun b a => ?_, ?_⟩, ?_⟩
  · rw [y1.1 j (by omega) (by omega) b, x2.1 j (by omega) (by omega), hj j a b]
  · rw [y1.2.1 b a1 a2 a3 a4, x2.2.1 b a1, en b a1]
  · rw [y1.2.2 b a, x2.2.2 b a]
  · rw [y1.1 2 (by omega) (by omega) (by omega), x2.1 2 (by omega) (by omega)]; exact c2
  · exact y2.pre (fun j => by rw [x2.2.1 198 (by decide), en 198 (by decide)])
/-- .. and the class -/
def kFr2 (V W : Nat → Nat → Int32) (X Y : Nat → Nat → Int64) : Prop := (∀ b, b ≠ 1 → ¬ (60 ≤ b ∧ b ≤ 64) → b ≠ 191 → ¬ (31 ≤ b ∧ b < 35) → W b = V b) ∧ (∀ j, j ≠ 0 → W 191 j = V 191 j) ∧ (∀ b, b ≠ 1 → Y b = X b) ∧ W 1 2 = Int32.ofNat 0
def kLast (V W : Nat → Nat → Int32) (r : Int32) : sF → Prop
  | .error (kk, pl) => r = -1 - Int32.ofNat pl ∧ W 191 0 = Int32.ofNat kk ∧ ∀ b, 31 ≤ b → b < 35 → W b = V b
  | .ok (o, cs) => r = Int32.ofNat o ∧ W 191 0 = Int32.ofNat 0 ∧ W 31 0 = Int32.ofNat (min cs.length 40) ∧ ∀ i c, cs[i]? = some c → i < 40 → W 32 i = Int32.ofNat (cWd c.1) ∧ W 33 i = Int32.ofNat c.2.1 ∧ W 34 i = Int32.ofNat c.2.2
theorem K_sentence (hN : 3000 ≤ N) (hB : cB V B n) (hW : cW X) (hq : kQ V X Q) : hV g (fX11_sentence N 216 (qH g V X) 0) (fun W Y r => kFr2 V W X Y ∧ kLast V W r (sSen B n 200 Q)) := by
  unfold fX11_sentence
  rw [q0_g7, Option.bind_some, q60_c, Option.bind_some]
  refine hV_zbd (K_read hN hB hW hq) (fun W Y r hx => ?_)
  obtain ⟨hx, hf⟩ := hx
  rw [q0_g0, Option.bind_some, q1_p2, Option.bind_some, q0_g12, Option.bind_some, q0_g0, Option.bind_some, q1_g10, Option.bind_some, qw_s, upd_n (by decide), q191_p0, Option.bind_some, q0_g0, Option.bind_some, q1_g10, Option.bind_some, qw_n (by decide), qw_s, upd_n (by decide), qw_n (by decide)]
  cases hs : sSen B n 200 Q with
  | error x =>
    obtain ⟨kk, pl⟩ := x
    rw [hs] at hx
    have hF : cFl B n 200 W Y kk pl := hx
    obtain ⟨f1, f2, f3, f4, f5, f6, f7, f8, f9⟩ := hF
    rw [f7, if_neg (by rw [l0, qeq (by omega) (by omega)]; omega), Option.bind_some, q1_g11, Option.bind_some, qw_n (by decide), qw_s, upd_n (by decide), f8]
    refine hV_pure ⟨⟨fun b b1 b2 b3 b4 => ?_, fun j hj => ?_, hf.2, ?_⟩, rfl, ?_, fun b b1 b2 => ?_⟩
    · rw [qw_n b3, qw_n b1]; exact hf.1 b b1 b2
    · rw [qw_s, upd_n hj, hf.1 191 (by decide) (by decide)]
    · rw [qw_n (by decide), qw_s, upd_s]; rfl
    · rw [qw_s, upd_s]
    · rw [qw_n (by omega), qw_n (by omega)]; exact hf.1 b (by omega) (by omega)
  | ok x =>
    obtain ⟨o, cs⟩ := x
    rw [hs] at hx
    obtain ⟨rfl, ⟨p, hC⟩, hco⟩ := hx
    rw [hC.2.2.2.2.2.1, if_pos (show Int32.ofNat 0 = (0 : Int32) from rfl), q0_g4, Option.bind_some, q0_g7, Option.bind_some, q60_g2, Option.bind_some, qN_c qN_31, Option.bind_some, e_copyN qN_31 qN_61 (by omega), Option.bind_some]
    refine hV_pure ⟨⟨fun b b1 b2 b3 b4 => ?_, fun j hj => ?_, hf.2, ?_⟩, rfl, ?_, ?_, fun i c hi h40 => ⟨?_, ?_, ?_⟩⟩
    · rw [qcb_n (by omega), qw_n b3, qw_n b1]; exact hf.1 b b1 b2
    · rw [qcb_n (by omega), qw_s, upd_n hj, hf.1 191 (by decide) (by decide)]
    · rw [qcb_n (by omega), qw_n (by decide), qw_s, upd_s]; rfl
    · rw [qcb_n (by omega), qw_s, upd_s]
    · rw [qcb_r, upd_s, qw_n (by decide), qw_n (by decide)]; exact hco.1
    · rw [show (32 : Nat) = 31 + 1 from rfl, qcb_a (b := 61) (by omega) (by omega) (show i < qLN 1 from h40), qw_n (by decide), qw_n (by decide)]; exact (hco.2 i c hi h40).1
    · rw [show (33 : Nat) = 31 + 2 from rfl, qcb_a (b := 61) (by omega) (by omega) (show i < qLN 2 from h40), qw_n (by decide), qw_n (by decide)]; exact (hco.2 i c hi h40).2.1
    · rw [show (34 : Nat) = 31 + 3 from rfl, qcb_a (b := 61) (by omega) (by omega) (show i < qLN 3 from h40), qw_n (by decide), qw_n (by decide)]; exact (hco.2 i c hi h40).2.2
theorem nm_ch {a b : Nat → Int64} {c : Nat} (h : ∀ i, i < c → nmR (a i) (b i)) : ∃ q : Nat → List Nat, nOKs q c ∧ (∀ i, i < c → a i = Int64.ofNat (r5 (q i))) ∧ ∀ i, i < c → b i = Int64.ofNat (r8 (q i)) := by
  have hsp : ∀ i (hi : i < c), (fun i => if hi : i < c then Classical.choose (h i hi) else []) i = Classical.choose (h i hi) := fun i hi => dif_pos hi
  refine ⟨fun i => if hi : i < c then Classical.choose (h i hi) else [], fun i hi => ?_, fun i hi => ?_, fun i hi => ?_⟩
  · rw [hsp i hi]
    exact ⟨(Classical.choose_spec (h i hi)).1, (Classical.choose_spec (h i hi)).2.1⟩
  · rw [hsp i hi]
    exact (Classical.choose_spec (h i hi)).2.2.1
  · rw [hsp i hi]
    exact (Classical.choose_spec (h i hi)).2.2.2
theorem jRead (h : jR V X) (hT : jT W) (hG : jG W) (hD : jD W) (e : ∀ b j, ¬ scr b j → ¬ (b = 1 ∧ j = 2) → b ≠ 2 → b ≠ 197 → ¬ (b = 191 ∧ (j = 0 ∨ j = 8)) → ¬ (b = 196 ∧ (j = 2 ∨ j = 15 ∨ j = 23 ∨ j = 39)) → (b < 4 ∨ 139 ≤ b) → b ≠ 194 → b ≠ 198 → b ≠ 203 → b ≠ 209 → W b j = V b j) (e2 : ∀ b j, ¬ scx b j → (b < 4 ∨ 139 ≤ b) → b ≠ 201 → Y b j = X b j) : jR W Y := by
  unfold scr at e
  unfold scx at e2
  obtain ⟨h1, h2, h3, h4, h5, h6, h7, h8, h9, h10, h11⟩ := h
  refine ⟨hT, h2.pt (fun b j h => e2 b j (by omega) (by omega) (by omega)), hG, h4.pt (fun b j h => ?_) (fun b j h => e2 b j (by omega) (by omega) (by omega)), h5.pt (fun b j h => ?_) (fun b j h => e2 b j (by omega) (by omega) (by omega)), h6.pt (fun b j h => ?_), h7.pt (fun b j h => ?_), h8.pt (fun b j h => ?_), h9.pt (fun b j h => ?_), h10.pt (fun b j h => ?_), hD⟩ <;> exact e b j (by omega) (by omega) (by omega) (by omega) (by omega) (by omega) (by omega) (by omega) (by omega) (by omega) (by omega)
/-- the reference's row with another sentence -/
def sSn (s : Nat → Nat) (cs : List sC) (j : Nat) : Nat := if j < 250 then s j else if j = 250 then cs.length else match cs[(j - 251) / 3]? with
  | some c => if (j - 251) % 3 = 0 then mWd c.1 else if (j - 251) % 3 = 1 then c.2.1 else c.2.2
  | none => s j
theorem sSn_at {i : Nat} {c : sC} (h : cs[i]? = some c) : sSn s cs (251 + 3 * i) = mWd c.1 ∧ sSn s cs (252 + 3 * i) = c.2.1 ∧ sSn s cs (253 + 3 * i) = c.2.2 := by
  unfold sSn
  refine ⟨?_, ?_, ?_⟩
  · rw [if_neg (by omega), if_neg (by omega), show (251 + 3 * i - 251) / 3 = i by omega, h]
    dsimp only
    rw [if_pos (by omega)]
  · rw [if_neg (by omega), if_neg (by omega), show (252 + 3 * i - 251) / 3 = i by omega, h]
    dsimp only
    rw [if_neg (by omega), if_pos (by omega)]
  · rw [if_neg (by omega), if_neg (by omega), show (253 + 3 * i - 251) / 3 = i by omega, h]
    dsimp only
    rw [if_neg (by omega), if_neg (by omega)]
theorem sSn_lt {j : Nat} (h : j < 250) : sSn s cs j = s j := by unfold sSn; rw [if_pos h]
theorem sSn_250 : sSn s cs 250 = cs.length := by unfold sSn; rw [if_neg (by decide), if_pos rfl]
theorem mWd_20 : ∀ k, k < 11 → mWd k < 23 ∧ (mWd k = 4 → k = 4) ∧ (mWd k = 20 ↔ k = 8) ∧ (mWd k = 21 ∨ mWd k = 22 ↔ 9 ≤ k) := by decide
theorem nDep_cs {L : Nat} (hg : cGd L cs) : ∀ k, k ≤ cs.length → nDep (sSn s cs) k = cDp (cs.take k) := by
  intro k
  induction k with
  | zero => intro _; rw [List.take_zero]; rfl
  | succ k ih =>
    intro hk
    have hc : cs[k]? = some cs[k] := List.getElem?_eq_getElem (by omega)
    have hk11 := (hg k _ hc).1
    obtain ⟨m1, m2, m3, m4⟩ := mWd_20 _ hk11
    rw [List.take_succ, hc]
    show (if sSn s cs (251 + 3 * k) = 20 then nDep (sSn s cs) k else if sSn s cs (251 + 3 * k) = 21 ∨ sSn s cs (251 + 3 * k) = 22 then nDep (sSn s cs) k - 1 else nDep (sSn s cs) k + 1) = cDp (cs.take k ++ [cs[k]])
    rw [cDp_s, ih (by omega), (sSn_at hc).1]
    unfold cDp1
    by_cases h8 : cs[k].1 = 8
    · rw [if_pos (m3.mpr h8), if_neg (by omega), if_pos h8]
    · rw [if_neg (fun e => h8 (m3.mp e))]
      by_cases h9 : 9 ≤ cs[k].1
      · rw [if_pos (m4.mpr h9), if_neg (by omega), if_neg h8]
      · rw [if_neg (fun e => h9 (m4.mp e)), if_pos (by omega)]
theorem s_36 (hN : 3000 ≤ N) {f : zF} (hI : Inv f) : ∃ f2, zlc36 N 216 f = some f2 ∧ Inv f2 := by
  obtain ⟨g, V, X, s, rfl, hg, hJ⟩ := hI
  obtain ⟨⟨⟨hW, hD, hG, h9⟩, hWL, hR, hL, hS, hM, hNs, hNm⟩, hU, hR2⟩ := id hJ
  have hWs := hW
  obtain ⟨⟨w0, w0b⟩, ⟨w1, w1b⟩, w2, w3, w4, w5, w95, w113, w101, w129, w134⟩ := id hW
  obtain ⟨n, B, hcB, hn2, hB197⟩ := hR2.1
  obtain ⟨hcW, hWm⟩ := hR2.2.1
  obtain ⟨q1, a1, a2, a3⟩ := nm_ch hNm.1
  obtain ⟨q2, b1, b2, b3⟩ := nm_ch hNm.2.2.1
  obtain ⟨Q, hQd⟩ : ∃ Q : sQ, Q = (q1, s 2, q2, s 4) := ⟨_, rfl⟩
  have hq : kQ V X Q := by
    rw [hQd]
    exact ⟨⟨a1, a2, w2, hR.2.2.1⟩, b1, b2, w4, hR.2.2.2.2.1⟩
  unfold zlc36
  obtain ⟨W, Y, r, e1, k1, k2⟩ := K_sentence (g := g) hN hcB hcW hq
  have hQ1 : Q.2.1 ≤ 1000 := by rw [hQd]; show s 2 ≤ 1000; omega
  have hQ2 : Q.2.2.2 ≤ s 4 := by rw [hQd]; exact Nat.le_refl _
  obtain ⟨W2, Y2, r2, e2, l1, l2⟩ := m_sentence (g := g) (V := W) (X := Y) (B := B) (n := n) (Q := Q) hN hcB.2.1 (by rw [k1.1 196 (by decide) (by decide) (by decide) (by decide)]; exact hn2) (fun i hi => ⟨(hcB.2.2 i hi).1, by rw [k1.1 197 (by decide) (by decide) (by decide) (by decide)]; exact hB197 i hi⟩) (by
    rw [hQd]
    refine ⟨fun v hv => by rw [k1.2.2.1 202 (by decide)]; exact hWm v hv, ⟨a1, fun i hi => ?_, w2, ?_⟩, b1, fun i hi => ?_, w4, ?_⟩
    · rw [k1.2.2.1 201 (by decide)]; exact a3 i hi
    · rw [k1.1 198 (by decide) (by decide) (by decide) (by decide)]; exact hM 2 (by omega)
    · rw [k1.2.2.1 201 (by decide), show 10 + i = 0 + (10 + i) by omega]; exact b3 i hi
    · rw [k1.1 198 (by decide) (by decide) (by decide) (by decide)]; exact hM 4 (by omega))
  rw [sSen_run (L := s 4) hQ1 hQ2 (by omega)] at l2
  have hrr : r = r2 := by
    cases hs : sSen B n 200 Q with
    | error x => rw [hs] at k2 l2; exact k2.1.trans l2.1.symm
    | ok x => rw [hs] at k2 l2; exact k2.1.trans l2.1.symm
  have hgg : W 191 0 = W2 196 15 := by
    cases hs : sSen B n 200 Q with
    | error x => rw [hs] at k2 l2; exact k2.2.1.trans l2.2.1.symm
    | ok x => rw [hs] at k2 l2; exact k2.2.1.trans l2.2.1.symm
  have eW : ∀ b, b ≠ 1 → ¬ (60 ≤ b ∧ b ≤ 64) → b ≠ 191 → ¬ (31 ≤ b ∧ b < 35) → b ≠ 196 → b ≠ 198 → b ≠ 200 → b ≠ 210 → W2 b = V b := fun b c1 c2 c3 c4 c5 c6 c7 c8 => by rw [l1.2.1 b c5 c6 c7 c8]; exact k1.1 b c1 c2 c3 c4
  have eY : ∀ b, b ≠ 1 → b ≠ 196 → Y2 b = X b := fun b c1 c2 => by rw [l1.2.2.1 b c2]; exact k1.2.2.1 b c1
  have eR : jR W2 Y2 := by
    refine jRead hR2 (jT0 ?_ l1.2.2.2) ?_ (hR2.2.2.2.2.2.2.2.2.2.2.pt (fun b j h => ?_)) (fun b j c1 c2 c3 c4 c5 c6 c7 c8 c9 c10 c11 => ?_) (fun b j c1 c2 c3 => ?_)
    · rw [l1.2.1 1 (by decide) (by decide) (by decide) (by decide)]; exact k1.2.2.2
    · unfold jG
      rw [l1.2.1 191 (by decide) (by decide) (by decide) (by decide)]; exact hgg
    · rcases h with ⟨rfl, rfl⟩ | rfl | ⟨rfl, rfl⟩ | rfl
      · rw [l1.2.1 191 (by decide) (by decide) (by decide) (by decide)]; exact k1.2.1 8 (by decide)
      · rw [eW 194 (by decide) (by decide) (by decide) (by decide) (by decide) (by decide) (by decide) (by decide)]
      · rw [l1.1 39 (by omega) (by omega), k1.1 196 (by decide) (by decide) (by decide) (by decide)]
      · rw [eW 209 (by decide) (by decide) (by decide) (by decide) (by decide) (by decide) (by decide) (by decide)]
    · unfold scr at c1
      by_cases h191 : b = 191
      · subst h191
        rw [l1.2.1 191 (by decide) (by decide) (by decide) (by decide)]; exact k1.2.1 j (by omega)
      · by_cases h196 : b = 196
        · subst h196
          rw [l1.1 j (by omega) (by omega), k1.1 196 (by decide) (by decide) (by decide) (by decide)]
        · rw [eW b (by omega) (by omega) h191 (by omega) h196 (by omega) (by omega) (by omega)]
    · unfold scx at c1
      rw [eY b (by omega) (by omega)]
  have fin : ∀ s', sEq s s' → (∀ i, i < 250 → s' i = s i) → rM W2 s' → rN W2 31 s' → jA W2 Y2 s' := by
    intro s' h1 h2 h3 h4
    refine ⟨⟨sOK.cg h2 ⟨hW, hD, hG, h9⟩, hWL.k h1, h1.toF hW (hR.pt (fun b j c1 c2 => ?_)), (hL.pt (fun b j c1 c2 => ?_)).k hW h1, rS.cg h2 hW (hS.pt (fun b j c1 c2 => ?_)), h3, h4, (hNm.pt hW (fun b j c1 c2 => ?_) (fun j c1 c2 => ?_)).k h1⟩, hU.pt h1 (fun b j hb => ?_), eR⟩
    · rw [eW b (by omega) (by omega) (by omega) (by omega) (by omega) (by omega) (by omega) (by omega)]
    · rw [eW b (by omega) (by omega) (by omega) (by omega) (by omega) (by omega) (by omega) (by omega)]
    · rw [eW b (by omega) (by omega) (by omega) (by omega) (by omega) (by omega) (by omega) (by omega)]
    · rw [eY b (by omega) (by omega)]
    · rw [eY 201 (by omega) (by omega)]
    · by_cases h196 : b = 196
      · obtain rfl : j = 23 := by omega
        subst h196
        rw [l1.1 23 (by omega) (by omega), k1.1 196 (by decide) (by decide) (by decide) (by decide)]
      · rw [eW b (by omega) (by omega) (by omega) (by omega) h196 (by omega) (by omega) (by omega)]
  have w198 : W 198 = V 198 := k1.1 198 (by decide) (by decide) (by decide) (by decide)
  subst hrr
  cases hs : sSen B n 200 Q with
  | error x =>
    obtain ⟨kk, pl⟩ := x
    rw [hs] at k2 l2
    refine cstep (o1 := fX11_sentence N 216 (qH g V X) 0) (m := fun ff => fX12_sentence N 216 ff 196) hg e1 e2 (fin s sEq.rf (fun _ _ => rfl) (fun i hi => ?_) (hNs.pt (fun b j c1 c2 => ?_)))
    · rw [l2.2.2 i, w198]; exact hM i hi
    · rw [l1.2.1 b (by omega) (by omega) (by omega) (by omega), k2.2.2 b (by omega) (by omega)]
  | ok x =>
    obtain ⟨o, cs⟩ := x
    rw [hs] at k2 l2
    obtain ⟨g1, g2, g3, g4, g5⟩ := sSen_ok (L := s 4) hQ1 hQ2 (by omega) hs
    obtain ⟨-, -, m1, m2, m3⟩ := l2
    obtain ⟨-, -, n1, n2⟩ := k2
    refine cstep (o1 := fX11_sentence N 216 (qH g V X) 0) (m := fun ff => fX12_sentence N 216 ff 196) hg e1 e2 (fin (sSn s cs) (fun i hi => sSn_lt (by omega)) (fun i hi => sSn_lt hi) (fun j hj => ?_) ⟨?_, ?_, ?_, fun i hi => ?_⟩)
    · by_cases h250 : j < 250
      · rw [sSn_lt h250, m3 j (by omega), w198]; exact hM j hj
      · by_cases h251 : j = 250
        · subst h251; rw [sSn_250]; exact m1
        · by_cases hl : (j - 251) / 3 < cs.length
          · have hc : cs[(j - 251) / 3]? = some cs[(j - 251) / 3] := List.getElem?_eq_getElem hl
            obtain ⟨p1, p2, p3⟩ := m2 _ _ hc
            obtain ⟨t1, t2, t3⟩ := sSn_at (s := s) hc
            have : j = 251 + 3 * ((j - 251) / 3) ∨ j = 252 + 3 * ((j - 251) / 3) ∨ j = 253 + 3 * ((j - 251) / 3) := by omega
            rcases this with e | e | e
            · rw [e, p1, t1]
            · rw [e, p2, t2]
            · rw [e, p3, t3]
          · have en : sSn s cs j = s j := by
              unfold sSn
              rw [if_neg h250, if_neg h251, List.getElem?_eq_none (by omega)]
            rw [en, m3 j (by omega), w198]; exact hM j hj
    · rw [l1.2.1 31 (by decide) (by decide) (by decide) (by decide), n1, sSn_250]; congr 1; omega
    · rw [sSn_250]; exact g4
    · rw [sSn_250]
      refine Or.inr ?_
      rw [nDep_cs g1 _ (Nat.le_refl _), List.take_length]; exact g2
    · rw [sSn_250] at hi
      have hc : cs[i]? = some cs[i] := List.getElem?_eq_getElem hi
      obtain ⟨t1, t2, t3⟩ := sSn_at (s := s) hc
      obtain ⟨p1, p2, p3⟩ := n2 _ _ hc (by omega)
      obtain ⟨d1, d2, d3, d4, d5, d6, d7⟩ := g1 _ _ hc
      obtain ⟨m1, m2, m3, m4⟩ := mWd_20 _ d1
      have hdp := nDep_cs (s := s) g1 i (by omega)
      have ew : ∀ b, 31 ≤ b → b < 35 → W2 b = W b := fun b c1 c2 => l1.2.1 b (by omega) (by omega) (by omega) (by omega)
      rw [t1, t2, t3, hdp, ew (31 + 1) (by omega) (by omega), ew (31 + 2) (by omega) (by omega), ew (31 + 3) (by omega) (by omega), sSn_lt (show 4 < 250 by omega)]
      exact ⟨⟨_, d1, p1, rfl⟩, m1, p2, p3, d2, d3, fun h => d4 (m2 h), fun h => d5 (m3.mp h), fun h => d6 (m4.mp h), d7⟩
end QSJ
