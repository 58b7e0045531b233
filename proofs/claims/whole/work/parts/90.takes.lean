/-! tokens taken: the reference -/
section QM9
variable {g : zF} {V W U K : Nat → Nat → Int32} {X Y Z : Nat → Nat → Int64} {N n m p k pl : Nat} {s t u B : Nat → Nat}
def mN (B : Nat → Nat) (n m : Nat) (V : Nat → Nat → Int32) (X : Nat → Nat → Int64) (p : Nat) : Prop := mB V B n ∧ V 196 5 = Int32.ofNat m ∧ m ≤ 940 ∧ p ≤ n ∧ mT V X (tTok B n m p)
def mFl (V : Nat → Nat → Int32) (k pl : Nat) : Prop := V 196 15 = Int32.ofNat k ∧ V 196 16 = Int32.ofNat pl
/-- all but the words of reading as they were -/
def mFr (V W : Nat → Nat → Int32) (X Y : Nat → Nat → Int64) : Prop := (∀ j, j ≠ 4 → (j < 11 ∨ 18 < j) → W 196 j = V 196 j) ∧ (∀ b, b ≠ 196 → W b = V b) ∧ ∀ b, b ≠ 196 → Y b = X b
theorem mFr.rf : mFr V V X X := ⟨fun _ _ _ => rfl, fun _ _ => rfl, fun _ _ => rfl⟩
theorem mFr.tr (h : mFr V W X Y) (h2 : mFr W U Y Z) : mFr V U X Z := ⟨fun j a b => by rw [h2.1 j a b, h.1 j a b], fun b hb => by rw [h2.2.1 b hb, h.2.1 b hb], fun b hb => by rw [h2.2.2 b hb, h.2.2 b hb]⟩
theorem mFr.w {r : Nat → Int32} (h : ∀ j, j ≠ 4 → (j < 11 ∨ 18 < j) → r j = V 196 j) : mFr V (qw V 196 r) X X := ⟨fun j a b => by rw [qw_s]; exact h j a b, fun b hb => qw_n hb, fun _ _ => rfl⟩
theorem mL.fr (h : mL V W X Y) : mFr V W X Y := ⟨fun j a b => h.1 j a (by omega), h.2.1, h.2.2⟩
theorem mN.adv (hN : 3000 ≤ N) (h : mN B n m V X p) (hk : 2 ≤ (tTok B n m p).1) (hk5 : (tTok B n m p).1 ≤ 5) : hS g (fX12_next N 216 (qH g V X) 196) (fun W Y => mN B n m W Y (tTok B n m p).2.2.1 ∧ mFr V W X Y ∧ W 196 15 = V 196 15 ∧ W 196 16 = V 196 16 ∧ W 196 18 = V 196 18) := by
  obtain ⟨hB, h5, hm, hp, hT⟩ := h
  obtain ⟨b1, b2, b3, b4⟩ := tTk_b (B := B) (n := n) (m := m) hk
  obtain ⟨t1, t2, t3, t4, t5⟩ := id hT
  have h9 := hB.2.1
  have hb3 : (tTok B n m p).2.2.1 ≤ n := b3
  unfold fX12_next
  refine hS_mono (m_next (g := g) hN (n - (tTok B n m p).2.2.1) N (tTok B n m p).2.2.1 V X hB h5 hm (t3 ⟨hk, hk5⟩) (by omega) (by omega)) (fun W Y hx => ?_)
  obtain ⟨x1, x2⟩ := hx
  exact ⟨⟨hB.l x2, by rw [x2.1 5 (by decide) (by decide)]; exact h5, hm, b3, x1⟩, x2.fr, x2.1 15 (by decide) (by decide), x2.1 16 (by decide) (by decide), x2.1 18 (by decide) (by decide)⟩
theorem mKd_lt (k : Nat) : mKd k < 5 := by
  have h : ∀ k, k < 7 → mKd k < 5 := by decide
  by_cases hk : k < 7
  · exact h k hk
  · unfold mKd
    rw [List.getD_eq_getElem?_getD, List.getElem?_eq_none (by show 7 ≤ k; omega)]
    decide
theorem mN.kd (h : mN B n m V X p) {c : Nat} (hc : c < 5) : (V 196 11 = Int32.ofNat c) = (mKd (tTok B n m p).1 = c) := by
  have c1 := mKd_lt (tTok B n m p).1
  rw [h.2.2.2.2.1, qeq (by omega) (by omega)]
theorem mKd_2 : ∀ b, b < 7 → ((mKd b = 2) = (b = 3)) ∧ ((mKd b = 3) = (b = 2)) ∧ ((mKd b = 1) = (b = 4 ∨ b = 5)) ∧ ((mKd b = 0) = (b = 0)) := by
  intro b hb
  have : b = 0 ∨ b = 1 ∨ b = 2 ∨ b = 3 ∨ b = 4 ∨ b = 5 ∨ b = 6 := by omega
  rcases this with rfl | rfl | rfl | rfl | rfl | rfl | rfl <;> simp [mKd]
theorem m_bad (h : mN B n m V X p) {k : Nat} : hV g (fX12_bad N 216 (qH g V X) 196 (Int32.ofNat k)) (fun W Y r => r = Int32.ofNat 0 ∧ mFl W k (tTok B n m p).2.1 ∧ mFr V W X Y) := by
  unfold fX12_bad
  rw [q196_p15, Option.bind_some, q196_g12, Option.bind_some, qw_s, upd_n (by decide), h.2.2.2.2.2.1, q196_p16, Option.bind_some, qw_qw, qw_s]
  refine ⟨_, X, _, rfl, rfl, ⟨by rw [qw_s, upd_n (by decide), upd_s], by rw [qw_s, upd_s]⟩, mFr.w (fun j a b => by rw [upd_n (by omega), upd_n (by omega)])⟩
/-- how the reference tells a value: in field 18 -/
def mRel (B : Nat → Nat) (n m : Nat) (V : Nat → Nat → Int32) (X : Nat → Nat → Int64) (a : aR) (W : Nat → Nat → Int32) (Y : Nat → Nat → Int64) (r : Int32) : Prop := (match a with
  | .ok (v, p) => r = Int32.ofNat 1 ∧ W 196 18 = Int32.ofNat v ∧ W 196 15 = V 196 15 ∧ mN B n m W Y p
  | .error (k, pl) => r = Int32.ofNat 0 ∧ mFl W k pl) ∧ mFr V W X Y
/-- .. a sign: no value -/
def mRes (B : Nat → Nat) (n m : Nat) (V : Nat → Nat → Int32) (X : Nat → Nat → Int64) (a : aR) (W : Nat → Nat → Int32) (Y : Nat → Nat → Int64) (r : Int32) : Prop := (match a with
  | .ok (_, p) => r = Int32.ofNat 1 ∧ W 196 15 = V 196 15 ∧ mN B n m W Y p
  | .error (k, pl) => r = Int32.ofNat 0 ∧ mFl W k pl) ∧ mFr V W X Y
theorem mN.put (h : mN B n m V X p) {j : Nat} {x : Int32} (hj : j = 18 ∨ j = 19 ∨ j = 20 ∨ 21 ≤ j) : mN B n m (qw V 196 (upd (V 196) j x)) X p := by
  obtain ⟨hB, h5, hm, hp, t1, t2, t3, t4, t5⟩ := h
  exact ⟨⟨by rw [qw_s, upd_n (by omega)]; exact hB.1, hB.2.1, fun i hi => by rw [qw_n (by decide)]; exact hB.2.2 i hi⟩, by rw [qw_s, upd_n (by omega)]; exact h5, hm, hp, by rw [qw_s, upd_n (by omega)]; exact t1, by rw [qw_s, upd_n (by omega)]; exact t2, fun hk => by rw [qw_s, upd_n (by omega)]; exact t3 hk, fun hk => by rw [qw_s, upd_n (by omega)]; exact t4 hk, t5⟩
/-- bytes are bytes: a class tape of them -/
theorem bT {V : Nat → Nat → Int32} (hB : mB V B n) : ∃ U : Nat → Nat → Int32, cB U B n := by
  refine ⟨fun a i => if a = 1 then Int32.ofNat n else if B i < 128 then Int32.ofNat (B i) else (Int8.ofNat (B i)).toInt32, rfl, hB.2.1, fun i hi => ?_⟩
  have hb := (hB.2.2 i hi).1
  obtain ⟨b1, b2, b3⟩ := b8 (B i) hb
  refine ⟨hb, ?_, ?_, ?_⟩
  · show (if B i < 128 then Int32.ofNat (B i) else (Int8.ofNat (B i)).toInt32) &&& Int32.ofNat 255 = _
    split
    · rename_i h
      have e := b1
      rw [b2 h] at e
      exact e
    · exact b1
  · intro h
    show (if B i < 128 then Int32.ofNat (B i) else (Int8.ofNat (B i)).toInt32) = _
    rw [if_pos h]
  · intro h
    show (if B i < 128 then Int32.ofNat (B i) else (Int8.ofNat (B i)).toInt32) < _
    rw [if_neg (by omega)]
    exact b3 h
theorem tNum_lt (hB : mB V B n) (hp : p ≤ n) (hk : (tTok B n m p).1 = 3) : (tTok B n m p).2.2.2.1 < 100000 := by
  obtain ⟨U, hU⟩ := bT hB
  have hs := tSk_le B (n - p) p
  unfold tTok at hk ⊢
  generalize tSk B (n - p) p = q at hk hs ⊢
  unfold tTk at hk ⊢
  split at hk
  · exact absurd hk (show ¬ 1 = 3 by decide)
  rename_i h1
  rw [if_neg h1]
  split at hk
  · exact absurd hk (show ¬ 0 = 3 by decide)
  rename_i h2
  rw [if_neg h2]
  split at hk
  · dsimp only at hk
    split at hk <;> exact absurd hk (by decide)
  rename_i h3
  rw [if_neg h3]
  split at hk
  · dsimp only at hk
    split at hk <;> exact absurd hk (by decide)
  rename_i h4
  rw [if_neg h4]
  split at hk
  · rename_i h5
    rw [if_pos h5]
    have := tRn_le B (n - q) q
    exact tNm_b5 hU h5.1 h5.2 (by omega)
  · exact absurd hk (show ¬ 6 = 3 by decide)
theorem tSgn_ltm (hB : mB V B n) (hp : p ≤ n) (hk : (tTok B n m p).1 = 2) : (tTok B n m p).2.2.2.1 < 1000 := by
  obtain ⟨U, hU⟩ := bT hB
  exact tSgn_lt hU hp hk
theorem m_takes (hN : 3000 ≤ N) (h : mN B n m V X p) {lo hi : Nat} (hlo : lo < 1000) (hhi : hi < 1000) : hV g (fX12_takes N 216 (qH g V X) 196 (Int32.ofNat lo) (Int32.ofNat hi)) (mRel B n m V X (aNum B n m lo hi p)) := by
  have hk7 := tTok_k (B := B) (n := n) (m := m) (p := p)
  have hkd := h.kd (c := 2) (by omega)
  rw [(mKd_2 _ hk7).1] at hkd
  have hT := h.2.2.2.2
  unfold fX12_takes aNum
  rw [q196_g11, Option.bind_some]
  by_cases hk : (tTok B n m p).1 = 3
  · rw [if_pos (by rw [show (2 : Int32) = Int32.ofNat 2 from rfl, hkd]; exact hk), if_pos hk]
    have hv := hT.2.2.2.1 ⟨by omega, by omega⟩
    have hv2 := tNum_lt (V := V) h.1 h.2.2.2.1 hk
    rw [q196_g14, Option.bind_some, hv, m_in (by omega) (by omega), Option.bind_some, qrg_k (by omega)]
    by_cases h1 : lo ≤ (tTok B n m p).2.2.2.1 ∧ (tTok B n m p).2.2.2.1 ≤ hi
    · rw [decide_eq_true (by omega), if_neg qzt, if_pos h1, Option.bind_some, q196_p18, Option.bind_some, q196_c, Option.bind_some]
      refine hV_bind (mN.adv hN (h.put (j := 18) (x := Int32.ofNat (tTok B n m p).2.2.2.1) (Or.inl rfl)) (by omega) (by omega)) (fun W Y hx => ?_)
      obtain ⟨x1, x2, x3, x4, x5⟩ := hx
      exact ⟨W, Y, _, rfl, ⟨rfl, by rw [x5, qw_s, upd_s], by rw [x3, qw_s, upd_n (by decide)], x1⟩, (mFr.w (fun j a b => upd_n (by omega))).tr x2⟩
    · rw [decide_eq_false (by omega), if_pos qzf, if_neg h1, q196_c, Option.bind_some]
      exact hV_zbd (m_bad h (k := 2)) (fun W Y r hx => by rw [hx.1]; exact ⟨W, Y, _, rfl, ⟨rfl, hx.2.1⟩, hx.2.2⟩)
  · rw [if_neg (by rw [show (2 : Int32) = Int32.ofNat 2 from rfl, hkd]; exact hk), if_neg hk, q196_c, Option.bind_some]
    exact hV_zbd (m_bad h (k := 1)) (fun W Y r hx => by rw [hx.1]; exact ⟨W, Y, _, rfl, ⟨rfl, hx.2.1⟩, hx.2.2⟩)
theorem m_sgn (hN : 3000 ≤ N) (h : mN B n m V X p) {c : Nat} (hc : c < 256) : hV g (fX12_sign N 216 (qH g V X) 196 (Int32.ofNat c)) (mRes B n m V X (aSgn B n m c p)) := by
  have hk7 := tTok_k (B := B) (n := n) (m := m) (p := p)
  have hkd := h.kd (c := 3) (by omega)
  rw [(mKd_2 _ hk7).2.1] at hkd
  have hT := h.2.2.2.2
  have no : hV g (zbd (fX12_bad N 216 (qH g V X) 196 (1 : Int32)) fun f4 x3 => ((zbl x3).bind fun y => some (f4, y))) (mRes B n m V X (.error (1, (tTok B n m p).2.1))) :=
    hV_zbd (m_bad h (k := 1)) (fun W Y r hx => by rw [hx.1]; exact ⟨W, Y, _, rfl, ⟨rfl, hx.2.1⟩, hx.2.2⟩)
  unfold fX12_sign fX12_isSign aSgn
  rw [q196_c, Option.bind_some, q196_g11, Option.bind_some]
  by_cases hk : (tTok B n m p).1 = 2
  · rw [if_pos (by rw [show (3 : Int32) = Int32.ofNat 3 from rfl, hkd]; exact hk)]
    have hv := hT.2.2.2.1 ⟨by omega, by omega⟩
    have hv2 := tSgn_ltm (V := V) h.1 h.2.2.2.1 hk
    rw [q196_g14, Option.bind_some, hv]
    by_cases h1 : (tTok B n m p).2.2.2.1 = c
    · rw [if_pos (by rw [h1]), if_pos ⟨hk, h1⟩, show zbl (1 : Int32) = some (qz true) from rfl, Option.bind_some, if_neg qzt, Option.bind_some]
      refine hV_bind (mN.adv hN h (by omega) (by omega)) (fun W Y hx => ?_)
      obtain ⟨x1, x2, x3, x4, x5⟩ := hx
      exact ⟨W, Y, _, rfl, ⟨rfl, x3, x1⟩, x2⟩
    · rw [if_neg (by rw [qeq (by omega) (by omega)]; exact h1), if_neg (fun e => h1 e.2), show zbl (0 : Int32) = some (qz false) from rfl, Option.bind_some, if_pos qzf, Option.bind_some]
      exact no
  · rw [if_neg (by rw [show (3 : Int32) = Int32.ofNat 3 from rfl, hkd]; exact hk), if_neg (fun e => hk e.1), show zbl (0 : Int32) = some (qz false) from rfl, Option.bind_some, if_pos qzf, Option.bind_some]
    exact no
end QM9
