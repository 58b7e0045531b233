/-! names: the reference; what reading keeps -/
section QNB
variable {g : zF} {V W U K : Nat → Nat → Int32} {X Y Z : Nat → Nat → Int64} {N n m p k pl : Nat} {s t u B : Nat → Nat}
def wMsR (X : Nat → Nat → Int64) : Prop := ∀ v, v < 27 → X 202 v = Int64.ofNat (r8 (wMs.getD v []))
theorem m_looks (hN : 3000 ≤ N) (h : mN B n m V X p) (hW : wMsR X) {z c : Nat} (hz : z + c ≤ 30) {q : Nat → List Nat} (hq : nOKs q c) (hX : ∀ i, i < c → X 201 (z + i) = Int64.ofNat (r8 (q i))) : hV g (fX12_looksAt N 216 (qH g V X) 196 (Int32.ofNat z) (Int32.ofNat c)) (fun W Y r => (match aOf B n m q c p with
    | .ok (v, _) => r = Int32.ofNat 1 ∧ W 196 18 = Int32.ofNat v ∧ W 196 15 = V 196 15 ∧ mN B n m W Y p
    | .error (k, pl) => r = Int32.ofNat 0 ∧ mFl W k pl) ∧ mFr V W X Y) := by
  unfold fX12_looksAt aOf
  rw [q196_c, Option.bind_some, m_isName hN h hW, Option.bind_some]
  by_cases hk : (tTok B n m p).1 = 5
  · obtain ⟨o1, o2, -⟩ := tW_ok (m := m) h.2.2.2.1 (Or.inr hk)
    have h17 := h.2.2.2.2.2.2.2.2 (by omega)
    rw [decide_eq_true hk, if_neg qzt, if_pos hk, Option.bind_some, m_seek hN hz hq hX o1 o2 h17, Option.bind_some, q196_p18, Option.bind_some, q196_g18, Option.bind_some, qw_s, upd_s]
    cases hf : fndN q c (tTok B n m p).2.2.2.2 with
    | some i =>
      have hi := (fndN_lt hf).1
      rw [show qo (some i) = Int32.ofNat i from rfl, if_pos (by rw [l0, qle (by omega) (by omega)]; omega), show zbl (1 : Int32) = some (Int32.ofNat 1) from rfl, Option.bind_some]
      exact hV_pure ⟨⟨rfl, by rw [qw_s, upd_s], by rw [qw_s, upd_n (by decide)], h.put (Or.inl rfl)⟩, mFr.w (fun j a b => upd_n (by omega))⟩
    | none =>
      rw [if_neg (by decide), q196_c, Option.bind_some]
      refine hV_zbd (m_bad (h.put (j := 18) (x := qo none) (Or.inl rfl)) (k := 3)) (fun W Y r hx => ?_)
      rw [hx.1]
      exact ⟨W, Y, _, rfl, ⟨rfl, hx.2.1⟩, (mFr.w (fun j a b => upd_n (by omega))).tr hx.2.2⟩
  · rw [decide_eq_false hk, if_pos qzf, if_neg hk, Option.bind_some]
    exact hV_zbd (m_bad h (k := 1)) (fun W Y r hx => by rw [hx.1]; exact ⟨W, Y, _, rfl, ⟨rfl, hx.2.1⟩, hx.2.2⟩)
theorem m_takesName (hN : 3000 ≤ N) (h : mN B n m V X p) (hW : wMsR X) {z c : Nat} (hz : z + c ≤ 30) {q : Nat → List Nat} (hq : nOKs q c) (hX : ∀ i, i < c → X 201 (z + i) = Int64.ofNat (r8 (q i))) : hV g (fX12_takesName N 216 (qH g V X) 196 (Int32.ofNat z) (Int32.ofNat c)) (mRel B n m V X (aOf B n m q c p)) := by
  unfold fX12_takesName
  rw [q196_c, Option.bind_some]
  refine hV_zbd (m_looks hN h hW hz hq hX) (fun W Y r hx => ?_)
  unfold mRel
  cases ha : aOf B n m q c p with
  | ok v =>
    obtain ⟨v, p2⟩ := v
    rw [ha] at hx
    obtain ⟨⟨x1, x2, x3, x4⟩, x5⟩ := hx
    have hk : (tTok B n m p).1 = 5 ∧ p2 = (tTok B n m p).2.2.1 := by
      unfold aOf at ha
      split at ha
      · rename_i h1
        split at ha
        · injection ha with h3
          injection h3 with h4 h5
          exact ⟨h1, h5.symm⟩
        · cases ha
      · cases ha
    rw [x1, if_neg (by decide), q196_c, Option.bind_some]
    refine hV_bind (mN.adv hN x4 (by omega) (by omega)) (fun W2 Y2 hy => ?_)
    obtain ⟨y1, y2, y3, y4, y5⟩ := hy
    exact ⟨W2, Y2, _, rfl, ⟨rfl, by rw [y5]; exact x2, by rw [y3]; exact x3, by rw [hk.2]; exact y1⟩, x5.tr y2⟩
  | error e =>
    obtain ⟨k, pl⟩ := e
    rw [ha] at hx
    rw [hx.1.1, if_pos (show Int32.ofNat 0 = (0 : Int32) from rfl)]
    exact ⟨W, Y, _, rfl, ⟨rfl, hx.1.2⟩, hx.2⟩
theorem cN.cg (h : cN B n m V X p) (h1 : ∀ j, W 1 j = V 1 j) (h2 : ∀ j, W 2 j = V 2 j) (h3 : ∀ j, Y 1 j = X 1 j) (h4 : ∀ j, Y 3 j = X 3 j) : cN B n m W Y p := by
  have e1 : W 1 = V 1 := funext h1
  have e2 : W 2 = V 2 := funext h2
  have e3 : Y 1 = X 1 := funext h3
  have e4 : Y 3 = X 3 := funext h4
  unfold cN cB cW cT at h ⊢
  rw [e1, e2, e3, e4]
  exact h
theorem cFl.cg (h : cFl B n m V X k pl) (h1 : ∀ j, W 1 j = V 1 j) (h2 : ∀ j, W 2 j = V 2 j) (h4 : ∀ j, Y 3 j = X 3 j) : cFl B n m W Y k pl := by
  have e1 : W 1 = V 1 := funext h1
  have e2 : W 2 = V 2 := funext h2
  have e4 : Y 3 = X 3 := funext h4
  unfold cFl cB cW at h ⊢
  rw [e1, e2, e4]
  exact h
theorem cSt.cg {a : aA} (h : cSt B n m V X a) (h1 : ∀ j, W 1 j = V 1 j) (h2 : ∀ j, W 2 j = V 2 j) (h3 : ∀ j, Y 1 j = X 1 j) (h4 : ∀ j, Y 3 j = X 3 j) : cSt B n m W Y a := by
  cases a with
  | ok p => exact cN.cg h h1 h2 h3 h4
  | error e => exact cFl.cg h h1 h2 h4
theorem c_isSg (h : cN B n m V X p) {c : Nat} (hc : c < 256) : fX9_isSign N 216 (qH g V X) 1 (Int32.ofNat c) = some (qz (decide ((tTok B n m p).1 = 2 ∧ (tTok B n m p).2.2.2.1 = c))) := by
  have hkd := h.kd (a := 2) (by omega) (by omega)
  have hT := h.2.2.2.2.2.2.2
  unfold fX9_isSign
  rw [q1_g5, Option.bind_some]
  by_cases hk : (tTok B n m p).1 = 2
  · rw [if_pos (by rw [show (5 : Int32) = Int32.ofNat (cKd 2) from rfl, hkd]; exact hk)]
    have hv := hT.2.2.2.1 ⟨by omega, by omega⟩
    have hv2 : (tTok B n m p).2.2.2.1 < 1000 := tSgn_lt h.1 h.2.2.2.2.1 hk
    rw [q1_g8, Option.bind_some, hv]
    by_cases h1 : (tTok B n m p).2.2.2.1 = c
    · rw [if_pos (by rw [h1]), decide_eq_true ⟨hk, h1⟩]; rfl
    · rw [if_neg (by rw [qeq (by omega) (by omega)]; exact h1), decide_eq_false (fun e => h1 e.2)]; rfl
  · rw [if_neg (by rw [show (5 : Int32) = Int32.ofNat (cKd 2) from rfl, hkd]; exact hk), decide_eq_false (fun e => hk e.1)]; rfl
theorem m_isSg (h : mN B n m V X p) {c : Nat} (hc : c < 256) : fX12_isSign N 216 (qH g V X) 196 (Int32.ofNat c) = some (qz (decide ((tTok B n m p).1 = 2 ∧ (tTok B n m p).2.2.2.1 = c))) := by
  have hk7 := tTok_k (B := B) (n := n) (m := m) (p := p)
  have hkd := h.kd (c := 3) (by omega)
  rw [(mKd_2 _ hk7).2.1] at hkd
  have hT := h.2.2.2.2
  unfold fX12_isSign
  rw [q196_g11, Option.bind_some]
  by_cases hk : (tTok B n m p).1 = 2
  · rw [if_pos (by rw [show (3 : Int32) = Int32.ofNat 3 from rfl, hkd]; exact hk)]
    have hv := hT.2.2.2.1 ⟨by omega, by omega⟩
    have hv2 := tSgn_ltm (V := V) h.1 h.2.2.2.1 hk
    rw [q196_g14, Option.bind_some, hv]
    by_cases h1 : (tTok B n m p).2.2.2.1 = c
    · rw [if_pos (by rw [h1]), decide_eq_true ⟨hk, h1⟩]; rfl
    · rw [if_neg (by rw [qeq (by omega) (by omega)]; exact h1), decide_eq_false (fun e => h1 e.2)]; rfl
  · rw [if_neg (by rw [show (3 : Int32) = Int32.ofNat 3 from rfl, hkd]; exact hk), decide_eq_false (fun e => hk e.1)]; rfl
/-- if there is more to read -/
def rdGo (B : Nat → Nat) (n m : Nat) : aA → Bool × aA
  | .error e => (false, .error e)
  | .ok p => if (tTok B n m p).1 = 0 then (false, .ok p) else if (tTok B n m p).1 = 1 then (false, .error (1, (tTok B n m p).2.1)) else (true, .ok p)
theorem rdGo_ok : rdGo B n m (.ok p) = (if (tTok B n m p).1 = 0 then (false, .ok p) else if (tTok B n m p).1 = 1 then (false, .error (1, (tTok B n m p).2.1)) else (true, .ok p)) := rfl
theorem tTok_0 (h : (tTok B n m p).1 = 0) : n ≤ m := by
  unfold tTok tTk at h
  split at h
  · exact absurd h (show ¬ 1 = 0 by decide)
  rename_i h1
  split at h
  · rename_i h2
    omega
  · split at h
    · dsimp only at h
      split at h <;> exact absurd h (by decide)
    split at h
    · dsimp only at h
      split at h <;> exact absurd h (by decide)
    split at h
    · exact absurd h (show ¬ 3 = 0 by decide)
    · exact absurd h (show ¬ 6 = 0 by decide)
theorem tTok_1 (h : (tTok B n m p).1 = 1) : m < n := by
  unfold tTok tTk at h
  split at h
  · rename_i h1
    exact h1.1
  split at h
  · exact absurd h (show ¬ 0 = 1 by decide)
  · split at h
    · dsimp only at h
      split at h <;> exact absurd h (by decide)
    split at h
    · dsimp only at h
      split at h <;> exact absurd h (by decide)
    split at h
    · exact absurd h (show ¬ 3 = 1 by decide)
    · exact absurd h (show ¬ 6 = 1 by decide)
theorem cKd_1 : ∀ b, b < 7 → (cKd b = 1) = (b = 0 ∨ b = 1) := by
  intro b hb
  have : b = 0 ∨ b = 1 ∨ b = 2 ∨ b = 3 ∨ b = 4 ∨ b = 5 ∨ b = 6 := by omega
  rcases this with rfl | rfl | rfl | rfl | rfl | rfl | rfl <;> simp [cKd]
theorem C_go {a : aA} (h : cSt B n m V X a) : hV g (fX9_goesOn N 216 (qH g V X) 1) (fun W Y r => r = qz (rdGo B n m a).1 ∧ cSt B n m W Y (rdGo B n m a).2 ∧ cFr V W X Y) := by
  unfold fX9_goesOn
  cases a with
  | error e =>
    obtain ⟨k, pl⟩ := e
    have hF : cFl B n m V X k pl := h
    obtain ⟨f1, f2, f3, f4, f5, f6, f7, f8, f9⟩ := id hF
    unfold fX9_goesOn_24
    rw [q1_g5, Option.bind_some, f9, if_neg (by decide), Option.bind_some, if_neg (by decide), q1_g10, Option.bind_some, f7, if_neg (by rw [l0, qeq (by omega) (by omega)]; omega), show zbl (0 : Int32) = some (qz false) from rfl, Option.bind_some]
    exact hV_pure ⟨rfl, h, cFr.rf⟩
  | ok p =>
    have hC : cN B n m V X p := h
    have hk7 := tTok_k (B := B) (n := n) (m := m) (p := p)
    have hc := cKd_lt (tTok B n m p).1
    obtain ⟨hB, hW, h3, hm, hp, h10, h11, hT⟩ := id hC
    have hn := hB.2.1
    have e5 : (V 1 5 = (1 : Int32)) = ((tTok B n m p).1 = 0 ∨ (tTok B n m p).1 = 1) := by
      rw [hT.1, l1, qeq (by omega) (by omega), cKd_1 _ hk7]
    rw [q1_g5, Option.bind_some, rdGo_ok]
    by_cases h0 : (tTok B n m p).1 = 0
    · have hnm := tTok_0 h0
      rw [if_pos (by rw [e5]; exact Or.inl h0), if_pos h0, q1_g2, Option.bind_some, q1_g3, Option.bind_some, hB.1, h3, if_pos (by rw [qle (by omega) (by omega)]; exact hnm)]
      unfold fX9_goesOn_24
      rw [q1_g5, Option.bind_some, if_pos (by rw [e5]; exact Or.inl h0), show zbl (0 : Int32) = some (qz false) from rfl, Option.bind_some]
      exact hV_pure ⟨rfl, h, cFr.rf⟩
    · by_cases h1 : (tTok B n m p).1 = 1
      · have hnm := tTok_1 h1
        rw [if_pos (by rw [e5]; exact Or.inr h1), if_neg h0, if_pos h1, q1_g2, Option.bind_some, q1_g3, Option.bind_some, hB.1, h3, if_neg (by rw [qle (by omega) (by omega)]; omega), q1_c, Option.bind_some]
        refine hV_bind (c_failN hC (k := 1) (by omega) (by omega)) (fun W Y hx => ?_)
        obtain ⟨⟨f1, f2, f3, f4, f5, f6, f7, f8, f9⟩, x2⟩ := id hx
        unfold fX9_goesOn_24
        rw [q1_g5, Option.bind_some, f9, if_neg (by decide), q1_g10, Option.bind_some, f7, if_neg (by decide), show zbl (0 : Int32) = some (qz false) from rfl, Option.bind_some]
        exact hV_pure ⟨rfl, hx.1, hx.2⟩
      · rw [if_neg (by rw [e5]; rintro (h | h); exact h0 h; exact h1 h), if_neg h0, if_neg h1]
        unfold fX9_goesOn_24
        rw [q1_g5, Option.bind_some, if_neg (by rw [e5]; rintro (h | h); exact h0 h; exact h1 h), q1_g10, Option.bind_some, h10, if_pos (show Int32.ofNat 0 = (0 : Int32) from rfl), show zbl (1 : Int32) = some (qz true) from rfl, Option.bind_some]
        exact hV_pure ⟨rfl, h, cFr.rf⟩
end QNB
