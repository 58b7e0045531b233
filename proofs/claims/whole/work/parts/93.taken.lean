/-! sides, words taken -/
section QWT
variable {g : zF} {V W U K : Nat → Nat → Int32} {X Y Z : Nat → Nat → Int64} {N n m p k pl : Nat} {s t u B : Nat → Nat}
theorem m_takesSide (hN : 3000 ≤ N) (h : mN B n m V X p) : hV g (fX12_takesSide N 216 (qH g V X) 196) (mRel B n m V X (aSide B n m p)) := by
  unfold fX12_takesSide aSide
  rw [q196_c, Option.bind_some, m_sideW h, Option.bind_some, q196_p18, Option.bind_some, q196_g18, Option.bind_some, qw_s, upd_s]
  by_cases hk : (tTok B n m p).1 = 4 ∧ (tTok B n m p).2.2.2.1 < 4
  · rw [if_pos hk, if_pos hk, show qo (some (tTok B n m p).2.2.2.1) = Int32.ofNat (tTok B n m p).2.2.2.1 from rfl, if_pos (by rw [l0, qle (by omega) (by omega)]; omega), q196_c, Option.bind_some]
    refine hV_bind (mN.adv hN (h.put (j := 18) (x := Int32.ofNat (tTok B n m p).2.2.2.1) (Or.inl rfl)) (by omega) (by omega)) (fun W Y hx => ?_)
    obtain ⟨x1, x2, x3, x4, x5⟩ := hx
    exact ⟨W, Y, _, rfl, ⟨rfl, by rw [x5, qw_s, upd_s], by rw [x3, qw_s, upd_n (by decide)], x1⟩, (mFr.w (fun j a b => upd_n (by omega))).tr x2⟩
  · rw [if_neg hk, if_neg hk, if_neg (by decide), q196_c, Option.bind_some]
    refine hV_zbd (m_bad (h.put (j := 18) (x := qo none) (Or.inl rfl)) (k := 1)) (fun W Y r hx => ?_)
    rw [hx.1]
    exact ⟨W, Y, _, rfl, ⟨rfl, hx.2.1⟩, (mFr.w (fun j a b => upd_n (by omega))).tr hx.2.2⟩
theorem c_takesWN (hN : 3000 ≤ N) (h : cN B n m V X p) {v : Nat} (hv : v < 27) : hV g (fX9_takesWord N 216 (qH g V X) 1 (Int32.ofNat v)) (fun W Y r => r = qz (aIs B n m v p) ∧ (if aIs B n m v p = true then cN B n m W Y (tTok B n m p).2.2.1 else cN B n m W Y p) ∧ cFr V W X Y) := by
  unfold fX9_takesWord
  rw [q1_c, Option.bind_some, c_isW h hv, Option.bind_some]
  cases hb : aIs B n m v p with
  | false =>
    rw [if_pos qzf, qzb, Option.bind_some]
    exact hV_pure ⟨rfl, by rw [if_neg (by decide)]; exact h, cFr.rf⟩
  | true =>
    have hk := (of_decide_eq_true hb).1
    rw [if_neg qzt, Option.bind_some]
    refine hV_bind (cN.adv hN h (by omega) (by omega)) (fun W Y hx => ?_)
    rw [qzb, Option.bind_some]
    exact hV_pure ⟨rfl, by rw [if_pos rfl]; exact hx.1, hx.2.2⟩
theorem c_takesWF (h : cFl B n m V X k pl) {v : Int32} : hV g (fX9_takesWord N 216 (qH g V X) 1 v) (fun W Y r => r = qz false ∧ W = V ∧ Y = X) := by
  unfold fX9_takesWord
  rw [q1_c, Option.bind_some, c_isWF h, Option.bind_some, if_pos qzf, qzb, Option.bind_some]
  exact hV_pure ⟨rfl, rfl, rfl⟩
/-- the class begins to read -/
theorem c_begin (hN : 3000 ≤ N) (hB : cB V B n) (hW : cW X) (hm : m ≤ 940) : hS g (fX9_start N 216 (qH g V X) 1 (Int32.ofNat m)) (fun W Y => cN B n m W Y 0 ∧ cFr V W X Y) := by
  unfold fX9_start
  rw [q1_p3, Option.bind_some, q1_p4, Option.bind_some, qw_qw, qw_s, q1_p10, Option.bind_some, qw_qw, qw_s, q1_p11, Option.bind_some, qw_qw, qw_s, q1_p6, Option.bind_some, qw_qw, qw_s, q1_c, Option.bind_some]
  have hB2 : cB (qw V 1 (upd (upd (upd (upd (upd (V 1) 3 (Int32.ofNat m)) 4 0) 10 0) 11 0) 6 0)) B n := ⟨by rw [qw_s, upd_n (by decide), upd_n (by decide), upd_n (by decide), upd_n (by decide), upd_n (by decide)]; exact hB.1, hB.2.1, fun i hi => by rw [qw_n (by decide)]; exact hB.2.2 i hi⟩
  refine hS_bind (c_advance (m := m) (p := 0) (pl := 0) hN hB2 hW (by rw [qw_s, upd_n (by decide), upd_n (by decide), upd_n (by decide), upd_n (by decide), upd_s]) hm (by rw [qw_s, upd_n (by decide), upd_n (by decide), upd_n (by decide), upd_s]; rfl) (Nat.zero_le _) (by rw [qw_s, upd_s]; rfl)) (fun W Y h => hS_pure ?_)
  obtain ⟨a1, a2, a3, a4, a5, a6, a7, a8⟩ := h
  exact ⟨⟨⟨by rw [a3]; exact hB2.1, hB.2.1, fun i hi => by rw [a7 2 (by decide)]; exact hB2.2.2 i hi⟩, fun v hv => by rw [a8 3 (by decide)]; exact hW v hv, by rw [a4, qw_s, upd_n (by decide), upd_n (by decide), upd_n (by decide), upd_n (by decide), upd_s], hm, Nat.zero_le _, by rw [a5, qw_s, upd_n (by decide), upd_n (by decide), upd_s]; rfl, by rw [a6, qw_s, upd_n (by decide), upd_s]; rfl, a1⟩, fun b hb => by rw [a7 b hb, qw_n hb], a8⟩
end QWT
