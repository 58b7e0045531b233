/-! words and sides -/
section QWS
variable {g : zF} {V W U K : Nat → Nat → Int32} {X Y Z : Nat → Nat → Int64} {N n m p k pl : Nat} {s t u B : Nat → Nat}
theorem c_isW (h : cN B n m V X p) {v : Nat} (hv : v < 27) : fX9_isWord N 216 (qH g V X) 1 (Int32.ofNat v) = some (qz (aIs B n m v p)) := by
  have hkd := h.kd (a := 4) (by omega) (by omega)
  have hT := h.2.2.2.2.2.2.2
  unfold fX9_isWord aIs
  rw [q1_g5, Option.bind_some]
  by_cases hk : (tTok B n m p).1 = 4
  · have hv1 := hT.2.2.2.1 ⟨by omega, by omega⟩
    have hv2 : (tTok B n m p).2.2.2.1 < 27 := tWord_lt hk
    rw [if_pos (by rw [show (2 : Int32) = Int32.ofNat (cKd 4) from rfl, hkd]; exact hk), q1_g8, Option.bind_some, hv1]
    by_cases h1 : (tTok B n m p).2.2.2.1 = v
    · rw [if_pos (by rw [h1]), decide_eq_true ⟨hk, h1⟩]; rfl
    · rw [if_neg (by rw [qeq (by omega) (by omega)]; exact h1), decide_eq_false (fun e => h1 e.2)]; rfl
  · rw [if_neg (by rw [show (2 : Int32) = Int32.ofNat (cKd 4) from rfl, hkd]; exact hk), decide_eq_false (fun e => hk e.1)]; rfl
theorem c_isWF (h : cFl B n m V X k pl) {v : Int32} : fX9_isWord N 216 (qH g V X) 1 v = some (qz false) := by
  unfold fX9_isWord
  rw [q1_g5, Option.bind_some, h.2.2.2.2.2.2.2.2, if_neg (by decide)]
  rfl
theorem m_sideW (h : mN B n m V X p) : fX12_sideWord N 216 (qH g V X) 196 = some (qo (if (tTok B n m p).1 = 4 ∧ (tTok B n m p).2.2.2.1 < 4 then some (tTok B n m p).2.2.2.1 else none)) := by
  have w0 := m_isW (g := g) (N := N) h (v := 0) (by omega)
  have w1 := m_isW (g := g) (N := N) h (v := 1) (by omega)
  have w2 := m_isW (g := g) (N := N) h (v := 2) (by omega)
  have w3 := m_isW (g := g) (N := N) h (v := 3) (by omega)
  rw [show Int64.ofNat (r8 (wK 0)) = (1700885364 : Int64) from rfl] at w0
  rw [show Int64.ofNat (r8 (wK 1)) = (495791207528 : Int64) from rfl] at w1
  rw [show Int64.ofNat (r8 (wK 2)) = (2003137396 : Int64) from rfl] at w2
  rw [show Int64.ofNat (r8 (wK 3)) = (474316174440 : Int64) from rfl] at w3
  unfold fX12_sideWord
  rw [q196_c, Option.bind_some, w0, Option.bind_some]
  unfold aIs at w0 w1 w2 w3 ⊢
  by_cases hk : (tTok B n m p).1 = 4
  · by_cases e0 : (tTok B n m p).2.2.2.1 = 0
    · rw [decide_eq_true ⟨hk, e0⟩, if_neg qzt, if_pos ⟨hk, by omega⟩, e0]; rfl
    rw [decide_eq_false (fun e => e0 e.2), if_pos qzf, Option.bind_some, w1, Option.bind_some]
    by_cases e1 : (tTok B n m p).2.2.2.1 = 1
    · rw [decide_eq_true ⟨hk, e1⟩, if_neg qzt, if_pos ⟨hk, by omega⟩, e1]; rfl
    rw [decide_eq_false (fun e => e1 e.2), if_pos qzf, Option.bind_some, w2, Option.bind_some]
    by_cases e2 : (tTok B n m p).2.2.2.1 = 2
    · rw [decide_eq_true ⟨hk, e2⟩, if_neg qzt, if_pos ⟨hk, by omega⟩, e2]; rfl
    rw [decide_eq_false (fun e => e2 e.2), if_pos qzf, Option.bind_some, w3, Option.bind_some]
    by_cases e3 : (tTok B n m p).2.2.2.1 = 3
    · rw [decide_eq_true ⟨hk, e3⟩, if_neg qzt, if_pos ⟨hk, by omega⟩, e3]; rfl
    rw [decide_eq_false (fun e => e3 e.2), if_pos qzf, if_neg (fun e => by omega)]; rfl
  · rw [decide_eq_false (fun e => hk e.1), if_pos qzf, Option.bind_some, w1, Option.bind_some, decide_eq_false (fun e => hk e.1), if_pos qzf, Option.bind_some, w2, Option.bind_some, decide_eq_false (fun e => hk e.1), if_pos qzf, Option.bind_some, w3, Option.bind_some, decide_eq_false (fun e => hk e.1), if_pos qzf, if_neg (fun e => hk e.1)]; rfl
end QWS
