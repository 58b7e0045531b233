/-! a sentence: the reference, step by step -/
section QSH
variable {g : zF} {V W U K : Nat → Nat → Int32} {X Y Z : Nat → Nat → Int64} {N n m p o k pl d e : Nat} {s t u B : Nat → Nat} {Q : sQ} {cs : List sC} {st : List Nat} {w : Bool}
/-- the names that the reference has -/
def mQ (V : Nat → Nat → Int32) (X : Nat → Nat → Int64) (Q : sQ) : Prop := wMsR X ∧ (nOKs Q.1 Q.2.1 ∧ (∀ i, i < Q.2.1 → X 201 (0 + i) = Int64.ofNat (r8 (Q.1 i))) ∧ Q.2.1 ≤ 4 ∧ V 198 2 = Int32.ofNat Q.2.1) ∧ (nOKs Q.2.2.1 Q.2.2.2 ∧ (∀ i, i < Q.2.2.2 → X 201 (10 + i) = Int64.ofNat (r8 (Q.2.2.1 i))) ∧ Q.2.2.2 ≤ 5 ∧ V 198 4 = Int32.ofNat Q.2.2.2)
theorem mQ.fr (h : mQ V X Q) (h1 : ∀ j, W 198 j = V 198 j) (h2 : ∀ b, b ≠ 196 → Y b = X b) : mQ W Y Q := by
  obtain ⟨a0, ⟨a1, a2, a3, a4⟩, b1, b2, b3, b4⟩ := h
  exact ⟨fun v hv => by rw [h2 202 (by decide)]; exact a0 v hv, ⟨a1, fun i hi => by rw [h2 201 (by decide)]; exact a2 i hi, a3, by rw [h1]; exact a4⟩, b1, fun i hi => by rw [h2 201 (by decide)]; exact b2 i hi, b3, by rw [h1]; exact b4⟩
theorem mQ.sf (h : mQ V X Q) (hf : sFr V W X Y) : mQ W Y Q := h.fr (fun j => by rw [hf.2.1 198 (by decide) (by decide) (by decide)]) hf.2.2
/-- a step of the run -/
def stepR (B : Nat → Nat) (n m : Nat) (Q : sQ) (V : Nat → Nat → Int32) (X : Nat → Nat → Int64) (w : Bool) (p o : Nat) (cs : List sC) (st : List Nat) (W : Nat → Nat → Int32) (Y : Nat → Nat → Int64) (r : Int32) : Prop :=
  sFr V W X Y ∧ ((r = Int32.ofNat 0 ∧ ∃ kk pl, mFl W kk pl ∧ 1 ≤ kk ∧ ∀ k, rRun B n m Q (k + 1) w p o cs st = .error (kk, pl)) ∨ (r = Int32.ofNat 1 ∧ ∃ w' p' o' cs' st', mZ B n m W Y p' o' cs' st' w' ∧ p < p' ∧ ∀ k, rRun B n m Q (k + 1) w p o cs st = rRun B n m Q k w' p' o' cs' st'))
theorem m_leafW (h : mN B n m V X p) : fX12_leafOf N 216 (qH g V X) 196 = some (qo (if (tTok B n m p).1 = 4 ∧ 19 ≤ (tTok B n m p).2.2.2.1 then some ((tTok B n m p).2.2.2.1 - 19) else none)) := by
  have w0 : fX12_isWord N 216 (qH g V X) 196 (1936024942 : Int64) = some (qz (aIs B n m 19 p)) := m_isW (g := g) (N := N) h (v := 19) (by omega)
  have w1 : fX12_isWord N 216 (qH g V X) 196 (495875089259 : Int64) = some (qz (aIs B n m 20 p)) := m_isW (g := g) (N := N) h (v := 20) (by omega)
  have w2 : fX12_isWord N 216 (qH g V X) 196 (470021465444 : Int64) = some (qz (aIs B n m 21 p)) := m_isW (g := g) (N := N) h (v := 21) (by omega)
  have w3 : fX12_isWord N 216 (qH g V X) 196 (28518 : Int64) = some (qz (aIs B n m 22 p)) := m_isW (g := g) (N := N) h (v := 22) (by omega)
  have w4 : fX12_isWord N 216 (qH g V X) 196 (25209 : Int64) = some (qz (aIs B n m 23 p)) := m_isW (g := g) (N := N) h (v := 23) (by omega)
  have w5 : fX12_isWord N 216 (qH g V X) 196 (1735356005 : Int64) = some (qz (aIs B n m 24 p)) := m_isW (g := g) (N := N) h (v := 24) (by omega)
  have w6 : fX12_isWord N 216 (qH g V X) 196 (435778056825 : Int64) = some (qz (aIs B n m 25 p)) := m_isW (g := g) (N := N) h (v := 25) (by omega)
  have w7 : fX12_isWord N 216 (qH g V X) 196 (121450625394034 : Int64) = some (qz (aIs B n m 26 p)) := m_isW (g := g) (N := N) h (v := 26) (by omega)
  unfold fX12_leafOf
  simp only [q196_c, w0, w1, w2, w3, w4, w5, w6, w7, Option.bind_some]
  unfold aIs
  by_cases hk : (tTok B n m p).1 = 4
  · have hv := tWord_lt hk
    by_cases hs : 19 ≤ (tTok B n m p).2.2.2.1
    · have : (tTok B n m p).2.2.2.1 = 19 ∨ (tTok B n m p).2.2.2.1 = 20 ∨ (tTok B n m p).2.2.2.1 = 21 ∨ (tTok B n m p).2.2.2.1 = 22 ∨ (tTok B n m p).2.2.2.1 = 23 ∨ (tTok B n m p).2.2.2.1 = 24 ∨ (tTok B n m p).2.2.2.1 = 25 ∨ (tTok B n m p).2.2.2.1 = 26 := by omega
      rw [if_pos (show (tTok B n m p).1 = 4 ∧ 19 ≤ (tTok B n m p).2.2.2.1 from ⟨hk, hs⟩)]
      rcases this with e | e | e | e | e | e | e | e <;> rw [e, hk] <;> decide
    · have f : ∀ v, 19 ≤ v → decide ((tTok B n m p).1 = 4 ∧ (tTok B n m p).2.2.2.1 = v) = false := fun v hv => decide_eq_false (fun e => by omega)
      rw [f 19 (by omega), f 20 (by omega), f 21 (by omega), f 22 (by omega), f 23 (by omega), f 24 (by omega), f 25 (by omega), f 26 (by omega), if_neg (show ¬ ((tTok B n m p).1 = 4 ∧ 19 ≤ (tTok B n m p).2.2.2.1) from fun e => hs e.2)]
      decide
  · have f : ∀ v, decide ((tTok B n m p).1 = 4 ∧ (tTok B n m p).2.2.2.1 = v) = false := fun v => decide_eq_false (fun e => hk e.1)
    rw [f 19, f 20, f 21, f 22, f 23, f 24, f 25, f 26, if_neg (show ¬ ((tTok B n m p).1 = 4 ∧ 19 ≤ (tTok B n m p).2.2.2.1) from fun e => hk e.1)]
    decide
theorem tNum_1000 (hk : (tTok B n m p).1 = 3) : (tTok B n m p).2.2.2.1 < 1000 := by
  unfold tTok at hk ⊢
  generalize tSk B (n - p) p = q at hk ⊢
  unfold tTk at hk ⊢
  split at hk
  · exact absurd hk (show ¬ 1 = 3 by decide)
  rename_i h1
  rw [if_neg h1]
  split at hk
  · exact absurd hk (show ¬ 0 = 3 by decide)
  rename_i h2
  rw [if_neg h2]
  split at hk
  · dsimp only at hk
    split at hk <;> exact absurd hk (by decide)
  rename_i h3
  rw [if_neg h3]
  split at hk
  · dsimp only at hk
    split at hk <;> exact absurd hk (by decide)
  rename_i h4
  rw [if_neg h4]
  split at hk
  · rename_i h5
    rw [if_pos h5]
    have a := tNm_lt (B := B) (p := q) _ h5.1
    have b : 10 ^ tRn B (n - q) q ≤ 10 ^ 3 := Nat.pow_le_pow_right (by decide) h5.2
    show tNm B q (tRn B (n - q) q) < 1000
    omega
  · exact absurd hk (show ¬ 6 = 3 by decide)
theorem m_badS (h : mN B n m V X p) {k : Nat} {R : (Nat → Nat → Int32) → (Nat → Nat → Int64) → Int32 → Prop} (hR : ∀ W Y, mFl W k (tTok B n m p).2.1 → mFr V W X Y → R W Y (Int32.ofNat 0)) : hV g (zbd (fX12_bad N 216 (qH g V X) 196 (Int32.ofNat k)) fun f x => ((zbl x).bind fun y => some (f, y))) R :=
  hV_zbd (m_bad h (k := k)) (fun W Y r hx => by rw [hx.1]; exact ⟨W, Y, _, rfl, hR W Y hx.2.1 hx.2.2⟩)
theorem mZ.adv (hN : 3000 ≤ N) (h : mN B n m V X p) (h15 : V 196 15 = Int32.ofNat 0) (hy : mY V o cs st w) (hk : 2 ≤ (tTok B n m p).1) (hk5 : (tTok B n m p).1 ≤ 5) : hS g (fX12_next N 216 (qH g V X) 196) (fun W Y => mZ B n m W Y (tTok B n m p).2.2.1 o cs st w ∧ mFr V W X Y) :=
  hS_mono (mN.adv hN h hk hk5) (fun W Y hx => ⟨⟨hx.1, by rw [hx.2.2.1]; exact h15, hx.2.1.y hy⟩, hx.2.1⟩)
/-- fields 41 to 45 changed -/
theorem q45_fr {r : Nat → Int32} (h : ∀ j, j < 41 ∨ 45 < j → r j = V 196 j) : sFr V (qw V 196 r) X X := ⟨fun j _ _ h2 => by rw [qw_s]; exact h j h2, fun b h1 _ _ => qw_n h1, fun _ _ => rfl⟩
theorem q45_N {r : Nat → Int32} (h1 : mN B n m V X p) (h : ∀ j, j < 41 ∨ 45 < j → r j = V 196 j) : mN B n m (qw V 196 r) X p := h1.cg (fun j hj => by rw [qw_s]; exact h j (by omega)) (fun j => by rw [qw_n (by decide)]) (fun _ => rfl)
theorem r_err1 (h : isOpn B n m p = false ∧ isOne B n m p = false) {k : Nat} : rRun B n m Q (k + 1) false p o cs st = .error (1, (tTok B n m p).2.1) := by
  unfold rRun
  rw [if_pos h]
theorem r_err4 (h : ¬ (isOpn B n m p = false ∧ isOne B n m p = false)) (h2 : 20 ≤ o ∨ 8 < dpt st) {k : Nat} : rRun B n m Q (k + 1) false p o cs st = .error (4, (tTok B n m p).2.1) := by
  unfold rRun
  rw [if_neg h]
  by_cases h3 : 20 ≤ o
  · rw [if_pos h3]
  · rw [if_neg h3, if_pos (by omega)]
theorem r_opn (h3 : isOpn B n m p = true) (h20 : ¬ 20 ≤ o) (h8 : ¬ 8 < dpt st) {k : Nat} : rRun B n m Q (k + 1) false p o cs st = rRun B n m Q k false (tTok B n m p).2.2.1 (o + 1) cs (23 :: st) := by
  conv => lhs; unfold rRun
  rw [if_neg (by rw [h3]; rintro ⟨a, -⟩; cases a), if_neg h20, if_neg h8, if_pos h3]
theorem r_not (h1 : isOpn B n m p = false) (h2 : isOne B n m p = true) (h20 : ¬ 20 ≤ o) (h8 : ¬ 8 < dpt st) (h18 : (tTok B n m p).2.2.2.1 = 18) {k : Nat} : rRun B n m Q (k + 1) false p o cs st = rRun B n m Q k false (tTok B n m p).2.2.1 (o + 1) cs (20 :: st) := by
  conv => lhs; unfold rRun
  rw [if_neg (by rw [h2]; rintro ⟨-, a⟩; cases a), if_neg h20, if_neg h8, if_neg (by rw [h1]; decide), if_pos h18]
theorem r_leaf (h1 : isOpn B n m p = false) (h2 : isOne B n m p = true) (h20 : ¬ 20 ≤ o) (h8 : ¬ 8 < dpt st) (h18 : ¬ (tTok B n m p).2.2.2.1 = 18) {k : Nat} : rRun B n m Q (k + 1) false p o cs st = (match sLf B n m Q (tTok B n m p).2.2.2.1 (tTok B n m p).2.2.1 with
      | .error x => .error x
      | .ok (p2, c) => rRun B n m Q k true p2 (o + 1) (cs ++ [c]) st) := by
  conv => lhs; unfold rRun
  rw [if_neg (by rw [h2]; rintro ⟨-, a⟩; cases a), if_neg h20, if_neg h8, if_neg (by rw [h1]; decide), if_neg h18]
  rfl
/-- what a leaf comes to, its word taken, all but its code told -/
def leafR (B : Nat → Nat) (n m : Nat) (Q : sQ) (V : Nat → Nat → Int32) (X : Nat → Nat → Int64) (v p o : Nat) (cs : List sC) (st : List Nat) (W : Nat → Nat → Int32) (Y : Nat → Nat → Int64) (r : Int32) : Prop :=
  sFr V W X Y ∧ match sLf B n m Q v p with
  | .error (kk, pl) => r = Int32.ofNat 0 ∧ mFl W kk pl ∧ 1 ≤ kk
  | .ok (p2, c) => r = Int32.ofNat 1 ∧ mZ B n m W Y p2 o (cs ++ [c]) st true
theorem mWd_e : ∀ v, v < 27 → 19 ≤ v → mWd (v - 19) = v - 19 := by decide
/-- a code told behind which nothing is to be read -/
theorem S_code {c : sC} {x y z : Int32} (h : mN B n m V X p) (h15 : V 196 15 = Int32.ofNat 0) (hy : mY V o cs st w) (hb : w = true) (hl : cs.length + 1 + st.length + 1 ≤ 2 * o) (hx : x = Int32.ofNat (mWd c.1)) (hyy : y = Int32.ofNat c.2.1) (hz : z = Int32.ofNat c.2.2) : hS g (fX12_code N 216 (qH g V X) 196 x y z) (fun W Y => mZ B n m W Y p o (cs ++ [c]) st w ∧ sFr V W X Y) := by
  obtain ⟨h1, h2, h3, h4, h5, h6, h7, h8, h9⟩ := hy
  refine ⟨cdd V cs.length x y z, X, m_code (by omega) h1, ⟨h.cg (fun j hj => cdd_j (by omega)) (fun j => by rw [cdd_n (by decide) (by decide)]) (fun _ => rfl), by rw [cdd_j (by omega)]; exact h15, by rw [cdd_41, len_s], by rw [cdd_j (by omega)]; exact h2, by rw [cdd_j (by omega)]; exact h3, by rw [cdd_j (by omega)]; exact h4, by rw [cdd_j (by omega)]; exact h5, cdd_co h6 hx hyy hz, h7.cg (fun j _ => by rw [cdd_n (by decide) (by decide)]), ?_, h9⟩, cdd_fr⟩
  rw [len_s, hb, if_pos rfl]
  omega
/-- not all that mY asks yet: the count of what is read -/
def mYp (V : Nat → Nat → Int32) (o : Nat) (cs : List sC) (st : List Nat) : Prop := mY V o cs st true ∧ cs.length + 1 + st.length + 1 ≤ 2 * o
theorem S_leaf5 (hN : 3000 ≤ N) {v z c : Nat} {qq : Nat → List Nat} (hv : v = 22 ∨ v = 23) (h : mN B n m V X p) (h15 : V 196 15 = Int32.ofNat 0) (hy : mYp V o cs st) (hz : z + c ≤ 30) (hW : wMsR X) (hq : nOKs qq c) (hX : ∀ i, i < c → X 201 (z + i) = Int64.ofNat (r8 (qq i)))
    (hl : ∀ x, sLf B n m Q v p = x → x = (match aOf B n m qq c p with
    | .ok (i, p2) => .ok (p2, v - 19, 0, i)
    | .error e => .error e)) : hV g (zbd (fX12_looksAt N 216 (qH g V X) 196 (Int32.ofNat z) (Int32.ofNat c)) fun f42 x41 => (fX12_operand_181 N 216 f42 196 (Int32.ofNat (v - 19)) x41)) (leafR B n m Q V X v p o cs st) := by
  refine hV_zbd (m_looks hN h hW hz hq hX) (fun W Y r hx => ?_)
  obtain ⟨hx, hf⟩ := hx
  have hl2 := hl _ rfl
  unfold fX12_operand_181 leafR
  rw [hl2]
  cases ha : aOf B n m qq c p with
  | error e =>
    obtain ⟨kk, pl⟩ := e
    rw [ha] at hx
    rw [hx.1, if_pos (show Int32.ofNat 0 = (0 : Int32) from rfl)]
    refine ⟨W, Y, _, rfl, hf.sf, rfl, hx.2, ?_⟩
    unfold aOf at ha
    split at ha
    · split at ha
      · cases ha
      · injection ha with h1
        injection h1 with h2 h3
        omega
    · injection ha with h1
      injection h1 with h2 h3
      omega
  | ok x =>
    obtain ⟨i, p2⟩ := x
    rw [ha] at hx
    obtain ⟨x1, x2, x3, x4⟩ := hx
    have hnx := aOf_nx ha
    rw [x1, if_neg (by decide), q196_g18, Option.bind_some, x2, q196_c, Option.bind_some]
    refine hV_bind (S_code (c := (v - 19, 0, i)) x4 (by rw [x3]; exact h15) (hf.y hy.1) rfl hy.2 (by rcases hv with rfl | rfl <;> rfl) rfl rfl) (fun W2 Y2 h2 => ?_)
    rw [q196_c, Option.bind_some]
    refine hV_bind (mZ.adv hN h2.1.1 h2.1.2.1 h2.1.2.2 (by omega) (by omega)) (fun W3 Y3 h3 => ?_)
    exact ⟨W3, Y3, _, rfl, (hf.sf.tr h2.2).tr h3.2.sf, rfl, by rw [hnx.2.2.2]; exact h3.1⟩
theorem S_leaf (hN : 3000 ≤ N) {v : Nat} (hv : 19 ≤ v) (hv2 : v < 27) (h : mN B n m V X p) (h15 : V 196 15 = Int32.ofNat 0) (hy : mYp V o cs st) (hQ : mQ V X Q) : hV g (if (3 : Int32) ≤ Int32.ofNat (v - 19) then (if (5 : Int32) ≤ Int32.ofNat (v - 19) then ((zgI 216 (qH g V X) 12 196 11).bind fun x19 => (if x19 = (3 : Int32) then ((zgI 216 (qH g V X) 12 196 14).bind fun x22 => (if x22 < (60 : Int32) then (fX12_operand_232 N 216 (qH g V X) 196) else ((zgI 216 (qH g V X) 12 196 14).bind fun x23 => (if x23 ≤ (62 : Int32) then ((zgI 216 (qH g V X) 12 196 14).bind fun x24 => ((zck 216 (qH g V X) 12 196).bind fun _ => ((fX12_next N 216 (qH g V X) 196).bind fun f25 => ((zgI 216 f25 12 196 11).bind fun x26 => (if x26 = (2 : Int32) then ((zgI 216 f25 12 196 14).bind fun x27 => ((zck 216 f25 12 196).bind fun _ => ((fX12_code N 216 f25 196 (Int32.ofNat (v - 19)) x24 x27).bind fun f28 => ((zck 216 f28 12 196).bind fun _ => ((fX12_next N 216 f28 196).bind fun f29 => ((zbl (1 : Int32)).bind fun y => some (f29, y))))))) else ((zck 216 f25 12 196).bind fun _ => (zbd (fX12_bad N 216 f25 196 (1 : Int32)) fun f31 x30 => ((zbl x30).bind fun y => some (f31, y))))))))) else (fX12_operand_232 N 216 (qH g V X) 196))))) else (fX12_operand_232 N 216 (qH g V X) 196))) else (if Int32.ofNat (v - 19) = (3 : Int32) then ((zgR 216 (qH g V X) 12 196 6).bind fun x39 => ((zlI 216 (qH g V X) 0 x39 (2 : Int32)).bind fun x40 => ((zck 216 (qH g V X) 12 196).bind fun _ => (zbd (fX12_looksAt N 216 (qH g V X) 196 (0 : Int32) x40) fun f42 x41 => (fX12_operand_181 N 216 f42 196 (Int32.ofNat (v - 19)) x41))))) else ((zgR 216 (qH g V X) 12 196 6).bind fun x32 => ((zlI 216 (qH g V X) 0 x32 (4 : Int32)).bind fun x33 => ((zck 216 (qH g V X) 12 196).bind fun _ => (zbd (fX12_looksAt N 216 (qH g V X) 196 (10 : Int32) x33) fun f35 x34 => (fX12_operand_181 N 216 f35 196 (Int32.ofNat (v - 19)) x34))))))) else ((zck 216 (qH g V X) 12 196).bind fun _ => ((fX12_code N 216 (qH g V X) 196 (Int32.ofNat (v - 19)) (0 : Int32) (0 : Int32)).bind fun f43 => ((zbl (1 : Int32)).bind fun y => some (f43, y)))))
    (leafR B n m Q V X v p o cs st) := by
  obtain ⟨hWm, ⟨a1, a2, a3, a4⟩, b1, b2, b3, b4⟩ := hQ
  have hcw := mWd_e v hv2 hv
  by_cases h3 : v < 22
  · rw [if_neg (by rw [show (3 : Int32) = Int32.ofNat 3 from rfl, qle (by omega) (by omega)]; omega), q196_c, Option.bind_some]
    refine hV_bind (S_code (c := (v - 19, 0, 0)) h h15 hy.1 rfl hy.2 (by rw [hcw]) rfl rfl) (fun W Y hx => ?_)
    unfold leafR sLf
    rw [if_pos h3]
    exact ⟨W, Y, _, rfl, hx.2, rfl, hx.1⟩
  rw [if_pos (by rw [show (3 : Int32) = Int32.ofNat 3 from rfl, qle (by omega) (by omega)]; omega)]
  by_cases h5 : v < 24
  · rw [if_neg (by rw [show (5 : Int32) = Int32.ofNat 5 from rfl, qle (by omega) (by omega)]; omega)]
    by_cases h22 : v = 22
    · rw [if_pos (by rw [h22]; rfl), q196_g6, Option.bind_some, show (2 : Int32) = Int32.ofNat 2 from rfl, qlI (t := 0) qk_198 (Or.inl rfl) (by omega) (by omega), Option.bind_some, a4, q196_c, Option.bind_some]
      exact S_leaf5 hN (z := 0) (Or.inl h22) h h15 hy (by omega) hWm a1 a2 (fun x hx => by rw [← hx, h22]; rfl)
    · have h23 : v = 23 := by omega
      rw [if_neg (by rw [show (3 : Int32) = Int32.ofNat 3 from rfl, qeq (by omega) (by omega)]; omega), q196_g6, Option.bind_some, show (4 : Int32) = Int32.ofNat 4 from rfl, qlI (t := 0) qk_198 (Or.inl rfl) (by omega) (by omega), Option.bind_some, b4, q196_c, Option.bind_some]
      exact S_leaf5 hN (z := 10) (Or.inr h23) h h15 hy (by omega) hWm b1 b2 (fun x hx => by rw [← hx, h23]; rfl)
  · rw [if_pos (by rw [show (5 : Int32) = Int32.ofNat 5 from rfl, qle (by omega) (by omega)]; omega)]
    have hk7 := tTok_k (B := B) (n := n) (m := m) (p := p)
    have hkd := h.kd (c := 3) (by omega)
    rw [(mKd_2 _ hk7).2.1] at hkd
    have el : sLf B n m Q v p = (if (tTok B n m p).1 = 2 ∧ 60 ≤ (tTok B n m p).2.2.2.1 ∧ (tTok B n m p).2.2.2.1 ≤ 62 then
    (match aNum B n m 0 999 (tTok B n m p).2.2.1 with
    | .ok (x, p3) => .ok (p3, v - 19, (tTok B n m p).2.2.2.1, x)
    | .error e => .error e)
  else .error (1, (tTok B n m p).2.1)) := by
      unfold sLf
      rw [if_neg h3, if_neg (by omega), if_neg (by omega)]
      rfl
    have no : ¬ ((tTok B n m p).1 = 2 ∧ 60 ≤ (tTok B n m p).2.2.2.1 ∧ (tTok B n m p).2.2.2.1 ≤ 62) → hV g (fX12_operand_232 N 216 (qH g V X) 196) (leafR B n m Q V X v p o cs st) := by
      intro hs
      unfold fX12_operand_232 leafR
      rw [el, if_neg hs, q196_c, Option.bind_some]
      exact m_badS h (k := 1) (fun W Y h1 h2 => ⟨h2.sf, rfl, h1, Nat.le_refl _⟩)
    rw [q196_g11, Option.bind_some]
    by_cases hk : (tTok B n m p).1 = 2
    · have hv14 := h.2.2.2.2.2.2.2.1 ⟨by omega, by omega⟩
      have hlt := tSgn_ltm (V := V) h.1 h.2.2.2.1 hk
      rw [if_pos (by rw [show (3 : Int32) = Int32.ofNat 3 from rfl, hkd]; exact hk), q196_g14, Option.bind_some, hv14]
      by_cases h60 : (tTok B n m p).2.2.2.1 < 60
      · rw [if_pos (by rw [show (60 : Int32) = Int32.ofNat 60 from rfl, qlt (by omega) (by omega)]; exact h60)]
        exact no (by omega)
      rw [if_neg (by rw [show (60 : Int32) = Int32.ofNat 60 from rfl, qlt (by omega) (by omega)]; exact h60), Option.bind_some]
      by_cases h62 : (tTok B n m p).2.2.2.1 ≤ 62
      · have hs : (tTok B n m p).1 = 2 ∧ 60 ≤ (tTok B n m p).2.2.2.1 ∧ (tTok B n m p).2.2.2.1 ≤ 62 := ⟨hk, by omega, h62⟩
        rw [if_pos (by rw [show (62 : Int32) = Int32.ofNat 62 from rfl, qle (by omega) (by omega)]; exact h62), Option.bind_some, q196_c, Option.bind_some]
        refine hV_bind (mZ.adv hN h h15 hy.1 (by omega) (by omega)) (fun W Y hx => ?_)
        obtain ⟨⟨x1, x2, x3⟩, x4⟩ := hx
        have hk7' := tTok_k (B := B) (n := n) (m := m) (p := (tTok B n m p).2.2.1)
        have hkd' := x1.kd (c := 2) (by omega)
        rw [(mKd_2 _ hk7').1] at hkd'
        rw [q196_g11, Option.bind_some]
        unfold leafR
        rw [el, if_pos hs]
        by_cases hk3 : (tTok B n m (tTok B n m p).2.2.1).1 = 3
        · have hv3 := x1.2.2.2.2.2.2.2.1 ⟨by omega, by omega⟩
          have hl3 := tNum_1000 hk3
          have ea : aNum B n m 0 999 (tTok B n m p).2.2.1 = .ok ((tTok B n m (tTok B n m p).2.2.1).2.2.2.1, (tTok B n m (tTok B n m p).2.2.1).2.2.1) := by
            unfold aNum
            rw [if_pos hk3, if_pos ⟨by omega, by omega⟩]
          rw [ea, if_pos (by rw [show (2 : Int32) = Int32.ofNat 2 from rfl, hkd']; exact hk3), q196_g14, Option.bind_some, hv3, q196_c, Option.bind_some]
          refine hV_bind (S_code (c := (v - 19, (tTok B n m p).2.2.2.1, (tTok B n m (tTok B n m p).2.2.1).2.2.2.1)) x1 x2 x3 rfl hy.2 (by rw [hcw]) rfl rfl) (fun W2 Y2 h2 => ?_)
          rw [q196_c, Option.bind_some]
          refine hV_bind (mZ.adv hN h2.1.1 h2.1.2.1 h2.1.2.2 (by omega) (by omega)) (fun W3 Y3 h3 => ?_)
          exact ⟨W3, Y3, _, rfl, (x4.sf.tr h2.2).tr h3.2.sf, rfl, h3.1⟩
        · have ea : aNum B n m 0 999 (tTok B n m p).2.2.1 = .error (1, (tTok B n m (tTok B n m p).2.2.1).2.1) := by
            unfold aNum
            rw [if_neg hk3]
          rw [ea, if_neg (by rw [show (2 : Int32) = Int32.ofNat 2 from rfl, hkd']; exact hk3), q196_c, Option.bind_some]
          exact m_badS x1 (k := 1) (fun W2 Y2 h1 h2 => ⟨x4.sf.tr h2.sf, rfl, h1, Nat.le_refl _⟩)
      · rw [if_neg (by rw [show (62 : Int32) = Int32.ofNat 62 from rfl, qle (by omega) (by omega)]; exact h62)]
        exact no (by omega)
    · rw [if_neg (by rw [show (3 : Int32) = Int32.ofNat 3 from rfl, hkd]; exact hk)]
      exact no (fun e => hk e.1)
end QSH
