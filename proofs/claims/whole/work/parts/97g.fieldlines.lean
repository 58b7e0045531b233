/-! a field's lines: told once, and the class -/
section QFB
variable {g : zF} {V W U K C : Nat → Nat → Int32} {X Y Z D : Nat → Nat → Int64} {N n m p o k pl d e c : Nat} {s t u B h : Nat → Nat} {q : Nat → List Nat} {a b : aA} {fl : Bool}
def qU (q : Nat → List Nat) (k : Nat) (w : List Nat) : Nat → List Nat := fun i => if i = k then w else q i
theorem qU_s {k : Nat} {w : List Nat} : qU q k w k = w := if_pos rfl
theorem qU_n {k i : Nat} {w : List Nat} (hi : i ≠ k) : qU q k w i = q i := if_neg hi
/-- where it is read on, the row, the names -/
abbrev fR := Except (Nat × Nat) (Nat × (Nat → Nat) × (Nat → List Nat))
def fMk (a : aA) (h : Nat → Nat) (q : Nat → List Nat) : fR := match a with
  | .ok p => .ok (p, h, q)
  | .error e => .error e
section
variable (B : Nat → Nat) (n m : Nat) (h : Nat → Nat) (q : Nat → List Nat) (p : Nat)
/-- p: behind the line's first word -/
def szA1 : Nat × aA := rdNum B n m 2 9 (.ok p)
def szA2 : Nat × aA := rdNum B n m 2 9 (szA1 B n m p).2
def hgA1 : Nat × aA := rdCell B n m h (.ok p)
def owA1 : List Nat × aA := rdNw B n m (told h q) (.ok p)
def laA1 : Nat × aA := rdOf B n m q (h 2) (.ok p)
def laA2 : Nat × aA := rdNum B n m 0 (h 1 - 1) (laA1 B n m h q p).2
def laA3 : aA := if h (86 + (laA2 B n m h q p).1) = 0 then (laA2 B n m h q p).2 else rdBack B n m 3 (laA1 B n m h q p).2 (laA2 B n m h q p).2
def fiA2 : Nat × aA := rdOf B n m q (h 2) (owA1 B n m h q p).2
def fiA3 : Nat × aA := rdCell B n m h (fiA2 B n m h q p).2
def fiA4 : Nat × aA := rdSide B n m (fiA3 B n m h q p).2
def fiA5 : Nat × aA := rdNum B n m 1 9 (fiA4 B n m h q p).2
def loA2 : Nat × aA := rdCell B n m h (owA1 B n m h q p).2
def loA3 : Nat × aA := rdSide B n m (loA2 B n m h q p).2
def isNm (B : Nat → Nat) (n m : Nat) : aA → Bool
  | .ok p => decide ((tTok B n m p).1 = 3)
  | .error _ => false
def loA4 : Nat × aA := if isNm B n m (loA3 B n m h q p).2 = true then rdNum B n m 0 23 (loA3 B n m h q p).2 else (0, (loA3 B n m h q p).2)
def loA5 : Nat × aA := if isNm B n m (loA3 B n m h q p).2 = true then rdNum B n m 1 24 (loA4 B n m h q p).2 else (24, (loA4 B n m h q p).2)
def fiH : Nat → Nat := sU (sU (sU (sU (sU h (95 + h 3) (fiA2 B n m h q p).1) (101 + h 3) (fiA3 B n m h q p).1) (107 + h 3) (fiA4 B n m h q p).1) (113 + h 3) (fiA5 B n m h q p).1) 3 (h 3 + 1)
def loH : Nat → Nat := sU (sU (sU (sU (sU h (119 + h 4) (loA2 B n m h q p).1) (124 + h 4) (loA3 B n m h q p).1) (129 + h 4) (loA4 B n m h q p).1) (134 + h 4) (loA5 B n m h q p).1) 4 (h 4 + 1)
end
def fLine (B : Nat → Nat) (n m : Nat) (h : Nat → Nat) (q : Nat → List Nat) (fl : Bool) (p : Nat) : fR :=
  if aIs B n m 4 p = true then (if fl = true then .error (3, (tTok B n m p).2.1) else fMk (szA2 B n m (tTok B n m p).2.2.1).2 (sU (sU h 0 (szA1 B n m (tTok B n m p).2.2.1).1) 1 (szA2 B n m (tTok B n m p).2.2.1).1) q)
  else if aIs B n m 5 p = true then fMk (hgA1 B n m h (tTok B n m p).2.2.1).2 (sU h (5 + (hgA1 B n m h (tTok B n m p).2.2.1).1) 1) q
  else if aIs B n m 6 p = true then (if 4 ≤ h 2 then .error (4, (tTok B n m p).2.1) else fMk (owA1 B n m h q (tTok B n m p).2.2.1).2 (sU h 2 (h 2 + 1)) (qU q (h 2) (owA1 B n m h q (tTok B n m p).2.2.1).1))
  else if aIs B n m 7 p = true then fMk (laA3 B n m h q (tTok B n m p).2.2.1) (sU h (86 + (laA2 B n m h q (tTok B n m p).2.2.1).1) ((laA1 B n m h q (tTok B n m p).2.2.1).1 + 1)) q
  else if aIs B n m 8 p = true then (if 6 ≤ h 3 then .error (4, (tTok B n m p).2.1) else fMk (fiA5 B n m h q (tTok B n m p).2.2.1).2 (fiH B n m h q (tTok B n m p).2.2.1) (qU q (4 + h 3) (owA1 B n m h q (tTok B n m p).2.2.1).1))
  else if aIs B n m 9 p = true then (if 5 ≤ h 4 then .error (4, (tTok B n m p).2.1) else fMk (loA5 B n m h q (tTok B n m p).2.2.1).2 (loH B n m h q (tTok B n m p).2.2.1) (qU q (10 + h 4) (owA1 B n m h q (tTok B n m p).2.2.1).1))
  else .error (1, (tTok B n m p).2.1)
/-- sized or laid, behind a line -/
def fFl (B : Nat → Nat) (n m : Nat) (fl : Bool) (p : Nat) : Bool := fl || !(aIs B n m 6 p)
theorem rdSide_prev {q2 : Nat} (hq : (rdSide B n m a).2 = .ok q2) : ∃ p, a = .ok p := by
  cases a with
  | ok p => exact ⟨p, rfl⟩
  | error e => cases hq
theorem rdOf_prev {c q2 : Nat} (hq : (rdOf B n m q c a).2 = .ok q2) : ∃ p, a = .ok p := by
  cases a with
  | ok p => exact ⟨p, rfl⟩
  | error e => cases hq
theorem rdBack_prev {k q2 : Nat} (hq : rdBack B n m k a b = .ok q2) : False := by
  unfold rdBack at hq
  cases b with
  | ok x =>
    cases a with
    | ok p => cases hq
    | error e => cases hq
  | error e => cases hq
theorem rdCell_prev {q2 : Nat} (hq : (rdCell B n m h a).2 = .ok q2) : (∃ p, a = .ok p) ∧ hadC h (rdCell B n m h a).1 = false := by
  have e2 : (rdCell B n m h a).2 = if hadC h (rdCell B n m h a).1 = true then rdBack B n m 3 (rdNum B n m 0 (h 0 - 1) a).2 (rdNum B n m 0 (h 1 - 1) (rdNum B n m 0 (h 0 - 1) a).2).2 else (rdNum B n m 0 (h 1 - 1) (rdNum B n m 0 (h 0 - 1) a).2).2 := rfl
  rw [e2] at hq
  cases hh : hadC h (rdCell B n m h a).1 with
  | true =>
    rw [hh, if_pos rfl] at hq
    exact absurd hq (fun h => rdBack_prev h)
  | false =>
    rw [hh, if_neg (by decide)] at hq
    obtain ⟨p1, h1⟩ := rdNum_prev hq
    exact ⟨rdNum_prev h1, rfl⟩
/-! the class -/
def flg (W : Nat → Nat → Int32) (fl : Bool) : Prop := (W 35 4 = Int32.ofNat 0 ∧ W 35 5 = Int32.ofNat 0 ∧ fl = false) ∨ ((W 35 4 = Int32.ofNat 1 ∨ (W 35 4 = Int32.ofNat 0 ∧ W 35 5 = Int32.ofNat 1)) ∧ fl = true)
def fFr (V W : Nat → Nat → Int32) (X Y : Nat → Nat → Int64) : Prop := (∀ b, b ≠ 1 → ¬ (35 ≤ b ∧ b ≤ 55) → W b = V b) ∧ ∀ b, b ≠ 1 → ¬ (37 ≤ b ∧ b ≤ 39) → Y b = X b
theorem fFr.rf : fFr V V X X := ⟨fun _ _ _ => rfl, fun _ _ _ => rfl⟩
theorem fFr.tr (h1 : fFr V W X Y) (h2 : fFr W U Y Z) : fFr V U X Z := ⟨fun b x y => by rw [h2.1 b x y, h1.1 b x y], fun b x y => by rw [h2.2 b x y, h1.2 b x y]⟩
theorem cFr.ff (h1 : cFr V W X Y) : fFr V W X Y := ⟨fun b x _ => h1.1 b x, fun b x _ => h1.2 b x⟩
def fRel (B : Nat → Nat) (n m : Nat) (fl : Bool) (V : Nat → Nat → Int32) (X : Nat → Nat → Int64) (W : Nat → Nat → Int32) (Y : Nat → Nat → Int64) : fR → Prop
  | .error (k, pl) => cFl B n m W Y k pl ∧ fFr V W X Y
  | .ok (p, h, q) => cN B n m W Y p ∧ fdC W h ∧ fdX Y h q ∧ flg W fl ∧ fFr V W X Y
theorem fRel_mk {h2 : Nat → Nat} {q2 : Nat → List Nat} (hw : wk B n m C D a W Y) (hC : fdC C h2) (hX : ∀ p, a = .ok p → fdX D h2 q2) (hf : flg C fl) (hfr : fFr V C X D) : fRel B n m fl V X W Y (fMk a h2 q2) := by
  have hfr2 : fFr V W X Y := ⟨fun b x y => by rw [hw.2.1 b x]; exact hfr.1 b x y, fun b x y => by rw [hw.2.2 b x]; exact hfr.2 b x y⟩
  cases a with
  | error e => exact ⟨hw.1, hfr2⟩
  | ok p =>
    refine ⟨hw.1, hC.cg (fun b b1 b2 => hw.2.1 b (by omega)), ?_, ?_, hfr2⟩
    · have := hX p rfl
      unfold fdX at this ⊢
      rw [hw.2.2 37 (by decide), hw.2.2 38 (by decide), hw.2.2 39 (by decide)]
      exact this
    · unfold flg at hf ⊢
      rw [hw.2.1 35 (by decide)]
      exact hf
theorem wk.start (hC : cN B n m V X p) : wk B n m V X (.ok p) V X := ⟨hC, fun _ _ => rfl, fun _ _ => rfl⟩
theorem wk.adv (hN : 3000 ≤ N) (hC : cN B n m V X p) (hk : 2 ≤ (tTok B n m p).1) (hk5 : (tTok B n m p).1 ≤ 5) : hS g (fX9_advance N 216 (qH g V X) 1) (fun W Y => wk B n m V X (.ok (tTok B n m p).2.2.1) W Y) :=
  hS_mono (cN.adv hN hC hk hk5) (fun W Y hx => (wk.start hC).tape hx.1 hx.2.2)
theorem F_fail (hC : cN B n m V X p) {k : Nat} (hk : 1 ≤ k) (hk2 : k < 10) : hS g (fX9_fail N 216 (qH g V X) 1 (Int32.ofNat k)) (fun W Y => fRel B n m fl V X W Y (.error (k, (tTok B n m p).2.1))) :=
  hS_mono (c_failN hC hk hk2) (fun W Y hx => ⟨hx.1, hx.2.ff⟩)
theorem F_size (hN : 3000 ≤ N) (h0 : cN B n m V X p) (hk : (tTok B n m p).1 = 4) (hC : fdC V h) (hX : fdX X h q) (hf : flg V fl) : hS g (fX3_readSize N 216 (qH g V X) 35) (fun W Y => fRel B n m true V X W Y (if fl = true then .error (3, (tTok B n m p).2.1) else fMk (szA2 B n m (tTok B n m p).2.2.1).2 (sU (sU h 0 (szA1 B n m (tTok B n m p).2.2.1).1) 1 (szA2 B n m (tTok B n m p).2.2.1).1) q)) := by
  unfold fX3_readSize
  have h14 : fl = true → hS g (fX3_readSize_14 N 216 (qH g V X) 35) (fun W Y => fRel B n m true V X W Y (if fl = true then .error (3, (tTok B n m p).2.1) else fMk (szA2 B n m (tTok B n m p).2.2.1).2 (sU (sU h 0 (szA1 B n m (tTok B n m p).2.2.1).1) 1 (szA2 B n m (tTok B n m p).2.2.1).1) q)) := by
    intro e
    unfold fX3_readSize_14
    rw [q35_g0, Option.bind_some, q1_c, Option.bind_some, if_pos e]
    exact hS_bind (F_fail h0 (k := 3) (by omega) (by omega)) (fun W Y hx => hS_pure hx)
  rw [q35_g4, Option.bind_some]
  rcases hf with ⟨f1, f2, f3⟩ | ⟨f1 | ⟨f1, f2⟩, f3⟩
  · rw [f1, if_pos (show Int32.ofNat 0 = (0 : Int32) from rfl), q35_g5, Option.bind_some, f2, if_pos (show Int32.ofNat 0 = (0 : Int32) from rfl), q35_p4 _ (Or.inr rfl), Option.bind_some, q35_g0, Option.bind_some, q1_c, Option.bind_some, if_neg (by rw [f3]; decide)]
    have h1 : cN B n m (qw V 35 (upd (V 35) 4 1)) X p := h0.cg (fun j => by rw [qw_n (by decide)]) (fun j => by rw [qw_n (by decide)]) (fun _ => rfl) (fun _ => rfl)
    refine hS_bind (wk.adv hN h1 (by omega) (by omega)) (fun W Y hw => ?_)
    rw [q35_g1, Option.bind_some, q35_g0, Option.bind_some, q1_c, Option.bind_some]
    refine hS_zbd (W_num hN hw (lo := 2) (hi := 9) (by omega) (by omega)) (fun W2 Y2 r hx => ?_)
    obtain ⟨rfl, x2, -⟩ := hx
    rw [qF_p0 qF_36, Option.bind_some, q35_g1, Option.bind_some, q35_g0, Option.bind_some, q1_c, Option.bind_some]
    refine hS_zbd (W_num hN (x2.put (r := 36) (i := 0) (by decide) (by decide)) (lo := 2) (hi := 9) (by omega) (by omega)) (fun W3 Y3 r hy => ?_)
    obtain ⟨rfl, y2, -⟩ := hy
    rw [qF_p1 qF_36, Option.bind_some]
    have hw4 := y2.put (r := 36) (i := 1) (x := Int32.ofNat (szA2 B n m (tTok B n m p).2.2.1).1) (by decide) (by decide)
    refine hS_pure (fRel_mk hw4 ?_ (fun _ _ => ?_) (Or.inr ⟨Or.inl ?_, rfl⟩) ⟨fun b b1 b2 => ?_, fun _ _ _ => rfl⟩)
    · obtain ⟨⟨c1, c2, c3, c4, c5⟩, c6, c7, c8, c9⟩ := hC
      refine ⟨⟨?_, ?_, ?_, ?_, ?_⟩, fun c hc => ?_, fun y hy => ?_, fun f hf => ?_, fun l hl => ?_⟩
      · simp [qw, upd, sU]; rfl
      · simp [qw, upd, sU]
      · rw [sU_n (by decide), sU_n (by decide), ← c3]; simp [qw, upd]
      · rw [sU_n (by decide), sU_n (by decide), ← c4]; simp [qw, upd]
      · rw [sU_n (by decide), sU_n (by decide), ← c5]; simp [qw, upd]
      · rw [sU_n (by omega), sU_n (by omega), ← c6 c hc]; simp [qw]
      · rw [sU_n (by omega), sU_n (by omega), ← c7 y hy]; simp [qw]
      · rw [sU_n (show 3 ≠ 1 by decide), sU_n (show 3 ≠ 0 by decide)] at hf
        rw [sU_n (by omega), sU_n (by omega), sU_n (by omega), sU_n (by omega), sU_n (by omega), sU_n (by omega), sU_n (by omega), sU_n (by omega)]
        have := c8 f hf
        simp only [qw] at *
        simpa using this
      · rw [sU_n (show 4 ≠ 1 by decide), sU_n (show 4 ≠ 0 by decide)] at hl
        rw [sU_n (by omega), sU_n (by omega), sU_n (by omega), sU_n (by omega), sU_n (by omega), sU_n (by omega), sU_n (by omega), sU_n (by omega)]
        have := c9 l hl
        simp only [qw] at *
        simpa using this
    · unfold fdX
      rw [sU_n (show 2 ≠ 1 by decide), sU_n (show 2 ≠ 0 by decide), sU_n (show 3 ≠ 1 by decide), sU_n (show 3 ≠ 0 by decide), sU_n (show 4 ≠ 1 by decide), sU_n (show 4 ≠ 0 by decide)]
      exact hX
    · simp [qw, upd]
    · rw [qw_n (by omega), qw_n (by omega), qw_n (by omega)]
  · rw [f1, if_neg (by decide)]
    exact h14 f3
  · rw [f1, if_pos (show Int32.ofNat 0 = (0 : Int32) from rfl), q35_g5, Option.bind_some, f2, if_neg (by decide)]
    exact h14 f3
theorem flg5 : flg V fl → flg (qw V 35 (upd (V 35) 5 1)) true := by
  intro hf
  refine Or.inr ⟨?_, rfl⟩
  have e4 : (qw V 35 (upd (V 35) 5 1)) 35 4 = V 35 4 := by rw [qw_s, upd_n (by decide)]
  have e5 : (qw V 35 (upd (V 35) 5 1)) 35 5 = Int32.ofNat 1 := by rw [qw_s, upd_s]; rfl
  rw [e4, e5]
  rcases hf with ⟨f1, -⟩ | ⟨f1 | ⟨f1, -⟩, -⟩
  · exact Or.inr ⟨f1, rfl⟩
  · exact Or.inl f1
  · exact Or.inr ⟨f1, rfl⟩
theorem flg.cg (hf : flg V fl) (e : W 35 = V 35) : flg W fl := by
  unfold flg at hf ⊢
  rw [e]
  exact hf
theorem F_hedge (hN : 3000 ≤ N) (h0 : cN B n m V X p) (hk : (tTok B n m p).1 = 4) (hC : fdC V h) (hB : fdB h) (hX : fdX X h q) (hf : flg V fl) : hS g (fX3_readHedge N 216 (qH g V X) 35) (fun W Y => fRel B n m true V X W Y (fMk (hgA1 B n m h (tTok B n m p).2.2.1).2 (sU h (5 + (hgA1 B n m h (tTok B n m p).2.2.1).1) 1) q)) := by
  unfold fX3_readHedge
  rw [q35_g0, Option.bind_some, q1_c, Option.bind_some]
  refine hS_bind (wk.adv hN h0 (by omega) (by omega)) (fun W Y hw => ?_)
  rw [q35_g1, Option.bind_some, qF_g8 qF_36, Option.bind_some, q35_c, Option.bind_some]
  refine hS_zbd (W_cell hN hw hC hB) (fun W2 Y2 r hx => ?_)
  obtain ⟨rfl, x2, x3⟩ := hx
  have hlt : (hgA1 B n m h (tTok B n m p).2.2.1).1 < 81 := x3
  rw [e_put (qF_k4 qF_36) x3 (by omega), Option.bind_some]
  have hw3 := x2.put (r := 36 + 4) (i := (hgA1 B n m h (tTok B n m p).2.2.1).1) (x := 1) (by decide) (by decide)
  obtain ⟨-, -, -, b4, b5, -⟩ := hB
  refine hS_pure (fRel_mk hw3 ?_ (fun _ _ => ?_) ((flg5 hf).cg (by rw [qw_n (by decide)])) ⟨fun b b1 b2 => ?_, fun _ _ _ => rfl⟩)
  · obtain ⟨⟨c1, c2, c3, c4, c5⟩, c6, c7, c8, c9⟩ := hC
    refine ⟨⟨?_, ?_, ?_, ?_, ?_⟩, fun c hc => ?_, fun y hy => ?_, fun f hf => ?_, fun l hl => ?_⟩
    · rw [sU_n (by omega), ← c1]; simp [qw]
    · rw [sU_n (by omega), ← c2]; simp [qw]
    · rw [sU_n (by omega), ← c3]; simp [qw]
    · rw [sU_n (by omega), ← c4]; simp [qw]
    · rw [sU_n (by omega), ← c5]; simp [qw]
    · by_cases e : c = (hgA1 B n m h (tTok B n m p).2.2.1).1
      · rw [e, sU_s, show (40 : Nat) = 36 + 4 from rfl, qw_s, upd_s]; rfl
      · rw [sU_n (by omega), ← c6 c hc, show (40 : Nat) = 36 + 4 from rfl, qw_s, upd_n e, qw_n (by decide)]
    · rw [sU_n (by omega), ← c7 y hy]; simp [qw]
    · rw [sU_n (by omega)] at hf
      rw [sU_n (by omega), sU_n (by omega), sU_n (by omega), sU_n (by omega)]
      have := c8 f hf
      simp only [qw] at *
      simpa using this
    · rw [sU_n (by omega)] at hl
      rw [sU_n (by omega), sU_n (by omega), sU_n (by omega), sU_n (by omega)]
      have := c9 l hl
      simp only [qw] at *
      simpa using this
  · unfold fdX
    rw [sU_n (by omega), sU_n (by omega), sU_n (by omega)]
    exact hX
  · rw [qw_n (by omega), qw_n (by omega)]
theorem F_owner (hN : 3000 ≤ N) (h0 : cN B n m V X p) (hk : (tTok B n m p).1 = 4) (hC : fdC V h) (hB : fdB h) (hX : fdX X h q) (hn : fdN h q) (hf : flg V fl) : hS g (fX3_readOwner N 216 (qH g V X) 35) (fun W Y => fRel B n m fl V X W Y (if 4 ≤ h 2 then .error (4, (tTok B n m p).2.1) else fMk (owA1 B n m h q (tTok B n m p).2.2.1).2 (sU h 2 (h 2 + 1)) (qU q (h 2) (owA1 B n m h q (tTok B n m p).2.2.1).1))) := by
  obtain ⟨⟨c1, c2, c3, c4, c5⟩, c6, c7, c8, c9⟩ := id hC
  obtain ⟨-, -, b3, b4, b5, -⟩ := id hB
  unfold fX3_readOwner
  rw [q35_g1, Option.bind_some, qF_g2 qF_36, Option.bind_some, c3]
  by_cases h4 : 4 ≤ h 2
  · rw [if_neg (by rw [l4, qlt (by omega) (by omega)]; omega), if_pos h4, q35_g0, Option.bind_some, q1_c, Option.bind_some]
    exact hS_bind (F_fail h0 (k := 4) (by omega) (by omega)) (fun W Y hx => hS_pure hx)
  rw [if_pos (by rw [l4, qlt (by omega) (by omega)]; omega), if_neg h4, q35_g0, Option.bind_some, q1_c, Option.bind_some]
  refine hS_bind (wk.adv hN h0 (by omega) (by omega)) (fun W Y hw => ?_)
  obtain ⟨W2, Y2, r, e1, e2, e3⟩ := W_new (g := g) hN hw hC hB hX hn
  rw [q35_g1, Option.bind_some, qF_g5 qF_36, Option.bind_some, Option.bind_some, qF_g2 qF_36, Option.bind_some, q35_c, Option.bind_some, e1, zbd_some, hw.2.1 36 (by decide), c3, e_putN (qF_k1 qF_36) (by omega) (by omega), Option.bind_some, q35_g1, Option.bind_some, qF_g2 qF_36, Option.bind_some, e2.2.1 36 (by decide), c3, show Int32.ofNat (h 2) + (1 : Int32) = Int32.ofNat (h 2 + 1) by rw [l1, qadd], qF_p2 qF_36, Option.bind_some]
  have hw3 := (e2.putX (r := 36 + 1) (i := h 2) (x := r) (by decide) (by decide)).put (r := 36) (i := 2) (x := Int32.ofNat (h 2 + 1)) (by decide) (by decide)
  refine hS_pure (fRel_mk hw3 ?_ (fun p2 hp => ?_) (hf.cg (by rw [qw_n (by decide)])) ⟨fun b b1 b2 => by rw [qw_n (by omega)], fun b b1 b2 => by rw [qx_n (by omega)]⟩)
  · refine ⟨⟨?_, ?_, ?_, ?_, ?_⟩, fun c hc => ?_, fun y hy => ?_, fun f hf => ?_, fun l hl => ?_⟩
    · rw [sU_n (by omega), ← c1]; simp [qw, upd]
    · rw [sU_n (by omega), ← c2]; simp [qw, upd]
    · rw [sU_s]; simp [qw, upd]
    · rw [sU_n (by omega), ← c4]; simp [qw, upd]
    · rw [sU_n (by omega), ← c5]; simp [qw, upd]
    · rw [sU_n (by omega), ← c6 c hc]; simp [qw]
    · rw [sU_n (by omega), ← c7 y hy]; simp [qw]
    · rw [sU_n (by omega)] at hf
      rw [sU_n (by omega), sU_n (by omega), sU_n (by omega), sU_n (by omega)]
      have := c8 f hf
      simp only [qw] at *
      simpa using this
    · rw [sU_n (by omega)] at hl
      rw [sU_n (by omega), sU_n (by omega), sU_n (by omega), sU_n (by omega)]
      have := c9 l hl
      simp only [qw] at *
      simpa using this
  · have er := e3 p2 hp
    obtain ⟨x1, x2, x3⟩ := hX
    refine ⟨fun i hi => ?_, fun i hi => ?_, fun i hi => ?_⟩
    · rw [sU_s] at hi
      by_cases e : i = h 2
      · rw [e, qU_s, show (37 : Nat) = 36 + 1 from rfl, qx_s, vpU_s]; exact er
      · rw [qU_n e, show (37 : Nat) = 36 + 1 from rfl, qx_s, vpU_n e]; exact x1 i (by omega)
    · rw [sU_n (by omega)] at hi
      rw [qU_n (by omega), qx_n (by decide)]; exact x2 i hi
    · rw [sU_n (by omega)] at hi
      rw [qU_n (by omega), qx_n (by decide)]; exact x3 i hi
theorem F_land (hN : 3000 ≤ N) (h0 : cN B n m V X p) (hk : (tTok B n m p).1 = 4) (hC : fdC V h) (hB : fdB h) (hX : fdX X h q) (hn : fdN h q) (hf : flg V fl) : hS g (fX3_readLand N 216 (qH g V X) 35) (fun W Y => fRel B n m true V X W Y (fMk (laA3 B n m h q (tTok B n m p).2.2.1) (sU h (86 + (laA2 B n m h q (tTok B n m p).2.2.1).1) ((laA1 B n m h q (tTok B n m p).2.2.1).1 + 1)) q)) := by
  have hC2 : fdC (qw V 35 (upd (V 35) 5 1)) h := hC.up (Or.inr (Or.inr rfl))
  obtain ⟨⟨c1, c2, c3, c4, c5⟩, c6, c7, c8, c9⟩ := id hC2
  obtain ⟨b1, b2, b3, b4, b5, b6, b7, -⟩ := id hB
  unfold fX3_readLand
  rw [q35_p5 _ (Or.inr rfl), Option.bind_some, q35_g0, Option.bind_some, q1_c, Option.bind_some]
  have h1 : cN B n m (qw V 35 (upd (V 35) 5 1)) X p := h0.cg (fun j => by rw [qw_n (by decide)]) (fun j => by rw [qw_n (by decide)]) (fun _ => rfl) (fun _ => rfl)
  refine hS_bind (wk.adv hN h1 (by omega) (by omega)) (fun W Y hw => ?_)
  rw [q35_g0, Option.bind_some, q35_g1, Option.bind_some, qF_g5 qF_36, Option.bind_some, Option.bind_some, qF_g2 qF_36, Option.bind_some, q1_c, Option.bind_some, hw.2.1 36 (by decide), c3]
  refine hS_zbd (W_of hN hw hX hn b3) (fun W2 Y2 r hx => ?_)
  obtain ⟨rfl, x2⟩ := hx
  rw [q35_g0, Option.bind_some, q35_g1, Option.bind_some, qF_g1 qF_36, Option.bind_some, q1_c, Option.bind_some, x2.2.1 36 (by decide), c2, show Int32.ofNat (h 1) - (1 : Int32) = Int32.ofNat (h 1 - 1) by rw [l1, qsub (by omega)], l0]
  refine hS_zbd (W_num hN x2 (lo := 0) (hi := h 1 - 1) (by omega) (by omega)) (fun W3 Y3 r hy => ?_)
  obtain ⟨rfl, y2, y3⟩ := hy
  have n2 := rdNum_lt (B := B) (n := n) (m := m) (lo := 0) (hi := h 1 - 1) (a := (rdOf B n m q (h 2) (.ok (tTok B n m p).2.2.1)).2) (Nat.zero_le _)
  have e1 : (laA1 B n m h q (tTok B n m p).2.2.1) = rdOf B n m q (h 2) (.ok (tTok B n m p).2.2.1) := rfl
  have e2 : (laA2 B n m h q (tTok B n m p).2.2.1) = rdNum B n m 0 (h 1 - 1) (rdOf B n m q (h 2) (.ok (tTok B n m p).2.2.1)).2 := rfl
  rw [← e2] at n2 y2 y3 ⊢
  rw [← e1] at y3 ⊢
  have hy9 : (laA2 B n m h q (tTok B n m p).2.2.1).1 < 9 := by omega
  rw [q35_g3, Option.bind_some, e_at qk_55 hy9 (by omega), Option.bind_some, y2.2.1 55 (by decide), c7 _ hy9]
  have h79 : ∀ {W4 Y4} {a : aA}, wk B n m (qw V 35 (upd (V 35) 5 1)) X a W4 Y4 → a = laA3 B n m h q (tTok B n m p).2.2.1 → hS g (fX3_readLand_79 N 216 (qH g W4 Y4) 35 (Int32.ofNat (laA1 B n m h q (tTok B n m p).2.2.1).1) (Int32.ofNat (laA2 B n m h q (tTok B n m p).2.2.1).1)) (fun W Y => fRel B n m true V X W Y (fMk (laA3 B n m h q (tTok B n m p).2.2.1) (sU h (86 + (laA2 B n m h q (tTok B n m p).2.2.1).1) ((laA1 B n m h q (tTok B n m p).2.2.1).1 + 1)) q)) := by
    intro W4 Y4 a hw4 ea
    unfold fX3_readLand_79
    rw [q35_g3, Option.bind_some, e_put qk_55 hy9 (by omega), Option.bind_some, ← ea]
    have hw5 := hw4.put (r := 55) (i := (laA2 B n m h q (tTok B n m p).2.2.1).1) (x := Int32.ofNat (laA1 B n m h q (tTok B n m p).2.2.1).1) (by decide) (by decide)
    refine hS_pure (fRel_mk hw5 ?_ (fun _ _ => ?_) ((flg5 hf).cg (by rw [qw_n (by decide)])) ⟨fun b b1 b2 => by rw [qw_n (by omega), qw_n (by omega)], fun _ _ _ => rfl⟩)
    · refine ⟨⟨?_, ?_, ?_, ?_, ?_⟩, fun c hc => ?_, fun y hy => ?_, fun f hf => ?_, fun l hl => ?_⟩
      · rw [sU_n (by omega), ← c1]; simp [qw]
      · rw [sU_n (by omega), ← c2]; simp [qw]
      · rw [sU_n (by omega), ← c3]; simp [qw]
      · rw [sU_n (by omega), ← c4]; simp [qw]
      · rw [sU_n (by omega), ← c5]; simp [qw]
      · rw [sU_n (by omega), ← c6 c hc]; simp [qw]
      · by_cases e : y = (laA2 B n m h q (tTok B n m p).2.2.1).1
        · rw [e, sU_s, qw_s, upd_s, qdec (by omega)]; rfl
        · rw [sU_n (by omega), ← c7 y hy, qw_s, upd_n e]
      · rw [sU_n (by omega)] at hf
        rw [sU_n (by omega), sU_n (by omega), sU_n (by omega), sU_n (by omega)]
        have := c8 f hf
        simp only [qw] at *
        simpa using this
      · rw [sU_n (by omega)] at hl
        rw [sU_n (by omega), sU_n (by omega), sU_n (by omega), sU_n (by omega)]
        have := c9 l hl
        simp only [qw] at *
        simpa using this
    · unfold fdX
      rw [sU_n (by omega), sU_n (by omega), sU_n (by omega)]
      exact hX
  have hb7 := b7 _ hy9
  by_cases hz : h (86 + (laA2 B n m h q (tTok B n m p).2.2.1).1) = 0
  · rw [hz, if_pos (by decide)]
    exact h79 y2 (by unfold laA3; rw [if_pos hz])
  · rw [qdec (by omega), if_neg (by rw [qne1 (by omega)]; exact id), q35_g0, Option.bind_some, Option.bind_some, q1_g7, Option.bind_some, q1_c, Option.bind_some, l3]
    refine hS_bind (C_back y2.1 y3 (fun q2 hq => ?_) (k := 3) (by omega) (by omega)) (fun W4 Y4 hz4 => ?_)
    · obtain ⟨p3, hp3⟩ := rdNum_prev hq
      refine ⟨p3, hp3, ?_⟩
      have := x2.1
      rw [← e1, hp3] at this
      exact this.2.2.2.2.1
    · exact h79 (y2.tape hz4.1 hz4.2) (by unfold laA3; rw [if_neg hz])
end QFB
