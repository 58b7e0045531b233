/-! a field: what its lines keep; the class reads all -/
section QFD
variable {g : zF} {V W U K C : Nat → Nat → Int32} {X Y Z D : Nat → Nat → Int64} {N n m p o k pl d e c ln : Nat} {s t u B h : Nat → Nat} {q : Nat → List Nat} {a b : aA} {fl : Bool}
/-- reading went on from a to b -/
def prg (n : Nat) (a b : aA) : Prop := ∀ p', b = .ok p' → ∃ p, a = .ok p ∧ (p ≤ n → p ≤ p' ∧ p' ≤ n)
theorem prg.tr {x y z : aA} (h1 : prg n x y) (h2 : prg n y z) : prg n x z := by
  intro p' hp
  obtain ⟨p2, e2, l2⟩ := h2 p' hp
  obtain ⟨p1, e1, l1⟩ := h1 p2 e2
  exact ⟨p1, e1, fun hn => by have := l1 hn; have := l2 this.2; omega⟩
theorem prg.rf {x : aA} : prg n x x := fun p' hp => ⟨p', hp, fun h => ⟨Nat.le_refl _, h⟩⟩
theorem num_pr {lo hi : Nat} : prg n a (rdNum B n m lo hi a).2 := by
  intro p' hp
  obtain ⟨p, e, h1⟩ := rdNum_ok hp
  have h2 := aNum_nx h1
  refine ⟨p, e, fun hn => ?_⟩
  have := tok_nx (B := B) (m := m) hn (by omega)
  omega
theorem aP_ok {x : aR} {p' : Nat} (hx : aP x = .ok p') : ∃ v, x = .ok (v, p') := by
  cases x with
  | error e => cases hx
  | ok v =>
    obtain ⟨v1, v2⟩ := v
    have h3 : (Except.ok v2 : aA) = .ok p' := hx
    injection h3 with h4
    exact ⟨v1, by rw [h4]⟩
theorem side_pr : prg n a (rdSide B n m a).2 := by
  intro p' hp
  cases a with
  | error e => cases hp
  | ok p =>
    obtain ⟨v, hv⟩ := aP_ok (show aP (aSide B n m p) = .ok p' from hp)
    have h2 := aSide_nx hv
    refine ⟨p, rfl, fun hn => ?_⟩
    have := tok_nx (B := B) (m := m) hn (by omega)
    omega
theorem of_pr {c : Nat} : prg n a (rdOf B n m q c a).2 ∧ ∀ p', (rdOf B n m q c a).2 = .ok p' → (rdOf B n m q c a).1 < c := by
  constructor
  · intro p' hp
    cases a with
    | error e => cases hp
    | ok p =>
      obtain ⟨v, hv⟩ := aP_ok (show aP (aOf B n m q c p) = .ok p' from hp)
      have h2 := aOf_nx hv
      refine ⟨p, rfl, fun hn => ?_⟩
      have := tok_nx (B := B) (m := m) hn (by omega)
      omega
  · intro p' hp
    cases a with
    | error e => cases hp
    | ok p =>
      obtain ⟨v, hv⟩ := aP_ok (show aP (aOf B n m q c p) = .ok p' from hp)
      have h2 := aOf_nx hv
      show aV 0 (aOf B n m q c p) < c
      rw [hv]
      exact h2.2.1
theorem cell_pr : prg n a (rdCell B n m h a).2 := by
  intro p' hp
  have e2 : (rdCell B n m h a).2 = if hadC h (rdCell B n m h a).1 = true then rdBack B n m 3 (rdNum B n m 0 (h 0 - 1) a).2 (rdNum B n m 0 (h 1 - 1) (rdNum B n m 0 (h 0 - 1) a).2).2 else (rdNum B n m 0 (h 1 - 1) (rdNum B n m 0 (h 0 - 1) a).2).2 := rfl
  rw [e2] at hp
  split at hp
  · exact absurd hp (fun h => rdBack_prev h)
  · exact (num_pr.tr num_pr) p' hp
theorem cell_xy (hB : fdB h) : (rdCell B n m h a).1 < 81 ∧ (rdCell B n m h a).1 % 9 < h 0 ∧ (rdCell B n m h a).1 / 9 < h 1 := by
  obtain ⟨b1, b2, -⟩ := hB
  have n1 := rdNum_lt (B := B) (n := n) (m := m) (lo := 0) (hi := h 0 - 1) (a := a) (Nat.zero_le _)
  have n2 := rdNum_lt (B := B) (n := n) (m := m) (lo := 0) (hi := h 1 - 1) (a := (rdNum B n m 0 (h 0 - 1) a).2) (Nat.zero_le _)
  have e1 : (rdCell B n m h a).1 = 9 * (rdNum B n m 0 (h 1 - 1) (rdNum B n m 0 (h 0 - 1) a).2).1 + (rdNum B n m 0 (h 0 - 1) a).1 := rfl
  omega
theorem nw_pr {tl : List Nat → Bool} {p' : Nat} (hp : (rdNw B n m tl a).2 = .ok p') : ∃ p, a = .ok p ∧ (tTok B n m p).1 = 5 ∧ tl (tTok B n m p).2.2.2.2 = false ∧ (rdNw B n m tl a).1 = (tTok B n m p).2.2.2.2 ∧ p' = (tTok B n m p).2.2.1 := by
  cases a with
  | error e => cases hp
  | ok p =>
    rw [rdNw_ok] at hp ⊢
    by_cases hk : (tTok B n m p).1 = 5
    · rw [if_pos hk] at hp ⊢
      cases ht : tl (tTok B n m p).2.2.2.2 with
      | true => rw [ht, if_pos rfl] at hp; cases hp
      | false =>
        rw [ht, if_neg (by decide)] at hp
        rw [if_neg (by decide)]
        injection hp with h1
        exact ⟨p, rfl, hk, ht, rfl, h1.symm⟩
    · rw [if_neg hk] at hp
      cases hp
theorem nw_prg {tl : List Nat → Bool} : prg n a (rdNw B n m tl a).2 := by
  intro p' hp
  obtain ⟨p, e, hk, -, -, e2⟩ := nw_pr hp
  refine ⟨p, e, fun hn => ?_⟩
  have := tok_nx (B := B) (m := m) hn (by omega)
  omega
theorem told_no {w : List Nat} (ht : told h q w = false) : (∀ i, i < h 2 → q i ≠ w) ∧ (∀ i, i < h 3 → q (4 + i) ≠ w) ∧ ∀ i, i < h 4 → q (10 + i) ≠ w := by
  unfold told at ht
  rw [Bool.or_eq_false_iff, Bool.or_eq_false_iff] at ht
  obtain ⟨⟨t1, t2⟩, t3⟩ := ht
  refine ⟨fndN_no ?_, fndN_no (q := fun i => q (4 + i)) ?_, fndN_no (q := fun i => q (10 + i)) ?_⟩
  · cases hx : fndN q (h 2) w with
    | none => rfl
    | some i => rw [hx] at t1; cases t1
  · cases hx : fndN (fun i => q (4 + i)) (h 3) w with
    | none => rfl
    | some i => rw [hx] at t2; cases t2
  · cases hx : fndN (fun i => q (10 + i)) (h 4) w with
    | none => rfl
    | some i => rw [hx] at t3; cases t3
/-- figures stand in the field; before it was sized or laid there are none -/
def fdG (h : Nat → Nat) (fl : Bool) : Prop := (∀ f, f < h 3 → h (101 + f) % 9 < h 0 ∧ h (101 + f) / 9 < h 1) ∧ (fl = false → h 3 = 0)
theorem fMk_ok {h2 : Nat → Nat} {q2 : Nat → List Nat} {p' : Nat} {h' : Nat → Nat} {q' : Nat → List Nat} (hx : fMk a h2 q2 = .ok (p', h', q')) : a = .ok p' ∧ h' = h2 ∧ q' = q2 := by
  cases a with
  | error e => cases hx
  | ok p1 =>
    have h3 : (Except.ok (p1, h2, q2) : fR) = .ok (p', h', q') := hx
    injection h3 with h4
    injection h4 with h5 h6
    injection h6 with h7 h8
    exact ⟨by rw [h5], h7.symm, h8.symm⟩
/-- what a line keeps -/
def fKp (n : Nat) (fl : Bool) (p p' : Nat) (h : Nat → Nat) (q : Nat → List Nat) : Prop := fdB h ∧ fdN h q ∧ fdG h fl ∧ p < p' ∧ p' ≤ n
theorem fLine_ok {p' : Nat} {h' : Nat → Nat} {q' : Nat → List Nat} (hp : p ≤ n) (hB : fdB h) (hn : fdN h q) (hG : fdG h fl) (hx : fLine B n m h q fl p = .ok (p', h', q')) : fKp n (fFl B n m fl p) p p' h' q' := by
  obtain ⟨b1, b2, b3, b4, b5, b6, b7, b8, b9, b10⟩ := id hB
  obtain ⟨n1, n2, n3, n4⟩ := id hn
  obtain ⟨g1, g2⟩ := id hG
  have pr : ∀ {a : aA}, (tTok B n m p).1 = 4 → prg n (.ok (tTok B n m p).2.2.1) a → a = .ok p' → p < p' ∧ p' ≤ n := by
    intro a hk hpr ha
    have ht := tok_nx (B := B) (m := m) hp (by omega)
    obtain ⟨p1, e1, l1⟩ := hpr p' ha
    injection e1 with e1
    have := l1 (by omega)
    omega
  have nofl : ∀ v, aIs B n m v p = true → v ≠ 6 → fFl B n m fl p = true := by
    intro v hv h6
    have h1 := aIs_k hv
    have : aIs B n m 6 p = false := decide_eq_false (fun e => by omega)
    unfold fFl
    rw [this]
    cases fl <;> rfl
  unfold fLine at hx
  split at hx
  · rename_i hv
    have hk := aIs_k hv
    split at hx
    · cases hx
    rename_i hfl
    obtain ⟨ha, rfl, eq'⟩ := fMk_ok hx
    rw [eq']
    have r1 := rdNum_lt (B := B) (n := n) (m := m) (lo := 2) (hi := 9) (a := .ok (tTok B n m p).2.2.1) (by omega)
    have r2 := rdNum_lt (B := B) (n := n) (m := m) (lo := 2) (hi := 9) (a := (szA1 B n m (tTok B n m p).2.2.1).2) (by omega)
    have h30 : h 3 = 0 := g2 (by cases fl; rfl; exact absurd rfl hfl)
    have hpr := pr hk.1 (num_pr.tr num_pr) ha
    rw [nofl 4 hv (by decide)]
    have e : ∀ j, j ≠ 0 → j ≠ 1 → (sU (sU h 0 (szA1 B n m (tTok B n m p).2.2.1).1) 1 (szA2 B n m (tTok B n m p).2.2.1).1) j = h j := fun j j0 j1 => by rw [sU_n j1, sU_n j0]
    refine ⟨⟨?_, ?_, ?_, ?_, ?_, fun c hc => ?_, fun y hy => ?_, fun f hf => ?_, fun l hl => ?_, fun f f2 hf => ?_⟩, ?_, ⟨fun f hf => ?_, fun h => by cases h⟩, hpr⟩
    · rw [sU_n (by decide), sU_s]; exact r1
    · rw [sU_s]; exact r2
    · rw [e 2 (by decide) (by decide)]; exact b3
    · rw [e 3 (by decide) (by decide)]; exact b4
    · rw [e 4 (by decide) (by decide)]; exact b5
    · rw [e _ (by omega) (by omega)]; exact b6 c hc
    · rw [e _ (by omega) (by omega), e 2 (by decide) (by decide)]; exact b7 y hy
    · rw [e 3 (by decide) (by decide)] at hf; omega
    · rw [e 4 (by decide) (by decide)] at hl
      rw [e _ (by omega) (by omega), e _ (by omega) (by omega), e _ (by omega) (by omega), e _ (by omega) (by omega)]; exact b9 l hl
    · rw [e 3 (by decide) (by decide)] at hf; omega
    · unfold fdN
      rw [e 2 (by decide) (by decide), e 3 (by decide) (by decide), e 4 (by decide) (by decide)]; exact hn
    · rw [e 3 (by decide) (by decide)] at hf; omega
  split at hx
  · rename_i hv
    have hk := aIs_k hv
    obtain ⟨ha, rfl, eq'⟩ := fMk_ok hx
    rw [eq']
    have hc81 : (hgA1 B n m h (tTok B n m p).2.2.1).1 < 81 := (cell_xy hB).1
    have hpr := pr hk.1 cell_pr ha
    rw [nofl 5 hv (by decide)]
    have e : ∀ j, (j < 5 ∨ 86 ≤ j) → (sU h (5 + (hgA1 B n m h (tTok B n m p).2.2.1).1) 1) j = h j := fun j hj => by rw [sU_n (by omega)]
    refine ⟨⟨?_, ?_, ?_, ?_, ?_, fun c hc => ?_, fun y hy => ?_, fun f hf => ?_, fun l hl => ?_, fun f f2 hf hf2 => ?_⟩, ?_, ⟨fun f hf => ?_, fun h => by cases h⟩, hpr⟩
    · rw [e 0 (by omega)]; exact b1
    · rw [e 1 (by omega)]; exact b2
    · rw [e 2 (by omega)]; exact b3
    · rw [e 3 (by omega)]; exact b4
    · rw [e 4 (by omega)]; exact b5
    · by_cases ec : c = (hgA1 B n m h (tTok B n m p).2.2.1).1
      · rw [ec, sU_s]; exact Nat.le_refl _
      · rw [sU_n (by omega)]; exact b6 c hc
    · rw [e _ (by omega), e 2 (by omega)]; exact b7 y hy
    · rw [e 3 (by omega)] at hf
      rw [e _ (by omega), e _ (by omega), e _ (by omega), e _ (by omega), e _ (by omega)]; exact b8 f hf
    · rw [e 4 (by omega)] at hl
      rw [e _ (by omega), e _ (by omega), e _ (by omega), e _ (by omega)]; exact b9 l hl
    · rw [e 3 (by omega)] at hf hf2
      rw [e _ (by omega), e _ (by omega)]; exact b10 f f2 hf hf2
    · unfold fdN
      rw [e 2 (by omega), e 3 (by omega), e 4 (by omega)]; exact hn
    · rw [e 3 (by omega)] at hf
      rw [e _ (by omega), e 0 (by omega), e 1 (by omega)]; exact g1 f hf
  split at hx
  · rename_i hv
    have hk := aIs_k hv
    split at hx
    · cases hx
    rename_i h4
    obtain ⟨ha, rfl, eq'⟩ := fMk_ok hx
    rw [eq']
    obtain ⟨p1, e1, hk5, ht, ew, -⟩ := nw_pr ha
    injection e1 with e1
    have htn := tok_nx (B := B) (m := m) hp (by omega)
    obtain ⟨o1, o2, -⟩ := tW_ok (B := B) (m := m) (n := n) (p := p1) (by omega) (Or.inr hk5)
    have hw1 : (owA1 B n m h q (tTok B n m p).2.2.1).1 = (tTok B n m p1).2.2.2.2 := ew
    have hpr := pr hk.1 nw_prg ha
    have hfl : fFl B n m fl p = fl := by unfold fFl; rw [hv]; cases fl <;> rfl
    rw [hfl]
    have e : ∀ j, j ≠ 2 → (sU h 2 (h 2 + 1)) j = h j := fun j hj => sU_n hj
    refine ⟨⟨?_, ?_, ?_, ?_, ?_, fun c hc => ?_, fun y hy => ?_, fun f hf => ?_, fun l hl => ?_, fun f f2 hf hf2 => ?_⟩, ⟨fun i hi => ?_, fun i hi => ?_, fun i hi => ?_, fun f l hf hl => ?_⟩, ⟨fun f hf => ?_, fun h => ?_⟩, hpr⟩
    · rw [e 0 (by omega)]; exact b1
    · rw [e 1 (by omega)]; exact b2
    · rw [sU_s]; omega
    · rw [e 3 (by omega)]; exact b4
    · rw [e 4 (by omega)]; exact b5
    · rw [e _ (by omega)]; exact b6 c hc
    · rw [e _ (by omega), sU_s]; have := b7 y hy; omega
    · rw [e 3 (by omega)] at hf
      rw [e (95 + f) (by omega), e (101 + f) (by omega), e (107 + f) (by omega), e (113 + f) (by omega), sU_s]; have := b8 f hf; omega
    · rw [e 4 (by omega)] at hl
      rw [e _ (by omega), e _ (by omega), e _ (by omega), e _ (by omega)]; exact b9 l hl
    · rw [e 3 (by omega)] at hf hf2
      rw [e _ (by omega), e _ (by omega)]; exact b10 f f2 hf hf2
    · rw [sU_s] at hi
      by_cases ei : i = h 2
      · rw [ei, qU_s, hw1]; exact ⟨o1, o2⟩
      · rw [qU_n ei]; exact n1 i (by omega)
    · rw [e 3 (by omega)] at hi
      dsimp only
      rw [qU_n (by omega)]; exact n2 i hi
    · rw [e 4 (by omega)] at hi
      dsimp only
      rw [qU_n (by omega)]; exact n3 i hi
    · rw [e 3 (by omega)] at hf
      rw [e 4 (by omega)] at hl
      rw [qU_n (by omega), qU_n (by omega)]; exact n4 f l hf hl
    · rw [e 3 (by omega)] at hf
      rw [e _ (by omega), e 0 (by omega), e 1 (by omega)]; exact g1 f hf
    · rw [e 3 (by omega)]; exact g2 h
  split at hx
  · rename_i hv
    have hk := aIs_k hv
    obtain ⟨ha, rfl, eq'⟩ := fMk_ok hx
    rw [eq']
    have ha2 : (laA2 B n m h q (tTok B n m p).2.2.1).2 = .ok p' := by
      unfold laA3 at ha
      split at ha
      · exact ha
      · exact absurd ha (fun h => rdBack_prev h)
    have r2 := rdNum_lt (B := B) (n := n) (m := m) (lo := 0) (hi := h 1 - 1) (a := (laA1 B n m h q (tTok B n m p).2.2.1).2) (Nat.zero_le _)
    have hy9 : (laA2 B n m h q (tTok B n m p).2.2.1).1 < 9 := by
      have : (laA2 B n m h q (tTok B n m p).2.2.1).1 ≤ h 1 - 1 := r2.2
      omega
    obtain ⟨p1, hp1⟩ := rdNum_prev ha2
    have ho : (laA1 B n m h q (tTok B n m p).2.2.1).1 < h 2 := of_pr.2 p1 hp1
    have hpr := pr hk.1 (of_pr.1.tr num_pr) ha2
    rw [nofl 7 hv (by decide)]
    have e : ∀ j, (j < 86 ∨ 95 ≤ j) → (sU h (86 + (laA2 B n m h q (tTok B n m p).2.2.1).1) ((laA1 B n m h q (tTok B n m p).2.2.1).1 + 1)) j = h j := fun j hj => by rw [sU_n (by omega)]
    refine ⟨⟨?_, ?_, ?_, ?_, ?_, fun c hc => ?_, fun y hy => ?_, fun f hf => ?_, fun l hl => ?_, fun f f2 hf hf2 => ?_⟩, ?_, ⟨fun f hf => ?_, fun h => by cases h⟩, hpr⟩
    · rw [e 0 (by omega)]; exact b1
    · rw [e 1 (by omega)]; exact b2
    · rw [e 2 (by omega)]; exact b3
    · rw [e 3 (by omega)]; exact b4
    · rw [e 4 (by omega)]; exact b5
    · rw [e _ (by omega)]; exact b6 c hc
    · rw [e 2 (by omega)]
      by_cases ey : y = (laA2 B n m h q (tTok B n m p).2.2.1).1
      · rw [ey, sU_s]; omega
      · rw [sU_n (by omega)]; exact b7 y hy
    · rw [e 3 (by omega)] at hf
      rw [e _ (by omega), e _ (by omega), e _ (by omega), e _ (by omega), e _ (by omega)]; exact b8 f hf
    · rw [e 4 (by omega)] at hl
      rw [e _ (by omega), e _ (by omega), e _ (by omega), e _ (by omega)]; exact b9 l hl
    · rw [e 3 (by omega)] at hf hf2
      rw [e _ (by omega), e _ (by omega)]; exact b10 f f2 hf hf2
    · unfold fdN
      rw [e 2 (by omega), e 3 (by omega), e 4 (by omega)]; exact hn
    · rw [e 3 (by omega)] at hf
      rw [e _ (by omega), e 0 (by omega), e 1 (by omega)]; exact g1 f hf
  split at hx
  · rename_i hv
    have hk := aIs_k hv
    split at hx
    · cases hx
    rename_i h6
    obtain ⟨ha, rfl, eq'⟩ := fMk_ok hx
    rw [eq']
    obtain ⟨f1, f2, f3, f4, f5⟩ := fiH_at (B := B) (n := n) (m := m) (h := h) (q := q) (p := (tTok B n m p).2.2.1) (by omega)
    obtain ⟨p4, hp4⟩ := rdNum_prev ha
    obtain ⟨p3, hp3⟩ := rdSide_prev hp4
    obtain ⟨⟨p2, hp2⟩, hhad⟩ := rdCell_prev hp3
    obtain ⟨p1', hp1⟩ := rdOf_prev hp2
    obtain ⟨p1, e1, hk5, ht, ew, -⟩ := nw_pr hp1
    injection e1 with e1
    have htn := tok_nx (B := B) (m := m) hp (by omega)
    obtain ⟨o1, o2, -⟩ := tW_ok (B := B) (m := m) (n := n) (p := p1) (by omega) (Or.inr hk5)
    have hw1 : (owA1 B n m h q (tTok B n m p).2.2.1).1 = (tTok B n m p1).2.2.2.2 := ew
    obtain ⟨t1, t2, t3⟩ := told_no ht
    have hpr := pr hk.1 ((((nw_prg.tr of_pr.1).tr cell_pr).tr side_pr).tr num_pr) ha
    have ho : (fiA2 B n m h q (tTok B n m p).2.2.1).1 < h 2 := of_pr.2 p2 hp2
    have hc : (fiA3 B n m h q (tTok B n m p).2.2.1).1 < 81 ∧ (fiA3 B n m h q (tTok B n m p).2.2.1).1 % 9 < h 0 ∧ (fiA3 B n m h q (tTok B n m p).2.2.1).1 / 9 < h 1 := cell_xy hB
    have hd : (fiA4 B n m h q (tTok B n m p).2.2.1).1 < 4 := rdSide_lt
    have he : 1 ≤ (fiA5 B n m h q (tTok B n m p).2.2.1).1 ∧ (fiA5 B n m h q (tTok B n m p).2.2.1).1 ≤ 9 := rdNum_lt (by omega)
    have hno : ∀ f, f < h 3 → h (101 + f) ≠ (fiA3 B n m h q (tTok B n m p).2.2.1).1 := by
      intro f hf
      have hh : hadC h (fiA3 B n m h q (tTok B n m p).2.2.1).1 = false := hhad
      unfold hadC at hh
      rw [Bool.or_eq_false_iff, Bool.or_eq_false_iff] at hh
      have h1 : qfnd (fun f => decide (h (101 + f) = (fiA3 B n m h q (tTok B n m p).2.2.1).1)) 0 (h 3) = none := by
        cases hx : qfnd (fun f => decide (h (101 + f) = (fiA3 B n m h q (tTok B n m p).2.2.1).1)) 0 (h 3) with
        | none => rfl
        | some i => rw [hx] at hh; cases hh.2.1
      exact of_decide_eq_false (qfnd_none h1 f (Nat.zero_le _) (by omega))
    rw [nofl 8 hv (by decide)]
    have e : ∀ j, (j < 3 ∨ (3 < j ∧ j < 95) ∨ (101 + h 3 < j ∧ j < 107) ∨ 119 ≤ j) → fiH B n m h q (tTok B n m p).2.2.1 j = h j := fun j hj => fiH_n (by omega) (by omega) (by omega) (by omega) (by omega)
    have e3 : ∀ f, f < h 3 → fiH B n m h q (tTok B n m p).2.2.1 (95 + f) = h (95 + f) ∧ fiH B n m h q (tTok B n m p).2.2.1 (101 + f) = h (101 + f) ∧ fiH B n m h q (tTok B n m p).2.2.1 (107 + f) = h (107 + f) ∧ fiH B n m h q (tTok B n m p).2.2.1 (113 + f) = h (113 + f) := fun f hf => ⟨fiH_n (by omega) (by omega) (by omega) (by omega) (by omega), fiH_n (by omega) (by omega) (by omega) (by omega) (by omega), fiH_n (by omega) (by omega) (by omega) (by omega) (by omega), fiH_n (by omega) (by omega) (by omega) (by omega) (by omega)⟩
    refine ⟨⟨?_, ?_, ?_, ?_, ?_, fun c hc => ?_, fun y hy => ?_, fun f hf => ?_, fun l hl => ?_, fun f ff hf hff => ?_⟩, ⟨fun i hi => ?_, fun i hi => ?_, fun i hi => ?_, fun f l hf hl => ?_⟩, ⟨fun f hf => ?_, fun h => by cases h⟩, hpr⟩
    · rw [e 0 (by omega)]; exact b1
    · rw [e 1 (by omega)]; exact b2
    · rw [e 2 (by omega)]; exact b3
    · rw [f5]; omega
    · rw [e 4 (by omega)]; exact b5
    · rw [e _ (by omega)]; exact b6 c hc
    · rw [e _ (by omega), e 2 (by omega)]; exact b7 y hy
    · rw [f5] at hf
      rw [e 2 (by omega)]
      by_cases ef : f = h 3
      · rw [ef, f1, f2, f3, f4]; omega
      · obtain ⟨x1, x2, x3, x4⟩ := e3 f (by omega)
        rw [x1, x2, x3, x4]; exact b8 f (by omega)
    · rw [e 4 (by omega)] at hl
      rw [e _ (by omega), e _ (by omega), e _ (by omega), e _ (by omega)]; exact b9 l hl
    · rw [f5] at hf hff
      by_cases ef : f = h 3
      · by_cases eff : ff = h 3
        · intro _; omega
        · rw [ef, f2, (e3 ff (by omega)).2.1]
          intro hh
          exact absurd hh.symm (hno ff (by omega))
      · by_cases eff : ff = h 3
        · rw [eff, f2, (e3 f (by omega)).2.1]
          intro hh
          exact absurd hh (hno f (by omega))
        · rw [(e3 f (by omega)).2.1, (e3 ff (by omega)).2.1]
          exact b10 f ff (by omega) (by omega)
    · rw [e 2 (by omega)] at hi
      rw [qU_n (by omega)]; exact n1 i hi
    · rw [f5] at hi
      dsimp only
      by_cases ei : i = h 3
      · rw [ei, qU_s, hw1]; exact ⟨o1, o2⟩
      · rw [qU_n (by omega)]; exact n2 i (by omega)
    · rw [e 4 (by omega)] at hi
      dsimp only
      rw [qU_n (by omega)]; exact n3 i hi
    · rw [f5] at hf
      rw [e 4 (by omega)] at hl
      rw [qU_n (i := 10 + l) (by omega)]
      by_cases ef : f = h 3
      · rw [ef, qU_s, hw1]
        exact fun hh => t3 l hl hh.symm
      · rw [qU_n (by omega)]; exact n4 f l (by omega) hl
    · rw [f5] at hf
      rw [e 0 (by omega), e 1 (by omega)]
      by_cases ef : f = h 3
      · rw [ef, f2]; exact hc.2
      · rw [(e3 f (by omega)).2.1]; exact g1 f (by omega)
  split at hx
  · rename_i hv
    have hk := aIs_k hv
    split at hx
    · cases hx
    rename_i h6
    obtain ⟨ha, rfl, eq'⟩ := fMk_ok hx
    rw [eq']
    obtain ⟨f1, f2, f3, f4, f5⟩ := loH_at (B := B) (n := n) (m := m) (h := h) (q := q) (p := (tTok B n m p).2.2.1) (by omega)
    have pr45 : prg n (loA3 B n m h q (tTok B n m p).2.2.1).2 (loA5 B n m h q (tTok B n m p).2.2.1).2 := by
      unfold loA5 loA4
      cases isNm B n m (loA3 B n m h q (tTok B n m p).2.2.1).2 with
      | true => rw [if_pos rfl, if_pos rfl]; exact num_pr.tr num_pr
      | false => rw [if_neg (by decide), if_neg (by decide)]; exact prg.rf
    obtain ⟨p3, hp3, -⟩ := pr45 p' ha
    obtain ⟨p2, hp2⟩ := rdSide_prev hp3
    obtain ⟨⟨p1', hp1⟩, hhad⟩ := rdCell_prev hp2
    obtain ⟨p1, e1, hk5, ht, ew, -⟩ := nw_pr hp1
    injection e1 with e1
    have htn := tok_nx (B := B) (m := m) hp (by omega)
    obtain ⟨o1, o2, -⟩ := tW_ok (B := B) (m := m) (n := n) (p := p1) (by omega) (Or.inr hk5)
    have hw1 : (owA1 B n m h q (tTok B n m p).2.2.1).1 = (tTok B n m p1).2.2.2.2 := ew
    obtain ⟨t1, t2, t3⟩ := told_no ht
    have hpr := pr hk.1 (((nw_prg.tr cell_pr).tr side_pr).tr pr45) ha
    have hc : (loA2 B n m h q (tTok B n m p).2.2.1).1 < 81 := (cell_xy hB).1
    have hd : (loA3 B n m h q (tTok B n m p).2.2.1).1 < 4 := rdSide_lt
    have h23 : (loA4 B n m h q (tTok B n m p).2.2.1).1 ≤ 23 := by
      unfold loA4
      split
      · exact (rdNum_lt (by omega)).2
      · show 0 ≤ 23; omega
    have h24 : 1 ≤ (loA5 B n m h q (tTok B n m p).2.2.1).1 ∧ (loA5 B n m h q (tTok B n m p).2.2.1).1 ≤ 24 := by
      unfold loA5
      split
      · exact rdNum_lt (by omega)
      · show 1 ≤ 24 ∧ 24 ≤ 24; omega
    rw [nofl 9 hv (by decide)]
    have e : ∀ j, (j < 4 ∨ (4 < j ∧ j < 119)) → loH B n m h q (tTok B n m p).2.2.1 j = h j := fun j hj => loH_n (by omega) (by omega) (by omega) (by omega) (by omega)
    have e3 : ∀ f, f < h 4 → loH B n m h q (tTok B n m p).2.2.1 (119 + f) = h (119 + f) ∧ loH B n m h q (tTok B n m p).2.2.1 (124 + f) = h (124 + f) ∧ loH B n m h q (tTok B n m p).2.2.1 (129 + f) = h (129 + f) ∧ loH B n m h q (tTok B n m p).2.2.1 (134 + f) = h (134 + f) := fun f hf => ⟨loH_n (by omega) (by omega) (by omega) (by omega) (by omega), loH_n (by omega) (by omega) (by omega) (by omega) (by omega), loH_n (by omega) (by omega) (by omega) (by omega) (by omega), loH_n (by omega) (by omega) (by omega) (by omega) (by omega)⟩
    refine ⟨⟨?_, ?_, ?_, ?_, ?_, fun c hc => ?_, fun y hy => ?_, fun f hf => ?_, fun l hl => ?_, fun f ff hf hff => ?_⟩, ⟨fun i hi => ?_, fun i hi => ?_, fun i hi => ?_, fun f l hf hl => ?_⟩, ⟨fun f hf => ?_, fun h => by cases h⟩, hpr⟩
    · rw [e 0 (by omega)]; exact b1
    · rw [e 1 (by omega)]; exact b2
    · rw [e 2 (by omega)]; exact b3
    · rw [e 3 (by omega)]; exact b4
    · rw [f5]; omega
    · rw [e _ (by omega)]; exact b6 c hc
    · rw [e _ (by omega), e 2 (by omega)]; exact b7 y hy
    · rw [e 3 (by omega)] at hf
      rw [e _ (by omega), e _ (by omega), e _ (by omega), e _ (by omega), e _ (by omega)]; exact b8 f hf
    · rw [f5] at hl
      by_cases ef : l = h 4
      · rw [ef, f1, f2, f3, f4]; omega
      · obtain ⟨x1, x2, x3, x4⟩ := e3 l (by omega)
        rw [x1, x2, x3, x4]; exact b9 l (by omega)
    · rw [e 3 (by omega)] at hf hff
      rw [e _ (by omega), e _ (by omega)]; exact b10 f ff hf hff
    · rw [e 2 (by omega)] at hi
      rw [qU_n (by omega)]; exact n1 i hi
    · rw [e 3 (by omega)] at hi
      dsimp only
      rw [qU_n (by omega)]; exact n2 i hi
    · rw [f5] at hi
      dsimp only
      by_cases ei : i = h 4
      · rw [ei, qU_s, hw1]; exact ⟨o1, o2⟩
      · rw [qU_n (by omega)]; exact n3 i (by omega)
    · rw [e 3 (by omega)] at hf
      rw [f5] at hl
      rw [qU_n (i := 4 + f) (by omega)]
      by_cases ef : l = h 4
      · rw [ef, qU_s, hw1]
        exact t2 f hf
      · rw [qU_n (by omega)]; exact n4 f l hf (by omega)
    · rw [e 3 (by omega)] at hf
      rw [e _ (by omega), e 0 (by omega), e 1 (by omega)]; exact g1 f hf
  · cases hx
/-- all lines -/
def fRd (B : Nat → Nat) (n m : Nat) : Nat → Nat → Nat → (Nat → Nat) → (Nat → List Nat) → Bool → Except (Nat × Nat) (Nat × (Nat → Nat) × (Nat → List Nat))
  | 0, _, _, _, _, _ => .error (0, 0)
  | k + 1, p, ln, h, q, fl => if (tTok B n m p).1 = 0 then .ok (ln, h, q) else match fLine B n m h q fl p with
    | .error e => .error e
    | .ok (p2, h2, q2) => match aSgn B n m 59 p2 with
      | .error e => .error e
      | .ok (_, p3) => fRd B n m k p3 (ln + 1) h2 q2 (fFl B n m fl p)
theorem fRd_ok : ∀ k p ln h q fl ln' h' q', p ≤ n → fdB h → fdN h q → fdG h fl → fRd B n m k p ln h q fl = .ok (ln', h', q') → fdB h' ∧ fdN h' q' ∧ ∃ fl', fdG h' fl' := by
  intro k
  induction k with
  | zero => intro p ln h q fl ln' h' q' hp hB hn hG hx; cases hx
  | succ k ih =>
    intro p ln h q fl ln' h' q' hp hB hn hG hx
    unfold fRd at hx
    split at hx
    · injection hx with h1
      injection h1 with h2 h3
      injection h3 with h4 h5
      subst h4 h5
      exact ⟨hB, hn, fl, hG⟩
    split at hx
    · cases hx
    · rename_i p2 h2 q2 h1
      obtain ⟨k1, k2, k3, k4, k5⟩ := fLine_ok hp hB hn hG h1
      split at hx
      · cases hx
      · rename_i v p3 h6
        have h7 := aSgn_nx h6
        have h8 := tok_nx (B := B) (m := m) k5 (by omega)
        exact ih _ _ _ _ _ _ _ _ (by omega) k1 k2 k3 hx
/-- one line, by its first word -/
theorem F_78 (hN : 3000 ≤ N) {r39 : zF → Nat → Int32 → Int32 → Option (zF × Int32)} {a1 a2 t0 : Int32} {R : (Nat → Nat → Int32) → (Nat → Nat → Int64) → Int32 → Prop} (h0 : cN B n m V X p) (hC : fdC V h) (hB : fdB h) (hX : fdX X h q) (hn : fdN h q) (hf : flg V fl) (ht : if (tTok B n m p).1 = 4 then t0 = Int32.ofNat (tTok B n m p).2.2.2.1 else t0 = -1)
    (hR : ∀ W Y, fRel B n m (fFl B n m fl p) V X W Y (fLine B n m h q fl p) → hV g (fX3_read_166 r39 N 216 (qH g W Y) 35 a1 a2) R) : hV g (fX3_read_78 r39 N 216 (qH g V X) 35 a1 a2 t0) R := by
  have t0n : ∀ v, v < 27 → (t0 = Int32.ofNat v) = (aIs B n m v p = true) := by
    intro v hv
    by_cases hk : (tTok B n m p).1 = 4
    · have hlt := tWord_lt hk
      rw [if_pos hk] at ht
      rw [ht, qeq (by omega) (by omega)]
      exact propext ⟨fun e => decide_eq_true ⟨hk, e⟩, fun e => (aIs_k e).2⟩
    · rw [if_neg hk] at ht
      rw [ht, qne1' (by omega)]
      exact propext ⟨fun e => e.elim, fun e => hk (aIs_k e).1⟩
  have nofl : ∀ v, aIs B n m v p = true → v ≠ 6 → fFl B n m fl p = true := by
    intro v hv h6
    have h1 := aIs_k hv
    have : aIs B n m 6 p = false := decide_eq_false (fun e => by omega)
    unfold fFl
    rw [this]
    cases fl <;> rfl
  unfold fX3_read_78
  unfold fLine at hR
  cases v4 : aIs B n m 4 p with
  | true =>
    rw [if_pos (by rw [l4, t0n 4 (by omega)]; exact v4), q35_c, Option.bind_some]
    rw [v4, if_pos rfl, nofl 4 v4 (by decide)] at hR
    exact hV_bind (F_size hN h0 (aIs_k v4).1 hC hX hf) hR
  | false =>
  rw [if_neg (by rw [l4, t0n 4 (by omega), v4]; decide)]
  rw [v4, if_neg (show ¬ false = true by decide)] at hR
  cases v5 : aIs B n m 5 p with
  | true =>
    rw [if_pos (by rw [l5, t0n 5 (by omega)]; exact v5), q35_c, Option.bind_some]
    rw [v5, if_pos rfl, nofl 5 v5 (by decide)] at hR
    exact hV_bind (F_hedge hN h0 (aIs_k v5).1 hC hB hX hf) hR
  | false =>
  rw [if_neg (by rw [l5, t0n 5 (by omega), v5]; decide)]
  rw [v5, if_neg (show ¬ false = true by decide)] at hR
  cases v6 : aIs B n m 6 p with
  | true =>
    rw [if_pos (by rw [show (6 : Int32) = Int32.ofNat 6 from rfl, t0n 6 (by omega)]; exact v6), q35_c, Option.bind_some]
    have hfl : fFl B n m fl p = fl := by unfold fFl; rw [v6]; cases fl <;> rfl
    rw [v6, if_pos rfl, hfl] at hR
    exact hV_bind (F_owner hN h0 (aIs_k v6).1 hC hB hX hn hf) hR
  | false =>
  rw [if_neg (by rw [show (6 : Int32) = Int32.ofNat 6 from rfl, t0n 6 (by omega), v6]; decide)]
  rw [v6, if_neg (show ¬ false = true by decide)] at hR
  cases v7 : aIs B n m 7 p with
  | true =>
    rw [if_pos (by rw [show (7 : Int32) = Int32.ofNat 7 from rfl, t0n 7 (by omega)]; exact v7), q35_c, Option.bind_some]
    rw [v7, if_pos rfl, nofl 7 v7 (by decide)] at hR
    exact hV_bind (F_land hN h0 (aIs_k v7).1 hC hB hX hn hf) hR
  | false =>
  rw [if_neg (by rw [show (7 : Int32) = Int32.ofNat 7 from rfl, t0n 7 (by omega), v7]; decide)]
  rw [v7, if_neg (show ¬ false = true by decide)] at hR
  cases v8 : aIs B n m 8 p with
  | true =>
    rw [if_pos (by rw [show (8 : Int32) = Int32.ofNat 8 from rfl, t0n 8 (by omega)]; exact v8), q35_c, Option.bind_some]
    rw [v8, if_pos rfl, nofl 8 v8 (by decide)] at hR
    exact hV_bind (F_figure hN h0 (aIs_k v8).1 hC hB hX hn hf) hR
  | false =>
  rw [if_neg (by rw [show (8 : Int32) = Int32.ofNat 8 from rfl, t0n 8 (by omega), v8]; decide)]
  rw [v8, if_neg (show ¬ false = true by decide)] at hR
  cases v9 : aIs B n m 9 p with
  | true =>
    rw [if_pos (by rw [l9, t0n 9 (by omega)]; exact v9), q35_c, Option.bind_some]
    rw [v9, if_pos rfl, nofl 9 v9 (by decide)] at hR
    exact hV_bind (F_looker hN h0 (aIs_k v9).1 hC hB hX hn hf) hR
  | false =>
  rw [if_neg (by rw [l9, t0n 9 (by omega), v9]; decide)]
  rw [v9, if_neg (show ¬ false = true by decide)] at hR
  rw [q35_g0, Option.bind_some, q1_c, Option.bind_some]
  exact hV_bind (F_fail h0 (k := 1) (by omega) (by omega)) hR
end QFD
