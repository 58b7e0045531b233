/-! reading, with or without a fault: the class -/
section QRD
variable {g : zF} {V W U K : Nat → Nat → Int32} {X Y Z : Nat → Nat → Int64} {N n m p k pl : Nat} {s t u B : Nat → Nat}
/-- where reading stands: at p, or at a fault (kind, place) -/
abbrev aA := Except (Nat × Nat) Nat
def cSt (B : Nat → Nat) (n m : Nat) (V : Nat → Nat → Int32) (X : Nat → Nat → Int64) : aA → Prop
  | .ok p => cN B n m V X p
  | .error (k, pl) => cFl B n m V X k pl
def aV (d : Nat) : aR → Nat
  | .ok (v, _) => v
  | .error _ => d
def aP : aR → aA
  | .ok (_, p) => .ok p
  | .error e => .error e
def rdNum (B : Nat → Nat) (n m lo hi : Nat) : aA → Nat × aA
  | .ok p => (aV lo (aNum B n m lo hi p), aP (aNum B n m lo hi p))
  | .error e => (lo, .error e)
def rdSgn (B : Nat → Nat) (n m c : Nat) : aA → aA
  | .ok p => aP (aSgn B n m c p)
  | .error e => .error e
def rdSide (B : Nat → Nat) (n m : Nat) : aA → Nat × aA
  | .ok p => (aV 0 (aSide B n m p), aP (aSide B n m p))
  | .error e => (0, .error e)
/-- where the token before was -/
def prv (B : Nat → Nat) (n m : Nat) (V : Nat → Nat → Int32) (a b : aA) : Prop := ∀ p q, a = .ok p → b = .ok q → V 1 7 = Int32.ofNat (tTok B n m p).2.1
theorem aRel_cs {q : Nat} {d : Nat} {a : aR} {r : Int32} (h : aRel B n m V X q (Int32.ofNat d) a W Y r) : r = Int32.ofNat (aV d a) ∧ cSt B n m W Y (aP a) ∧ cFr V W X Y := by
  obtain ⟨h1, h2⟩ := h
  cases a with
  | ok v => exact ⟨h1.1, h1.2.1, h2⟩
  | error e => exact ⟨h1.1, h1.2, h2⟩
theorem aRel_pv {q p0 : Nat} {d : Int32} {a : aR} {r : Int32} (h : aRel B n m V X q d a W Y r) (hq : q = (tTok B n m p0).2.1) : prv B n m W (.ok p0) (aP a) := by
  intro p q2 e1 e2
  cases e1
  obtain ⟨h1, h2⟩ := h
  cases a with
  | ok v => rw [← hq]; exact h1.2.2
  | error e => cases e2
theorem C_num (hN : 3000 ≤ N) {a : aA} (h : cSt B n m V X a) {lo hi : Nat} (hlo : lo < 1000) (hhi : hi < 1000) : hV g (fX9_needNumber N 216 (qH g V X) 1 (Int32.ofNat lo) (Int32.ofNat hi)) (fun W Y r => r = Int32.ofNat (rdNum B n m lo hi a).1 ∧ cSt B n m W Y (rdNum B n m lo hi a).2 ∧ cFr V W X Y ∧ prv B n m W a (rdNum B n m lo hi a).2) := by
  cases a with
  | ok p =>
    refine hV_mono (c_needNumN hN h hlo hhi) (fun W Y r hx => ?_)
    obtain ⟨x1, x2, x3⟩ := aRel_cs hx
    exact ⟨x1, x2, x3, aRel_pv hx rfl⟩
  | error e =>
    refine hV_mono (c_needNumF h) (fun W Y r hx => ?_)
    obtain ⟨x1, x2, x3⟩ := aRel_cs (d := lo) hx
    exact ⟨x1, x2, x3, fun p q e1 => by cases e1⟩
theorem C_sgn (hN : 3000 ≤ N) {a : aA} (h : cSt B n m V X a) {c : Nat} (hc : c < 256) : hS g (fX9_needSign N 216 (qH g V X) 1 (Int32.ofNat c)) (fun W Y => cSt B n m W Y (rdSgn B n m c a) ∧ cFr V W X Y) := by
  cases a with
  | ok p =>
    refine hS_mono (c_needSgnN hN h hc) (fun W Y hx => ?_)
    obtain ⟨x1, x2, x3⟩ := aRel_cs (d := 0) hx
    exact ⟨x2, x3⟩
  | error e =>
    refine hS_mono (c_needSgnF h) (fun W Y hx => ?_)
    obtain ⟨x1, x2, x3⟩ := aRel_cs (d := 0) hx
    exact ⟨x2, x3⟩
theorem C_side (hN : 3000 ≤ N) {a : aA} (h : cSt B n m V X a) : hV g (fX9_needSide N 216 (qH g V X) 1) (fun W Y r => r = Int32.ofNat (rdSide B n m a).1 ∧ cSt B n m W Y (rdSide B n m a).2 ∧ cFr V W X Y) := by
  cases a with
  | ok p =>
    refine hV_mono (c_needSideN hN h) (fun W Y r hx => ?_)
    exact aRel_cs (d := 0) hx
  | error e =>
    refine hV_mono (c_needSideF h) (fun W Y r hx => ?_)
    exact aRel_cs (d := 0) hx
theorem rdNum_lt {lo hi : Nat} {a : aA} (h : lo ≤ hi) : lo ≤ (rdNum B n m lo hi a).1 ∧ (rdNum B n m lo hi a).1 ≤ hi := by
  cases a with
  | error e => exact ⟨Nat.le_refl _, h⟩
  | ok p =>
    show lo ≤ aV lo (aNum B n m lo hi p) ∧ aV lo (aNum B n m lo hi p) ≤ hi
    unfold aNum
    split
    · split
      · rename_i h1; exact h1
      · exact ⟨Nat.le_refl _, h⟩
    · exact ⟨Nat.le_refl _, h⟩
theorem rdSide_lt {a : aA} : (rdSide B n m a).1 < 4 := by
  cases a with
  | error e => show 0 < 4; decide
  | ok p =>
    show aV 0 (aSide B n m p) < 4
    unfold aSide
    split
    · rename_i h1; exact h1.2
    · show 0 < 4; decide
def rdFail (B : Nat → Nat) (n m k : Nat) : aA → aA
  | .ok p => .error (k, (tTok B n m p).2.1)
  | .error e => .error e
theorem C_fail {a : aA} (h : cSt B n m V X a) {k : Nat} (hk : 1 ≤ k) (hk2 : k < 10) : hS g (fX9_fail N 216 (qH g V X) 1 (Int32.ofNat k)) (fun W Y => cSt B n m W Y (rdFail B n m k a) ∧ cFr V W X Y) := by
  cases a with
  | ok p => exact c_failN h hk hk2
  | error e => exact c_failF h
/-- a fault at the token before, where reading was at a -/
def rdBack (B : Nat → Nat) (n m k : Nat) (a : aA) : aA → aA
  | .ok _ => (match a with
    | .ok p => .error (k, (tTok B n m p).2.1)
    | .error e => .error e)
  | .error e => .error e
theorem C_back {a b : aA} (h : cSt B n m V X b) (hp : prv B n m V a b) (ha : ∀ q, b = .ok q → ∃ p, a = .ok p ∧ p ≤ n) {k : Nat} (hk : 1 ≤ k) (hk2 : k < 10) : hS g (fX9_failAt N 216 (qH g V X) 1 (Int32.ofNat k) (V 1 7)) (fun W Y => cSt B n m W Y (rdBack B n m k a b) ∧ cFr V W X Y) := by
  cases b with
  | ok q =>
    obtain ⟨p, rfl, hpn⟩ := ha q rfl
    rw [hp p q rfl rfl]
    have hc : cN B n m V X q := h
    exact c_failAtN hc hk hk2 (tTok_p hc.2.2.2.1 hc.1.2.1 hpn)
  | error e => exact c_failAtF h
theorem cSt_le {a : aA} (h : cSt B n m V X a) {p : Nat} (e : a = .ok p) : p ≤ n := by
  subst e
  exact h.2.2.2.2.1
theorem rdNum_ok {lo hi : Nat} {a : aA} {q : Nat} (h : (rdNum B n m lo hi a).2 = .ok q) : ∃ p, a = .ok p ∧ aNum B n m lo hi p = .ok ((rdNum B n m lo hi a).1, q) := by
  cases a with
  | error e => cases h
  | ok p =>
    refine ⟨p, rfl, ?_⟩
    have h2 : aP (aNum B n m lo hi p) = .ok q := h
    show aNum B n m lo hi p = .ok (aV lo (aNum B n m lo hi p), q)
    cases he : aNum B n m lo hi p with
    | error e => rw [he] at h2; cases h2
    | ok v =>
      rw [he] at h2
      have h3 : (Except.ok v.2 : aA) = .ok q := h2
      injection h3 with h4
      obtain ⟨v1, v2⟩ := v
      show (Except.ok (v1, v2) : aR) = .ok (v1, q)
      have h5 : v2 = q := h4
      rw [h5]
theorem cFr.b (h : cFr V W X Y) {b : Nat} (hb : b ≠ 1) : W b = V b := h.1 b hb
end QRD
