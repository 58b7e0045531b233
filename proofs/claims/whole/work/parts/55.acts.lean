/-! the class's state: acts, copies, draws -/
theorem sU_id {s : Nat → Nat} {k : Nat} : sU s k (s k) = s := by
  funext j
  unfold sU
  split
  · rename_i h; rw [h]
  · rfl
def sLand (s : Nat → Nat) (o : Nat) : Nat := qsum (fun c => if s (169 + c) = o + 1 then 1 else 0) 81
def sGone (s : Nat → Nat) : Nat := qsum (fun f => s (153 + f)) (s 3)
def sWhyWalk (s : Nat → Nat) (l d : Nat) : Nat := match sBeside s (s (159 + l)) d with
  | none => 1
  | some t => if s (5 + t) = 0 then (if (sFig s t).isNone && (sLook s t).isNone then 0 else 3) else 2
def sWalk (s : Nat → Nat) (l d : Nat) : Nat → Nat := match sBeside s (s (159 + l)) d with
  | none => s
  | some t => if sFree s t then sU s (159 + l) t else s
def sWhyFace (s : Nat → Nat) (f d : Nat) : Nat := if sSeers s f = 0 then (if s (147 + f) = d then 2 else 0) else 1
def sFlip (s : Nat → Nat) (l : Nat) : Nat → Nat := sU s 140 (s 140 ^^^ 2 ^ l)
theorem sShut_b {s : Nat → Nat} {l : Nat} : sShut s l = ((s 140).testBit l).toNat := (Nat.toNat_testBit _ _).symm
theorem sFlip_shut {s : Nat → Nat} {l j : Nat} : sShut (sFlip s l) j = if j = l then 1 - sShut s l else sShut s j := by
  unfold sFlip
  rw [sShut_b, sShut_b, sShut_b, sU_s, Nat.testBit_xor, Nat.testBit_two_pow]
  by_cases h : j = l
  · subst h
    simp only [decide_true, if_true]
    cases (s 140).testBit j <;> rfl
  · rw [if_neg h, decide_eq_false (Ne.symm h)]
    simp
theorem sWD.set {s : Nat → Nat} (hW : sWF s) (hD : sWD s) {k x : Nat} (h : (∃ l, k = 164 + l ∧ l < s 4 ∧ x < 4) ∨ (∃ l, k = 159 + l ∧ l < s 4 ∧ x < 81) ∨ (∃ f, k = 147 + f ∧ f < s 3 ∧ x < 4) ∨ (k = 140 ∧ x < 2 ^ s 4)) : sWD (sU s k x) := by
  obtain ⟨⟨w0, w0b⟩, ⟨w1, w1b⟩, w2, w3, w4, w5, w95, w113, w101, w129, w134⟩ := id hW
  obtain ⟨d139, d140, d141, d147, d159, d164, d169, dinj⟩ := id hD
  unfold sWD
  rw [sU_n (j := 3) (by omega), sU_n (j := 4) (by omega), sU_n (j := 139) (by omega)]
  have hk : ∀ j, j ≠ k → sU s k x j = s j := fun j h => sU_n h
  refine ⟨d139, ?_, fun j hj => ?_, fun j hj => ?_, fun l hl => ?_, fun l hl => ?_, fun c hc => ?_, fun i j hi hj h2 => ?_⟩
  · by_cases e : k = 140
    · subst e; rw [sU_s]
      rcases h with ⟨l, h1, h2, h3⟩ | ⟨l, h1, h2, h3⟩ | ⟨l, h1, h2, h3⟩ | ⟨h1, h2⟩
      · omega
      · omega
      · omega
      · exact h2
    · rw [hk _ (Ne.symm e)]; exact d140
  · rw [hk _ (by omega)]; exact d141 j hj
  · by_cases e : 147 + j = k
    · rw [e, sU_s]; omega
    · rw [hk _ e]; exact d147 j hj
  · by_cases e : 159 + l = k
    · rw [e, sU_s]; omega
    · rw [hk _ e]; exact d159 l hl
  · by_cases e : 164 + l = k
    · rw [e, sU_s]; omega
    · rw [hk _ e]; exact d164 l hl
  · rw [hk _ (by omega)]; exact d169 c hc
  · rw [hk _ (by omega), hk _ (by omega)] at h2; exact dinj i j hi hj h2
theorem sFlip_wd {s : Nat → Nat} (hW : sWF s) (hD : sWD s) {l : Nat} (hl : l < s 4) : sWD (sFlip s l) :=
  sWD.set hW hD (Or.inr (Or.inr (Or.inr ⟨rfl, Nat.xor_lt_two_pow hD.2.1 (Nat.pow_lt_pow_right (by decide) hl)⟩)))
theorem sWalk_wd {s : Nat → Nat} (hW : sWF s) (hD : sWD s) {l d : Nat} (hl : l < s 4) : sWD (sWalk s l d) ∧ sEq s (sWalk s l d) := by
  unfold sWalk
  cases hb : sBeside s (s (159 + l)) d with
  | none => exact ⟨hD, sEq.rf⟩
  | some t =>
    dsimp only
    split
    · exact ⟨sWD.set hW hD (Or.inr (Or.inl ⟨l, rfl, hl, sBeside_lt hW hb⟩)), sEq.u (by omega)⟩
    · exact ⟨hD, sEq.rf⟩
section QE
variable {g : zF} {V : Nat → Nat → Int32} {X : Nat → Nat → Int64} {N a φ : Nat} {s : Nat → Nat}
theorem qdeq {x o : Nat} (hx : x < 1000) (ho : o < 1000) : (Int32.ofNat x + -1 = Int32.ofNat o) = (x = o + 1) := by
  by_cases h : x = 0
  · subst h
    rw [qdec0, qne1' (by omega)]
    exact (eq_false (by omega)).symm
  · rw [qdec (by omega), qeq (by omega) (by omega)]
    exact propext ⟨fun h => by omega, fun h => by omega⟩
theorem e_landOf2 (hA : qS a φ) (hS : rS V a s) (hD : sWD s) {o : Nat} (ho : o < 1000) : ∀ m i k, i + m = 81 → m < k → fX8_landOf_4 N 216 (qH g V X) k a (Int32.ofNat o) (Int32.ofNat (qsum (fun c => if s (169 + c) = o + 1 then 1 else 0) i)) (Int32.ofNat i) = some (Int32.ofNat (sLand s o)) := by
  intro m
  obtain ⟨r139, r141, r147, r153, r159, r164, r140, r169⟩ := id hS
  obtain ⟨d139, d140, d141, d147, d159, d164, d169, dinj⟩ := id hD
  induction m with
  | zero =>
    intro i k hi hk
    obtain ⟨k, rfl⟩ : ∃ j, k = j + 1 := ⟨k - 1, by omega⟩
    unfold fX8_landOf_4 sLand
    rw [qS_g8 hA, Option.bind_some, qlen (t := 0) (qS_k7 hA) (Or.inl rfl), Option.bind_some, if_pos (by rw [qle (by omega) (by omega)]; omega), show i = 81 by omega]
  | succ m ih =>
    intro i k hi hk
    obtain ⟨k, rfl⟩ : ∃ j, k = j + 1 := ⟨k - 1, by omega⟩
    have h9 := d169 i (by omega)
    have hih := ih (i + 1) k (by omega) (by omega)
    have hq : qsum (fun c => if s (169 + c) = o + 1 then 1 else 0) (i + 1) = qsum (fun c => if s (169 + c) = o + 1 then 1 else 0) i + (if s (169 + i) = o + 1 then 1 else 0) := rfl
    unfold fX8_landOf_4 fX8_landOf_26
    rw [qS_g8 hA, Option.bind_some, qlen (t := 0) (qS_k7 hA) (Or.inl rfl), Option.bind_some, if_neg (by rw [qle (by omega) (by omega)]; omega), Option.bind_some, qlI (t := 0) (qS_k7 hA) (Or.inl rfl) (by omega) (by omega), Option.bind_some, r169 i (by omega), qlit1, qadd, qadd, ← qlit1]
    by_cases h : s (169 + i) = o + 1
    · rw [if_pos (by rw [qdeq (by omega) ho]; exact h), ← hih, hq, if_pos h]
    · rw [if_neg (by rw [qdeq (by omega) ho]; exact h), ← hih, hq, if_neg h]; rfl
theorem e_landOf (hN : 3000 ≤ N) (hA : qS a φ) (hS : rS V a s) (hD : sWD s) {o : Nat} (ho : o < 1000) : fX8_landOf N 216 (qH g V X) a (Int32.ofNat o) = some (Int32.ofNat (sLand s o)) := by
  unfold fX8_landOf
  exact e_landOf2 hA hS hD ho 81 0 N (by omega) (by omega)
theorem e_goneByAll2 (hA : qS a φ) (hF : qF φ) (hR : rF V φ s) (hS : rS V a s) (hW : sWF s) : ∀ m i k, i + m = s 3 → m < k → fX8_goneByAll_4 N 216 (qH g V X) k a (Int32.ofNat (qsum (fun f => s (153 + f)) i)) (Int32.ofNat i) = some (Int32.ofNat (sGone s)) := by
  intro m
  obtain ⟨⟨w0, w0b⟩, ⟨w1, w1b⟩, w2, w3, w4, w5, w95, w113, w101, w129, w134⟩ := id hW
  obtain ⟨f0, f1, f2, f3, f4, f5, f95, f113, f101, f129, f134⟩ := id hR
  obtain ⟨r139, r141, r147, r153, r159, r164, r140, r169⟩ := id hS
  induction m with
  | zero =>
    intro i k hi hk
    obtain ⟨k, rfl⟩ : ∃ j, k = j + 1 := ⟨k - 1, by omega⟩
    unfold fX8_goneByAll_4 sGone
    rw [qS_g0 hA, Option.bind_some, qF_g3 hF, Option.bind_some, f3, if_pos (by rw [qle (by omega) (by omega)]; omega), show i = s 3 by omega]
  | succ m ih =>
    intro i k hi hk
    obtain ⟨k, rfl⟩ : ∃ j, k = j + 1 := ⟨k - 1, by omega⟩
    unfold fX8_goneByAll_4
    rw [qS_g0 hA, Option.bind_some, qF_g3 hF, Option.bind_some, f3, if_neg (by rw [qle (by omega) (by omega)]; omega), qS_g4 hA, Option.bind_some, e_at (qS_k3 hA) (by omega) (by omega), Option.bind_some, r153 i (by omega), qlit1, qadd, qadd]
    exact ih (i + 1) k (by omega) (by omega)
theorem e_goneByAll (hN : 3000 ≤ N) (hA : qS a φ) (hF : qF φ) (hR : rF V φ s) (hS : rS V a s) (hW : sWF s) : fX8_goneByAll N 216 (qH g V X) a = some (Int32.ofNat (sGone s)) := by
  unfold fX8_goneByAll
  have h3 := hW.2.2.2.1
  exact e_goneByAll2 hA hF hR hS hW (s 3) 0 N (by omega) (by omega)
theorem e_turnTo (hA : qS a φ) (hS : rS V a s) (hW : sWF s) (hD : sWD s) {l d : Nat} (hl : l < s 4) (hd : d < 4) : ∃ W, fX8_turnTo N 216 (qH g V X) a (Int32.ofNat l) (Int32.ofNat d) = some (qH g W X, Int32.ofNat (if s (164 + l) = d then 1 else 0)) ∧ rS W a (sU s (164 + l) d) ∧ qfr V W a 8 := by
  obtain ⟨⟨w0, w0b⟩, ⟨w1, w1b⟩, w2, w3, w4, w5, w95, w113, w101, w129, w134⟩ := id hW
  obtain ⟨d139, d140, d141, d147, d159, d164, d169, dinj⟩ := id hD
  obtain ⟨r139, r141, r147, r153, r159, r164, r140, r169⟩ := id hS
  have h4 := d164 l hl
  unfold fX8_turnTo
  rw [qS_g6 hA, Option.bind_some, e_at (qS_k5 hA) (by omega) (by omega), Option.bind_some, r164 l hl]
  by_cases h : s (164 + l) = d
  · rw [if_pos (by rw [h]), if_pos h]
    refine ⟨V, rfl, ?_, qfr.rf⟩
    rw [← h, sU_id]; exact hS
  · rw [if_neg (by rw [qeq (by omega) (by omega)]; omega), Option.bind_some, e_put (qS_k5 hA) (by omega) (by omega), if_neg h]
    refine ⟨_, rfl, ?_, qfr.w (by omega) (by omega)⟩
    unfold rS sShut
    rw [qw_n (b := a) (by omega), qw_n (b := a + 1) (by omega), qw_n (b := a + 2) (by omega), qw_n (b := a + 3) (by omega), qw_n (b := a + 4) (by omega), qw_s, qw_n (b := a + 6) (by omega), qw_n (b := a + 7) (by omega), sU_n (j := 139) (by omega), sU_n (j := 3) (by omega), sU_n (j := 4) (by omega), sU_n (j := 140) (by omega)]
    refine ⟨r139, fun j hj => ?_, fun j hj => ?_, fun j hj => ?_, fun j hj => ?_, fun j hj => ?_, r140, fun c hc => ?_⟩
    · rw [sU_n (by omega)]; exact r141 j hj
    · rw [sU_n (by omega)]; exact r147 j hj
    · rw [sU_n (by omega)]; exact r153 j hj
    · rw [sU_n (by omega)]; exact r159 j hj
    · by_cases e : j = l
      · subst e; rw [upd_s, sU_s]
      · rw [upd_n e, sU_n (by omega)]; exact r164 j hj
    · rw [sU_n (by omega)]; exact r169 c hc
theorem rS.face (hS : rS V a s) (hW : sWF s) {i x : Nat} (hi : i < s 3) : rS (qw V (a + 2) (upd (V (a + 2)) i (Int32.ofNat x))) a (sU s (147 + i) x) := by
  obtain ⟨⟨w0, w0b⟩, ⟨w1, w1b⟩, w2, w3, w4, w5, w95, w113, w101, w129, w134⟩ := id hW
  obtain ⟨r139, r141, r147, r153, r159, r164, r140, r169⟩ := id hS
  have hh : ∀ j, j ≠ 147 + i → sU s (147 + i) x j = s j := fun j h => sU_n h
  unfold rS sShut
  rw [qw_n (b := a) (by omega), qw_n (b := a + 1) (by omega), qw_s, qw_n (b := a + 3) (by omega), qw_n (b := a + 4) (by omega), qw_n (b := a + 5) (by omega), qw_n (b := a + 6) (by omega), qw_n (b := a + 7) (by omega), hh 139 (by omega), hh 3 (by omega), hh 4 (by omega), hh 140 (by omega)]
  refine ⟨r139, fun j hj => ?_, fun j hj => ?_, fun j hj => ?_, fun j hj => ?_, fun j hj => ?_, r140, fun c hc => ?_⟩
  · rw [hh _ (by omega)]; exact r141 j hj
  · by_cases e : j = i
    · subst e; rw [upd_s, sU_s]
    · rw [upd_n e, hh _ (by omega)]; exact r147 j hj
  · rw [hh _ (by omega)]; exact r153 j hj
  · rw [hh _ (by omega)]; exact r159 j hj
  · rw [hh _ (by omega)]; exact r164 j hj
  · rw [hh _ (by omega)]; exact r169 c hc
theorem rS.side (hS : rS V a s) (hW : sWF s) {i x : Nat} (hi : i < s 4) : rS (qw V (a + 5) (upd (V (a + 5)) i (Int32.ofNat x))) a (sU s (164 + i) x) := by
  obtain ⟨⟨w0, w0b⟩, ⟨w1, w1b⟩, w2, w3, w4, w5, w95, w113, w101, w129, w134⟩ := id hW
  obtain ⟨r139, r141, r147, r153, r159, r164, r140, r169⟩ := id hS
  have hh : ∀ j, j ≠ 164 + i → sU s (164 + i) x j = s j := fun j h => sU_n h
  unfold rS sShut
  rw [qw_n (b := a) (by omega), qw_n (b := a + 1) (by omega), qw_n (b := a + 2) (by omega), qw_n (b := a + 3) (by omega), qw_n (b := a + 4) (by omega), qw_s, qw_n (b := a + 6) (by omega), qw_n (b := a + 7) (by omega), hh 139 (by omega), hh 3 (by omega), hh 4 (by omega), hh 140 (by omega)]
  refine ⟨r139, fun j hj => ?_, fun j hj => ?_, fun j hj => ?_, fun j hj => ?_, fun j hj => ?_, r140, fun c hc => ?_⟩
  · rw [hh _ (by omega)]; exact r141 j hj
  · rw [hh _ (by omega)]; exact r147 j hj
  · rw [hh _ (by omega)]; exact r153 j hj
  · rw [hh _ (by omega)]; exact r159 j hj
  · by_cases e : j = i
    · subst e; rw [upd_s, sU_s]
    · rw [upd_n e, hh _ (by omega)]; exact r164 j hj
  · rw [hh _ (by omega)]; exact r169 c hc
theorem rS.post (hS : rS V a s) (hW : sWF s) {i x : Nat} (hi : i < s 4) : rS (qw V (a + 4) (upd (V (a + 4)) i (Int32.ofNat x))) a (sU s (159 + i) x) := by
  obtain ⟨⟨w0, w0b⟩, ⟨w1, w1b⟩, w2, w3, w4, w5, w95, w113, w101, w129, w134⟩ := id hW
  obtain ⟨r139, r141, r147, r153, r159, r164, r140, r169⟩ := id hS
  have hh : ∀ j, j ≠ 159 + i → sU s (159 + i) x j = s j := fun j h => sU_n h
  unfold rS sShut
  rw [qw_n (b := a) (by omega), qw_n (b := a + 1) (by omega), qw_n (b := a + 2) (by omega), qw_n (b := a + 3) (by omega), qw_s, qw_n (b := a + 5) (by omega), qw_n (b := a + 6) (by omega), qw_n (b := a + 7) (by omega), hh 139 (by omega), hh 3 (by omega), hh 4 (by omega), hh 140 (by omega)]
  refine ⟨r139, fun j hj => ?_, fun j hj => ?_, fun j hj => ?_, fun j hj => ?_, fun j hj => ?_, r140, fun c hc => ?_⟩
  · rw [hh _ (by omega)]; exact r141 j hj
  · rw [hh _ (by omega)]; exact r147 j hj
  · rw [hh _ (by omega)]; exact r153 j hj
  · by_cases e : j = i
    · subst e; rw [upd_s, sU_s]
    · rw [upd_n e, hh _ (by omega)]; exact r159 j hj
  · rw [hh _ (by omega)]; exact r164 j hj
  · rw [hh _ (by omega)]; exact r169 c hc
theorem rS.eyes (hS : rS V a s) (hW : sWF s) {i x : Nat} (hi : i < s 4) (hx : x = 1 - sShut s i) : rS (qw V (a + 6) (upd (V (a + 6)) i (Int32.ofNat x))) a (sFlip s i) := by
  obtain ⟨⟨w0, w0b⟩, ⟨w1, w1b⟩, w2, w3, w4, w5, w95, w113, w101, w129, w134⟩ := id hW
  obtain ⟨r139, r141, r147, r153, r159, r164, r140, r169⟩ := id hS
  have hh : ∀ j, j ≠ 140 → sFlip s i j = s j := fun j h => sU_n h
  unfold rS
  rw [qw_n (b := a) (by omega), qw_n (b := a + 1) (by omega), qw_n (b := a + 2) (by omega), qw_n (b := a + 3) (by omega), qw_n (b := a + 4) (by omega), qw_n (b := a + 5) (by omega), qw_s, qw_n (b := a + 7) (by omega), hh 139 (by omega), hh 3 (by omega), hh 4 (by omega)]
  refine ⟨r139, fun j hj => ?_, fun j hj => ?_, fun j hj => ?_, fun j hj => ?_, fun j hj => ?_, fun j hj => ?_, fun c hc => ?_⟩
  · rw [hh _ (by omega)]; exact r141 j hj
  · rw [hh _ (by omega)]; exact r147 j hj
  · rw [hh _ (by omega)]; exact r153 j hj
  · rw [hh _ (by omega)]; exact r159 j hj
  · rw [hh _ (by omega)]; exact r164 j hj
  · rw [sFlip_shut]
    by_cases e : j = i
    · subst e; rw [upd_s, if_pos rfl, hx]
    · rw [upd_n e, if_neg e]; exact r140 j hj
  · rw [hh _ (by omega)]; exact r169 c hc
theorem e_setEyes (hA : qS a φ) (hS : rS V a s) (hW : sWF s) {l v : Nat} (hl : l < s 4) (hv : v < 2) : ∃ W, fX8_setEyes N 216 (qH g V X) a (Int32.ofNat l) (Int32.ofNat v) = some (qH g W X, Int32.ofNat (if sShut s l = v then 1 else 0)) ∧ rS W a (if sShut s l = v then s else sFlip s l) ∧ qfr V W a 8 := by
  obtain ⟨⟨w0, w0b⟩, ⟨w1, w1b⟩, w2, w3, w4, w5, w95, w113, w101, w129, w134⟩ := id hW
  have h2 := sShut_lt (s := s) l
  unfold fX8_setEyes
  rw [qS_g7 hA, Option.bind_some, e_at (qS_k6 hA) (by omega) (by omega), Option.bind_some, hS.2.2.2.2.2.2.1 l hl]
  by_cases h : sShut s l = v
  · rw [if_pos (by rw [h]), if_pos h, if_pos h]
    exact ⟨V, rfl, hS, qfr.rf⟩
  · rw [if_neg (by rw [qeq (by omega) (by omega)]; omega), Option.bind_some, e_put (qS_k6 hA) (by omega) (by omega), if_neg h, if_neg h]
    exact ⟨_, rfl, hS.eyes hW hl (by omega), qfr.w (by omega) (by omega)⟩
theorem e_walkTo (hN : 3000 ≤ N) (hA : qS a φ) (hF : qF φ) (hR : rF V φ s) (hS : rS V a s) (hW : sWF s) (hD : sWD s) {l d : Nat} (hl : l < s 4) (hd : d < 4) : ∃ W, fX8_walkTo N 216 (qH g V X) a (Int32.ofNat l) (Int32.ofNat d) = some (qH g W X, Int32.ofNat (sWhyWalk s l d)) ∧ rS W a (sWalk s l d) ∧ qfr V W a 8 := by
  obtain ⟨⟨w0, w0b⟩, ⟨w1, w1b⟩, w2, w3, w4, w5, w95, w113, w101, w129, w134⟩ := id hW
  obtain ⟨d139, d140, d141, d147, d159, d164, d169, dinj⟩ := id hD
  obtain ⟨r139, r141, r147, r153, r159, r164, r140, r169⟩ := id hS
  have h4 := d159 l hl
  unfold fX8_walkTo sWhyWalk sWalk sFree
  rw [qS_g0 hA, Option.bind_some, qS_g5 hA, Option.bind_some, e_at (qS_k4 hA) (by omega) (by omega), Option.bind_some, qF_c hF, Option.bind_some, r159 l hl, e_beside hF hR hW h4 hd, Option.bind_some]
  cases hb : sBeside s (s (159 + l)) d with
  | none => exact ⟨V, rfl, hS, qfr.rf⟩
  | some t =>
    have ht := sBeside_lt hW hb
    have h5 := w5 t ht
    dsimp only
    rw [qo_some, if_neg (by rw [qne1 (by omega)]; exact not_false), Option.bind_some, qF_c hF, Option.bind_some, e_hasHedge hF hR hW ht, Option.bind_some]
    by_cases h0 : s (5 + t) = 0
    · rw [if_pos (by rw [h0]; rfl), qS_c hA, Option.bind_some, e_hasSomebody hN hA hF hR hS hW hD (by omega), Option.bind_some, if_pos h0, decide_eq_true h0, Bool.true_and]
      cases hz : (sFig s t).isNone && (sLook s t).isNone with
      | false => exact ⟨V, rfl, hS, qfr.rf⟩
      | true =>
        rw [if_pos (show qz (!true) = 0 from rfl), if_pos rfl, if_pos rfl, Option.bind_some, e_put (qS_k4 hA) (by omega) (by omega)]
        exact ⟨_, rfl, hS.post hW hl, qfr.w (by omega) (by omega)⟩
    · rw [if_neg (by rw [decide_eq_true (show s (5 + t) = 1 by omega)]; decide), if_neg h0, decide_eq_false h0, Bool.false_and]
      exact ⟨V, rfl, hS, qfr.rf⟩
theorem e_faceTo (hN : 3000 ≤ N) (hA : qS a φ) (hF : qF φ) (hR : rF V φ s) (hS : rS V a s) (hW : sWF s) (hD : sWD s) {f d : Nat} (hf : f < s 3) (hd : d < 4) : ∃ W, fX8_faceTo N 216 (qH g V X) a (Int32.ofNat f) (Int32.ofNat d) = some (qH g W X, Int32.ofNat (sWhyFace s f d)) ∧ rS W a (if sWhyFace s f d = 0 then sU s (147 + f) d else s) ∧ qfr V W a 8 := by
  obtain ⟨⟨w0, w0b⟩, ⟨w1, w1b⟩, w2, w3, w4, w5, w95, w113, w101, w129, w134⟩ := id hW
  obtain ⟨d139, d140, d141, d147, d159, d164, d169, dinj⟩ := id hD
  obtain ⟨r139, r141, r147, r153, r159, r164, r140, r169⟩ := id hS
  have h4 := d147 f hf
  have hsl : sSeers s f < 2 ^ s 4 := qbits_lt
  have hs5 : 2 ^ s 4 ≤ 2 ^ 5 := Nat.pow_le_pow_right (by decide) w4
  unfold fX8_faceTo sWhyFace
  rw [qS_c hA, Option.bind_some, e_seers hN hA hF hR hS hW hD hf, Option.bind_some]
  by_cases h0 : sSeers s f = 0
  · rw [if_pos (by rw [h0]; rfl), if_pos h0, qS_g3 hA, Option.bind_some, e_at (qS_k2 hA) (by omega) (by omega), Option.bind_some, r147 f hf]
    by_cases h : s (147 + f) = d
    · rw [if_pos (by rw [h]), if_pos h]
      exact ⟨V, rfl, hS, qfr.rf⟩
    · rw [if_neg (by rw [qeq (by omega) (by omega)]; omega), Option.bind_some, e_put (qS_k2 hA) (by omega) (by omega), if_neg h]
      exact ⟨_, rfl, hS.face hW hf, qfr.w (by omega) (by omega)⟩
  · rw [if_neg (by rw [qlit0, qeq (by omega) (by omega)]; omega), if_neg h0]
    exact ⟨V, rfl, hS, qfr.rf⟩
/-- rows copied one behind another: row a is r0, the k behind it are those behind b -/
def qcb (V : Nat → Nat → Int32) (a b : Nat) (r0 : Nat → Int32) (L : Nat → Nat) (k : Nat) : Nat → Nat → Int32 := fun r => if r = a then r0 else if a < r ∧ r ≤ a + k then (fun i => if i < L (r - a) then V (b + (r - a)) i else V r i) else V r
theorem qcb_0 {a b : Nat} {r0 : Nat → Int32} {L : Nat → Nat} : qw V a r0 = qcb V a b r0 L 0 := by
  funext r
  unfold qw qcb
  by_cases h : r = a
  · rw [if_pos h, if_pos h]
  · rw [if_neg h, if_neg h, if_neg (by omega)]
theorem qcb_s {a b K j : Nat} {r0 : Nat → Int32} {L : Nat → Nat} (k : Nat) (hd : b + K ≤ a ∨ a + K ≤ b) (hj : j = k + 1) (hk : j < K) {n : Nat} (hn : n = L j) : qw (qcb V a b r0 L k) (a + j) (fun i => if i < n then qcb V a b r0 L k (b + j) i else qcb V a b r0 L k (a + j) i) = qcb V a b r0 L j := by
  subst hn
  funext r
  unfold qw
  by_cases h : r = a + j
  · subst h
    rw [if_pos rfl]
    have e1 : qcb V a b r0 L k (b + j) = V (b + j) := by
      unfold qcb
      rw [if_neg (by omega), if_neg (by omega)]
    have e2 : qcb V a b r0 L k (a + j) = V (a + j) := by
      unfold qcb
      rw [if_neg (by omega), if_neg (by omega)]
    have e3 : qcb V a b r0 L j (a + j) = (fun i => if i < L j then V (b + j) i else V (a + j) i) := by
      unfold qcb
      rw [if_neg (by omega), if_pos (by omega), show a + j - a = j by omega]
    rw [e1, e2, e3]
  · rw [if_neg h]
    unfold qcb
    by_cases h2 : r = a
    · rw [if_pos h2, if_pos h2]
    · rw [if_neg h2, if_neg h2]
      by_cases h3 : a < r ∧ r ≤ a + k
      · rw [if_pos h3, if_pos (by omega)]
      · rw [if_neg h3, if_neg (by omega)]
theorem qcb_a {a b k j i : Nat} {r0 : Nat → Int32} {L : Nat → Nat} (hj : 0 < j) (hk : j ≤ k) (hi : i < L j) : qcb V a b r0 L k (a + j) i = V (b + j) i := by
  unfold qcb
  rw [if_neg (by omega), if_pos (by omega), show a + j - a = j by omega, if_pos hi]
theorem qcb_r {a b k : Nat} {r0 : Nat → Int32} {L : Nat → Nat} : qcb V a b r0 L k a = r0 := by
  unfold qcb
  rw [if_pos rfl]
theorem qcb_fr {a b k : Nat} {r0 : Nat → Int32} {L : Nat → Nat} : qfr V (qcb V a b r0 L k) a (k + 1) := by
  intro c hc
  unfold qcb
  rw [if_neg (by omega), if_neg (by omega)]
def qLS (j : Nat) : Nat := [0, 6, 6, 6, 5, 5, 5, 81].getD j 0
/-- a whole state copied -/
theorem e_copyS {b ψ : Nat} (hA : qS a φ) (hB : qS b ψ) (hd : b + 8 ≤ a ∨ a + 8 ≤ b) : fX8_copyFrom N 216 (qH g V X) a b = some (qH g (qcb V a b (upd (V a) 1 (V b 1)) qLS 7) X) := by
  unfold fX8_copyFrom
  rw [qS_g1 hB, Option.bind_some, qS_p1 hA, Option.bind_some, qcb_0 (b := b) (L := qLS), qS_g2 hB, Option.bind_some, qS_g2 hA, Option.bind_some, e_copy (qS_k1 hB) (qS_k1 hA) (by omega), Option.bind_some, qcb_s (K := 8) (j := 1) (L := qLS) (n := 6) 0 hd rfl (by omega) rfl,
    qS_g3 hB, Option.bind_some, qS_g3 hA, Option.bind_some, e_copy (qS_k2 hB) (qS_k2 hA) (by omega), Option.bind_some, qcb_s (K := 8) (j := 2) (L := qLS) (n := 6) 1 hd rfl (by omega) rfl,
    qS_g4 hB, Option.bind_some, qS_g4 hA, Option.bind_some, e_copy (qS_k3 hB) (qS_k3 hA) (by omega), Option.bind_some, qcb_s (K := 8) (j := 3) (L := qLS) (n := 6) 2 hd rfl (by omega) rfl,
    qS_g5 hB, Option.bind_some, qS_g5 hA, Option.bind_some, e_copy (qS_k4 hB) (qS_k4 hA) (by omega), Option.bind_some, qcb_s (K := 8) (j := 4) (L := qLS) (n := 5) 3 hd rfl (by omega) rfl,
    qS_g6 hB, Option.bind_some, qS_g6 hA, Option.bind_some, e_copy (qS_k5 hB) (qS_k5 hA) (by omega), Option.bind_some, qcb_s (K := 8) (j := 5) (L := qLS) (n := 5) 4 hd rfl (by omega) rfl,
    qS_g7 hB, Option.bind_some, qS_g7 hA, Option.bind_some, e_copy (qS_k6 hB) (qS_k6 hA) (by omega), Option.bind_some, qcb_s (K := 8) (j := 6) (L := qLS) (n := 5) 5 hd rfl (by omega) rfl,
    qS_g8 hB, Option.bind_some, qS_g8 hA, Option.bind_some, e_copy (qS_k7 hB) (qS_k7 hA) (by omega), Option.bind_some, qcb_s (K := 8) (j := 7) (L := qLS) (n := 81) 6 hd rfl (by omega) rfl]
theorem rS.copy {b : Nat} (hS : rS V b s) (hW : sWF s) : rS (qcb V a b (upd (V a) 1 (V b 1)) qLS 7) a s := by
  obtain ⟨⟨w0, w0b⟩, ⟨w1, w1b⟩, w2, w3, w4, w5, w95, w113, w101, w129, w134⟩ := id hW
  obtain ⟨r139, r141, r147, r153, r159, r164, r140, r169⟩ := id hS
  unfold rS
  refine ⟨?_, fun j hj => ?_, fun j hj => ?_, fun j hj => ?_, fun j hj => ?_, fun j hj => ?_, fun j hj => ?_, fun j hj => ?_⟩
  · rw [qcb_r, upd_s]; exact r139
  · rw [qcb_a (by omega) (by omega) (by show j < 6; omega)]; exact r141 j hj
  · rw [qcb_a (by omega) (by omega) (by show j < 6; omega)]; exact r147 j hj
  · rw [qcb_a (by omega) (by omega) (by show j < 6; omega)]; exact r153 j hj
  · rw [qcb_a (by omega) (by omega) (by show j < 5; omega)]; exact r159 j hj
  · rw [qcb_a (by omega) (by omega) (by show j < 5; omega)]; exact r164 j hj
  · rw [qcb_a (by omega) (by omega) (by show j < 5; omega)]; exact r140 j hj
  · rw [qcb_a (by omega) (by omega) (by show j < 81; omega)]; exact r169 j hj
/-! draws -/
def dNx (x : Int32) : Int32 := x * 1103515245 + 12345
def dDr (x : Int32) : Nat := x.toUInt32.toNat / 2 ^ 8
theorem qush (x : Int32) : dDr x < 16777216 ∧ ziushr x (8 : Int32) = Int32.ofNat (dDr x) := by
  unfold dDr
  have h := x.toUInt32.toNat_lt
  refine ⟨by omega, ?_⟩
  unfold ziushr
  apply Int32.toBitVec_inj.mp
  apply BitVec.eq_of_toNat_eq
  have e : (Int32.toUInt32 8 &&& Int32.toUInt32 31) = (8 : UInt32) := by decide
  rw [e]
  show (x.toUInt32 >>> (8 : UInt32)).toNat = (BitVec.ofNat 32 (x.toUInt32.toNat / 2 ^ 8)).toNat
  rw [UInt32.toNat_shiftRight, BitVec.toNat_ofNat, Nat.shiftRight_eq_div_pow, show (8 : UInt32).toNat % 32 = 8 from rfl, Nat.mod_eq_of_lt (by omega)]
def sDrawW (w : Nat) (y z : Int32) (d : Nat) (s : Nat → Nat) (l : Nat) : Int32 × (Nat → Nat) :=
  if w < 4 then (y, sU s (164 + l) w) else if w = 4 then (y, sFlip s l) else if w = 5 then (z, sWalk s l d) else (y, s)
def sDrawL (x : Int32) (s : Nat → Nat) (l : Nat) : Int32 × (Nat → Nat) := sDrawW (dDr (dNx x) % 8) (dNx x) (dNx (dNx x)) (dDr (dNx (dNx x)) % 4) s l
def sDrawA (x : Int32) (s : Nat → Nat) (l : Nat) : Nat → Int32 × (Nat → Nat)
  | 0 => (x, s)
  | n + 1 => sDrawA (sDrawL x s l).1 (sDrawL x s l).2 (l + 1) n
def sDrawn (x : Int32) (s : Nat → Nat) : Int32 × (Nat → Nat) := ((sDrawA x s 0 (s 4)).1, sHour (sDrawA x s 0 (s 4)).2)
theorem sWalk_139 {l d : Nat} (hl : l < 100) : sWalk s l d 139 = s 139 := by
  unfold sWalk
  cases sBeside s (s (159 + l)) d with
  | none => rfl
  | some t =>
    dsimp only
    by_cases h : sFree s t = true
    · rw [if_pos h]; exact sU_n (by omega)
    · rw [if_neg h]
theorem sDrawW_wd {w d l : Nat} {y z : Int32} (hW : sWF s) (hD : sWD s) (hl : l < s 4) : sWD (sDrawW w y z d s l).2 ∧ sEq s (sDrawW w y z d s l).2 ∧ (sDrawW w y z d s l).2 139 = s 139 := by
  obtain ⟨⟨w0, w0b⟩, ⟨w1, w1b⟩, w2, w3, w4, w5, w95, w113, w101, w129, w134⟩ := id hW
  unfold sDrawW
  by_cases h : w < 4
  · rw [if_pos h]
    exact ⟨sWD.set hW hD (Or.inl ⟨l, rfl, hl, h⟩), sEq.u (by omega), sU_n (by omega)⟩
  · rw [if_neg h]
    by_cases h4 : w = 4
    · rw [if_pos h4]
      exact ⟨sFlip_wd hW hD hl, sEq.u (by omega), sU_n (s := s) (k := 140) (j := 139) (x := s 140 ^^^ 2 ^ l) (by omega)⟩
    · rw [if_neg h4]
      by_cases h5 : w = 5
      · rw [if_pos h5]
        exact ⟨(sWalk_wd hW hD hl).1, (sWalk_wd hW hD hl).2, sWalk_139 (by omega)⟩
      · rw [if_neg h5]
        exact ⟨hD, sEq.rf, rfl⟩
theorem sDrawL_wd {x : Int32} {l : Nat} (hW : sWF s) (hD : sWD s) (hl : l < s 4) : sWD (sDrawL x s l).2 ∧ sEq s (sDrawL x s l).2 ∧ (sDrawL x s l).2 139 = s 139 := by
  rw [sDrawL]
  exact sDrawW_wd hW hD hl
theorem sDrawA_wd : ∀ (n l : Nat) (x : Int32) (s : Nat → Nat), sWF s → sWD s → l + n = s 4 → sWD (sDrawA x s l n).2 ∧ sEq s (sDrawA x s l n).2 ∧ (sDrawA x s l n).2 139 = s 139 := by
  intro n
  induction n with
  | zero => intro l x s hW hD hl; exact ⟨hD, sEq.rf, rfl⟩
  | succ n ih =>
    intro l x s hW hD hl
    obtain ⟨h1, h2, h3⟩ := sDrawL_wd (x := x) hW hD (show l < s 4 by omega)
    obtain ⟨g1, g2, g3⟩ := ih (l + 1) (sDrawL x s l).1 (sDrawL x s l).2 (h2.wf hW) h1 (by rw [h2 4 (by omega)]; omega)
    exact ⟨g1, h2.tr g2, g3.trans h3⟩
theorem sDrawn_wd {x : Int32} (hW : sWF s) (hD : sWD s) (h9 : s 139 < 100000) : sWD (sDrawn x s).2 ∧ sEq s (sDrawn x s).2 ∧ (sDrawn x s).2 139 = s 139 + 1 := by
  obtain ⟨g1, g2, g3⟩ := sDrawA_wd (s 4) 0 x s hW hD (by omega)
  obtain ⟨h1, h2, h3, -⟩ := sHour_wd (g2.wf hW) g1 (by omega)
  exact ⟨h1, g2.tr h2, by rw [← g3]; exact h3⟩
theorem e_nextSeed {f : zF} {x : Int32} : fX8_nextSeed N 216 f x = some (dNx x) := rfl
theorem e_drawnL (hN : 3000 ≤ N) (hA : qS a φ) (hF : qF φ) (hφ : φ + 11 ≤ a) : ∀ m l k V s x, rF V φ s → rS V a s → sWF s → sWD s → s 139 < 100000 → l + m = s 4 → m < k → ∃ W, fX8_goDrawnHour_4 N 216 k (qH g V X) a x (Int32.ofNat l) = some (qH g W X, (sDrawA x s l m).1) ∧ rS W a (sHour (sDrawA x s l m).2) ∧ qfr V W a 8 := by
  intro m
  induction m with
  | zero =>
    intro l k V s x hR hS hW hD h9 hl hk
    obtain ⟨k, rfl⟩ : ∃ j, k = j + 1 := ⟨k - 1, by omega⟩
    obtain ⟨⟨w0, w0b⟩, ⟨w1, w1b⟩, w2, w3, w4, w5, w95, w113, w101, w129, w134⟩ := id hW
    obtain ⟨f0, f1, f2, f3, f4, f5, f95, f113, f101, f129, f134⟩ := id hR
    unfold fX8_goDrawnHour_4
    obtain ⟨W, h1, h2, h3⟩ := e_goHour (g := g) (X := X) hN hA hF hR hS hW hD hφ
    rw [qS_g0 hA, Option.bind_some, qF_g4 hF, Option.bind_some, f4, if_pos (by rw [qle (by omega) (by omega)]; omega), qS_c hA, Option.bind_some, h1]
    exact ⟨W, rfl, h2, h3⟩
  | succ m ih =>
    intro l k V s x hR hS hW hD h9 hl hk
    obtain ⟨k, rfl⟩ : ∃ j, k = j + 1 := ⟨k - 1, by omega⟩
    obtain ⟨⟨w0, w0b⟩, ⟨w1, w1b⟩, w2, w3, w4, w5, w95, w113, w101, w129, w134⟩ := id hW
    obtain ⟨f0, f1, f2, f3, f4, f5, f95, f113, f101, f129, f134⟩ := id hR
    obtain ⟨hq, hu⟩ := qush (dNx x)
    obtain ⟨hq2, hu2⟩ := qush (dNx (dNx x))
    obtain ⟨y1, y2, y3⟩ := sDrawL_wd (x := x) hW hD (show l < s 4 by omega)
    have hstep : sDrawA x s l (m + 1) = sDrawA (sDrawL x s l).1 (sDrawL x s l).2 (l + 1) m := rfl
    have hL8 : (8 : Int32) = Int32.ofNat 8 := rfl
    have hL4 : (4 : Int32) = Int32.ofNat 4 := rfl
    have hL5 : (5 : Int32) = Int32.ofNat 5 := rfl
    have go : ∀ W1, rS W1 a (sDrawL x s l).2 → qfr V W1 a 8 → ∃ W, fX8_goDrawnHour_4 N 216 k (qH g W1 X) a (sDrawL x s l).1 (Int32.ofNat (l + 1)) = some (qH g W X, (sDrawA x s l (m + 1)).1) ∧ rS W a (sHour (sDrawA x s l (m + 1)).2) ∧ qfr V W a 8 := by
      intro W1 q1 q2
      obtain ⟨W2, z1, z2, z3⟩ := ih (l + 1) k W1 (sDrawL x s l).2 (sDrawL x s l).1 (y2.toF hW (hR.fr q2 (Or.inl hφ))) q1 (y2.wf hW) y1 (by omega) (by rw [y2 4 (by omega)]; omega) (by omega)
      rw [hstep]
      exact ⟨W2, z1, z2, q2.tr z3⟩
    have hm8 : dDr (dNx x) % 8 < 8 := Nat.mod_lt _ (by decide)
    have hm4 : dDr (dNx (dNx x)) % 4 < 4 := Nat.mod_lt _ (by decide)
    unfold fX8_goDrawnHour_4 fX8_goDrawnHour_94
    rw [qS_g0 hA, Option.bind_some, qF_g4 hF, Option.bind_some, f4, if_neg (by rw [qle (by omega) (by omega)]; omega), e_nextSeed, Option.bind_some, hu]
    unfold sDrawL at go
    generalize hx1 : dNx x = x1 at *
    generalize hx2 : dNx x1 = x2 at *
    generalize hw1 : dDr x1 = w1 at *
    generalize hw2 : dDr x2 = w2 at *
    unfold sDrawW at go
    by_cases c4 : w1 % 8 < 4
    · rw [if_pos c4] at go
      rw [if_neg (by rw [hL8, hL4, qrem (by omega) (by omega), qle (by omega) (by omega)]; omega), qS_c hA, Option.bind_some, hL8, qrem (by omega) (by omega)]
      obtain ⟨W1, q1, q2, q3⟩ := e_turnTo (g := g) (X := X) hA hS hW hD (l := l) (d := w1 % 8) (by omega) c4
      rw [q1]
      dsimp only [zbd]
      rw [qlit1, qadd]
      exact go W1 q2 q3
    · rw [if_neg c4] at go
      rw [if_pos (by rw [hL8, hL4, qrem (by omega) (by omega), qle (by omega) (by omega)]; omega)]
      by_cases c5 : w1 % 8 = 4
      · rw [if_pos c5] at go
        have hs2 := sShut_lt (s := s) l
        rw [if_pos (by rw [hL8, hL4, qrem (by omega) (by omega), c5]), qS_g7 hA, Option.bind_some, e_at (qS_k6 hA) (by omega) (by omega), Option.bind_some, qS_c hA, Option.bind_some, hS.2.2.2.2.2.2.1 l (by omega), qlit1, qsub (by omega)]
        obtain ⟨W1, q1, q2, q3⟩ := e_setEyes (g := g) (X := X) hA hS hW (l := l) (v := 1 - sShut s l) (by omega) (by omega)
        rw [if_neg (by omega)] at q2
        rw [q1]
        dsimp only [zbd]
        rw [qadd]
        exact go W1 q2 q3
      · rw [if_neg c5] at go
        rw [if_neg (by rw [hL8, hL4, qrem (by omega) (by omega), qeq (by omega) (by omega)]; omega)]
        by_cases c6 : w1 % 8 = 5
        · rw [if_pos c6] at go
          rw [if_pos (by rw [hL8, hL5, qrem (by omega) (by omega), c6]), e_nextSeed, hx2, Option.bind_some, qS_c hA, Option.bind_some, hu2, hL4, qrem (by omega) (by omega)]
          obtain ⟨W1, q1, q2, q3⟩ := e_walkTo (g := g) (X := X) hN hA hF hR hS hW hD (l := l) (d := w2 % 4) (by omega) hm4
          rw [q1]
          dsimp only [zbd]
          rw [qlit1, qadd]
          exact go W1 q2 q3
        · rw [if_neg c6] at go
          rw [if_neg (by rw [hL8, hL5, qrem (by omega) (by omega), qeq (by omega) (by omega)]; omega), qlit1, qadd]
          exact go V hS qfr.rf
theorem e_goDrawnHour (hN : 3000 ≤ N) (hA : qS a φ) (hF : qF φ) (hR : rF V φ s) (hS : rS V a s) (hW : sWF s) (hD : sWD s) (hφ : φ + 11 ≤ a) (h9 : s 139 < 100000) {x : Int32} : ∃ W, fX8_goDrawnHour N 216 (qH g V X) a x = some (qH g W X, (sDrawn x s).1) ∧ rS W a (sDrawn x s).2 ∧ qfr V W a 8 := by
  unfold fX8_goDrawnHour sDrawn
  have h4 := hW.2.2.2.2.1
  exact e_drawnL (g := g) (X := X) hN hA hF hφ (s 4) 0 N V s x hR hS hW hD h9 (by omega) (by omega)
end QE
