/-! the class's state as it goes on -/
theorem qfnd_none {P : Nat → Bool} {n i : Nat} (h : qfnd P i n = none) : ∀ k, i ≤ k → k < i + n → P k = false := by
  induction n generalizing i with
  | zero => intro k h1 h2; omega
  | succ n ih =>
    unfold qfnd at h
    split at h
    · cases h
    · rename_i hp
      intro k h1 h2
      by_cases hk : k = i
      · subst hk; simpa using hp
      · exact ih h k (by omega) (by omega)
theorem sFig_none {s : Nat → Nat} {c : Nat} (h : sFig s c = none) : ∀ f, f < s 3 → s (141 + f) ≠ c := by
  intro f hf h2
  have h3 := qfnd_none h f (Nat.zero_le _) (by omega)
  simp [h2] at h3
def sEq (s t : Nat → Nat) : Prop := ∀ i, i < 139 → t i = s i
theorem sEq.rf {s : Nat → Nat} : sEq s s := fun _ _ => rfl
theorem sEq.tr {s t u : Nat → Nat} (h : sEq s t) (h2 : sEq t u) : sEq s u := fun i hi => (h2 i hi).trans (h i hi)
theorem sEq.u {s : Nat → Nat} {k x : Nat} (hk : 139 ≤ k) : sEq s (sU s k x) := fun i hi => sU_n (by omega)
theorem sEq.wf {s t : Nat → Nat} (h : sEq s t) (hW : sWF s) : sWF t := by
  obtain ⟨⟨w0, w0b⟩, ⟨w1, w1b⟩, w2, w3, w4, w5, w95, w113, w101, w129, w134⟩ := id hW
  unfold sWF
  have e0 := h 0 (by omega)
  have e1 := h 1 (by omega)
  have e2 := h 2 (by omega)
  have e3 := h 3 (by omega)
  have e4 := h 4 (by omega)
  rw [e0, e1, e2, e3, e4]
  refine ⟨⟨w0, w0b⟩, ⟨w1, w1b⟩, w2, w3, w4, fun c hc => ?_, fun f hf => ?_, fun f hf => ?_, fun f hf => ?_, fun l hl => ?_, fun l hl => ?_⟩
  · rw [h (5 + c) (by omega)]; exact w5 c hc
  · rw [h (95 + f) (by omega)]; exact w95 f hf
  · rw [h (113 + f) (by omega)]; exact w113 f hf
  · rw [h (101 + f) (by omega)]; exact w101 f hf
  · rw [h (129 + l) (by omega)]; exact w129 l hl
  · rw [h (134 + l) (by omega)]; exact w134 l hl
theorem sEq.toF {V : Nat → Nat → Int32} {φ : Nat} {s t : Nat → Nat} (h : sEq s t) (hW : sWF s) (hR : rF V φ s) : rF V φ t := by
  obtain ⟨⟨w0, w0b⟩, ⟨w1, w1b⟩, w2, w3, w4, w5, w95, w113, w101, w129, w134⟩ := id hW
  obtain ⟨f0, f1, f2, f3, f4, f5, f95, f113, f101, f129, f134⟩ := id hR
  have e3 := h 3 (by omega)
  have e4 := h 4 (by omega)
  unfold rF
  rw [h 0 (by omega), h 1 (by omega), h 2 (by omega), e3, e4]
  refine ⟨f0, f1, f2, f3, f4, fun c hc => ?_, fun f hf => ?_, fun f hf => ?_, fun f hf => ?_, fun l hl => ?_, fun l hl => ?_⟩
  · rw [h (5 + c) (by omega)]; exact f5 c hc
  · rw [h (95 + f) (by omega)]; exact f95 f hf
  · rw [h (113 + f) (by omega)]; exact f113 f hf
  · rw [h (101 + f) (by omega)]; exact f101 f hf
  · rw [h (129 + l) (by omega)]; exact f129 l hl
  · rw [h (134 + l) (by omega)]; exact f134 l hl
/-- rows outside a block of n are as they were -/
def qfr (V W : Nat → Nat → Int32) (a n : Nat) : Prop := ∀ b, b < a ∨ a + n ≤ b → W b = V b
theorem qfr.rf {V : Nat → Nat → Int32} {a n : Nat} : qfr V V a n := fun _ _ => rfl
theorem qfr.tr {V W U : Nat → Nat → Int32} {a n : Nat} (h : qfr V W a n) (h2 : qfr W U a n) : qfr V U a n := fun b hb => (h2 b hb).trans (h b hb)
theorem qfr.w {V : Nat → Nat → Int32} {a n k : Nat} {r : Nat → Int32} (h1 : a ≤ k) (h2 : k < a + n) : qfr V (qw V k r) a n := fun b hb => qw_n (by omega)
theorem rF.fr {V W : Nat → Nat → Int32} {φ a n : Nat} {s : Nat → Nat} (hR : rF V φ s) (h : qfr V W a n) (hφ : φ + 11 ≤ a ∨ a + n ≤ φ) : rF W φ s := by
  unfold rF
  rw [h φ (by omega), h (φ + 4) (by omega), h (φ + 6) (by omega), h (φ + 7) (by omega), h (φ + 8) (by omega), h (φ + 9) (by omega), h (φ + 10) (by omega)]
  exact hR
theorem rS.fr {V W : Nat → Nat → Int32} {a c n : Nat} {s : Nat → Nat} (hS : rS V a s) (h : qfr V W c n) (hφ : a + 8 ≤ c ∨ c + n ≤ a) : rS W a s := by
  unfold rS
  rw [h a (by omega), h (a + 1) (by omega), h (a + 2) (by omega), h (a + 3) (by omega), h (a + 4) (by omega), h (a + 5) (by omega), h (a + 6) (by omega), h (a + 7) (by omega)]
  exact hS
theorem upd_s {f : Nat → Int32} {k : Nat} {x : Int32} : upd f k x k = x := by simp [upd]
theorem upd_n {f : Nat → Int32} {k j : Nat} {x : Int32} (h : j ≠ k) : upd f k x j = f j := by simp [upd, h]
theorem qinc (a : Nat) : Int32.ofNat a = Int32.ofNat (a + 1) + -1 := by rw [qdec (by omega)]; rfl
/-- a figure that doesn't go turns -/
theorem sGoes_wd {s : Nat → Nat} (hW : sWF s) (hD : sWD s) {f : Nat} (hf : f < s 3) : sWD (sGoes s f) ∧ sEq s (sGoes s f) ∧ (sGoes s f) 139 = s 139 ∧ (sGoes s f) 140 = s 140 := by
  obtain ⟨⟨w0, w0b⟩, ⟨w1, w1b⟩, w2, w3, w4, w5, w95, w113, w101, w129, w134⟩ := id hW
  obtain ⟨d139, d140, d141, d147, d159, d164, d169, dinj⟩ := id hD
  unfold sGoes
  split
  · rename_i hc
    unfold sCan at hc
    cases hb : sBeside s (s (141 + f)) (s (147 + f)) with
    | none => rw [hb] at hc; cases hc
    | some t =>
      rw [hb] at hc
      dsimp only at hc
      have ht := sBeside_lt hW hb
      have hfig : sFig s t = none := by
        unfold sFree at hc
        simp at hc
        exact hc.2.1
      have hno := sFig_none hfig
      have h95 := w95 f hf
      simp only [Option.getD_some]
      have hk : ∀ j, j ≠ 141 + f → j ≠ 169 + t → j ≠ 153 + f → (sU (sU (sU s (141 + f) t) (169 + t) (s (95 + f) + 1)) (153 + f) (s (153 + f) + 1)) j = s j := fun j h1 h2 h3 => by rw [sU_n h3, sU_n h2, sU_n h1]
      have hA : ∀ j, j < s 3 → (sU (sU (sU s (141 + f) t) (169 + t) (s (95 + f) + 1)) (153 + f) (s (153 + f) + 1)) (141 + j) = if j = f then t else s (141 + j) := by
        intro j hj
        rw [sU_n (by omega), sU_n (by omega)]
        by_cases e : j = f
        · subst e; rw [sU_s, if_pos rfl]
        · rw [sU_n (by omega), if_neg e]
      have e3 := hk 3 (by omega) (by omega) (by omega)
      have e4 := hk 4 (by omega) (by omega) (by omega)
      refine ⟨?_, fun i hi => hk i (by omega) (by omega) (by omega), hk 139 (by omega) (by omega) (by omega), hk 140 (by omega) (by omega) (by omega)⟩
      unfold sWD
      rw [e3, e4, hk 139 (by omega) (by omega) (by omega), hk 140 (by omega) (by omega) (by omega)]
      refine ⟨d139, d140, fun j hj => ?_, fun j hj => ?_, fun l hl => ?_, fun l hl => ?_, fun c hc => ?_, fun j k hj hk2 h => ?_⟩
      · rw [hA j hj]
        split
        · exact ht
        · exact d141 j hj
      · rw [hk _ (by omega) (by omega) (by omega)]; exact d147 j hj
      · rw [hk _ (by omega) (by omega) (by omega)]; exact d159 l hl
      · rw [hk _ (by omega) (by omega) (by omega)]; exact d164 l hl
      · rw [sU_n (by omega)]
        by_cases e : c = t
        · subst e; rw [sU_s]; omega
        · rw [sU_n (by omega), sU_n (by omega)]; exact d169 c hc
      · rw [hA j hj, hA k hk2] at h
        split at h <;> split at h
        · omega
        · exact absurd h.symm (hno k hk2)
        · exact absurd h (hno j hj)
        · exact dinj j k hj hk2 h
  · have hk : ∀ j, j ≠ 147 + f → (sU s (147 + f) ((s (147 + f) + 1) % 4)) j = s j := fun j h1 => sU_n h1
    refine ⟨?_, fun i hi => hk i (by omega), hk 139 (by omega), hk 140 (by omega)⟩
    unfold sWD
    rw [hk 3 (by omega), hk 4 (by omega), hk 139 (by omega), hk 140 (by omega)]
    refine ⟨d139, d140, fun j hj => ?_, fun j hj => ?_, fun l hl => ?_, fun l hl => ?_, fun c hc => ?_, fun j k hj hk2 h => ?_⟩
    · rw [hk _ (by omega)]; exact d141 j hj
    · by_cases e : j = f
      · subst e; rw [sU_s]; omega
      · rw [hk _ (by omega)]; exact d147 j hj
    · rw [hk _ (by omega)]; exact d159 l hl
    · rw [hk _ (by omega)]; exact d164 l hl
    · rw [hk _ (by omega)]; exact d169 c hc
    · rw [hk _ (by omega), hk _ (by omega)] at h; exact dinj j k hj hk2 h
section QD
variable {g : zF} {V : Nat → Nat → Int32} {X : Nat → Nat → Int64} {N a φ : Nat} {s : Nat → Nat}
theorem e_goOrTurn (hN : 3000 ≤ N) (hA : qS a φ) (hF : qF φ) (hR : rF V φ s) (hS : rS V a s) (hW : sWF s) (hD : sWD s) (hφ : φ + 11 ≤ a) {f : Nat} (hf : f < s 3) : ∃ W, fX8_goOrTurn N 216 (qH g V X) a (Int32.ofNat f) = some (qH g W X) ∧ rS W a (sGoes s f) ∧ qfr V W a 8 := by
  obtain ⟨⟨w0, w0b⟩, ⟨w1, w1b⟩, w2, w3, w4, w5, w95, w113, w101, w129, w134⟩ := id hW
  obtain ⟨d139, d140, d141, d147, d159, d164, d169, dinj⟩ := id hD
  obtain ⟨r139, r141, r147, r153, r159, r164, r140, r169⟩ := id hS
  obtain ⟨f0, f1, f2, f3, f4, f5, f95, f113, f101, f129, f134⟩ := id hR
  have h1 := d141 f hf
  have h2 := d147 f hf
  have h95 := w95 f hf
  unfold fX8_goOrTurn
  rw [qS_c hA, Option.bind_some, e_canGo hN hA hF hR hS hW hD hf, Option.bind_some]
  cases hc : sCan s f with
  | false =>
    rw [if_pos qzf, qS_g3 hA, Option.bind_some, Option.bind_some, e_at (qS_k2 hA) (by omega) (by omega), Option.bind_some, e_put (qS_k2 hA) (by omega) (by omega), Option.bind_some, r147 f hf, show (1 : Int32) = Int32.ofNat 1 from rfl, show (3 : Int32) = Int32.ofNat 3 from rfl, qadd, qand]
    refine ⟨_, rfl, ?_, qfr.w (by omega) (by omega)⟩
    have e : (s (147 + f) + 1) &&& 3 = (s (147 + f) + 1) % 4 := Nat.and_two_pow_sub_one_eq_mod _ 2
    have hs : sGoes s f = sU s (147 + f) ((s (147 + f) + 1) % 4) := by unfold sGoes; rw [hc]; rfl
    rw [e, hs]
    unfold rS sShut
    rw [qw_n (by omega), qw_n (by omega), qw_s, qw_n (by omega), qw_n (by omega), qw_n (by omega), qw_n (by omega), qw_n (by omega), sU_n (by omega), sU_n (by omega), sU_n (by omega), sU_n (by omega)]
    refine ⟨r139, fun j hj => ?_, fun j hj => ?_, fun j hj => ?_, fun l hl => ?_, fun l hl => ?_, r140, fun c hc => ?_⟩
    · rw [sU_n (by omega)]; exact r141 j hj
    · by_cases e : j = f
      · subst e; rw [upd_s, sU_s]
      · rw [upd_n e, sU_n (by omega)]; exact r147 j hj
    · rw [sU_n (by omega)]; exact r153 j hj
    · rw [sU_n (by omega)]; exact r159 l hl
    · rw [sU_n (by omega)]; exact r164 l hl
    · rw [sU_n (by omega)]; exact r169 c hc
  | true =>
    cases hb : sBeside s (s (141 + f)) (s (147 + f)) with
    | none => unfold sCan at hc; rw [hb] at hc; cases hc
    | some t =>
      have ht := sBeside_lt hW hb
      have hs : sGoes s f = sU (sU (sU s (141 + f) t) (169 + t) (s (95 + f) + 1)) (153 + f) (s (153 + f) + 1) := by unfold sGoes; rw [hc, hb]; rfl
      rw [if_neg qzt, qS_g0 hA, Option.bind_some, qS_g2 hA, Option.bind_some, e_at (qS_k1 hA) (by omega) (by omega), Option.bind_some, qS_g3 hA, Option.bind_some, e_at (qS_k2 hA) (by omega) (by omega), Option.bind_some, qF_c hF, Option.bind_some, r141 f hf, r147 f hf, e_beside hF hR hW h1 h2, Option.bind_some, hb, qo_some, Option.bind_some, e_put (qS_k1 hA) (by omega) (by omega), Option.bind_some, qS_g4 hA, Option.bind_some, Option.bind_some, e_at (qS_k3 hA) (by omega) (by omega), Option.bind_some, qw_n (by omega), r153 f hf, e_put (qS_k3 hA) (by omega) (by omega), Option.bind_some, qS_g8 hA, Option.bind_some, qS_g0 hA, Option.bind_some, qF_g10 hF, Option.bind_some, e_at (qF_k6 hF) (by omega) (by omega), Option.bind_some, qw_n (b := φ + 6) (by omega), qw_n (b := φ + 6) (by omega), f95 f hf, e_put (qS_k7 hA) ht (by omega), Option.bind_some, show (1 : Int32) = Int32.ofNat 1 from rfl, qadd]
      refine ⟨_, rfl, ?_, (qfr.w (by omega) (by omega)).tr ((qfr.w (by omega) (by omega)).tr (qfr.w (by omega) (by omega)))⟩
      rw [hs]
      have hk : ∀ j, j ≠ 141 + f → j ≠ 169 + t → j ≠ 153 + f → (sU (sU (sU s (141 + f) t) (169 + t) (s (95 + f) + 1)) (153 + f) (s (153 + f) + 1)) j = s j := fun j h1 h2 h3 => by rw [sU_n h3, sU_n h2, sU_n h1]
      have e3 := hk 3 (by omega) (by omega) (by omega)
      have e4 := hk 4 (by omega) (by omega) (by omega)
      have e9 := hk 139 (by omega) (by omega) (by omega)
      have e0 := hk 140 (by omega) (by omega) (by omega)
      unfold rS sShut
      rw [e3, e4, e9, e0]
      refine ⟨?_, fun j hj => ?_, fun j hj => ?_, fun j hj => ?_, fun l hl => ?_, fun l hl => ?_, fun l hl => ?_, fun c hc => ?_⟩
      · rw [qw_n (by omega), qw_n (by omega), qw_n (by omega)]; exact r139
      · rw [qw_n (by omega), qw_n (by omega), qw_s, sU_n (by omega), sU_n (by omega)]
        by_cases e : j = f
        · subst e; rw [upd_s, sU_s]
        · rw [upd_n e, sU_n (by omega)]; exact r141 j hj
      · rw [qw_n (by omega), qw_n (by omega), qw_n (by omega), hk _ (by omega) (by omega) (by omega)]; exact r147 j hj
      · rw [qw_n (by omega), qw_s]
        by_cases e : j = f
        · subst e; rw [upd_s, sU_s]
        · rw [upd_n e, qw_n (by omega), hk _ (by omega) (by omega) (by omega)]; exact r153 j hj
      · rw [qw_n (by omega), qw_n (by omega), qw_n (by omega), hk _ (by omega) (by omega) (by omega)]; exact r159 l hl
      · rw [qw_n (by omega), qw_n (by omega), qw_n (by omega), hk _ (by omega) (by omega) (by omega)]; exact r164 l hl
      · rw [qw_n (by omega), qw_n (by omega), qw_n (by omega)]; exact r140 l hl
      · rw [qw_s, sU_n (by omega)]
        by_cases e : c = t
        · subst e; rw [upd_s, sU_s, ← qinc]
        · rw [upd_n e, qw_n (by omega), qw_n (by omega), sU_n (by omega), sU_n (by omega)]; exact r169 c hc
theorem sTurn_wd {s : Nat → Nat} (hW : sWF s) (hD : sWD s) {f : Nat} (hf : f < s 3) : sWD (sTurn s f) ∧ sEq s (sTurn s f) ∧ (sTurn s f) 139 = s 139 ∧ (sTurn s f) 140 = s 140 := by
  unfold sTurn
  split
  · exact sGoes_wd hW hD hf
  · exact ⟨hD, sEq.rf, rfl, rfl⟩
theorem sHourL_wd : ∀ (n i : Nat) {s : Nat → Nat}, sWF s → sWD s → i + n = s 3 → sWD (sHourL s i n) ∧ sEq s (sHourL s i n) ∧ (sHourL s i n) 139 = s 139 ∧ (sHourL s i n) 140 = s 140 := by
  intro n
  induction n with
  | zero => intro i s hW hD hi; exact ⟨hD, sEq.rf, rfl, rfl⟩
  | succ n ih =>
    intro i s hW hD hi
    obtain ⟨h1, h2, h3, h4⟩ := sTurn_wd hW hD (f := i) (by omega)
    obtain ⟨g1, g2, g3, g4⟩ := ih (i + 1) (h2.wf hW) h1 (by rw [h2 3 (by omega)]; omega)
    exact ⟨g1, h2.tr g2, g3.trans h3, g4.trans h4⟩
theorem sHour_wd {s : Nat → Nat} (hW : sWF s) (hD : sWD s) (h9 : s 139 < 100000) : sWD (sHour s) ∧ sEq s (sHour s) ∧ sHour s 139 = s 139 + 1 ∧ sHour s 140 = s 140 := by
  obtain ⟨g1, g2, g3, g4⟩ := sHourL_wd (s 3) 0 hW hD (by omega)
  obtain ⟨d139, d140, d141, d147, d159, d164, d169, dinj⟩ := g1
  unfold sHour
  have hk : ∀ j, j ≠ 139 → (sU (sHourL s 0 (s 3)) 139 (sHourL s 0 (s 3) 139 + 1)) j = sHourL s 0 (s 3) j := fun j h => sU_n h
  refine ⟨?_, g2.tr (sEq.u (by omega)), by rw [sU_s, g3], by rw [hk 140 (by omega), g4]⟩
  unfold sWD
  rw [hk 3 (by omega), hk 4 (by omega), hk 140 (by omega), sU_s]
  refine ⟨by omega, d140, fun j hj => ?_, fun j hj => ?_, fun l hl => ?_, fun l hl => ?_, fun c hc => ?_, fun j k hj hk2 h => ?_⟩
  · rw [hk _ (by omega)]; exact d141 j hj
  · rw [hk _ (by omega)]; exact d147 j hj
  · rw [hk _ (by omega)]; exact d159 l hl
  · rw [hk _ (by omega)]; exact d164 l hl
  · rw [hk _ (by omega)]; exact d169 c hc
  · rw [hk _ (by omega), hk _ (by omega)] at h; exact dinj j k hj hk2 h
theorem e_goHour2 (hN : 3000 ≤ N) (hA : qS a φ) (hF : qF φ) (hφ : φ + 11 ≤ a) : ∀ m i k V s, rF V φ s → rS V a s → sWF s → sWD s → i + m = s 3 → m < k → ∃ W, fX8_goHour_2 N 216 k (qH g V X) a (Int32.ofNat i) = some (qH g W X) ∧ rS W a (sU (sHourL s i m) 139 (s 139 + 1)) ∧ qfr V W a 8 := by
  intro m
  induction m with
  | zero =>
    intro i k V s hR hS hW hD hi hk
    obtain ⟨k, rfl⟩ : ∃ j, k = j + 1 := ⟨k - 1, by omega⟩
    obtain ⟨⟨w0, w0b⟩, ⟨w1, w1b⟩, w2, w3, w4, w5, w95, w113, w101, w129, w134⟩ := id hW
    obtain ⟨r139, r141, r147, r153, r159, r164, r140, r169⟩ := id hS
    obtain ⟨f0, f1, f2, f3, f4, f5, f95, f113, f101, f129, f134⟩ := id hR
    unfold fX8_goHour_2
    rw [qS_g0 hA, Option.bind_some, qF_g3 hF, Option.bind_some, f3, if_pos (by rw [qle (by omega) (by omega)]; omega), qS_g1 hA, Option.bind_some, qS_p1 hA, Option.bind_some, r139, show (1 : Int32) = Int32.ofNat 1 from rfl, qadd]
    refine ⟨_, rfl, ?_, qfr.w (by omega) (by omega)⟩
    unfold rS sShut sHourL
    rw [qw_s, upd_s, sU_s, sU_n (by omega), sU_n (by omega), qw_n (by omega), qw_n (by omega), qw_n (by omega), qw_n (by omega), qw_n (by omega), qw_n (by omega), qw_n (by omega), sU_n (by omega)]
    refine ⟨rfl, fun j hj => ?_, fun j hj => ?_, fun j hj => ?_, fun l hl => ?_, fun l hl => ?_, r140, fun c hc => ?_⟩
    · rw [sU_n (by omega)]; exact r141 j hj
    · rw [sU_n (by omega)]; exact r147 j hj
    · rw [sU_n (by omega)]; exact r153 j hj
    · rw [sU_n (by omega)]; exact r159 l hl
    · rw [sU_n (by omega)]; exact r164 l hl
    · rw [sU_n (by omega)]; exact r169 c hc
  | succ m ih =>
    intro i k V s hR hS hW hD hi hk
    obtain ⟨k, rfl⟩ : ∃ j, k = j + 1 := ⟨k - 1, by omega⟩
    obtain ⟨⟨w0, w0b⟩, ⟨w1, w1b⟩, w2, w3, w4, w5, w95, w113, w101, w129, w134⟩ := id hW
    obtain ⟨d139, d140, d141, d147, d159, d164, d169, dinj⟩ := id hD
    obtain ⟨r139, r141, r147, r153, r159, r164, r140, r169⟩ := id hS
    obtain ⟨f0, f1, f2, f3, f4, f5, f95, f113, f101, f129, f134⟩ := id hR
    have h113 := w113 i (by omega)
    unfold fX8_goHour_2 fX8_goHour_49
    rw [qS_g0 hA, Option.bind_some, qF_g3 hF, Option.bind_some, f3, if_neg (by rw [qle (by omega) (by omega)]; omega), Option.bind_some, qF_g11 hF, Option.bind_some, e_at (qF_k7 hF) (by omega) (by omega), Option.bind_some, qS_g1 hA, Option.bind_some, f113 i (by omega), r139, show (1 : Int32) = Int32.ofNat 1 from rfl, qadd, e_divides h113.1 (by omega) (by omega), Option.bind_some, qadd]
    have hstep : sHourL s i (m + 1) = sHourL (sTurn s i) (i + 1) m := rfl
    rw [hstep]
    by_cases hd : (s 139 + 1) % s (113 + i) = 0
    · rw [decide_eq_true hd, if_neg qzt, qS_c hA, Option.bind_some, e_seers hN hA hF hR hS hW hD (by omega), Option.bind_some]
      have hsl : sSeers s i < 2 ^ s 4 := qbits_lt
      have hs5 : 2 ^ s 4 ≤ 2 ^ 5 := Nat.pow_le_pow_right (by decide) w4
      by_cases h0 : sSeers s i = 0
      · rw [if_pos (by rw [h0]; rfl), Option.bind_some]
        have ht : sTurn s i = sGoes s i := by unfold sTurn; rw [if_pos ⟨hd, h0⟩]
        obtain ⟨W1, x1, x2, x3⟩ := e_goOrTurn (g := g) (X := X) hN hA hF hR hS hW hD hφ (f := i) (by omega)
        obtain ⟨y1, y2, y3, y4⟩ := sGoes_wd hW hD (f := i) (by omega)
        rw [x1, Option.bind_some, ht]
        obtain ⟨W2, z1, z2, z3⟩ := ih (i + 1) k W1 (sGoes s i) (y2.toF hW (hR.fr x3 (Or.inl hφ))) x2 (y2.wf hW) y1 (by rw [y2 3 (by omega)]; omega) (by omega)
        refine ⟨W2, z1, ?_, x3.tr z3⟩
        rw [y3] at z2
        exact z2
      · rw [if_neg (by rw [qlit0, qeq (by omega) (by omega)]; omega)]
        have ht : sTurn s i = s := by unfold sTurn; rw [if_neg (fun h => h0 h.2)]
        rw [ht]
        exact ih (i + 1) k V s hR hS hW hD (by omega) (by omega)
    · rw [decide_eq_false hd, if_pos qzf]
      have ht : sTurn s i = s := by unfold sTurn; rw [if_neg (fun h => hd h.1)]
      rw [ht]
      exact ih (i + 1) k V s hR hS hW hD (by omega) (by omega)
theorem e_goHour (hN : 3000 ≤ N) (hA : qS a φ) (hF : qF φ) (hR : rF V φ s) (hS : rS V a s) (hW : sWF s) (hD : sWD s) (hφ : φ + 11 ≤ a) : ∃ W, fX8_goHour N 216 (qH g V X) a = some (qH g W X) ∧ rS W a (sHour s) ∧ qfr V W a 8 := by
  have h3 := hW.2.2.2.1
  obtain ⟨W, h1, h2, h4⟩ := e_goHour2 (g := g) (X := X) hN hA hF hφ (s 3) 0 N V s hR hS hW hD (by omega) (by omega)
  refine ⟨W, h1, ?_, h4⟩
  show rS W a (sU (sHourL s 0 (s 3)) 139 (sHourL s 0 (s 3) 139 + 1))
  rw [(sHourL_wd (s 3) 0 hW hD (by omega)).2.2.1]
  exact h2
end QD
