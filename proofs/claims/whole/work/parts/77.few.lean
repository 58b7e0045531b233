/-! few and cover -/
section QFW
variable {g : zF} {V W K : Nat → Nat → Int32} {X : Nat → Nat → Int64} {N : Nat} {s t u : Nat → Nat}
/-- each of these to a side of his own so that all are seen -/
def eF (sg : Nat → Nat → Nat) (set all : Nat) : Nat → Nat → Nat → Prop
  | _, 0, acc => acc = all
  | l, m + 1, acc => if set.testBit l then ∃ d, d < 4 ∧ eF sg set all (l + 1) m (acc ||| sg l d) else eF sg set all (l + 1) m acc
/-- how many of these are from l on -/
def eN (set : Nat) : Nat → Nat → Nat
  | _, 0 => 0
  | l, m + 1 => (if set.testBit l then 1 else 0) + eN set (l + 1) m
def eC (sg : Nat → Nat → Nat) (set : Nat) : Nat → Nat → Nat → Nat → Nat
  | _, 0, _, acc => acc
  | l, m + 1, rest, acc => if set.testBit l then eC sg set (l + 1) m (rest / 4) (acc ||| sg l (rest % 4)) else eC sg set (l + 1) m rest acc
def eM (sg : Nat → Nat → Nat) (set code : Nat) : Nat → Nat → Nat → Nat
  | _, 0, acc => acc
  | l, m + 1, acc => eM sg set code (l + 1) m (acc ||| (if set.testBit l then sg l (code / 4 ^ (4 - l) % 4) else 0))
theorem eC_ex {sg : Nat → Nat → Nat} {set all : Nat} : ∀ m l acc, (∃ way, way < 4 ^ eN set l m ∧ eC sg set l m way acc = all) ↔ eF sg set all l m acc := by
  intro m
  induction m with
  | zero =>
    intro l acc
    exact ⟨fun ⟨w, _, h⟩ => h, fun h => ⟨0, Nat.pow_pos (by decide), h⟩⟩
  | succ m ih =>
    intro l acc
    unfold eF eN eC
    cases hb : set.testBit l with
    | false =>
      simp only [Bool.false_eq_true, if_false, Nat.zero_add]
      exact ih (l + 1) acc
    | true =>
      simp only [if_true]
      constructor
      · rintro ⟨w, h1, h2⟩
        refine ⟨w % 4, Nat.mod_lt _ (by decide), (ih (l + 1) _).mp ⟨w / 4, ?_, h2⟩⟩
        rw [Nat.add_comm, Nat.pow_succ] at h1
        omega
      · rintro ⟨d, hd, h⟩
        obtain ⟨w, h1, h2⟩ := (ih (l + 1) _).mpr h
        refine ⟨4 * w + d, ?_, ?_⟩
        · rw [Nat.add_comm 1, Nat.pow_succ]; omega
        · rw [show (4 * w + d) / 4 = w by omega, show (4 * w + d) % 4 = d by omega]
          exact h2
theorem eM_cg {sg : Nat → Nat → Nat} {set c1 c2 : Nat} : ∀ m l acc, l + m ≤ 5 → c1 % 4 ^ (5 - l) = c2 % 4 ^ (5 - l) → eM sg set c1 l m acc = eM sg set c2 l m acc := by
  intro m
  induction m with
  | zero => intro l acc hl h; rfl
  | succ m ih =>
    intro l acc hl h
    have e5 : 4 ^ (5 - l) = 4 ^ (4 - l) * 4 := by rw [show 5 - l = 4 - l + 1 by omega, Nat.pow_succ]
    rw [e5, Nat.mod_mul, Nat.mod_mul] at h
    have hp : 0 < 4 ^ (4 - l) := Nat.pow_pos (by decide)
    have h1 : c1 % 4 ^ (4 - l) < 4 ^ (4 - l) := Nat.mod_lt _ hp
    have h2 : c2 % 4 ^ (4 - l) < 4 ^ (4 - l) := Nat.mod_lt _ hp
    have key : c1 / 4 ^ (4 - l) % 4 = c2 / 4 ^ (4 - l) % 4 ∧ c1 % 4 ^ (4 - l) = c2 % 4 ^ (4 - l) := by
      have e1 := congrArg (fun x => x / 4 ^ (4 - l)) h
      have e2 := congrArg (fun x => x % 4 ^ (4 - l)) h
      simp only [Nat.add_mul_div_left _ _ hp, Nat.div_eq_of_lt h1, Nat.div_eq_of_lt h2, Nat.zero_add, Nat.add_mul_mod_self_left, Nat.mod_mod] at e1 e2
      exact ⟨e1, e2⟩
    unfold eM
    rw [key.1]
    exact ih (l + 1) _ (by omega) (by rw [show 5 - (l + 1) = 4 - l by omega]; exact key.2)
theorem eM_ex {sg : Nat → Nat → Nat} {set all : Nat} : ∀ m l acc, l + m ≤ 5 → ((∃ code, code < 4 ^ (5 - l) ∧ eM sg set code l m acc = all) ↔ eF sg set all l m acc) := by
  intro m
  induction m with
  | zero =>
    intro l acc hl
    exact ⟨fun ⟨w, _, h⟩ => h, fun h => ⟨0, Nat.pow_pos (by decide), h⟩⟩
  | succ m ih =>
    intro l acc hl
    have e5 : 4 ^ (5 - l) = 4 ^ (4 - l) * 4 := by rw [show 5 - l = 4 - l + 1 by omega, Nat.pow_succ]
    have hp : 0 < 4 ^ (4 - l) := Nat.pow_pos (by decide)
    have e4 : 5 - (l + 1) = 4 - l := by omega
    unfold eF
    cases hb : set.testBit l with
    | false =>
      simp only [Bool.false_eq_true, if_false]
      constructor
      · rintro ⟨c, h1, h2⟩
        unfold eM at h2
        rw [hb, if_neg (by decide), Nat.or_zero] at h2
        refine (ih (l + 1) acc (by omega)).mp ⟨c % 4 ^ (4 - l), by rw [e4]; exact Nat.mod_lt _ hp, ?_⟩
        rw [← h2]
        exact eM_cg m (l + 1) acc (by omega) (by rw [e4, Nat.mod_mod])
      · intro h
        obtain ⟨c, h1, h2⟩ := (ih (l + 1) acc (by omega)).mpr h
        rw [e4] at h1
        refine ⟨c, by rw [e5]; omega, ?_⟩
        unfold eM
        rw [hb, if_neg (by decide), Nat.or_zero]
        exact h2
    | true =>
      simp only [if_true]
      constructor
      · rintro ⟨c, h1, h2⟩
        unfold eM at h2
        rw [hb, if_pos rfl] at h2
        refine ⟨c / 4 ^ (4 - l) % 4, Nat.mod_lt _ (by decide), (ih (l + 1) _ (by omega)).mp ⟨c % 4 ^ (4 - l), by rw [e4]; exact Nat.mod_lt _ hp, ?_⟩⟩
        rw [← h2]
        exact eM_cg m (l + 1) _ (by omega) (by rw [e4, Nat.mod_mod])
      · rintro ⟨d, hd, h⟩
        obtain ⟨c, h1, h2⟩ := (ih (l + 1) _ (by omega)).mpr h
        rw [e4] at h1
        have ed : (c + 4 ^ (4 - l) * d) / 4 ^ (4 - l) = d := by rw [Nat.add_mul_div_left _ _ hp, Nat.div_eq_of_lt h1, Nat.zero_add]
        refine ⟨c + 4 ^ (4 - l) * d, ?_, ?_⟩
        · rw [e5]
          have : 4 ^ (4 - l) * d + 4 ^ (4 - l) ≤ 4 ^ (4 - l) * 4 := by rw [← Nat.mul_succ]; exact Nat.mul_le_mul_left _ hd
          omega
        · unfold eM
          rw [hb, if_pos rfl, ed, Nat.mod_eq_of_lt hd, ← h2]
          exact eM_cg m (l + 1) _ (by omega) (by rw [e4, Nat.add_mul_mod_self_left])
noncomputable def okF (s : Nat → Nat) (set : Nat) : Bool := @decide (eF (sgt s false) set (2 ^ s 3 - 1) 0 (s 4) 0) (Classical.propDecidable _)
theorem okF_t {set : Nat} (h : eF (sgt s false) set (2 ^ s 3 - 1) 0 (s 4) 0) : okF s set = true := by unfold okF; exact @decide_eq_true _ (Classical.propDecidable _) h
theorem okF_f {set : Nat} (h : ¬ eF (sgt s false) set (2 ^ s 3 - 1) 0 (s 4) 0) : okF s set = false := by unfold okF; exact @decide_eq_false _ (Classical.propDecidable _) h
theorem or64 {a b : Nat} (ha : a < 64) (hb : b < 64) : a ||| b < 64 := Nat.or_lt_two_pow (n := 6) ha hb
theorem c_see40 (hN : 3000 ≤ N) (hW : sWF s) {set all a4 : Nat} {a3 : Int32} (hset : set < 32) (hall : all < 64) (ha4 : a4 < 5000) (hR : rF V 4 s) (hq : ∀ l d, l < s 4 → d < 4 → V 195 (4 * l + d) = Int32.ofNat (sgt s false l d)) {r24 : Nat → Int32 → Int32 → Int32 → Int32 → Option Int32} : ∀ m l k rest acc, l + m = s 4 → m < k → acc < 64 → rest < 5000 → fX11_couldSeeAll_40 r24 N 216 (qH g V X) k 0 (Int32.ofNat set) (Int32.ofNat all) a3 (Int32.ofNat a4) (Int32.ofNat rest) (Int32.ofNat acc) (Int32.ofNat l) = if eC (sgt s false) set l m rest acc = all then some (qz true) else r24 0 (Int32.ofNat set) (Int32.ofNat all) a3 (Int32.ofNat (a4 + 1)) := by
  obtain ⟨⟨w0, w0b⟩, ⟨w1, w1b⟩, w2, w3, w4, w5, w95, w113, w101, w129, w134⟩ := id hW
  have f4 : V 4 4 = Int32.ofNat (s 4) := hR.2.2.2.2.1
  intro m
  induction m with
  | zero =>
    intro l k rest acc hi hk hacc hrest
    obtain ⟨k, rfl⟩ : ∃ j, k = j + 1 := ⟨k - 1, by omega⟩
    unfold fX11_couldSeeAll_40 eC
    rw [c0_1, Option.bind_some, c4_g4, Option.bind_some, f4, if_pos (by rw [qle (by omega) (by omega)]; omega), l1', qadd]
    by_cases h : acc = all
    · rw [if_pos (by rw [h]), if_pos h]; rfl
    · rw [if_neg (by rw [qeq (by omega) (by omega)]; exact h), if_neg h]
  | succ m ih =>
    intro l k rest acc hi hk hacc hrest
    obtain ⟨k, rfl⟩ : ∃ j, k = j + 1 := ⟨k - 1, by omega⟩
    have hbc : zishr (Int32.ofNat set) (Int32.ofNat l) &&& 1 = Int32.ofNat (set.testBit l).toNat := by
      rw [qshr (by omega) (by omega), l1', qand, show set / 2 ^ l &&& 1 = set / 2 ^ l % 2 from Nat.and_two_pow_sub_one_eq_mod _ 1, Nat.toNat_testBit]
    have hr3 : Int32.ofNat rest &&& 3 = Int32.ofNat (rest % 4) := by
      rw [show (3 : Int32) = Int32.ofNat 3 from rfl, qand, show rest &&& 3 = rest % 4 from Nat.and_two_pow_sub_one_eq_mod _ 2]
    have hr2 : zishr (Int32.ofNat rest) 2 = Int32.ofNat (rest / 4) := by
      rw [show (2 : Int32) = Int32.ofNat 2 from rfl, qshr (by omega) (by omega)]
    have hm : rest % 4 < 4 := Nat.mod_lt _ (by decide)
    have hat : fX11_at N 216 (qH g V X) 195 (Int32.ofNat (4 * l + rest % 4)) = some (V 195 (4 * l + rest % 4)) := e_at qk_195 (by omega) (by omega)
    unfold fX11_couldSeeAll_40 fX11_couldSeeAll_89 eC
    rw [c0_1, Option.bind_some, c4_g4, Option.bind_some, f4, if_neg (by rw [qle (by omega) (by omega)]; omega), hbc]
    cases hb : set.testBit l with
    | false =>
      simp only [Bool.false_eq_true, if_false]
      rw [if_neg (by decide), l1', qadd]
      exact ih (l + 1) k rest acc (by omega) (by omega) hacc hrest
    | true =>
      have := sgt_lt hW (now := false) (l := l) (d := rest % 4)
      rw [if_pos (by decide), if_pos rfl, q0_g13, Option.bind_some, hr3, show (4 : Int32) = Int32.ofNat 4 from rfl, qmul, qadd, hat, Option.bind_some, hq l (rest % 4) (by omega) hm, hr2, qor, l1', qadd]
      exact ih (l + 1) k (rest / 4) _ (by omega) (by omega) (or64 hacc this) (by omega)
theorem eN_le {set : Nat} : ∀ m l, eN set l m ≤ m := by
  intro m
  induction m with
  | zero => intro l; exact Nat.le_refl 0
  | succ m ih => intro l; unfold eN; have := ih (l + 1); split <;> omega
theorem pop_eN {L set : Nat} (hL : L ≤ 5) (hs : set < 2 ^ L) : pop set = eN set 0 L := by
  have h : ∀ L, L < 6 → ∀ set, set < 2 ^ L → pop set = eN set 0 L := by decide +kernel
  exact h L (by omega) set hs
theorem c_see24 (hN : 3000 ≤ N) (hW : sWF s) {set all c : Nat} (hset : set < 32) (hall : all < 64) (hc : c ≤ 1024) (hR : rF V 4 s) (hq : ∀ l d, l < s 4 → d < 4 → V 195 (4 * l + d) = Int32.ofNat (sgt s false l d)) : ∀ m i k, i + m = c → m < k → ∃ b : Bool, fX11_couldSeeAll_24 N 216 (qH g V X) k 0 (Int32.ofNat set) (Int32.ofNat all) (Int32.ofNat c) (Int32.ofNat i) = some (qz b) ∧ (b = true ↔ ∃ way, i ≤ way ∧ way < c ∧ eC (sgt s false) set 0 (s 4) way 0 = all) := by
  obtain ⟨⟨w0, w0b⟩, ⟨w1, w1b⟩, w2, w3, w4, w5, w95, w113, w101, w129, w134⟩ := id hW
  intro m
  induction m with
  | zero =>
    intro i k hi hk
    obtain ⟨k, rfl⟩ : ∃ j, k = j + 1 := ⟨k - 1, by omega⟩
    unfold fX11_couldSeeAll_24
    rw [if_pos (by rw [qle (by omega) (by omega)]; omega)]
    exact ⟨false, rfl, by simp; omega⟩
  | succ m ih =>
    intro i k hi hk
    obtain ⟨k, rfl⟩ : ∃ j, k = j + 1 := ⟨k - 1, by omega⟩
    obtain ⟨b, h1, h2⟩ := ih (i + 1) k (by omega) (by omega)
    unfold fX11_couldSeeAll_24
    rw [if_neg (by rw [qle (by omega) (by omega)]; omega), l0, c_see40 hN hW hset hall (by omega) hR hq (s 4) 0 N i 0 (by omega) (by omega) (by omega) (by omega)]
    by_cases h : eC (sgt s false) set 0 (s 4) i 0 = all
    · rw [if_pos h]
      exact ⟨true, rfl, by simp; exact ⟨i, by omega, by omega, h⟩⟩
    · rw [if_neg h, h1]
      refine ⟨b, rfl, h2.trans ⟨fun ⟨w, a1, a2, a3⟩ => ⟨w, by omega, a2, a3⟩, fun ⟨w, a1, a2, a3⟩ => ⟨w, ?_, a2, a3⟩⟩⟩
      rcases Nat.lt_or_ge i w with h4 | h4
      · omega
      · exact absurd (by rw [show i = w by omega]; exact a3) h
theorem c_see (hN : 3000 ≤ N) (hs : sOK s) {set : Nat} (hset : set < 2 ^ s 4) (hR : rF V 4 s) (hq : ∀ l d, l < s 4 → d < 4 → V 195 (4 * l + d) = Int32.ofNat (sgt s false l d)) : fX11_couldSeeAll N 216 (qH g V X) 0 (Int32.ofNat set) = some (qz (okF s set)) := by
  obtain ⟨hW, hD, hG, h9⟩ := hs
  obtain ⟨⟨w0, w0b⟩, ⟨w1, w1b⟩, w2, w3, w4, w5, w95, w113, w101, w129, w134⟩ := id hW
  have f3 : V 4 3 = Int32.ofNat (s 3) := hR.2.2.2.1
  have h25 : 2 ^ s 4 ≤ 2 ^ 5 := Nat.pow_le_pow_right (by decide) w4
  have h26 : 2 ^ s 3 ≤ 2 ^ 6 := Nat.pow_le_pow_right (by decide) w3
  have h1 : 1 ≤ 2 ^ s 3 := Nat.pow_pos (by decide)
  have hp := pop_le w4 hset
  have hp4 : 4 ^ pop set ≤ 4 ^ 5 := Nat.pow_le_pow_right (by decide) (by omega)
  have e4 : 2 ^ (2 * pop set) = 4 ^ pop set := by rw [Nat.pow_mul]
  obtain ⟨b, a1, a2⟩ := c_see24 (g := g) (X := X) hN hW (set := set) (all := 2 ^ s 3 - 1) (c := 4 ^ pop set) (by omega) (by omega) (by omega) hR hq (4 ^ pop set) 0 N (by omega) (by omega)
  have hex := eC_ex (sg := sgt s false) (set := set) (all := 2 ^ s 3 - 1) (s 4) 0 0
  rw [← pop_eN w4 hset] at hex
  have hb : b = okF s set := by
    cases b with
    | true =>
      obtain ⟨w, _, w1, w2⟩ := a2.mp rfl
      exact (okF_t (hex.mp ⟨w, w1, w2⟩)).symm
    | false =>
      refine (okF_f (fun h => ?_)).symm
      obtain ⟨w, w1, w2⟩ := hex.mpr h
      have := a2.mpr ⟨w, by omega, w1, w2⟩
      cases this
  unfold fX11_couldSeeAll
  rw [c0_1, Option.bind_some, c4_g3, Option.bind_some, f3, c_bits (by omega), Option.bind_some, l1', qshl1 (by omega), qsub h1, show (2 : Int32) = Int32.ofNat 2 from rfl, qmul, qshl1 (by omega), e4, l0, a1, hb]
theorem m_sideIn {f : zF} {code l : Nat} (hc : code < 1024) (hl : l ≤ 4) : fX12_sideIn N 216 f (Int32.ofNat code) (Int32.ofNat l) = some (Int32.ofNat (code / 4 ^ (4 - l) % 4)) := by
  unfold fX12_sideIn
  have e : 2 ^ (8 - 2 * l) = 4 ^ (4 - l) := by rw [show 8 - 2 * l = 2 * (4 - l) by omega, Nat.pow_mul]
  rw [show (8 : Int32) = Int32.ofNat 8 from rfl, show (2 : Int32) = Int32.ofNat 2 from rfl, qmul, qsub (by omega), qshr (by omega) (by omega), show (3 : Int32) = Int32.ofNat 3 from rfl, qand, e, show code / 4 ^ (4 - l) &&& 3 = code / 4 ^ (4 - l) % 4 from Nat.and_two_pow_sub_one_eq_mod _ 2]
theorem m_covered5 (hN : 3000 ≤ N) (hM : rM V s) (hW : sWF s) (hD : sWD s) {set code : Nat} (hset : set < 32) (hc : code < 1024) : ∀ m l k acc, l + m = s 4 → m < k → acc < 64 → fX12_coveredBy_5 N 216 (qH g V X) k 196 (Int32.ofNat set) (Int32.ofNat code) (Int32.ofNat acc) (Int32.ofNat l) = some (Int32.ofNat (eM (sgt s false) set code l m acc)) ∧ eM (sgt s false) set code l m acc < 64 := by
  obtain ⟨⟨w0, w0b⟩, ⟨w1, w1b⟩, w2, w3, w4, w5, w95, w113, w101, w129, w134⟩ := id hW
  intro m
  induction m with
  | zero =>
    intro l k acc hi hk hacc
    obtain ⟨k, rfl⟩ : ∃ j, k = j + 1 := ⟨k - 1, by omega⟩
    unfold fX12_coveredBy_5 eM
    rw [q196_g6, Option.bind_some, show (4 : Int32) = Int32.ofNat 4 from rfl, m_ld hM (by omega), Option.bind_some, if_pos (by rw [qle (by omega) (by omega)]; omega)]
    exact ⟨rfl, hacc⟩
  | succ m ih =>
    intro l k acc hi hk hacc
    obtain ⟨k, rfl⟩ : ∃ j, k = j + 1 := ⟨k - 1, by omega⟩
    have hbt : decide (set / 2 ^ l % 2 = 1) = set.testBit l := (Nat.testBit_eq_decide_div_mod_eq).symm
    have hd := hD.2.2.2.2.1 l (by omega)
    unfold fX12_coveredBy_5 fX12_coveredBy_51 eM
    rw [q196_g6, Option.bind_some, show (4 : Int32) = Int32.ofNat 4 from rfl, m_ld hM (by omega), Option.bind_some, if_neg (by rw [qle (by omega) (by omega)]; omega), m_bitOf (by omega) (by omega), Option.bind_some, hbt]
    cases hb : set.testBit l with
    | false =>
      rw [if_pos qzf, if_neg (by decide), l0, qor, l1', qadd]
      exact ih (l + 1) k _ (by omega) (by omega) (by rw [Nat.or_zero]; exact hacc)
    | true =>
      have hsg := sgt_lt hW (now := false) (l := l) (d := code / 4 ^ (4 - l) % 4)
      have e1 : sgt s false l (code / 4 ^ (4 - l) % 4) = sSeen s (s (159 + l)) (code / 4 ^ (4 - l) % 4) := rfl
      rw [if_neg qzt, if_pos rfl, Option.bind_some, show (159 : Int32) = Int32.ofNat 159 from rfl, qadd, m_ld hM (by omega), Option.bind_some, m_sideIn hc (by omega), Option.bind_some, q196_c, Option.bind_some, m_figuresTo hN hM hW hD hd (Nat.mod_lt _ (by decide)), Option.bind_some, qor, l1', qadd, e1]
      exact ih (l + 1) k _ (by omega) (by omega) (or64 hacc (by rw [← e1]; exact hsg))
theorem m_covered (hN : 3000 ≤ N) (hM : rM V s) (hW : sWF s) (hD : sWD s) {set code : Nat} (hset : set < 32) (hc : code < 1024) : fX12_coveredBy N 216 (qH g V X) 196 (Int32.ofNat set) (Int32.ofNat code) = some (Int32.ofNat (eM (sgt s false) set code 0 (s 4) 0)) ∧ eM (sgt s false) set code 0 (s 4) 0 < 64 := by
  have hw4 := hW.2.2.2.2.1
  unfold fX12_coveredBy
  exact m_covered5 hN hM hW hD hset hc (s 4) 0 N 0 (by omega) (by omega) (by omega)
theorem m_enough2 (hN : 3000 ≤ N) (hM : rM V s) (hW : sWF s) (hD : sWD s) {set : Nat} (hset : set < 32) : ∀ m i k, i + m = 1024 → m < k → ∃ b : Bool, fX12_isEnough_2 N 216 (qH g V X) k 196 (Int32.ofNat set) (Int32.ofNat i) = some (qz b) ∧ (b = true ↔ ∃ code, i ≤ code ∧ code < 1024 ∧ eM (sgt s false) set code 0 (s 4) 0 = 2 ^ s 3 - 1) := by
  obtain ⟨⟨w0, w0b⟩, ⟨w1, w1b⟩, w2, w3, w4, w5, w95, w113, w101, w129, w134⟩ := id hW
  have h26 : 2 ^ s 3 ≤ 2 ^ 6 := Nat.pow_le_pow_right (by decide) w3
  have h1 : 1 ≤ 2 ^ s 3 := Nat.pow_pos (by decide)
  intro m
  induction m with
  | zero =>
    intro i k hi hk
    obtain ⟨k, rfl⟩ : ∃ j, k = j + 1 := ⟨k - 1, by omega⟩
    unfold fX12_isEnough_2
    rw [if_pos (by rw [show (1024 : Int32) = Int32.ofNat 1024 from rfl, qle (by omega) (by omega)]; omega)]
    exact ⟨false, rfl, by simp; omega⟩
  | succ m ih =>
    intro i k hi hk
    obtain ⟨k, rfl⟩ : ∃ j, k = j + 1 := ⟨k - 1, by omega⟩
    obtain ⟨b, h2, h3⟩ := ih (i + 1) k (by omega) (by omega)
    obtain ⟨c1, c2⟩ := m_covered (g := g) (V := V) (X := X) hN hM hW hD hset (code := i) (by omega)
    unfold fX12_isEnough_2
    rw [if_neg (by rw [show (1024 : Int32) = Int32.ofNat 1024 from rfl, qle (by omega) (by omega)]; omega), q196_c, Option.bind_some, c1, Option.bind_some, q196_g6, Option.bind_some, show (3 : Int32) = Int32.ofNat 3 from rfl, m_ld hM (by omega), Option.bind_some, l1', qshl1 (by omega), qsub h1]
    by_cases h : eM (sgt s false) set i 0 (s 4) 0 = 2 ^ s 3 - 1
    · rw [if_pos (by rw [h])]
      exact ⟨true, rfl, by simp; exact ⟨i, by omega, by omega, h⟩⟩
    · rw [if_neg (by rw [qeq (by omega) (by omega)]; exact h), qadd, h2]
      refine ⟨b, rfl, h3.trans ⟨fun ⟨w, a1, a2, a3⟩ => ⟨w, by omega, a2, a3⟩, fun ⟨w, a1, a2, a3⟩ => ⟨w, ?_, a2, a3⟩⟩⟩
      rcases Nat.lt_or_ge i w with h4 | h4
      · omega
      · exact absurd (by rw [show i = w by omega]; exact a3) h
theorem m_enough (hN : 3000 ≤ N) (hM : rM V s) (hW : sWF s) (hD : sWD s) {set : Nat} (hset : set < 2 ^ s 4) : fX12_isEnough N 216 (qH g V X) 196 (Int32.ofNat set) = some (qz (okF s set)) := by
  have hw4 := hW.2.2.2.2.1
  have h25 : 2 ^ s 4 ≤ 2 ^ 5 := Nat.pow_le_pow_right (by decide) hw4
  obtain ⟨b, a1, a2⟩ := m_enough2 (g := g) (V := V) (X := X) hN hM hW hD (set := set) (by omega) 1024 0 N (by omega) (by omega)
  have hex := eM_ex (sg := sgt s false) (set := set) (all := 2 ^ s 3 - 1) (s 4) 0 0 (by omega)
  have hb : b = okF s set := by
    cases b with
    | true =>
      obtain ⟨w, _, w1, w2⟩ := a2.mp rfl
      exact (okF_t (hex.mp ⟨w, w1, w2⟩)).symm
    | false =>
      refine (okF_f (fun h => ?_)).symm
      obtain ⟨w, w1, w2⟩ := hex.mpr h
      have := a2.mpr ⟨w, by omega, w1, w2⟩
      cases this
  unfold fX12_isEnough
  rw [l0, a1, hb]
theorem c_few20 (hN : 3000 ≤ N) (hs : sOK s) (hR : rF V 4 s) (hq : ∀ l d, l < s 4 → d < 4 → V 195 (4 * l + d) = Int32.ofNat (sgt s false l d)) {many : Nat} (hm : many < 10) {r7 : zF → Nat → Int32 → Option (zF × Int32)} : ∀ j i k, i + j = 2 ^ s 4 → j < k →
    fX11_few_20 r7 N 216 k (qH g V X) 0 (Int32.ofNat many) (Int32.ofNat i) = match qfnd (fun v => decide (pop v = many) && okF s v) i j with
    | some b => some (qH g (qw V 191 (upd (V 191) 3 (Int32.ofNat b))) X, Int32.ofNat many)
    | none => r7 (qH g V X) 0 (Int32.ofNat (many + 1)) := by
  have hw4 := hs.1.2.2.2.2.1
  have h25 : 2 ^ s 4 ≤ 2 ^ 5 := Nat.pow_le_pow_right (by decide) hw4
  have f4 : V 4 4 = Int32.ofNat (s 4) := hR.2.2.2.2.1
  intro j
  induction j with
  | zero =>
    intro i k hi hk
    obtain ⟨k, rfl⟩ : ∃ j, k = j + 1 := ⟨k - 1, by omega⟩
    unfold qfnd fX11_few_20
    rw [c0_1, Option.bind_some, c4_g4, Option.bind_some, f4, l1', qshl1 (by omega), if_pos (by rw [qle (by omega) (by omega)]; omega), qadd]
  | succ j ih =>
    intro i k hi hk
    obtain ⟨k, rfl⟩ : ∃ j, k = j + 1 := ⟨k - 1, by omega⟩
    have hp := pop_6 (v := i)
    have hc0 : ∀ {α : Type} (a b : α), (if Int32.ofNat (2 ^ s 4) ≤ Int32.ofNat i then a else b) = b := fun a b => if_neg (by rw [qle (by omega) (by omega)]; omega)
    unfold qfnd fX11_few_20 fX11_few_59
    rw [c0_1, Option.bind_some, c4_g4, Option.bind_some, f4, l1', qshl1 (by omega), hc0, c_bits (by omega), Option.bind_some]
    by_cases h1 : pop i = many
    · have hc1 : ∀ {α : Type} (a b : α), (if Int32.ofNat (pop i) = Int32.ofNat many then a else b) = a := fun a b => if_pos (by rw [h1])
      rw [hc1, q0_c, Option.bind_some, c_see hN hs (by omega) hR hq, Option.bind_some, decide_eq_true h1, Bool.true_and]
      cases hok : okF s i with
      | true =>
        rw [if_pos rfl, if_neg qzt, q0_g12, Option.bind_some, q191_p3, Option.bind_some]
      | false =>
        simp only [Bool.false_eq_true, if_false]
        rw [if_pos qzf, qadd]
        exact ih (i + 1) k (by omega) (by omega)
    · have hc1 : ∀ {α : Type} (a b : α), (if Int32.ofNat (pop i) = Int32.ofNat many then a else b) = b := fun a b => if_neg (by rw [qeq (by omega) (by omega)]; exact h1)
      rw [hc1, decide_eq_false h1, Bool.false_and, if_neg (by decide), qadd]
      exact ih (i + 1) k (by omega) (by omega)
theorem c_few7 (hN : 3000 ≤ N) (hs : sOK s) (hR : rF V 4 s) (hq : ∀ l d, l < s 4 → d < 4 → V 195 (4 * l + d) = Int32.ofNat (sgt s false l d)) : ∀ m many k, many + m = s 4 + 1 → m < k →
    fX11_few_7 N 216 k (qH g V X) 0 (Int32.ofNat many) = match cBest (okF s) (2 ^ s 4) many m with
    | some b => some (qH g (qw V 191 (upd (V 191) 3 (Int32.ofNat b))) X, Int32.ofNat (pop b))
    | none => some (qH g V X, -1) := by
  have hw4 := hs.1.2.2.2.2.1
  have h25 : 2 ^ s 4 ≤ 2 ^ 5 := Nat.pow_le_pow_right (by decide) hw4
  have f4 : V 4 4 = Int32.ofNat (s 4) := hR.2.2.2.2.1
  intro m
  induction m with
  | zero =>
    intro many k hi hk
    obtain ⟨k, rfl⟩ : ∃ j, k = j + 1 := ⟨k - 1, by omega⟩
    unfold cBest fX11_few_7
    rw [c0_1, Option.bind_some, c4_g4, Option.bind_some, f4, if_pos (by rw [qlt (by omega) (by omega)]; omega)]
  | succ m ih =>
    intro many k hi hk
    obtain ⟨k, rfl⟩ : ∃ j, k = j + 1 := ⟨k - 1, by omega⟩
    have h20 := c_few20 (g := g) (X := X) hN hs hR hq (many := many) (by omega) (r7 := fX11_few_7 N 216 k) (2 ^ s 4) 0 N (by omega) (by omega)
    unfold cBest fX11_few_7
    rw [c0_1, Option.bind_some, c4_g4, Option.bind_some, f4, if_neg (by rw [qlt (by omega) (by omega)]; omega), l0, h20]
    cases e : qfnd (fun v => decide (pop v = many) && okF s v) 0 (2 ^ s 4) with
    | some b =>
      obtain ⟨e1, e2, e3⟩ := qfnd_lt e
      rw [Bool.and_eq_true] at e3
      dsimp only
      rw [of_decide_eq_true e3.1]
    | none => exact ih (many + 1) k (by omega) (by omega)
theorem m_few9 (hN : 3000 ≤ N) (hM : rM V s) (hW : sWF s) (hD : sWD s) : ∀ j i k o, i + j = 2 ^ s 4 → j < k → (∀ b, o = some b → b < 2 ^ s 4) →
    fX12_few_9 N 216 k (qH g V X) 196 (qo o) (Int32.ofNat i) = match mBest (okF s) o i j with
    | some b => some (qH g (qw V 196 (upd (upd (V 196) 29 (Int32.ofNat 1)) 28 (Int32.ofNat b))) X, Int32.ofNat (pop b))
    | none => some (qH g V X, -1) := by
  obtain ⟨⟨w0, w0b⟩, ⟨w1, w1b⟩, w2, w3, w4, w5, w95, w113, w101, w129, w134⟩ := id hW
  have h25 : 2 ^ s 4 ≤ 2 ^ 5 := Nat.pow_le_pow_right (by decide) w4
  intro j
  induction j with
  | zero =>
    intro i k o hi hk ho
    obtain ⟨k, rfl⟩ : ∃ j, k = j + 1 := ⟨k - 1, by omega⟩
    unfold mBest fX12_few_9
    rw [q196_g6, Option.bind_some, show (4 : Int32) = Int32.ofNat 4 from rfl, m_ld hM (by omega), Option.bind_some, l1', qshl1 (by omega), if_pos (by rw [qle (by omega) (by omega)]; omega)]
    cases o with
    | none => rw [if_neg (by decide)]
    | some b =>
      have hb2 := ho b rfl
      rw [qo_some, if_pos (q0le (by omega)), q196_p29 (Int32.ofNat 1) (Or.inr rfl), Option.bind_some, q196_p28, Option.bind_some, m_bits hN (by omega), Option.bind_some, qw_s, qw_qw]
  | succ j ih =>
    intro i k o hi hk ho
    obtain ⟨k, rfl⟩ : ∃ j, k = j + 1 := ⟨k - 1, by omega⟩
    have hpi := pop_6 (v := i)
    have h36 : ∀ o2, fX12_few_36 (fX12_few_9 N 216 k) N 216 (qH g V X) 196 (qo o2) (Int32.ofNat i) = fX12_few_9 N 216 k (qH g V X) 196 (qo (if okF s i then some i else o2)) (Int32.ofNat (i + 1)) := by
      intro o2
      unfold fX12_few_36 fX12_few_46
      rw [q196_c, Option.bind_some, m_enough hN hM hW hD (by omega), Option.bind_some]
      cases okF s i with
      | true => rw [if_neg qzt, l1', qadd]; rfl
      | false => rw [if_pos qzf, l1', qadd]; rfl
    have hpre : fX12_few_9 N 216 (k + 1) (qH g V X) 196 (qo o) (Int32.ofNat i) = (if qo o < 0 then (fX12_few_36 (fX12_few_9 N 216 k) N 216 (qH g V X) 196 (qo o) (Int32.ofNat i)) else ((fX12_bits N 216 (qH g V X) (Int32.ofNat i)).bind fun x8 => ((fX12_bits N 216 (qH g V X) (qo o)).bind fun x9 => (if x9 ≤ x8 then (fX12_few_46 (fX12_few_9 N 216 k) N 216 (qH g V X) 196 (qo o) (Int32.ofNat i)) else (fX12_few_36 (fX12_few_9 N 216 k) N 216 (qH g V X) 196 (qo o) (Int32.ofNat i)))))) := by
      conv => lhs; unfold fX12_few_9
      rw [q196_g6, Option.bind_some, show (4 : Int32) = Int32.ofNat 4 from rfl, m_ld hM (by omega), Option.bind_some, l1', qshl1 (by omega), if_neg (by rw [qle (by omega) (by omega)]; omega)]
    rw [hpre]
    cases o with
    | none =>
      rw [if_pos (by decide), h36]
      conv => rhs; unfold mBest
      simp only [Bool.true_and]
      refine ih (i + 1) k _ (by omega) (by omega) ?_
      intro b hb; split at hb <;> cases hb; omega
    | some b =>
      have hb2 := ho b rfl
      have hpb := pop_6 (v := b)
      have h36b := h36 (some b)
      rw [qo_some] at h36b ⊢
      rw [if_neg (Int32.ofNat_not_neg (by omega)), m_bits hN (by omega), Option.bind_some, m_bits hN (by omega), Option.bind_some]
      conv => rhs; unfold mBest
      by_cases hlt : pop i < pop b
      · rw [if_neg (by rw [qle (by omega) (by omega)]; omega), h36b]
        simp only [hlt, decide_true, Bool.true_and]
        refine ih (i + 1) k _ (by omega) (by omega) ?_
        intro b2 hb3; split at hb3 <;> cases hb3 <;> omega
      · rw [if_pos (by rw [qle (by omega) (by omega)]; omega)]
        unfold fX12_few_46
        simp only [hlt, decide_false, Bool.false_and, Bool.false_eq_true, if_false]
        rw [l1', qadd]
        exact ih (i + 1) k (some b) (by omega) (by omega) ho
theorem s_20 (hN : 3000 ≤ N) {f : zF} (hI : Inv f) : ∃ f2, zlc20 N 216 f = some f2 ∧ Inv f2 := by
  obtain ⟨g, V, X, s, rfl, hg, hJ⟩ := hI
  obtain ⟨⟨⟨hW, hD, hG, h9⟩, hWL, hR, hL, hS, hM, hNs, hNm⟩, hU, hR2⟩ := id hJ
  unfold zlc20
  obtain ⟨⟨w0, w0b⟩, ⟨w1, w1b⟩, w2, w3, w4, w5, w95, w113, w101, w129, w134⟩ := id hW
  have h25 : 2 ^ s 4 ≤ 2 ^ 5 := Nat.pow_le_pow_right (by decide) w4
  obtain ⟨jt, jw, jg, ji0, ji1, jc, jf, jb, jx, jl, jd⟩ := id hR2
  obtain ⟨W, a1, a2, a3⟩ := c_mark (g := g) (X := X) hN hJ.1.1 (now := false) hR hS
  have hcl := c_few7 (g := g) (X := X) hN hJ.1.1 (hR.fr a2 (Or.inl (by omega))) a3 (s 4 + 1) 0 N (by omega) (by omega)
  rw [best_same w4] at hcl
  have hc : fX11_few N 216 (qH g V X) 0 = fX11_few_7 N 216 N (qH g W X) 0 (Int32.ofNat 0) := by
    unfold fX11_few
    rw [q0_c, Option.bind_some, show (0 : Int32) = qz false from rfl, a1, Option.bind_some]
    rfl
  have hm : ∀ W2, fX12_few N 216 (qH g W2 X) 196 = fX12_few_9 N 216 N (qH g (qT W2) X) 196 (qo none) (Int32.ofNat 0) := by
    intro W2
    unfold fX12_few
    rw [m_thr0, Option.bind_some, show (-1 : Int32) = qo none from rfl, l0]
  cases hb : mBest (okF s) none 0 (2 ^ s 4) with
  | none =>
    rw [hb] at hcl
    have hMW : rM W s := fun i hi => by rw [a2 198 (by omega)]; exact hM i hi
    have h9' := m_few9 (g := g) (X := X) (V := qT W) hN hMW.thr hW hD (2 ^ s 4) 0 N none (by omega) (by omega) (fun b hb => by cases hb)
    rw [hb] at h9'
    refine cstep (o1 := fX11_few N 216 (qH g V X) 0) (m := fun ff => fX12_few N 216 ff 196) (V1 := W) (X1 := X) (V2 := qT W) (X2 := X) (r := -1) (s := s) hg (by rw [hc, hcl]) (by rw [hm, h9']) (jA.thr (look_fin hJ (fun b j hb hb2 => by unfold scr at hb; rw [a2 b (by omega)]) hMW))
  | some b =>
    rw [hb] at hcl
    have e1 : ∀ b', b' ≠ 195 → b' ≠ 191 → (qw W 191 (upd (W 191) 3 (Int32.ofNat b))) b' = V b' := fun b' h1 h2 => by rw [qw_n h2, a2 b' (by omega)]
    have hMW : rM (qw W 191 (upd (W 191) 3 (Int32.ofNat b))) s := fun i hi => by rw [e1 198 (by omega) (by omega)]; exact hM i hi
    have h9' := m_few9 (g := g) (X := X) (V := qT (qw W 191 (upd (W 191) 3 (Int32.ofNat b)))) hN hMW.thr hW hD (2 ^ s 4) 0 N none (by omega) (by omega) (fun b hb => by cases hb)
    rw [hb] at h9'
    obtain ⟨Z, hZ⟩ : ∃ Z, Z = qw (qT (qw W 191 (upd (W 191) 3 (Int32.ofNat b)))) 196 (upd (upd (qT (qw W 191 (upd (W 191) 3 (Int32.ofNat b))) 196) 29 (Int32.ofNat 1)) 28 (Int32.ofNat b)) := ⟨_, rfl⟩
    have e : ∀ b' j, ¬ scr b' j → ¬ (b' = 191 ∧ j = 3) → ¬ (b' = 196 ∧ (j = 28 ∨ j = 29)) → Z b' j = V b' j := by
      intro b' j h1 h3 h4
      unfold scr at h1
      rw [hZ]
      by_cases e6 : b' = 196
      · subst e6
        rw [qw_s, upd_n (by omega), upd_n (by omega), qT_j (by omega), e1 196 (by omega) (by omega)]
      · rw [qw_n e6, qT_n e6]
        by_cases e1' : b' = 191
        · subst e1'; rw [qw_s, upd_n (by omega), a2 191 (by omega)]
        · rw [e1 b' (by omega) e1']
    refine cstep (o1 := fX11_few N 216 (qH g V X) 0) (m := fun ff => fX12_few N 216 ff 196) (X1 := X) (V2 := Z) (X2 := X) (r := Int32.ofNat (pop b)) (s := s) hg (by rw [hc, hcl]) (by rw [hm, h9', hZ]) ⟨hJ.1.pt (fun b' j h => e b' j (by unfold scr; omega) (by omega) (by omega)) (fun _ _ _ => rfl), hU.pt sEq.rf (fun b' j h => e b' j (by unfold scr; omega) (by omega) (by omega)),
      jt.pt (fun b' j h => e b' j (by unfold scr; omega) (by omega) (by omega)), jw, jg.pt (fun b' j h => e b' j (by unfold scr; omega) (by omega) (by omega)), ji0.pt (fun b' j h => e b' j (by unfold scr; omega) (by omega) (by omega)) (fun _ _ _ => rfl), ji1.pt (fun b' j h => e b' j (by unfold scr; omega) (by omega) (by omega)) (fun _ _ _ => rfl), jc.pt (fun b' j h => e b' j (by unfold scr; omega) (by omega) (by omega)), Or.inr ⟨?_, ?_⟩, jb.pt (fun b' j h => e b' j (by unfold scr; omega) (by omega) (by omega)), jx.pt (fun b' j h => e b' j (by unfold scr; omega) (by omega) (by omega)), jl.pt (fun b' j h => e b' j (by unfold scr; omega) (by omega) (by omega)), jd.pt (fun b' j h => e b' j (by unfold scr; omega) (by omega) (by omega))⟩
    · rw [hZ, qw_n (by omega), qT_n (by omega), qw_s, upd_s, qw_s, upd_s]
    · rw [hZ, qw_s, upd_n (by omega), upd_s]
end QFW
