/-! cover -/
section QCV
variable {g : zF} {V W K : Nat → Nat → Int32} {X : Nat → Nat → Int64} {N : Nat} {s t u : Nat → Nat}
def eW (sg : Nat → Nat → Nat) (dig : Nat → Nat) : Nat → Nat → Nat → Nat
  | _, 0, acc => acc
  | l, m + 1, acc => eW sg dig (l + 1) m (acc ||| sg l (dig l))
theorem eW_cg {sg : Nat → Nat → Nat} {d1 d2 : Nat → Nat} : ∀ m l acc, (∀ k, l ≤ k → k < l + m → d1 k = d2 k) → eW sg d1 l m acc = eW sg d2 l m acc := by
  intro m
  induction m with
  | zero => intro l acc h; rfl
  | succ m ih =>
    intro l acc h
    unfold eW
    rw [h l (by omega) (by omega)]
    exact ih (l + 1) _ (fun k h1 h2 => h k (by omega) (by omega))
theorem eW_lt {sg : Nat → Nat → Nat} {d : Nat → Nat} (h : ∀ l d, sg l d < 64) : ∀ m l acc, acc < 64 → eW sg d l m acc < 64 := by
  intro m
  induction m with
  | zero => intro l acc ha; exact ha
  | succ m ih => intro l acc ha; exact ih (l + 1) _ (or64 ha (h _ _))
theorem eM_W {set code : Nat} : ∀ m l acc, (∀ k, l ≤ k → k < l + m → set.testBit k = sLooks s k) → eM (sgt s false) set code l m acc = eW (sgt s true) (fun l => code / 4 ^ (4 - l) % 4) l m acc := by
  intro m
  induction m with
  | zero => intro l acc h; rfl
  | succ m ih =>
    intro l acc h
    unfold eM eW
    rw [h l (by omega) (by omega), ih (l + 1) _ (fun k h1 h2 => h k (by omega) (by omega))]
    congr 2
    unfold sgt
    cases sLooks s l <;> rfl
/-- the first of the greatest -/
def fB (val : Nat → Nat) : Option Nat → Nat → Nat → Nat → Option Nat × Nat
  | o, b, _, 0 => (o, b)
  | o, b, i, j + 1 => if (match o with | none => true | some m => decide (m < val i)) then fB val (some (val i)) i (i + 1) j else fB val o b (i + 1) j
theorem fB_skip {val : Nat → Nat} {m b : Nat} : ∀ j i r, (∀ c, i ≤ c → c < i + j → val c ≤ m) → fB val (some m) b i (j + r) = fB val (some m) b (i + j) r := by
  intro j
  induction j with
  | zero => intro i r h; rw [Nat.zero_add]; rfl
  | succ j ih =>
    intro i r h
    rw [show j + 1 + r = (j + r) + 1 by omega]
    conv => lhs; unfold fB
    have := h i (by omega) (by omega)
    simp only [show ¬ m < val i by omega, decide_false, Bool.false_eq_true, if_false]
    rw [ih (i + 1) r (fun c h1 h2 => h c (by omega) (by omega)), show i + 1 + j = i + (j + 1) by omega]
theorem fB_block {val : Nat → Nat} {K : Nat} (hK : 0 < K) : ∀ n o b w, fB (fun c => val (c / K)) o (b * K) (w * K) (n * K) = ((fB val o b w n).1, (fB val o b w n).2 * K) := by
  have hd : ∀ w c, w * K ≤ c → c < w * K + K → c / K = w := by
    intro w c h1 h2
    exact Nat.div_eq_of_lt_le h1 (by rw [Nat.add_mul, Nat.one_mul]; exact h2)
  intro n
  induction n with
  | zero => intro o b w; rw [Nat.zero_mul]; rfl
  | succ n ih =>
    intro o b w
    have e1 : (n + 1) * K = (K - 1 + n * K) + 1 := by rw [Nat.add_mul, Nat.one_mul]; omega
    have e2 : w * K + 1 + (K - 1) = (w + 1) * K := by rw [Nat.add_mul, Nat.one_mul]; omega
    have ew : (w * K) / K = w := Nat.mul_div_cancel _ hK
    rw [e1]
    conv => lhs; unfold fB
    conv => rhs; unfold fB
    try dsimp only
    rw [ew]
    have go : ∀ m b2, val w ≤ m → fB (fun c => val (c / K)) (some m) (b2 * K) (w * K + 1) (K - 1 + n * K) = ((fB val (some m) b2 (w + 1) n).1, (fB val (some m) b2 (w + 1) n).2 * K) := by
      intro m b2 hm
      rw [fB_skip (K - 1) (w * K + 1) (n * K) (fun c h1 h2 => by rw [hd w c (by omega) (by omega)]; exact hm), e2]
      exact ih (some m) b2 (w + 1)
    cases o with
    | none =>
      simp only [if_true]
      exact go (val w) w (Nat.le_refl _)
    | some m =>
      by_cases h : m < val w
      · simp only [h, decide_true, if_true]
        exact go (val w) w (Nat.le_refl _)
      · simp only [h, decide_false, Bool.false_eq_true, if_false]
        exact go m b (by omega)
theorem fB_lt {val : Nat → Nat} {M B : Nat} (hv : ∀ i, val i ≤ M) : ∀ j o b i, (∀ m, o = some m → m ≤ M) → i + j ≤ B → (b < B ∨ B = 0) → (∀ m, (fB val o b i j).1 = some m → m ≤ M) ∧ ((fB val o b i j).2 < B ∨ B = 0) := by
  intro j
  induction j with
  | zero => intro o b i h1 h2 h3; exact ⟨h1, h3⟩
  | succ j ih =>
    intro o b i h1 h2 h3
    have c1 := ih (some (val i)) i (i + 1) (fun m h => by cases h; exact hv i) (by omega) (by omega)
    have c2 := ih o b (i + 1) h1 (by omega) h3
    unfold fB
    cases o with
    | none =>
      simp only [if_true]
      exact c1
    | some m =>
      by_cases h : m < val i
      · simp only [h, decide_true, if_true]
        exact c1
      · simp only [h, decide_false, Bool.false_eq_true, if_false]
        exact c2
def vC (s : Nat → Nat) (way : Nat) : Nat := pop (eW (sgt s true) (fun l => way / 4 ^ (s 4 - 1 - l) % 4) 0 (s 4) 0)
theorem c_digit (hN : 3000 ≤ N) (hW : sWF s) (hR : rF V 4 s) {way l : Nat} (hw : way < 2048) (hl : l < s 4) : fX11_digit N 216 (qH g V X) 0 (Int32.ofNat way) (Int32.ofNat l) = some (Int32.ofNat (way / 4 ^ (s 4 - 1 - l) % 4)) := by
  obtain ⟨⟨w0, w0b⟩, ⟨w1, w1b⟩, w2, w3, w4, w5, w95, w113, w101, w129, w134⟩ := id hW
  have f4 : V 4 4 = Int32.ofNat (s 4) := hR.2.2.2.2.1
  have e : 2 ^ (2 * (s 4 - 1 - l)) = 4 ^ (s 4 - 1 - l) := by rw [Nat.pow_mul]
  unfold fX11_digit
  rw [c0_1, Option.bind_some, c4_g4, Option.bind_some, f4, l1', qsub (by omega), qsub (by omega), show (2 : Int32) = Int32.ofNat 2 from rfl, qmul, qshr (by omega) (by omega), show (3 : Int32) = Int32.ofNat 3 from rfl, qand, e, show way / 4 ^ (s 4 - 1 - l) &&& 3 = way / 4 ^ (s 4 - 1 - l) % 4 from Nat.and_two_pow_sub_one_eq_mod _ 2]
theorem c_sights4 (hN : 3000 ≤ N) (hW : sWF s) (hR : rF V 4 s) (hq : ∀ l d, l < s 4 → d < 4 → V 195 (4 * l + d) = Int32.ofNat (sgt s true l d)) {way : Nat} (hw : way < 2048) : ∀ m l k acc, l + m = s 4 → m < k → fX11_sightsOf_4 N 216 (qH g V X) k 0 (Int32.ofNat way) (Int32.ofNat acc) (Int32.ofNat l) = some (Int32.ofNat (eW (sgt s true) (fun l => way / 4 ^ (s 4 - 1 - l) % 4) l m acc)) := by
  obtain ⟨⟨w0, w0b⟩, ⟨w1, w1b⟩, w2, w3, w4, w5, w95, w113, w101, w129, w134⟩ := id hW
  have f4 : V 4 4 = Int32.ofNat (s 4) := hR.2.2.2.2.1
  intro m
  induction m with
  | zero =>
    intro l k acc hi hk
    obtain ⟨k, rfl⟩ : ∃ j, k = j + 1 := ⟨k - 1, by omega⟩
    unfold fX11_sightsOf_4 eW
    rw [c0_1, Option.bind_some, c4_g4, Option.bind_some, f4, if_pos (by rw [qle (by omega) (by omega)]; omega)]
  | succ m ih =>
    intro l k acc hi hk
    obtain ⟨k, rfl⟩ : ∃ j, k = j + 1 := ⟨k - 1, by omega⟩
    have hm : way / 4 ^ (s 4 - 1 - l) % 4 < 4 := Nat.mod_lt _ (by decide)
    have hat : fX11_at N 216 (qH g V X) 195 (Int32.ofNat (4 * l + way / 4 ^ (s 4 - 1 - l) % 4)) = some (V 195 (4 * l + way / 4 ^ (s 4 - 1 - l) % 4)) := e_at qk_195 (by omega) (by omega)
    unfold fX11_sightsOf_4 eW
    rw [c0_1, Option.bind_some, c4_g4, Option.bind_some, f4, if_neg (by rw [qle (by omega) (by omega)]; omega), q0_g13, Option.bind_some, q0_c, Option.bind_some, c_digit hN hW hR hw (by omega), Option.bind_some, show (4 : Int32) = Int32.ofNat 4 from rfl, qmul, qadd, hat, Option.bind_some, hq l _ (by omega) hm, qor, l1', qadd]
    exact ih (l + 1) k _ (by omega) (by omega)
theorem c_cover69 (hN : 3000 ≤ N) (hW : sWF s) {way : Nat} {r : Int32} (hw : way < 2048) : ∀ m l k V, l + m = s 4 → m < k → rF V 4 s → ∃ W, fX11_cover_69 N 216 k (qH g V X) 0 r (Int32.ofNat way) (Int32.ofNat l) = some (qH g W X, r) ∧ qfr V W 192 1 ∧ (∀ j, j < s 4 → W 192 j = if l ≤ j then Int32.ofNat (way / 4 ^ (s 4 - 1 - j) % 4) else V 192 j) := by
  obtain ⟨⟨w0, w0b⟩, ⟨w1, w1b⟩, w2, w3, w4, w5, w95, w113, w101, w129, w134⟩ := id hW
  intro m
  induction m with
  | zero =>
    intro l k V hi hk hR
    obtain ⟨k, rfl⟩ : ∃ j, k = j + 1 := ⟨k - 1, by omega⟩
    have f4 : V 4 4 = Int32.ofNat (s 4) := hR.2.2.2.2.1
    unfold fX11_cover_69
    rw [c0_1, Option.bind_some, c4_g4, Option.bind_some, f4, if_pos (by rw [qle (by omega) (by omega)]; omega)]
    exact ⟨V, rfl, qfr.rf, fun j hj => by rw [if_neg (by omega)]⟩
  | succ m ih =>
    intro l k V hi hk hR
    obtain ⟨k, rfl⟩ : ∃ j, k = j + 1 := ⟨k - 1, by omega⟩
    have f4 : V 4 4 = Int32.ofNat (s 4) := hR.2.2.2.2.1
    have hput : ∀ x, fX11_put N 216 (qH g V X) 192 (Int32.ofNat l) x = some (qH g (qw V 192 (upd (V 192) l x)) X) := fun x => e_put qk_192 (by omega) (by omega)
    have hfr : ∀ x, qfr V (qw V 192 (upd (V 192) l x)) 192 1 := fun x => qfr.w (by omega) (by omega)
    obtain ⟨W, a1, a2, a3⟩ := ih (l + 1) k (qw V 192 (upd (V 192) l (Int32.ofNat (way / 4 ^ (s 4 - 1 - l) % 4)))) (by omega) (by omega) (hR.fr (hfr _) (Or.inl (by omega)))
    unfold fX11_cover_69
    rw [c0_1, Option.bind_some, c4_g4, Option.bind_some, f4, if_neg (by rw [qle (by omega) (by omega)]; omega), q0_g12, Option.bind_some, q191_g1, Option.bind_some, q0_c, Option.bind_some, c_digit hN hW hR hw (by omega), Option.bind_some, hput, Option.bind_some, l1', qadd, a1]
    refine ⟨W, rfl, (hfr _).tr a2, fun j hj => ?_⟩
    rw [a3 j hj, qw_s]
    by_cases e : j = l
    · subst e; rw [upd_s, if_neg (by omega), if_pos (by omega)]
    · rw [upd_n e]
      by_cases e2 : l + 1 ≤ j
      · rw [if_pos e2, if_pos (by omega)]
      · rw [if_neg e2, if_neg (by omega)]
theorem c_cover11 (hN : 3000 ≤ N) (hW : sWF s) (hR : rF V 4 s) (hq : ∀ l d, l < s 4 → d < 4 → V 195 (4 * l + d) = Int32.ofNat (sgt s true l d)) : ∀ j i k o b, i + j = 4 ^ s 4 → j < k → (∀ m, o = some m → m ≤ 6) → fX11_cover_11 N 216 k (qH g V X) 0 (qo o) (Int32.ofNat b) (Int32.ofNat i) = fX11_cover_69 N 216 N (qH g (qw V 191 (upd (V 191) 2 (Int32.ofNat (s 4)))) X) 0 (qo (fB (vC s) o b i j).1) (Int32.ofNat (fB (vC s) o b i j).2) (Int32.ofNat 0) := by
  obtain ⟨⟨w0, w0b⟩, ⟨w1, w1b⟩, w2, w3, w4, w5, w95, w113, w101, w129, w134⟩ := id hW
  have f4 : V 4 4 = Int32.ofNat (s 4) := hR.2.2.2.2.1
  have h45 : 4 ^ s 4 ≤ 4 ^ 5 := Nat.pow_le_pow_right (by decide) w4
  have e4 : 2 ^ (2 * s 4) = 4 ^ s 4 := by rw [Nat.pow_mul]
  intro j
  induction j with
  | zero =>
    intro i k o b hi hk ho
    obtain ⟨k, rfl⟩ : ∃ j, k = j + 1 := ⟨k - 1, by omega⟩
    unfold fX11_cover_11 fB
    rw [c0_1, Option.bind_some, c4_g4, Option.bind_some, f4, l1', show (2 : Int32) = Int32.ofNat 2 from rfl, qmul, qshl1 (by omega), e4, if_pos (by rw [qle (by omega) (by omega)]; omega), q0_g12, Option.bind_some, Option.bind_some, c4_g4, Option.bind_some, f4, q191_p2, Option.bind_some, l0]
  | succ j ih =>
    intro i k o b hi hk ho
    obtain ⟨k, rfl⟩ : ∃ j, k = j + 1 := ⟨k - 1, by omega⟩
    have hsi := c_sights4 (g := g) (X := X) hN hW hR hq (way := i) (by omega) (s 4) 0 N 0 (by omega) (by omega)
    have hlt : eW (sgt s true) (fun l => i / 4 ^ (s 4 - 1 - l) % 4) 0 (s 4) 0 < 64 := eW_lt (fun l d => sgt_lt hW) _ _ _ (by omega)
    have hp := pop_6 (v := eW (sgt s true) (fun l => i / 4 ^ (s 4 - 1 - l) % 4) 0 (s 4) 0)
    have hvC : vC s i = pop (eW (sgt s true) (fun l => i / 4 ^ (s 4 - 1 - l) % 4) 0 (s 4) 0) := rfl
    conv => lhs; unfold fX11_cover_11
    unfold fX11_cover_47 fX11_sightsOf
    rw [c0_1, Option.bind_some, c4_g4, Option.bind_some, f4, l1', show (2 : Int32) = Int32.ofNat 2 from rfl, qmul, qshl1 (by omega), e4, if_neg (by rw [qle (by omega) (by omega)]; omega), q0_c, Option.bind_some, l0, hsi, Option.bind_some, c_bits hlt, Option.bind_some, qadd, ← hvC]
    rw [← hvC] at hp
    cases o with
    | none =>
      rw [if_neg (by rw [qleo (by omega)]; exact not_false)]
      have := ih (i + 1) k (some (vC s i)) i (by omega) (by omega) (fun m h => by cases h; exact hp)
      rw [qo_some] at this
      rw [this]
      conv => rhs; unfold fB
      rfl
    | some m =>
      have hm := ho m rfl
      rw [qo_some]
      by_cases h : m < vC s i
      · have := ih (i + 1) k (some (vC s i)) i (by omega) (by omega) (fun m h => by cases h; exact hp)
        rw [qo_some] at this
        rw [if_neg (by rw [qle (by omega) (by omega)]; omega), this]
        conv => rhs; unfold fB
        simp only [h, decide_true, if_true]
      · have := ih (i + 1) k (some m) b (by omega) (by omega) ho
        rw [qo_some] at this
        rw [if_pos (by rw [qle (by omega) (by omega)]; omega), this]
        conv => rhs; unfold fB
        simp only [h, decide_false, Bool.false_eq_true, if_false]
theorem m_cover104 (hN : 3000 ≤ N) {code : Nat} {r : Int32} (hc : code < 1024) : ∀ m l k V, l + m = 5 → m < k → ∃ W, fX12_cover_104 N 216 k (qH g V X) 196 (Int32.ofNat code) r (Int32.ofNat l) = some (qH g W X, r) ∧ qfr V W 205 1 ∧ (∀ j, j < 5 → W 205 j = if l ≤ j then Int32.ofNat (code / 4 ^ (4 - j) % 4) else V 205 j) := by
  intro m
  induction m with
  | zero =>
    intro l k V hi hk
    obtain ⟨k, rfl⟩ : ∃ j, k = j + 1 := ⟨k - 1, by omega⟩
    unfold fX12_cover_104
    rw [if_pos (by rw [show (5 : Int32) = Int32.ofNat 5 from rfl, qle (by omega) (by omega)]; omega)]
    exact ⟨V, rfl, qfr.rf, fun j hj => by rw [if_neg (by omega)]⟩
  | succ m ih =>
    intro l k V hi hk
    obtain ⟨k, rfl⟩ : ∃ j, k = j + 1 := ⟨k - 1, by omega⟩
    have hput : ∀ x, zsI 216 (qH g V X) 0 205 (Int32.ofNat l) x = some (qH g (qw V 205 (upd (V 205) l x)) X) := fun x => qsI (t := 0) qk_205 (Or.inl rfl) (by omega) (by omega)
    have hfr : ∀ x, qfr V (qw V 205 (upd (V 205) l x)) 205 1 := fun x => qfr.w (by omega) (by omega)
    obtain ⟨W, a1, a2, a3⟩ := ih (l + 1) k (qw V 205 (upd (V 205) l (Int32.ofNat (code / 4 ^ (4 - l) % 4)))) (by omega) (by omega)
    unfold fX12_cover_104
    rw [if_neg (by rw [show (5 : Int32) = Int32.ofNat 5 from rfl, qle (by omega) (by omega)]; omega), q196_g26, Option.bind_some, m_sideIn hc (by omega), Option.bind_some, hput, Option.bind_some, l1', qadd, a1]
    refine ⟨W, rfl, (hfr _).tr a2, fun j hj => ?_⟩
    rw [a3 j hj, qw_s]
    by_cases e : j = l
    · subst e; rw [upd_s, if_neg (by omega), if_pos (by omega)]
    · rw [upd_n e]
      by_cases e2 : l + 1 ≤ j
      · rw [if_pos e2, if_pos (by omega)]
      · rw [if_neg e2, if_neg (by omega)]
theorem m_cover50 (hN : 3000 ≤ N) (hM : rM V s) (hW : sWF s) (hD : sWD s) {set : Nat} (hset : set < 32) {val : Nat → Nat} (hval : ∀ c, c < 1024 → val c = pop (eM (sgt s false) set c 0 (s 4) 0)) : ∀ j i k o b, i + j = 1024 → j < k → (∀ m, o = some m → m ≤ 6) → fX12_cover_50 N 216 k (qH g V X) 196 (Int32.ofNat set) (Int32.ofNat b) (qo o) (Int32.ofNat i) = fX12_cover_104 N 216 N (qH g (qw V 196 (upd (V 196) 27 (Int32.ofNat (s 4)))) X) 196 (Int32.ofNat (fB val o b i j).2) (qo (fB val o b i j).1) (Int32.ofNat 0) := by
  obtain ⟨⟨w0, w0b⟩, ⟨w1, w1b⟩, w2, w3, w4, w5, w95, w113, w101, w129, w134⟩ := id hW
  intro j
  induction j with
  | zero =>
    intro i k o b hi hk ho
    obtain ⟨k, rfl⟩ : ∃ j, k = j + 1 := ⟨k - 1, by omega⟩
    unfold fX12_cover_50 fB
    rw [if_pos (by rw [show (1024 : Int32) = Int32.ofNat 1024 from rfl, qle (by omega) (by omega)]; omega), q196_g6, Option.bind_some, show (4 : Int32) = Int32.ofNat 4 from rfl, m_ld hM (by omega), Option.bind_some, q196_p27, Option.bind_some, l0]
  | succ j ih =>
    intro i k o b hi hk ho
    obtain ⟨k, rfl⟩ : ∃ j, k = j + 1 := ⟨k - 1, by omega⟩
    obtain ⟨c1, c2⟩ := m_covered (g := g) (V := V) (X := X) hN hM hW hD hset (code := i) (by omega)
    have hp := pop_6 (v := eM (sgt s false) set i 0 (s 4) 0)
    have hvC := hval i (by omega)
    conv => lhs; unfold fX12_cover_50
    unfold fX12_cover_85
    rw [if_neg (by rw [show (1024 : Int32) = Int32.ofNat 1024 from rfl, qle (by omega) (by omega)]; omega), q196_c, Option.bind_some, c1, Option.bind_some, m_bits hN c2, Option.bind_some, l1', qadd, ← hvC]
    rw [← hvC] at hp
    cases o with
    | none =>
      rw [if_pos (by rw [qlto (by omega)]; trivial)]
      have := ih (i + 1) k (some (val i)) i (by omega) (by omega) (fun m h => by cases h; exact hp)
      rw [qo_some] at this
      rw [this]
      conv => rhs; unfold fB
      rfl
    | some m =>
      have hm := ho m rfl
      rw [qo_some]
      by_cases h : m < val i
      · have := ih (i + 1) k (some (val i)) i (by omega) (by omega) (fun m h => by cases h; exact hp)
        rw [qo_some] at this
        rw [if_pos (by rw [qlt (by omega) (by omega)]; exact h), this]
        conv => rhs; unfold fB
        simp only [h, decide_true, if_true]
      · have := ih (i + 1) k (some m) b (by omega) (by omega) ho
        rw [qo_some] at this
        rw [if_neg (by rw [qlt (by omega) (by omega)]; exact h), this]
        conv => rhs; unfold fB
        simp only [h, decide_false, Bool.false_eq_true, if_false]
theorem m_cover9 (hN : 3000 ≤ N) (hM : rM V s) (hW : sWF s) (hD : sWD s) : ∀ m i k, i + m = s 4 → m < k → fX12_cover_9 N 216 k (qH g V X) 196 (Int32.ofNat (qbits (fun l => sLooks s l) i)) (Int32.ofNat i) = fX12_cover_50 N 216 N (qH g V X) 196 (Int32.ofNat (qbits (fun l => sLooks s l) (s 4))) (Int32.ofNat 0) (qo none) (Int32.ofNat 0) := by
  obtain ⟨⟨w0, w0b⟩, ⟨w1, w1b⟩, w2, w3, w4, w5, w95, w113, w101, w129, w134⟩ := id hW
  intro m
  induction m with
  | zero =>
    intro i k hi hk
    obtain ⟨k, rfl⟩ : ∃ j, k = j + 1 := ⟨k - 1, by omega⟩
    unfold fX12_cover_9
    rw [q196_g6, Option.bind_some, show (4 : Int32) = Int32.ofNat 4 from rfl, m_ld hM (by omega), Option.bind_some, if_pos (by rw [qle (by omega) (by omega)]; omega), show i = s 4 by omega, l0, show (-1 : Int32) = qo none from rfl]
  | succ m ih =>
    intro i k hi hk
    obtain ⟨k, rfl⟩ : ∃ j, k = j + 1 := ⟨k - 1, by omega⟩
    have hih := ih (i + 1) k (by omega) (by omega)
    have hq : qbits (fun l => sLooks s l) (i + 1) = qbits (fun l => sLooks s l) i + (if sLooks s i = true then 2 ^ i else 0) := rfl
    rw [hq] at hih
    conv => lhs; unfold fX12_cover_9
    unfold fX12_cover_35
    rw [q196_g6, Option.bind_some, show (4 : Int32) = Int32.ofNat 4 from rfl, m_ld hM (by omega), Option.bind_some, if_neg (by rw [qle (by omega) (by omega)]; omega), q196_c, Option.bind_some, m_isLooking hN hM hW hD (by omega), Option.bind_some]
    cases hc : sLooks s i with
    | false =>
      rw [hc] at hih
      rw [if_pos qzf, l0, qor, Nat.or_zero, l1', qadd]
      exact hih
    | true =>
      rw [hc] at hih
      rw [if_neg qzt, l1', qshl1 (by omega), qor, qbits_or, qadd]
      exact hih
theorem s_18 (hN : 3000 ≤ N) {f : zF} (hI : Inv f) : ∃ f2, zlc18 N 216 f = some f2 ∧ Inv f2 := by
  obtain ⟨g, V, X, s, rfl, hg, hJ⟩ := hI
  obtain ⟨⟨⟨hW, hD, hG, h9⟩, hWL, hR, hL, hS, hM, hNs, hNm⟩, hU, hR2⟩ := id hJ
  unfold zlc18
  obtain ⟨⟨w0, w0b⟩, ⟨w1, w1b⟩, w2, w3, w4, w5, w95, w113, w101, w129, w134⟩ := id hW
  have h25 : 2 ^ s 4 ≤ 2 ^ 5 := Nat.pow_le_pow_right (by decide) w4
  have h45 : 4 ^ s 4 ≤ 4 ^ 5 := Nat.pow_le_pow_right (by decide) w4
  have hKp : 0 < 4 ^ (5 - s 4) := Nat.pow_pos (by decide)
  have hKM : 4 ^ s 4 * 4 ^ (5 - s 4) = 1024 := by rw [← Nat.pow_add, show s 4 + (5 - s 4) = 5 by omega]
  obtain ⟨jt, jw, jg, ji0, ji1, jc, jf, jb, jx, jl, jd⟩ := id hR2
  obtain ⟨W, a1, a2, a3⟩ := c_mark (g := g) (X := X) hN hJ.1.1 (now := true) hR hS
  have hRW : rF W 4 s := hR.fr a2 (Or.inl (by omega))
  have hcl := c_cover11 (g := g) (X := X) hN hW hRW a3 (4 ^ s 4) 0 N none 0 (by omega) (by omega) (fun m h => by cases h)
  have hvl : ∀ i, vC s i ≤ 6 := fun i => pop_6
  obtain ⟨b1, b2⟩ := fB_lt (val := vC s) (M := 6) (B := 4 ^ s 4) hvl (4 ^ s 4) none 0 0 (fun m h => by cases h) (by omega) (Or.inl (Nat.pow_pos (by decide)))
  have hset : qbits (fun l => sLooks s l) (s 4) < 32 := by have := qbits_lt (P := fun l => sLooks s l) (n := s 4); omega
  have hval : ∀ c, c < 1024 → vC s (c / 4 ^ (5 - s 4)) = pop (eM (sgt s false) (qbits (fun l => sLooks s l) (s 4)) c 0 (s 4) 0) := by
    intro c hc
    rw [eM_W (s 4) 0 0 (fun k h1 h2 => by rw [qbits_tb, decide_eq_true (show k < s 4 by omega), Bool.true_and])]
    unfold vC
    congr 1
    refine eW_cg (s 4) 0 0 (fun k h1 h2 => ?_)
    try dsimp only
    rw [Nat.div_div_eq_div_mul, ← Nat.pow_add, show 5 - s 4 + (s 4 - 1 - k) = 4 - k by omega]
  have hblk := fB_block (val := vC s) hKp (4 ^ s 4) none 0 0
  rw [Nat.zero_mul, hKM] at hblk
  generalize hfr : fB (vC s) none 0 0 (4 ^ s 4) = fr at *
  have hfr2 : fr.2 < 4 ^ s 4 := by
    rcases b2 with h | h
    · exact h
    · have : 0 < 4 ^ s 4 := Nat.pow_pos (by decide)
      omega
  obtain ⟨W2, d1, d2, d3⟩ := c_cover69 (g := g) (X := X) hN hW (way := fr.2) (r := qo fr.1) (by omega) (s 4) 0 N (qw W 191 (upd (W 191) 2 (Int32.ofNat (s 4)))) (by omega) (by omega) (hRW.fr (qfr.w (a := 191) (n := 1) (by omega) (by omega)) (Or.inl (by omega)))
  have hc : fX11_cover N 216 (qH g V X) 0 = some (qH g W2 X, qo fr.1) := by
    unfold fX11_cover
    rw [q0_c, Option.bind_some, show (-1 : Int32) = qo none from rfl, show (1 : Int32) = qz true from rfl, a1, Option.bind_some, l0, hcl, d1]
  have e1 : ∀ b', b' ≠ 195 → b' ≠ 191 → b' ≠ 192 → W2 b' = V b' := fun b' h1 h2 h3 => by rw [d2 b' (by omega), qw_n h2, a2 b' (by omega)]
  have hMW : rM W2 s := fun i hi => by rw [e1 198 (by omega) (by omega) (by omega)]; exact hM i hi
  have hm9 := m_cover9 (g := g) (X := X) (V := qT W2) hN hMW.thr hW hD (s 4) 0 N (by omega) (by omega)
  have hm50 := m_cover50 (g := g) (X := X) (V := qT W2) hN hMW.thr hW hD hset hval 1024 0 N none 0 (by omega) (by omega) (fun m h => by cases h)
  rw [hblk] at hm50
  have hbK : fr.2 * 4 ^ (5 - s 4) < 1024 := by rw [← hKM]; exact Nat.mul_lt_mul_of_pos_right hfr2 hKp
  obtain ⟨Z, z1, z2, z3⟩ := m_cover104 (g := g) (X := X) hN (code := fr.2 * 4 ^ (5 - s 4)) (r := qo fr.1) hbK 5 0 N (qw (qT W2) 196 (upd (qT W2 196) 27 (Int32.ofNat (s 4)))) (by omega) (by omega)
  have hm : fX12_cover N 216 (qH g W2 X) 196 = some (qH g Z X, qo fr.1) := by
    unfold fX12_cover
    rw [m_thr0, Option.bind_some, l0]
    exact hm9.trans (hm50.trans z1)
  have e : ∀ b' j, ¬ scr b' j → ¬ (b' = 191 ∧ j = 2) → b' ≠ 192 → ¬ (b' = 196 ∧ j = 27) → b' ≠ 205 → Z b' j = V b' j := by
    intro b' j h1 h2 h3 h4 h5
    unfold scr at h1
    rw [z2 b' (by omega)]
    by_cases e6 : b' = 196
    · subst e6
      rw [qw_s, upd_n (by omega), qT_j (by omega), e1 196 (by omega) (by omega) (by omega)]
    · rw [qw_n e6, qT_n e6]
      by_cases e1' : b' = 191
      · subst e1'; rw [d2 191 (by omega), qw_s, upd_n (by omega), a2 191 (by omega)]
      · rw [e1 b' (by omega) e1' h3]
  refine cstep (o1 := fX11_cover N 216 (qH g V X) 0) (m := fun ff => fX12_cover N 216 ff 196) (X1 := X) (V2 := Z) (X2 := X) (r := qo fr.1) (s := s) hg hc hm ⟨hJ.1.pt (fun b' j h => e b' j (by unfold scr; omega) (by omega) (by omega) (by omega) (by omega)) (fun _ _ _ => rfl), hU.pt sEq.rf (fun b' j h => e b' j (by unfold scr; omega) (by omega) (by omega) (by omega) (by omega)),
    jt.pt (fun b' j h => e b' j (by unfold scr; omega) (by omega) (by omega) (by omega) (by omega)), jw, jg.pt (fun b' j h => e b' j (by unfold scr; omega) (by omega) (by omega) (by omega) (by omega)), ji0.pt (fun b' j h => e b' j (by unfold scr; omega) (by omega) (by omega) (by omega) (by omega)) (fun _ _ _ => rfl), ji1.pt (fun b' j h => e b' j (by unfold scr; omega) (by omega) (by omega) (by omega) (by omega)) (fun _ _ _ => rfl), Or.inr ⟨s 4, w4, ?_, ?_, fun l hl => ?_⟩, jf.pt (fun b' j h => e b' j (by unfold scr; omega) (by omega) (by omega) (by omega) (by omega)), jb.pt (fun b' j h => e b' j (by unfold scr; omega) (by omega) (by omega) (by omega) (by omega)), jx.pt (fun b' j h => e b' j (by unfold scr; omega) (by omega) (by omega) (by omega) (by omega)), jl.pt (fun b' j h => e b' j (by unfold scr; omega) (by omega) (by omega) (by omega) (by omega)), jd.pt (fun b' j h => e b' j (by unfold scr; omega) (by omega) (by omega) (by omega) (by omega))⟩
  · rw [z2 191 (by omega), qw_n (by omega), qT_n (by omega), d2 191 (by omega), qw_s, upd_s]
  · rw [z2 196 (by omega), qw_s, upd_s]
  · rw [z3 l (by omega), if_pos (by omega), z2 192 (by omega), qw_n (by omega), qT_n (by omega), d3 l hl, if_pos (by omega)]
    have hs4 : 4 - l = (5 - s 4) + (s 4 - 1 - l) := by omega
    rw [hs4, Nat.pow_add, ← Nat.div_div_eq_div_mul, Nat.mul_div_cancel _ hKp]
end QCV
