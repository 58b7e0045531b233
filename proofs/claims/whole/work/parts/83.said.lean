/-! said -/
section QSA
variable {g : zF} {V W K : Nat → Nat → Int32} {X Y : Nat → Nat → Int64} {N n : Nat} {s t u B : Nat → Nat}
/-- a stack of truths as one number -/
def enc : List Bool → Nat
  | [] => 0
  | b :: l => 2 * enc l + b.toNat
theorem enc_lt : ∀ l : List Bool, enc l < 2 ^ l.length := by
  intro l
  induction l with
  | nil => decide
  | cons b l ih =>
    have : b.toNat ≤ 1 := Bool.toNat_le b
    rw [List.length_cons, Nat.pow_succ]
    unfold enc
    omega
theorem tb_0 {u : Nat} {b : Bool} : (2 * u + b.toNat).testBit 0 = b := by
  rw [Nat.testBit_zero]
  cases b
  · rw [show (2 * u + false.toNat) % 2 = 0 by show (2 * u + 0) % 2 = 0; omega]; rfl
  · rw [show (2 * u + true.toNat) % 2 = 1 by show (2 * u + 1) % 2 = 1; omega]; rfl
theorem tb_s {u i : Nat} {b : Bool} : (2 * u + b.toNat).testBit (i + 1) = u.testBit i := by
  rw [Nat.testBit_succ]
  have : b.toNat ≤ 1 := Bool.toNat_le b
  rw [show (2 * u + b.toNat) / 2 = u by omega]
theorem enc_c {l : List Bool} {b : Bool} : enc (b :: l) = 2 * enc l + b.toNat := rfl
theorem one_s {i : Nat} : (1 : Nat).testBit (i + 1) = false := by
  rw [Nat.testBit_succ]
  exact Nat.zero_testBit i
theorem enc_not {l : List Bool} {b : Bool} : enc (b :: l) ^^^ 1 = enc ((!b) :: l) := by
  apply Nat.eq_of_testBit_eq
  intro i
  rw [Nat.testBit_xor, enc_c, enc_c]
  cases i with
  | zero =>
    rw [tb_0, tb_0]
    cases b <;> rfl
  | succ i =>
    rw [tb_s, tb_s, one_s]
    simp
theorem enc_or {l : List Bool} {b b2 : Bool} : enc (b2 :: l) ||| (enc (b :: b2 :: l) &&& 1) = enc ((b2 || b) :: l) := by
  apply Nat.eq_of_testBit_eq
  intro i
  rw [Nat.testBit_or, Nat.testBit_and, enc_c, enc_c, enc_c, enc_c]
  cases i with
  | zero =>
    rw [tb_0, tb_0, tb_0]
    cases b <;> cases b2 <;> rfl
  | succ i =>
    rw [tb_s, tb_s, one_s, tb_s]
    simp
theorem enc_and {l : List Bool} {b b2 : Bool} (hl : l.length < 30) : enc (b2 :: l) &&& (enc (b :: b2 :: l) ||| 4294967294) = enc ((b2 && b) :: l) := by
  have hlt := enc_lt l
  apply Nat.eq_of_testBit_eq
  intro i
  rw [Nat.testBit_and, Nat.testBit_or, enc_c, enc_c, enc_c, enc_c]
  cases i with
  | zero =>
    rw [tb_0, tb_0, tb_0]
    cases b <;> cases b2 <;> rfl
  | succ i =>
    rw [tb_s, tb_s, tb_s, show (4294967294 : Nat) = 2 * (2 ^ 31 - 1) + false.toNat from rfl, tb_s, Nat.testBit_two_pow_sub_one]
    by_cases hi : i < 31
    · rw [decide_eq_true hi, Bool.or_true, Bool.and_true]
    · have : (enc l).testBit i = false := Nat.testBit_lt_two_pow (Nat.lt_of_lt_of_le hlt (Nat.pow_le_pow_right (by decide) (by omega)))
      rw [this, Bool.false_and]
theorem enc_sh {l : List Bool} {b : Bool} : enc (b :: l) / 2 ^ 1 = enc l := by
  have : b.toNat ≤ 1 := Bool.toNat_le b
  rw [enc_c]
  omega
theorem enc_push {l : List Bool} {b : Bool} : (enc l * 2 ^ 1) ||| b.toNat = enc (b :: l) := by
  apply Nat.eq_of_testBit_eq
  intro i
  rw [Nat.testBit_or, enc_c]
  rw [show enc l * 2 ^ 1 = 2 * enc l + false.toNat by show enc l * 2 = 2 * enc l + 0; omega, show b.toNat = 2 * 0 + b.toNat by omega]
  cases i with
  | zero => rw [tb_0, tb_0, show 2 * enc l + (2 * 0 + b.toNat) = 2 * enc l + b.toNat by omega, tb_0, Bool.false_or]
  | succ i => rw [tb_s, tb_s, show 2 * enc l + (2 * 0 + b.toNat) = 2 * enc l + b.toNat by omega, tb_s]; simp
theorem enc_top {l : List Bool} {b : Bool} : enc (b :: l) &&& 1 = b.toNat := by
  have : b.toNat ≤ 1 := Bool.toNat_le b
  rw [show (1 : Nat) = 2 ^ 1 - 1 from rfl, Nat.and_two_pow_sub_one_eq_mod, enc_c]
  omega
/-- the stack after i steps -/
def stE (s : Nat → Nat) (lv : Nat → Bool) : Nat → List Bool
  | 0 => []
  | i + 1 => if s (251 + 3 * i) = 20 then (match stE s lv i with
      | b :: l => (!b) :: l
      | [] => []) else if s (251 + 3 * i) = 21 then (match stE s lv i with
      | b :: b2 :: l => (b2 && b) :: l
      | l => l) else if s (251 + 3 * i) = 22 then (match stE s lv i with
      | b :: b2 :: l => (b2 || b) :: l
      | l => l) else lv i :: stE s lv i
def nOK (s : Nat → Nat) (i : Nat) : Prop := s (251 + 3 * i) < 23 ∧ (s (251 + 3 * i) = 20 → 1 ≤ nDep s i) ∧ (s (251 + 3 * i) = 21 ∨ s (251 + 3 * i) = 22 → 2 ≤ nDep s i) ∧ nDep s i ≤ 20
theorem stE_len {lv : Nat → Bool} : ∀ i, (∀ k, k < i → nOK s k) → (stE s lv i).length = nDep s i := by
  intro i
  induction i with
  | zero => intro _; rfl
  | succ i ih =>
    intro h
    have hi := ih (fun k hk => h k (by omega))
    obtain ⟨-, h1, h2, -⟩ := h i (by omega)
    unfold stE nDep
    by_cases e0 : s (251 + 3 * i) = 20
    · rw [if_pos e0, if_pos e0]
      have := h1 e0
      cases hs : stE s lv i with
      | nil => rw [hs] at hi; have : 0 = nDep s i := hi; omega
      | cons b l => rw [hs] at hi; exact hi
    · rw [if_neg e0, if_neg e0]
      by_cases e1 : s (251 + 3 * i) = 21
      · have := h2 (Or.inl e1)
        rw [if_pos e1, if_pos (Or.inl e1)]
        match hs : stE s lv i with
        | [] => rw [hs] at hi; have : 0 = nDep s i := hi; omega
        | [b] => rw [hs] at hi; have : 1 = nDep s i := hi; omega
        | b :: b2 :: l =>
          rw [hs] at hi
          have : l.length + 1 + 1 = nDep s i := hi
          show l.length + 1 = _
          omega
      · rw [if_neg e1]
        by_cases e2 : s (251 + 3 * i) = 22
        · have := h2 (Or.inr e2)
          rw [if_pos e2, if_pos (Or.inr e2)]
          match hs : stE s lv i with
          | [] => rw [hs] at hi; have : 0 = nDep s i := hi; omega
          | [b] => rw [hs] at hi; have : 1 = nDep s i := hi; omega
          | b :: b2 :: l =>
            rw [hs] at hi
            have : l.length + 1 + 1 = nDep s i := hi
            show l.length + 1 = _
            omega
        · rw [if_neg e2, if_neg (by omega), List.length_cons, hi]
/-- a comparison by its sign -/
def cmp (x sg y : Nat) : Bool := if sg = 60 then decide (x < y) else if sg = 61 then decide (x = y) else decide (y < x)
theorem c_cmp {f : zF} {x sg y : Nat} (hx : x < 2147483648) (hs : sg < 2147483648) (hy : y < 2147483648) : fX6_compares N 216 f (Int32.ofNat x) (Int32.ofNat sg) (Int32.ofNat y) = some (qz (cmp x sg y)) := by
  unfold fX6_compares cmp
  by_cases h : sg = 60
  · rw [if_pos (by rw [h]; rfl), if_pos h]
    by_cases h2 : x < y
    · rw [if_neg (by rw [qle hy hx]; omega), decide_eq_true h2]; rfl
    · rw [if_pos (by rw [qle hy hx]; omega), decide_eq_false h2]; rfl
  · rw [if_neg (by rw [show (60 : Int32) = Int32.ofNat 60 from rfl, qeq hs (by omega)]; exact h), if_neg h]
    by_cases h1 : sg = 61
    · rw [if_pos (by rw [h1]; rfl), if_pos h1]
      by_cases h2 : x = y
      · rw [if_pos (by rw [h2]), decide_eq_true h2]; rfl
      · rw [if_neg (by rw [qeq hx hy]; omega), decide_eq_false h2]; rfl
    · rw [if_neg (by rw [show (61 : Int32) = Int32.ofNat 61 from rfl, qeq hs (by omega)]; exact h1), if_neg h1]
      by_cases h2 : y < x
      · rw [if_neg (by rw [qle hx hy]; omega), decide_eq_true h2]; rfl
      · rw [if_pos (by rw [qle hx hy]; omega), decide_eq_false h2]; rfl
theorem m_cmp {f : zF} {x sg y : Nat} (hx : x < 2147483648) (hs : sg < 2147483648) (hy : y < 2147483648) : fX12_isLeaf_160 N 216 f (Int32.ofNat sg) (Int32.ofNat y) (Int32.ofNat x) = some (qz (cmp x sg y)) := by
  unfold fX12_isLeaf_160 cmp
  by_cases h : sg = 60
  · rw [if_pos (by rw [h]; rfl), if_pos h]
    by_cases h2 : x < y
    · rw [if_neg (by rw [qle hy hx]; omega), decide_eq_true h2]; rfl
    · rw [if_pos (by rw [qle hy hx]; omega), decide_eq_false h2]; rfl
  · rw [if_neg (by rw [show (60 : Int32) = Int32.ofNat 60 from rfl, qeq hs (by omega)]; exact h), if_neg h]
    by_cases h1 : sg = 61
    · rw [if_pos (by rw [h1]; rfl), if_pos h1]
      by_cases h2 : x = y
      · rw [if_pos (by rw [h2]), decide_eq_true h2]; rfl
      · rw [if_neg (by rw [qeq hx hy]; omega), decide_eq_false h2]; rfl
    · rw [if_neg (by rw [show (61 : Int32) = Int32.ofNat 61 from rfl, qeq hs (by omega)]; exact h1), if_neg h1]
      by_cases h2 : y < x
      · rw [if_neg (by rw [qle hx hy]; omega), decide_eq_true h2]; rfl
      · rw [if_pos (by rw [qle hx hy]; omega), decide_eq_false h2]; rfl
/-- whether one condition is so of figure f -/
def lvF (s : Nat → Nat) (f i : Nat) : Bool :=
  if s (251 + 3 * i) = 0 then !decide (sSeers s f = 0) else if s (251 + 3 * i) = 1 then !sCan s f else if s (251 + 3 * i) = 2 then !decide (s (141 + f) = s (101 + f)) else
  if s (251 + 3 * i) = 3 then decide (s (95 + f) = s (253 + 3 * i)) else if s (251 + 3 * i) = 4 then decide (sSeers s f / 2 ^ s (253 + 3 * i) % 2 = 1) else
  if s (251 + 3 * i) = 5 then cmp (s (153 + f)) (s (252 + 3 * i)) (s (253 + 3 * i)) else if s (251 + 3 * i) = 6 then cmp (s (113 + f)) (s (252 + 3 * i)) (s (253 + 3 * i)) else cmp f (s (252 + 3 * i)) (s (253 + 3 * i))
theorem ifz {b : Bool} : (if qz b = 0 then zbl (0 : Int32) else zbl 1) = some (qz b) := by cases b <;> rfl
theorem ifzn {b : Bool} : (if qz b = 0 then zbl (1 : Int32) else zbl 0) = some (qz (!b)) := by cases b <;> rfl
theorem ifp {p : Prop} [Decidable p] : (if p then zbl (1 : Int32) else zbl 0) = some (qz (decide p)) := by
  by_cases h : p
  · rw [if_pos h, decide_eq_true h]; rfl
  · rw [if_neg h, decide_eq_false h]; rfl
theorem ifpn {p : Prop} [Decidable p] : (if p then zbl (0 : Int32) else zbl 1) = some (qz (!decide p)) := by
  by_cases h : p
  · rw [if_pos h, decide_eq_true h]; rfl
  · rw [if_neg h, decide_eq_false h]; rfl
theorem m_leaf (hN : 3000 ≤ N) (hM : rM V s) (hW : sWF s) (hD : sWD s) (h9 : s 139 ≤ 1000) (hG : sWG s) {f i : Nat} (hf : f < s 3) (h1 : s (251 + 3 * i) < 8) (h2 : s (252 + 3 * i) < 1000) (h3 : s (253 + 3 * i) < 1000) (h4 : s (251 + 3 * i) = 4 → s (253 + 3 * i) < s 4) : fX12_isLeaf N 216 (qH g V X) 196 (Int32.ofNat f) (Int32.ofNat (s (251 + 3 * i))) (Int32.ofNat (s (252 + 3 * i))) (Int32.ofNat (s (253 + 3 * i))) = some (qz (lvF s f i)) := by
  obtain ⟨⟨w0, w0b⟩, ⟨w1, w1b⟩, w2, w3, w4, w5, w95, w113, w101, w129, w134⟩ := id hW
  obtain ⟨d139, d140, d141, d147, d159, d164, d169, dinj⟩ := id hD
  have hg1 := hG f hf
  have c95 := w95 f hf
  have c113 := w113 f hf
  have c101 := w101 f hf
  have c141 := d141 f hf
  have hl := sSeers_lt hW (f := f)
  unfold fX12_isLeaf lvF
  by_cases e0 : s (251 + 3 * i) = 0
  · rw [if_pos (by rw [e0]; rfl), if_pos e0, q196_c, Option.bind_some, m_seenBy hN hM hW hD hf, Option.bind_some, ifpn]
    congr 3
    exact decide_eq_decide.mpr (by rw [l0, qeq (by omega) (by omega)])
  rw [if_neg (by rw [l0, qeq (by omega) (by omega)]; exact e0), if_neg e0]
  by_cases e1 : s (251 + 3 * i) = 1
  · rw [if_pos (by rw [e1]; rfl), if_pos e1, q196_c, Option.bind_some, m_canGo hN hM hW hD hf, Option.bind_some, ifzn]
  rw [if_neg (by rw [l1, qeq (by omega) (by omega)]; exact e1), if_neg e1]
  by_cases e2 : s (251 + 3 * i) = 2
  · rw [if_pos (by rw [e2]; rfl), if_pos e2, q196_g6, Option.bind_some, show (141 : Int32) = Int32.ofNat 141 from rfl, qadd, m_ld hM (by omega), Option.bind_some, Option.bind_some, show (101 : Int32) = Int32.ofNat 101 from rfl, qadd, m_ld hM (by omega), Option.bind_some, ifpn]
    congr 3
    exact decide_eq_decide.mpr (by rw [qeq (by omega) (by omega)])
  rw [if_neg (by rw [show (2 : Int32) = Int32.ofNat 2 from rfl, qeq (by omega) (by omega)]; exact e2), if_neg e2]
  by_cases e3 : s (251 + 3 * i) = 3
  · rw [if_pos (by rw [e3]; rfl), if_pos e3, q196_g6, Option.bind_some, show (95 : Int32) = Int32.ofNat 95 from rfl, qadd, m_ld hM (by omega), Option.bind_some, ifp]
    congr 2
    exact decide_eq_decide.mpr (by rw [qeq (by omega) (by omega)])
  rw [if_neg (by rw [l3, qeq (by omega) (by omega)]; exact e3), if_neg e3]
  by_cases e4 : s (251 + 3 * i) = 4
  · have h5 := h4 e4
    have hsl : sSees s (s (253 + 3 * i)) < 2 ^ 6 := by
      unfold sSees
      split
      · unfold sSeen
        exact Nat.lt_of_lt_of_le qbits_lt (Nat.pow_le_pow_right (by decide) w3)
      · decide
    rw [if_pos (by rw [e4]; rfl), if_pos e4, q196_c, Option.bind_some, m_seesOf hN hM hW hD h5, Option.bind_some, m_bitOf (by omega) (by omega), Option.bind_some, qzb]
    congr 2
    rw [← Nat.testBit_eq_decide_div_mod_eq, ← Nat.testBit_eq_decide_div_mod_eq]
    unfold sSees sSeers sSeen
    rw [qbits_tb, decide_eq_true h5, Bool.true_and]
    cases sLooks s (s (253 + 3 * i)) with
    | false => simp
    | true => simp only [if_true]; rw [qbits_tb, decide_eq_true hf, Bool.true_and]
  rw [if_neg (by rw [l4, qeq (by omega) (by omega)]; exact e4), if_neg e4]
  by_cases e5 : s (251 + 3 * i) = 5
  · rw [if_pos (by rw [e5]; rfl), if_pos e5, q196_g6, Option.bind_some, show (153 : Int32) = Int32.ofNat 153 from rfl, qadd, m_ld hM (by omega), Option.bind_some, m_cmp (by omega) (by omega) (by omega)]
  rw [if_neg (by rw [l5, qeq (by omega) (by omega)]; exact e5), if_neg e5]
  by_cases e6 : s (251 + 3 * i) = 6
  · rw [if_pos (by rw [e6]; rfl), if_pos e6, q196_g6, Option.bind_some, show (113 : Int32) = Int32.ofNat 113 from rfl, qadd, m_ld hM (by omega), Option.bind_some, m_cmp (by omega) (by omega) (by omega)]
  rw [if_neg (by rw [show (6 : Int32) = Int32.ofNat 6 from rfl, qeq (by omega) (by omega)]; exact e6), if_neg e6, m_cmp (by omega) (by omega) (by omega)]
theorem c_leaf (hN : 3000 ≤ N) (hR : rF V 4 s) (hS : rS V 15 s) (hW : sWF s) (hD : sWD s) (h9 : s 139 ≤ 1000) (hG : sWG s) {f i c : Nat} (hf : f < s 3) (hi : i < 40) (hk : c < 8) (h1 : s (251 + 3 * i) = c) (hc : V 32 i = Int32.ofNat (19 + c)) (h2 : V 33 i = Int32.ofNat (s (252 + 3 * i))) (h3 : V 34 i = Int32.ofNat (s (253 + 3 * i))) (h2b : s (252 + 3 * i) < 1000) (h3b : s (253 + 3 * i) < 1000) (h4 : c = 4 → s (253 + 3 * i) < s 4) : fX6_isSo N 216 (qH g V X) 31 15 (Int32.ofNat f) (Int32.ofNat i) = some (qz (lvF s f i)) := by
  obtain ⟨⟨w0, w0b⟩, ⟨w1, w1b⟩, w2, w3, w4, w5, w95, w113, w101, w129, w134⟩ := id hW
  obtain ⟨d139, d140, d141, d147, d159, d164, d169, dinj⟩ := id hD
  obtain ⟨f0, f1, f2, f3, f4, f8, f10, f11, f12, f13, f14⟩ := rF4 hR
  obtain ⟨r1, r16, r17, r18, r19, r20, r21, r22⟩ := rS15 hS
  have hg1 := hG f hf
  have c95 := w95 f hf
  have c113 := w113 f hf
  have c101 := w101 f hf
  have c141 := d141 f hf
  have hl := sSeers_lt hW (f := f)
  have k1 : fX11_at N 216 (qH g V X) 32 (Int32.ofNat i) = some (Int32.ofNat (19 + c)) := by rw [e_at (qN_k1 qN_31) hi (by omega), hc]
  have k2 : fX11_at N 216 (qH g V X) 33 (Int32.ofNat i) = some (Int32.ofNat (s (252 + 3 * i))) := by rw [e_at (qN_k2 qN_31) hi (by omega), h2]
  have k3 : fX11_at N 216 (qH g V X) 34 (Int32.ofNat i) = some (Int32.ofNat (s (253 + 3 * i))) := by rw [e_at (qN_k3 qN_31) hi (by omega), h3]
  unfold fX6_isSo lvF
  rw [h1, qN_g2 qN_31, Option.bind_some, k2, Option.bind_some, qN_g3 qN_31, Option.bind_some, k3, Option.bind_some, qN_g1 qN_31, Option.bind_some, k1, Option.bind_some]
  by_cases e0 : c = 0
  · rw [if_pos (by rw [e0]; rfl), if_pos e0, c15_c, Option.bind_some, e_seers hN qS_15 qF_4 hR hS hW hD hf, Option.bind_some, ifpn]
    congr 3
    exact decide_eq_decide.mpr (by rw [l0, qeq (by omega) (by omega)])
  rw [if_neg (by rw [show (19 : Int32) = Int32.ofNat 19 from rfl, qeq (by omega) (by omega)]; omega), if_neg e0]
  by_cases e1 : c = 1
  · rw [if_pos (by rw [e1]; rfl), if_pos e1, c15_c, Option.bind_some, e_canGo hN qS_15 qF_4 hR hS hW hD hf, Option.bind_some, ifzn]
  rw [if_neg (by rw [show (20 : Int32) = Int32.ofNat 20 from rfl, qeq (by omega) (by omega)]; omega), if_neg e1]
  by_cases e2 : c = 2
  · rw [if_pos (by rw [e2]; rfl), if_pos e2, c15_g2, Option.bind_some, c16_at (by omega), Option.bind_some, r16 f hf, c15_g0, Option.bind_some, c4_g12, Option.bind_some, c12_at (by omega), Option.bind_some, f12 f hf, ifpn]
    congr 3
    exact decide_eq_decide.mpr (by rw [qeq (by omega) (by omega)])
  rw [if_neg (by rw [show (21 : Int32) = Int32.ofNat 21 from rfl, qeq (by omega) (by omega)]; omega), if_neg e2]
  by_cases e3 : c = 3
  · rw [if_pos (by rw [e3]; rfl), if_pos e3, c15_g0, Option.bind_some, c4_g10, Option.bind_some, c10_at (by omega), Option.bind_some, f10 f hf, ifp]
    congr 2
    exact decide_eq_decide.mpr (by rw [qeq (by omega) (by omega)])
  rw [if_neg (by rw [show (22 : Int32) = Int32.ofNat 22 from rfl, qeq (by omega) (by omega)]; omega), if_neg e3]
  by_cases e4 : c = 4
  · have h5 := h4 e4
    rw [if_pos (by rw [e4]; rfl), if_pos e4, c15_c, Option.bind_some, e_seers hN qS_15 qF_4 hR hS hW hD hf, Option.bind_some, qshr (by omega) (by omega), l1, qand, ← l1, ifp]
    congr 2
    refine decide_eq_decide.mpr ?_
    have hm := Nat.mod_lt (sSeers s f / 2 ^ s (253 + 3 * i)) (show 0 < 2 by decide)
    rw [show (1 : Nat) = 2 ^ 1 - 1 from rfl, Nat.and_two_pow_sub_one_eq_mod, l1, qeq (by omega) (by omega)]
  rw [if_neg (by rw [show (23 : Int32) = Int32.ofNat 23 from rfl, qeq (by omega) (by omega)]; omega), if_neg e4]
  by_cases e5 : c = 5
  · rw [if_pos (by rw [e5]; rfl), if_pos e5, c15_g4, Option.bind_some, c18_at (by omega), Option.bind_some, r18 f hf, c_cmp (by omega) (by omega) (by omega), Option.bind_some, qzb]
  rw [if_neg (by rw [show (24 : Int32) = Int32.ofNat 24 from rfl, qeq (by omega) (by omega)]; omega), if_neg e5]
  by_cases e6 : c = 6
  · rw [if_pos (by rw [e6]; rfl), if_pos e6, c15_g0, Option.bind_some, c4_g11, Option.bind_some, c11_at (by omega), Option.bind_some, f11 f hf, c_cmp (by omega) (by omega) (by omega), Option.bind_some, qzb]
  rw [if_neg (by rw [show (25 : Int32) = Int32.ofNat 25 from rfl, qeq (by omega) (by omega)]; omega), if_neg e6, c_cmp (by omega) (by omega) (by omega), Option.bind_some, qzb]
end QSA
