/-! steps that simp takes by itself; the reference's state -/
theorem zbd_some {α β : Type} {f : zF} {x : α} {g : zF → α → Option β} : zbd (some (f, x)) g = g f x := rfl
theorem qleT {a b : Nat} (ha : a < 2147483648) (hb : b < 2147483648) (h : a ≤ b) : (Int32.ofNat a ≤ Int32.ofNat b) = True := by rw [qle ha hb]; exact eq_true h
theorem qleF {a b : Nat} (ha : a < 2147483648) (hb : b < 2147483648) (h : b < a) : (Int32.ofNat a ≤ Int32.ofNat b) = False := by rw [qle ha hb]; exact eq_false (by omega)
theorem qltT {a b : Nat} (ha : a < 2147483648) (hb : b < 2147483648) (h : a < b) : (Int32.ofNat a < Int32.ofNat b) = True := by rw [qlt ha hb]; exact eq_true h
theorem qltF {a b : Nat} (ha : a < 2147483648) (hb : b < 2147483648) (h : b ≤ a) : (Int32.ofNat a < Int32.ofNat b) = False := by rw [qlt ha hb]; exact eq_false (by omega)
theorem qeqT {a b : Nat} (h : a = b) : (Int32.ofNat a = Int32.ofNat b) = True := eq_true (by rw [h])
theorem qeqF {a b : Nat} (ha : a < 2147483648) (hb : b < 2147483648) (h : a ≠ b) : (Int32.ofNat a = Int32.ofNat b) = False := by rw [qeq ha hb]; exact eq_false h
theorem zbl0 : zbl (Int32.ofNat 0) = some (qz false) := rfl
theorem zbl1 : zbl (Int32.ofNat 1) = some (qz true) := rfl
theorem qzF0 : (qz false = Int32.ofNat 0) = True := eq_true rfl
theorem qzT0 : (qz true = Int32.ofNat 0) = False := eq_false (by decide)
theorem qdT {P : Prop} [Decidable P] (h : P) : decide P = true := decide_eq_true h
theorem qdF {P : Prop} [Decidable P] (h : ¬ P) : decide P = false := decide_eq_false h
theorem qltoF {a : Nat} (ha : a < 2147483648) : (Int32.ofNat a < qo none) = False := by
  apply eq_false
  rw [Int32.lt_iff_toInt_lt, Int32.toInt_ofNat_of_lt (by omega)]
  have h3 : (qo none).toInt = -1 := by decide
  omega
theorem qbits_tb {P : Nat → Bool} : ∀ (n i : Nat), (qbits P n).testBit i = (decide (i < n) && P i) := by
  intro n
  induction n with
  | zero => intro i; simp [qbits]
  | succ n ih =>
    intro i
    unfold qbits
    have h2 : qbits P n + (if P n then 2 ^ n else 0) = qbits P n ||| (if P n then 2 ^ n else 0) := by
      split
      · exact qbits_or.symm
      · simp
    rw [h2, Nat.testBit_or, ih]
    by_cases h : i < n
    · have e : (if P n then 2 ^ n else 0 : Nat).testBit i = false := by
        split
        · rw [Nat.testBit_two_pow]; exact decide_eq_false (by omega)
        · exact Nat.zero_testBit i
      rw [e, decide_eq_true h, decide_eq_true (show i < n + 1 by omega)]; simp
    · by_cases h3 : i = n
      · subst h3
        rw [decide_eq_false h, decide_eq_true (show i < i + 1 by omega)]
        cases hp : P i <;> simp
      · have e : (if P n then 2 ^ n else 0 : Nat).testBit i = false := by
          split
          · rw [Nat.testBit_two_pow]; exact decide_eq_false (by omega)
          · exact Nat.zero_testBit i
        rw [e, decide_eq_false h, decide_eq_false (show ¬ i < n + 1 by omega)]; simp
theorem qbits_cg {P Q : Nat → Bool} {n : Nat} (h : ∀ i, i < n → P i = Q i) : qbits P n = qbits Q n := by
  apply Nat.eq_of_testBit_eq
  intro i
  rw [qbits_tb, qbits_tb]
  by_cases hi : i < n
  · rw [h i hi]
  · simp [hi]
theorem qbits_in {P : Nat → Bool} {n k : Nat} (hk : k < n) : qbits P n ||| 2 ^ k = qbits (fun f => P f || decide (f = k)) n := by
  apply Nat.eq_of_testBit_eq
  intro i
  rw [Nat.testBit_or, qbits_tb, qbits_tb, Nat.testBit_two_pow]
  by_cases h : k = i
  · subst h; simp [hk]
  · have h2 : ¬ i = k := fun e => h e.symm
    simp [h, h2]
theorem qbits_d {P : Nat → Bool} {n i : Nat} (hi : i < n) : decide (qbits P n / 2 ^ i % 2 = 1) = P i := by
  have h := qbits_tb (P := P) n i
  rw [Nat.testBit_eq_decide_div_mod_eq] at h
  rw [h, decide_eq_true hi, Bool.true_and]
theorem qshl1 {k : Nat} (h : k < 31) : zishl (Int32.ofNat 1) (Int32.ofNat k) = Int32.ofNat (2 ^ k) := qbits_sh h
/-- numbers from a on below b -/
def qrg (p : Int32) (a b : Nat) : Bool := decide (¬ p < 0 ∧ a ≤ p.toNatClampNeg ∧ p.toNatClampNeg < b)
theorem qrg_n {p : Int32} {a b : Nat} (h : p < 0) : qrg p a b = false := decide_eq_false (fun h2 => h2.1 h)
theorem qrg_k {k a b : Nat} (h : k < 2147483648) : qrg (Int32.ofNat k) a b = decide (a ≤ k ∧ k < b) := by
  unfold qrg
  rw [qnat h]
  congr 1
  exact propext ⟨fun h2 => h2.2, fun h2 => ⟨Int32.ofNat_not_neg h, h2⟩⟩
theorem qrg_e {p : Int32} {a b : Nat} (h : qrg p a b = true) : ∃ k, p = Int32.ofNat k ∧ k < 2147483648 ∧ a ≤ k ∧ k < b := by
  rcases qarg p with h2 | ⟨k, hk, rfl⟩
  · rw [qrg_n h2] at h; cases h
  · rw [qrg_k hk] at h
    exact ⟨k, rfl, hk, of_decide_eq_true h⟩
section QO
variable {g : zF} {V : Nat → Nat → Int32} {X : Nat → Nat → Int64} {N : Nat} {s : Nat → Nat}
theorem m_in {p : Int32} {a b : Nat} (ha : a < 2147483648) (hb : b < 2147483647) : fX12_isIn N 216 (qH g V X) p (Int32.ofNat a) (Int32.ofNat b) = some (qz (qrg p a (b + 1))) := by
  rcases qarg p with h2 | ⟨k, hk, rfl⟩
  · unfold fX12_isIn
    have h3 : p < Int32.ofNat a := by
      rw [Int32.lt_iff_toInt_lt] at h2 ⊢
      rw [Int32.toInt_ofNat_of_lt (by omega)]
      have : (0 : Int32).toInt = 0 := rfl
      omega
    rw [if_pos h3, qrg_n h2]; rfl
  · rw [m_isInB hk ha (by omega), qrg_k hk]
    congr 3
    exact propext ⟨fun h => ⟨h.1, by omega⟩, fun h => ⟨h.1, by omega⟩⟩
theorem m_in0 {p : Int32} {m : Nat} (hm : m < 2147483648) : fX12_isIn N 216 (qH g V X) p (Int32.ofNat 0) (Int32.ofNat m - Int32.ofNat 1) = some (qz (qrg p 0 m)) := by
  rcases qarg p with h2 | ⟨k, hk, rfl⟩
  · rw [qrg_n h2]; exact m_isInN h2
  · rw [qrg_k hk]
    have h := m_isIn (N := N) (g := g) (V := V) (X := X) hk hm
    rw [qlit0, qlit1] at h
    rw [h]
    congr 3
    exact propext ⟨fun h => ⟨by omega, h⟩, fun h => h.2⟩
theorem m_isFigure (hM : rM V s) (hW : sWF s) {p : Int32} : fX12_isFigure N 216 (qH g V X) 196 p = some (qz (qrg p 0 (s 3))) := by
  obtain ⟨⟨w0, w0b⟩, ⟨w1, w1b⟩, w2, w3, w4, w5, w95, w113, w101, w129, w134⟩ := id hW
  unfold fX12_isFigure
  simp (disch := omega) only [qlit, qadd, qmul, qleT, qleF, qltT, qltF, qeqT, qeqF, qdiv, qrem, qmr, zbl0, zbl1, qzb, qzF0, qzT0, Option.bind_some, zbd_some, if_true, if_false, qneo, qneo', qlto, qltoF, qleo, qleo', qdT, qdF, decide_true, decide_false, Bool.true_and, Bool.and_true, Bool.false_and, Bool.and_false, Bool.not_true, Bool.not_false, Bool.true_or, Bool.or_true, Bool.false_or, Bool.or_false, q196_c, q196_g6, m_ld hM, m_in0]
theorem m_isLooker (hM : rM V s) (hW : sWF s) {p : Int32} : fX12_isLooker N 216 (qH g V X) 196 p = some (qz (qrg p 0 (s 4))) := by
  obtain ⟨⟨w0, w0b⟩, ⟨w1, w1b⟩, w2, w3, w4, w5, w95, w113, w101, w129, w134⟩ := id hW
  unfold fX12_isLooker
  simp (disch := omega) only [qlit, qadd, qmul, qleT, qleF, qltT, qltF, qeqT, qeqF, qdiv, qrem, qmr, zbl0, zbl1, qzb, qzF0, qzT0, Option.bind_some, zbd_some, if_true, if_false, qneo, qneo', qlto, qltoF, qleo, qleo', qdT, qdF, decide_true, decide_false, Bool.true_and, Bool.and_true, Bool.false_and, Bool.and_false, Bool.not_true, Bool.not_false, Bool.true_or, Bool.or_true, Bool.false_or, Bool.or_false, q196_c, q196_g6, m_ld hM, m_in0]
theorem m_isCellP (hM : rM V s) (hW : sWF s) {p q : Int32} : fX12_isCell N 216 (qH g V X) 196 p q = some (qz (qrg p 0 (s 0) && qrg q 0 (s 1))) := by
  obtain ⟨⟨w0, w0b⟩, ⟨w1, w1b⟩, w2, w3, w4, w5, w95, w113, w101, w129, w134⟩ := id hW
  unfold fX12_isCell
  cases h : qrg p 0 (s 0) with
  | false => simp (disch := omega) only [qlit, qadd, qmul, qleT, qleF, qltT, qltF, qeqT, qeqF, qdiv, qrem, qmr, zbl0, zbl1, qzb, qzF0, qzT0, Option.bind_some, zbd_some, if_true, if_false, qneo, qneo', qlto, qltoF, qleo, qleo', qdT, qdF, decide_true, decide_false, Bool.true_and, Bool.and_true, Bool.false_and, Bool.and_false, Bool.not_true, Bool.not_false, Bool.true_or, Bool.or_true, Bool.false_or, Bool.or_false, q196_c, q196_g6, m_ld hM, m_in0, h, Bool.false_and]
  | true =>
    cases h2 : qrg q 0 (s 1) with
    | false => simp (disch := omega) only [qlit, qadd, qmul, qleT, qleF, qltT, qltF, qeqT, qeqF, qdiv, qrem, qmr, zbl0, zbl1, qzb, qzF0, qzT0, Option.bind_some, zbd_some, if_true, if_false, qneo, qneo', qlto, qltoF, qleo, qleo', qdT, qdF, decide_true, decide_false, Bool.true_and, Bool.and_true, Bool.false_and, Bool.and_false, Bool.not_true, Bool.not_false, Bool.true_or, Bool.or_true, Bool.false_or, Bool.or_false, q196_c, q196_g6, m_ld hM, m_in0, h, h2, Bool.true_and]
    | true => simp (disch := omega) only [qlit, qadd, qmul, qleT, qleF, qltT, qltF, qeqT, qeqF, qdiv, qrem, qmr, zbl0, zbl1, qzb, qzF0, qzT0, Option.bind_some, zbd_some, if_true, if_false, qneo, qneo', qlto, qltoF, qleo, qleo', qdT, qdF, decide_true, decide_false, Bool.true_and, Bool.and_true, Bool.false_and, Bool.and_false, Bool.not_true, Bool.not_false, Bool.true_or, Bool.or_true, Bool.false_or, Bool.or_false, q196_c, q196_g6, m_ld hM, m_in0, h, h2, Bool.true_and]
theorem m_bitOf {x l : Nat} (hl : l < 32) (hx : x < 2147483648) : fX12_bitOf N 216 (qH g V X) (Int32.ofNat x) (Int32.ofNat l) = some (qz (decide (x / 2 ^ l % 2 = 1))) := by
  unfold fX12_bitOf
  have h3 : x / 2 ^ l ≤ x := Nat.div_le_self _ _
  rw [qshr hl hx, show (1 : Int32) = Int32.ofNat 1 from rfl, qand, show x / 2 ^ l &&& 1 = x / 2 ^ l % 2 from Nat.and_two_pow_sub_one_eq_mod _ 1]
  by_cases h : x / 2 ^ l % 2 = 1
  · rw [if_pos (by rw [h]), decide_eq_true h]; rfl
  · rw [if_neg (by rw [qeq (by omega) (by omega)]; omega), decide_eq_false h]; rfl
def sMs (d c : Nat) : Nat := if d = 0 then 9 - c % 9 else if d = 1 then 9 - c / 9 else if d = 2 then c % 9 + 1 else c / 9 + 1
theorem sMs_b {c d t : Nat} (hW : sWF s) (hc : c < 81) (h : sBeside s c d = some t) : sMs d t < sMs d c := by
  obtain ⟨⟨-, h0⟩, ⟨-, h1⟩, -⟩ := hW
  have h9 : c % 9 < 9 := Nat.mod_lt _ (by decide)
  unfold sBeside at h
  unfold sMs
  by_cases e0 : d = 0
  · rw [if_pos e0] at h ⊢
    split at h
    · cases h; rw [if_pos e0]; omega
    · cases h
  · rw [if_neg e0] at h ⊢
    rw [if_neg e0]
    by_cases e1 : d = 1
    · rw [if_pos e1] at h ⊢
      split at h
      · cases h; rw [if_pos e1]; omega
      · cases h
    · rw [if_neg e1] at h ⊢
      rw [if_neg e1]
      by_cases e2 : d = 2
      · rw [if_pos e2] at h ⊢
        split at h
        · cases h; rw [if_pos e2]; omega
        · cases h
      · rw [if_neg e2] at h ⊢
        rw [if_neg e2]
        split at h
        · cases h; omega
        · cases h
theorem sMs_9 {c d : Nat} (hc : c < 81) : 1 ≤ sMs d c ∧ sMs d c ≤ 9 := by
  have h9 : c % 9 < 9 := Nat.mod_lt _ (by decide)
  unfold sMs
  split
  · omega
  · split
    · omega
    · split <;> omega
theorem m_figuresTo5 (hN : 3000 ≤ N) (hM : rM V s) (hW : sWF s) (hD : sWD s) {d : Nat} (hd : d < 4) : ∀ m k (o : Option Nat) (P : Nat → Bool), (∀ c, o = some c → c < 81 ∧ sMs d c ≤ m) → m < k → fX12_figuresTo_5 N 216 (qH g V X) k 196 (Int32.ofNat d) (Int32.ofNat (qbits P (s 3))) (qo o) = some (Int32.ofNat (qbits (fun f => P f || decide (s (141 + f) ∈ sLn s d m o)) (s 3))) := by
  obtain ⟨⟨w0, w0b⟩, ⟨w1, w1b⟩, w2, w3, w4, w5, w95, w113, w101, w129, w134⟩ := id hW
  obtain ⟨d139, d140, d141, d147, d159, d164, d169, dinj⟩ := id hD
  intro m
  induction m with
  | zero =>
    intro k o P ho hk
    obtain ⟨k, rfl⟩ : ∃ j, k = j + 1 := ⟨k - 1, by omega⟩
    cases o with
    | some c =>
      have h1 := ho c rfl
      have h2 := (sMs_9 (d := d) h1.1).1
      omega
    | none =>
      unfold fX12_figuresTo_5 sLn
      simp (disch := omega) only [qlit, qadd, qmul, qleT, qleF, qltT, qltF, qeqT, qeqF, qdiv, qrem, qmr, zbl0, zbl1, qzb, qzF0, qzT0, Option.bind_some, zbd_some, if_true, if_false, qneo, qneo', qlto, qltoF, qleo, qleo', qdT, qdF, decide_true, decide_false, Bool.true_and, Bool.and_true, Bool.false_and, Bool.and_false, Bool.not_true, Bool.not_false, Bool.true_or, Bool.or_true, Bool.false_or, Bool.or_false, q196_c, q196_g6, m_ld hM]
      simp
  | succ m ih =>
    intro k o P ho hk
    obtain ⟨k, rfl⟩ : ∃ j, k = j + 1 := ⟨k - 1, by omega⟩
    cases o with
    | none =>
      unfold fX12_figuresTo_5 sLn
      simp (disch := omega) only [qlit, qadd, qmul, qleT, qleF, qltT, qltF, qeqT, qeqF, qdiv, qrem, qmr, zbl0, zbl1, qzb, qzF0, qzT0, Option.bind_some, zbd_some, if_true, if_false, qneo, qneo', qlto, qltoF, qleo, qleo', qdT, qdF, decide_true, decide_false, Bool.true_and, Bool.and_true, Bool.false_and, Bool.and_false, Bool.not_true, Bool.not_false, Bool.true_or, Bool.or_true, Bool.false_or, Bool.or_false, q196_c, q196_g6, m_ld hM]
      simp
    | some c =>
      obtain ⟨hc, hm⟩ := ho c rfl
      have h5 := w5 c hc
      have ho2 : ∀ c2, sBeside s c d = some c2 → c2 < 81 ∧ sMs d c2 ≤ m := fun c2 h => ⟨sBeside_lt hW h, by have := sMs_b hW hc h; omega⟩
      unfold fX12_figuresTo_5 sLn fX12_figuresTo_44
      rw [qo_some]
      by_cases h0 : s (5 + c) = 0
      · cases h1 : sFig s c with
        | none =>
          have hno := sFig_none h1
          simp (disch := omega) only [qlit, qadd, qmul, qleT, qleF, qltT, qltF, qeqT, qeqF, qdiv, qrem, qmr, zbl0, zbl1, qzb, qzF0, qzT0, Option.bind_some, zbd_some, if_true, if_false, qneo, qneo', qlto, qltoF, qleo, qleo', qdT, qdF, decide_true, decide_false, Bool.true_and, Bool.and_true, Bool.false_and, Bool.and_false, Bool.not_true, Bool.not_false, Bool.true_or, Bool.or_true, Bool.false_or, Bool.or_false, q196_c, q196_g6, m_ld hM, m_figureAt hN hM hW hD, m_beside hM hW, h0, h1, qor, Nat.or_zero, ih k _ _ ho2]
          congr 2
          apply qbits_cg
          intro f hf
          have := hno f hf
          simp [this]
        | some j =>
          have hj := qfnd_lt h1
          have hj2 : s (141 + j) = c := of_decide_eq_true hj.2.2
          simp (disch := omega) only [qlit, qadd, qmul, qleT, qleF, qltT, qltF, qeqT, qeqF, qdiv, qrem, qmr, zbl0, zbl1, qzb, qzF0, qzT0, Option.bind_some, zbd_some, if_true, if_false, qneo, qneo', qlto, qltoF, qleo, qleo', qdT, qdF, decide_true, decide_false, Bool.true_and, Bool.and_true, Bool.false_and, Bool.and_false, Bool.not_true, Bool.not_false, Bool.true_or, Bool.or_true, Bool.false_or, Bool.or_false, q196_c, q196_g6, m_ld hM, m_figureAt hN hM hW hD, m_beside hM hW, h0, h1, qo_some, qshl1, qor, qbits_in, ih k _ _ ho2]
          congr 2
          apply qbits_cg
          intro f hf
          by_cases e : f = j
          · subst e; simp [hj2]
          · have : s (141 + f) ≠ c := fun h => e (dinj f j hf (by omega) (by rw [h, hj2]))
            simp [e, this]
      · simp (disch := omega) only [qlit, qadd, qmul, qleT, qleF, qltT, qltF, qeqT, qeqF, qdiv, qrem, qmr, zbl0, zbl1, qzb, qzF0, qzT0, Option.bind_some, zbd_some, if_true, if_false, qneo, qneo', qlto, qltoF, qleo, qleo', qdT, qdF, decide_true, decide_false, Bool.true_and, Bool.and_true, Bool.false_and, Bool.and_false, Bool.not_true, Bool.not_false, Bool.true_or, Bool.or_true, Bool.false_or, Bool.or_false, q196_c, q196_g6, m_ld hM, h0]
        simp
theorem m_figuresTo (hN : 3000 ≤ N) (hM : rM V s) (hW : sWF s) (hD : sWD s) {c d : Nat} (hc : c < 81) (hd : d < 4) : fX12_figuresTo N 216 (qH g V X) 196 (Int32.ofNat c) (Int32.ofNat d) = some (Int32.ofNat (sSeen s c d)) := by
  have h9 := (sMs_9 (d := d) hc).2
  have h := m_figuresTo5 (g := g) (X := X) hN hM hW hD hd 9 N (some c) (fun _ => false) (fun c2 h => by cases h; exact ⟨hc, h9⟩) (by omega)
  unfold fX12_figuresTo sSeen sSight
  have e : qbits (fun _ => false) (s 3) = 0 := by
    have : ∀ n, qbits (fun _ => false) n = 0 := by intro n; induction n with | zero => rfl | succ n ih => unfold qbits; rw [ih]; rfl
    exact this _
  rw [e] at h
  simp only [Bool.false_or] at h
  exact h
theorem m_isShut (hN : 3000 ≤ N) (hM : rM V s) (hW : sWF s) (hD : sWD s) {l : Nat} (hl : l < s 4) : fX12_isShut N 216 (qH g V X) 196 (Int32.ofNat l) = some (qz (decide (sShut s l = 1))) := by
  obtain ⟨⟨w0, w0b⟩, ⟨w1, w1b⟩, w2, w3, w4, w5, w95, w113, w101, w129, w134⟩ := id hW
  obtain ⟨d139, d140, d141, d147, d159, d164, d169, dinj⟩ := id hD
  have h4 : 2 ^ s 4 ≤ 2 ^ 5 := Nat.pow_le_pow_right (by decide) w4
  unfold fX12_isShut sShut
  simp (disch := omega) only [qlit, qadd, qmul, qleT, qleF, qltT, qltF, qeqT, qeqF, qdiv, qrem, qmr, zbl0, zbl1, qzb, qzF0, qzT0, Option.bind_some, zbd_some, if_true, if_false, qneo, qneo', qlto, qltoF, qleo, qleo', qdT, qdF, decide_true, decide_false, Bool.true_and, Bool.and_true, Bool.false_and, Bool.and_false, Bool.not_true, Bool.not_false, Bool.true_or, Bool.or_true, Bool.false_or, Bool.or_false, q196_c, q196_g6, m_ld hM, m_bitOf]
theorem m_isLooking (hN : 3000 ≤ N) (hM : rM V s) (hW : sWF s) (hD : sWD s) {l : Nat} (hl : l < s 4) : fX12_isLooking N 216 (qH g V X) 196 (Int32.ofNat l) = some (qz (sLooks s l)) := by
  obtain ⟨⟨w0, w0b⟩, ⟨w1, w1b⟩, w2, w3, w4, w5, w95, w113, w101, w129, w134⟩ := id hW
  obtain ⟨d139, d140, d141, d147, d159, d164, d169, dinj⟩ := id hD
  have h129 := w129 l hl
  have h134 := w134 l hl
  have hs := sShut_lt (s := s) l
  have hm : (s 139 + 24 - s (129 + l)) % 24 < 24 := Nat.mod_lt _ (by decide)
  have he : (s 139 % 24 + 24 - s (129 + l)) % 24 = (s 139 + 24 - s (129 + l)) % 24 := by omega
  unfold fX12_isLooking sLooks
  by_cases h0 : sShut s l = 0
  · by_cases h1 : (s 139 + 24 - s (129 + l)) % 24 < s (134 + l)
    · simp (disch := omega) only [qlit, qadd, qmul, qleT, qleF, qltT, qltF, qeqT, qeqF, qdiv, qrem, qmr, zbl0, zbl1, qzb, qzF0, qzT0, Option.bind_some, zbd_some, if_true, if_false, qneo, qneo', qlto, qltoF, qleo, qleo', qdT, qdF, decide_true, decide_false, Bool.true_and, Bool.and_true, Bool.false_and, Bool.and_false, Bool.not_true, Bool.not_false, Bool.true_or, Bool.or_true, Bool.false_or, Bool.or_false, q196_c, q196_g6, m_ld hM, m_isShut hN hM hW hD, h0, h1, qsub, he, decide_true, Bool.and_self]
    · simp (disch := omega) only [qlit, qadd, qmul, qleT, qleF, qltT, qltF, qeqT, qeqF, qdiv, qrem, qmr, zbl0, zbl1, qzb, qzF0, qzT0, Option.bind_some, zbd_some, if_true, if_false, qneo, qneo', qlto, qltoF, qleo, qleo', qdT, qdF, decide_true, decide_false, Bool.true_and, Bool.and_true, Bool.false_and, Bool.and_false, Bool.not_true, Bool.not_false, Bool.true_or, Bool.or_true, Bool.false_or, Bool.or_false, q196_c, q196_g6, m_ld hM, m_isShut hN hM hW hD, h0, h1, qsub, he, Bool.and_false]
  · have h9 : sShut s l = 1 := by omega
    simp (disch := omega) only [qlit, qadd, qmul, qleT, qleF, qltT, qltF, qeqT, qeqF, qdiv, qrem, qmr, zbl0, zbl1, qzb, qzF0, qzT0, Option.bind_some, zbd_some, if_true, if_false, qneo, qneo', qlto, qltoF, qleo, qleo', qdT, qdF, decide_true, decide_false, Bool.true_and, Bool.and_true, Bool.false_and, Bool.and_false, Bool.not_true, Bool.not_false, Bool.true_or, Bool.or_true, Bool.false_or, Bool.or_false, q196_c, q196_g6, m_ld hM, m_isShut hN hM hW hD, h9, Bool.false_and]
def sSees (s : Nat → Nat) (l : Nat) : Nat := if sLooks s l then sSeen s (s (159 + l)) (s (164 + l)) else 0
theorem sSeen_lt (hW : sWF s) {c d : Nat} : sSeen s c d < 64 := by
  have h : sSeen s c d < 2 ^ s 3 := qbits_lt
  have h2 : 2 ^ s 3 ≤ 2 ^ 6 := Nat.pow_le_pow_right (by decide) hW.2.2.2.1
  omega
theorem m_seesOf (hN : 3000 ≤ N) (hM : rM V s) (hW : sWF s) (hD : sWD s) {l : Nat} (hl : l < s 4) : fX12_seesOf N 216 (qH g V X) 196 (Int32.ofNat l) = some (Int32.ofNat (sSees s l)) := by
  obtain ⟨⟨w0, w0b⟩, ⟨w1, w1b⟩, w2, w3, w4, w5, w95, w113, w101, w129, w134⟩ := id hW
  obtain ⟨d139, d140, d141, d147, d159, d164, d169, dinj⟩ := id hD
  have h1 := d159 l hl
  have h2 := d164 l hl
  unfold fX12_seesOf sSees
  cases h : sLooks s l with
  | false => simp (disch := omega) only [qlit, qadd, qmul, qleT, qleF, qltT, qltF, qeqT, qeqF, qdiv, qrem, qmr, zbl0, zbl1, qzb, qzF0, qzT0, Option.bind_some, zbd_some, if_true, if_false, qneo, qneo', qlto, qltoF, qleo, qleo', qdT, qdF, decide_true, decide_false, Bool.true_and, Bool.and_true, Bool.false_and, Bool.and_false, Bool.not_true, Bool.not_false, Bool.true_or, Bool.or_true, Bool.false_or, Bool.or_false, q196_c, q196_g6, m_ld hM, m_isLooking hN hM hW hD, h]; simp
  | true => simp (disch := omega) only [qlit, qadd, qmul, qleT, qleF, qltT, qltF, qeqT, qeqF, qdiv, qrem, qmr, zbl0, zbl1, qzb, qzF0, qzT0, Option.bind_some, zbd_some, if_true, if_false, qneo, qneo', qlto, qltoF, qleo, qleo', qdT, qdF, decide_true, decide_false, Bool.true_and, Bool.and_true, Bool.false_and, Bool.and_false, Bool.not_true, Bool.not_false, Bool.true_or, Bool.or_true, Bool.false_or, Bool.or_false, q196_c, q196_g6, m_ld hM, m_isLooking hN hM hW hD, h, m_figuresTo hN hM hW hD]
theorem m_seenBy4 (hN : 3000 ≤ N) (hM : rM V s) (hW : sWF s) (hD : sWD s) {f : Nat} (hf : f < s 3) : ∀ m i k, i + m = s 4 → m < k → fX12_seenBy_4 N 216 (qH g V X) k 196 (Int32.ofNat f) (Int32.ofNat (qbits (fun l => sLooks s l && sSight s (s (159 + l)) (s (164 + l)) f) i)) (Int32.ofNat i) = some (Int32.ofNat (sSeers s f)) := by
  obtain ⟨⟨w0, w0b⟩, ⟨w1, w1b⟩, w2, w3, w4, w5, w95, w113, w101, w129, w134⟩ := id hW
  obtain ⟨d139, d140, d141, d147, d159, d164, d169, dinj⟩ := id hD
  intro m
  induction m with
  | zero =>
    intro i k hi hk
    obtain ⟨k, rfl⟩ : ∃ j, k = j + 1 := ⟨k - 1, by omega⟩
    unfold fX12_seenBy_4 sSeers
    have e : i = s 4 := by omega
    simp (disch := omega) only [qlit, qadd, qmul, qleT, qleF, qltT, qltF, qeqT, qeqF, qdiv, qrem, qmr, zbl0, zbl1, qzb, qzF0, qzT0, Option.bind_some, zbd_some, if_true, if_false, qneo, qneo', qlto, qltoF, qleo, qleo', qdT, qdF, decide_true, decide_false, Bool.true_and, Bool.and_true, Bool.false_and, Bool.and_false, Bool.not_true, Bool.not_false, Bool.true_or, Bool.or_true, Bool.false_or, Bool.or_false, q196_c, q196_g6, m_ld hM, e]
  | succ m ih =>
    intro i k hi hk
    obtain ⟨k, rfl⟩ : ∃ j, k = j + 1 := ⟨k - 1, by omega⟩
    have hq : qbits (fun l => sLooks s l && sSight s (s (159 + l)) (s (164 + l)) f) (i + 1) = qbits (fun l => sLooks s l && sSight s (s (159 + l)) (s (164 + l)) f) i + (if (sLooks s i && sSight s (s (159 + i)) (s (164 + i)) f) = true then 2 ^ i else 0) := rfl
    have hih := ih (i + 1) k (by omega) (by omega)
    have hsl : sSees s i < 64 := by
      unfold sSees
      split
      · exact sSeen_lt hW
      · omega
    have hb : decide (sSees s i / 2 ^ f % 2 = 1) = (sLooks s i && sSight s (s (159 + i)) (s (164 + i)) f) := by
      unfold sSees
      cases h : sLooks s i with
      | false => simp
      | true =>
        rw [if_pos rfl, Bool.true_and]
        exact qbits_d hf
    unfold fX12_seenBy_4 fX12_seenBy_34
    cases hc : (sLooks s i && sSight s (s (159 + i)) (s (164 + i)) f) with
    | false =>
      rw [hc] at hb
      rw [hq, hc] at hih
      simp (disch := omega) only [qlit, qadd, qmul, qleT, qleF, qltT, qltF, qeqT, qeqF, qdiv, qrem, qmr, zbl0, zbl1, qzb, qzF0, qzT0, Option.bind_some, zbd_some, if_true, if_false, qneo, qneo', qlto, qltoF, qleo, qleo', qdT, qdF, decide_true, decide_false, Bool.true_and, Bool.and_true, Bool.false_and, Bool.and_false, Bool.not_true, Bool.not_false, Bool.true_or, Bool.or_true, Bool.false_or, Bool.or_false, q196_c, q196_g6, m_ld hM, m_seesOf hN hM hW hD, m_bitOf, hb, qor, Nat.or_zero]
      exact hih
    | true =>
      rw [hc] at hb
      rw [hq, hc] at hih
      simp (disch := omega) only [qlit, qadd, qmul, qleT, qleF, qltT, qltF, qeqT, qeqF, qdiv, qrem, qmr, zbl0, zbl1, qzb, qzF0, qzT0, Option.bind_some, zbd_some, if_true, if_false, qneo, qneo', qlto, qltoF, qleo, qleo', qdT, qdF, decide_true, decide_false, Bool.true_and, Bool.and_true, Bool.false_and, Bool.and_false, Bool.not_true, Bool.not_false, Bool.true_or, Bool.or_true, Bool.false_or, Bool.or_false, q196_c, q196_g6, m_ld hM, m_seesOf hN hM hW hD, m_bitOf, hb, qshl1, qor, qbits_or]
      exact hih
theorem m_seenBy (hN : 3000 ≤ N) (hM : rM V s) (hW : sWF s) (hD : sWD s) {f : Nat} (hf : f < s 3) : fX12_seenBy N 216 (qH g V X) 196 (Int32.ofNat f) = some (Int32.ofNat (sSeers s f)) := by
  unfold fX12_seenBy
  have h4 := hW.2.2.2.2.1
  exact m_seenBy4 hN hM hW hD hf (s 4) 0 N (by omega) (by omega)
theorem sSeers_lt (hW : sWF s) {f : Nat} : sSeers s f < 32 := by
  have h : sSeers s f < 2 ^ s 4 := qbits_lt
  have h2 : 2 ^ s 4 ≤ 2 ^ 5 := Nat.pow_le_pow_right (by decide) hW.2.2.2.2.1
  omega
theorem m_wentInAll4 (hM : rM V s) (hW : sWF s) : ∀ m i k, i + m = s 3 → m < k → fX12_wentInAll_4 N 216 (qH g V X) k 196 (Int32.ofNat (qsum (fun f => s (153 + f)) i)) (Int32.ofNat i) = some (Int32.ofNat (sGone s)) := by
  obtain ⟨⟨w0, w0b⟩, ⟨w1, w1b⟩, w2, w3, w4, w5, w95, w113, w101, w129, w134⟩ := id hW
  intro m
  induction m with
  | zero =>
    intro i k hi hk
    obtain ⟨k, rfl⟩ : ∃ j, k = j + 1 := ⟨k - 1, by omega⟩
    unfold fX12_wentInAll_4 sGone
    have e : i = s 3 := by omega
    simp (disch := omega) only [qlit, qadd, qmul, qleT, qleF, qltT, qltF, qeqT, qeqF, qdiv, qrem, qmr, zbl0, zbl1, qzb, qzF0, qzT0, Option.bind_some, zbd_some, if_true, if_false, qneo, qneo', qlto, qltoF, qleo, qleo', qdT, qdF, decide_true, decide_false, Bool.true_and, Bool.and_true, Bool.false_and, Bool.and_false, Bool.not_true, Bool.not_false, Bool.true_or, Bool.or_true, Bool.false_or, Bool.or_false, q196_c, q196_g6, m_ld hM, e]
  | succ m ih =>
    intro i k hi hk
    obtain ⟨k, rfl⟩ : ∃ j, k = j + 1 := ⟨k - 1, by omega⟩
    have hih := ih (i + 1) k (by omega) (by omega)
    unfold fX12_wentInAll_4
    simp (disch := omega) only [qlit, qadd, qmul, qleT, qleF, qltT, qltF, qeqT, qeqF, qdiv, qrem, qmr, zbl0, zbl1, qzb, qzF0, qzT0, Option.bind_some, zbd_some, if_true, if_false, qneo, qneo', qlto, qltoF, qleo, qleo', qdT, qdF, decide_true, decide_false, Bool.true_and, Bool.and_true, Bool.false_and, Bool.and_false, Bool.not_true, Bool.not_false, Bool.true_or, Bool.or_true, Bool.false_or, Bool.or_false, q196_c, q196_g6, m_ld hM]
    exact hih
theorem m_wentInAll (hN : 3000 ≤ N) (hM : rM V s) (hW : sWF s) : fX12_wentInAll N 216 (qH g V X) 196 = some (Int32.ofNat (sGone s)) := by
  unfold fX12_wentInAll
  have h3 := hW.2.2.2.1
  exact m_wentInAll4 hM hW (s 3) 0 N (by omega) (by omega)
theorem m_landOf4 (hM : rM V s) (hD : sWD s) {o : Nat} (ho : o < 1000) : ∀ m i k, i + m = 81 → m < k → fX12_landOf_4 N 216 (qH g V X) k 196 (Int32.ofNat o) (Int32.ofNat (qsum (fun c => if s (169 + c) = o + 1 then 1 else 0) i)) (Int32.ofNat i) = some (Int32.ofNat (sLand s o)) := by
  obtain ⟨d139, d140, d141, d147, d159, d164, d169, dinj⟩ := id hD
  intro m
  induction m with
  | zero =>
    intro i k hi hk
    obtain ⟨k, rfl⟩ : ∃ j, k = j + 1 := ⟨k - 1, by omega⟩
    unfold fX12_landOf_4 sLand
    have e : i = 81 := by omega
    simp (disch := omega) only [qlit, qadd, qmul, qleT, qleF, qltT, qltF, qeqT, qeqF, qdiv, qrem, qmr, zbl0, zbl1, qzb, qzF0, qzT0, Option.bind_some, zbd_some, if_true, if_false, qneo, qneo', qlto, qltoF, qleo, qleo', qdT, qdF, decide_true, decide_false, Bool.true_and, Bool.and_true, Bool.false_and, Bool.and_false, Bool.not_true, Bool.not_false, Bool.true_or, Bool.or_true, Bool.false_or, Bool.or_false, q196_c, q196_g6, m_ld hM, e]
  | succ m ih =>
    intro i k hi hk
    obtain ⟨k, rfl⟩ : ∃ j, k = j + 1 := ⟨k - 1, by omega⟩
    have h9 := d169 i (by omega)
    have hih := ih (i + 1) k (by omega) (by omega)
    have hq : qsum (fun c => if s (169 + c) = o + 1 then 1 else 0) (i + 1) = qsum (fun c => if s (169 + c) = o + 1 then 1 else 0) i + (if s (169 + i) = o + 1 then 1 else 0) := rfl
    unfold fX12_landOf_4 fX12_landOf_32
    by_cases h : s (169 + i) = o + 1
    · rw [hq, if_pos h] at hih
      simp (disch := omega) only [qlit, qadd, qmul, qleT, qleF, qltT, qltF, qeqT, qeqF, qdiv, qrem, qmr, zbl0, zbl1, qzb, qzF0, qzT0, Option.bind_some, zbd_some, if_true, if_false, qneo, qneo', qlto, qltoF, qleo, qleo', qdT, qdF, decide_true, decide_false, Bool.true_and, Bool.and_true, Bool.false_and, Bool.and_false, Bool.not_true, Bool.not_false, Bool.true_or, Bool.or_true, Bool.false_or, Bool.or_false, q196_c, q196_g6, m_ld hM]
      exact hih
    · rw [hq, if_neg h] at hih
      simp (disch := omega) only [qlit, qadd, qmul, qleT, qleF, qltT, qltF, qeqT, qeqF, qdiv, qrem, qmr, zbl0, zbl1, qzb, qzF0, qzT0, Option.bind_some, zbd_some, if_true, if_false, qneo, qneo', qlto, qltoF, qleo, qleo', qdT, qdF, decide_true, decide_false, Bool.true_and, Bool.and_true, Bool.false_and, Bool.and_false, Bool.not_true, Bool.not_false, Bool.true_or, Bool.or_true, Bool.false_or, Bool.or_false, q196_c, q196_g6, m_ld hM]
      exact hih
theorem m_landOf (hN : 3000 ≤ N) (hM : rM V s) (hD : sWD s) {o : Nat} (ho : o < 1000) : fX12_landOf N 216 (qH g V X) 196 (Int32.ofNat o) = some (Int32.ofNat (sLand s o)) := by
  unfold fX12_landOf
  exact m_landOf4 hM hD ho 81 0 N (by omega) (by omega)
theorem m_whyWalk (hN : 3000 ≤ N) (hM : rM V s) (hW : sWF s) (hD : sWD s) {l d : Nat} (hl : l < s 4) (hd : d < 4) : fX12_whyWalk N 216 (qH g V X) 196 (Int32.ofNat l) (Int32.ofNat d) = some (Int32.ofNat (sWhyWalk s l d)) := by
  obtain ⟨⟨w0, w0b⟩, ⟨w1, w1b⟩, w2, w3, w4, w5, w95, w113, w101, w129, w134⟩ := id hW
  obtain ⟨d139, d140, d141, d147, d159, d164, d169, dinj⟩ := id hD
  have h1 := d159 l hl
  unfold fX12_whyWalk sWhyWalk
  cases hb : sBeside s (s (159 + l)) d with
  | none => simp (disch := omega) only [qlit, qadd, qmul, qleT, qleF, qltT, qltF, qeqT, qeqF, qdiv, qrem, qmr, zbl0, zbl1, qzb, qzF0, qzT0, Option.bind_some, zbd_some, if_true, if_false, qneo, qneo', qlto, qltoF, qleo, qleo', qdT, qdF, decide_true, decide_false, Bool.true_and, Bool.and_true, Bool.false_and, Bool.and_false, Bool.not_true, Bool.not_false, Bool.true_or, Bool.or_true, Bool.false_or, Bool.or_false, q196_c, q196_g6, m_ld hM, m_beside hM hW, hb]
  | some t =>
    have ht := sBeside_lt hW hb
    have h5 := w5 t ht
    dsimp only
    by_cases h0 : s (5 + t) = 0
    · cases h1 : sFig s t with
      | some j =>
        have hj := sFig_lt hW h1
        simp (disch := omega) only [qlit, qadd, qmul, qleT, qleF, qltT, qltF, qeqT, qeqF, qdiv, qrem, qmr, zbl0, zbl1, qzb, qzF0, qzT0, Option.bind_some, zbd_some, if_true, if_false, qneo, qneo', qlto, qltoF, qleo, qleo', qdT, qdF, decide_true, decide_false, Bool.true_and, Bool.and_true, Bool.false_and, Bool.and_false, Bool.not_true, Bool.not_false, Bool.true_or, Bool.or_true, Bool.false_or, Bool.or_false, q196_c, q196_g6, m_ld hM, m_beside hM hW, hb, qo_some, m_figureAt hN hM hW hD, h1, h0]
        rfl
      | none =>
        cases h2 : sLook s t with
        | some j =>
          have hj := sLook_lt hW h2
          simp (disch := omega) only [qlit, qadd, qmul, qleT, qleF, qltT, qltF, qeqT, qeqF, qdiv, qrem, qmr, zbl0, zbl1, qzb, qzF0, qzT0, Option.bind_some, zbd_some, if_true, if_false, qneo, qneo', qlto, qltoF, qleo, qleo', qdT, qdF, decide_true, decide_false, Bool.true_and, Bool.and_true, Bool.false_and, Bool.and_false, Bool.not_true, Bool.not_false, Bool.true_or, Bool.or_true, Bool.false_or, Bool.or_false, q196_c, q196_g6, m_ld hM, m_beside hM hW, hb, qo_some, m_figureAt hN hM hW hD, m_lookerAt hN hM hW hD, h1, h2, h0]
          rfl
        | none =>
          simp (disch := omega) only [qlit, qadd, qmul, qleT, qleF, qltT, qltF, qeqT, qeqF, qdiv, qrem, qmr, zbl0, zbl1, qzb, qzF0, qzT0, Option.bind_some, zbd_some, if_true, if_false, qneo, qneo', qlto, qltoF, qleo, qleo', qdT, qdF, decide_true, decide_false, Bool.true_and, Bool.and_true, Bool.false_and, Bool.and_false, Bool.not_true, Bool.not_false, Bool.true_or, Bool.or_true, Bool.false_or, Bool.or_false, q196_c, q196_g6, m_ld hM, m_beside hM hW, hb, qo_some, m_figureAt hN hM hW hD, m_lookerAt hN hM hW hD, h1, h2, h0]
          rfl
    · simp (disch := omega) only [qlit, qadd, qmul, qleT, qleF, qltT, qltF, qeqT, qeqF, qdiv, qrem, qmr, zbl0, zbl1, qzb, qzF0, qzT0, Option.bind_some, zbd_some, if_true, if_false, qneo, qneo', qlto, qltoF, qleo, qleo', qdT, qdF, decide_true, decide_false, Bool.true_and, Bool.and_true, Bool.false_and, Bool.and_false, Bool.not_true, Bool.not_false, Bool.true_or, Bool.or_true, Bool.false_or, Bool.or_false, q196_c, q196_g6, m_ld hM, m_beside hM hW, hb, qo_some]
      rw [if_neg h0]
theorem m_whyFace (hN : 3000 ≤ N) (hM : rM V s) (hW : sWF s) (hD : sWD s) {f d : Nat} (hf : f < s 3) (hd : d < 4) : fX12_whyFace N 216 (qH g V X) 196 (Int32.ofNat f) (Int32.ofNat d) = some (Int32.ofNat (sWhyFace s f d)) := by
  obtain ⟨⟨w0, w0b⟩, ⟨w1, w1b⟩, w2, w3, w4, w5, w95, w113, w101, w129, w134⟩ := id hW
  obtain ⟨d139, d140, d141, d147, d159, d164, d169, dinj⟩ := id hD
  have h1 := d147 f hf
  have h2 := sSeers_lt hW (f := f)
  unfold fX12_whyFace sWhyFace
  by_cases h0 : sSeers s f = 0
  · by_cases h : s (147 + f) = d
    · simp (disch := omega) only [qlit, qadd, qmul, qleT, qleF, qltT, qltF, qeqT, qeqF, qdiv, qrem, qmr, zbl0, zbl1, qzb, qzF0, qzT0, Option.bind_some, zbd_some, if_true, if_false, qneo, qneo', qlto, qltoF, qleo, qleo', qdT, qdF, decide_true, decide_false, Bool.true_and, Bool.and_true, Bool.false_and, Bool.and_false, Bool.not_true, Bool.not_false, Bool.true_or, Bool.or_true, Bool.false_or, Bool.or_false, q196_c, q196_g6, m_ld hM, m_seenBy hN hM hW hD, h0, h]
    · simp (disch := omega) only [qlit, qadd, qmul, qleT, qleF, qltT, qltF, qeqT, qeqF, qdiv, qrem, qmr, zbl0, zbl1, qzb, qzF0, qzT0, Option.bind_some, zbd_some, if_true, if_false, qneo, qneo', qlto, qltoF, qleo, qleo', qdT, qdF, decide_true, decide_false, Bool.true_and, Bool.and_true, Bool.false_and, Bool.and_false, Bool.not_true, Bool.not_false, Bool.true_or, Bool.or_true, Bool.false_or, Bool.or_false, q196_c, q196_g6, m_ld hM, m_seenBy hN hM hW hD, h0, h]
  · simp (disch := omega) only [qlit, qadd, qmul, qleT, qleF, qltT, qltF, qeqT, qeqF, qdiv, qrem, qmr, zbl0, zbl1, qzb, qzF0, qzT0, Option.bind_some, zbd_some, if_true, if_false, qneo, qneo', qlto, qltoF, qleo, qleo', qdT, qdF, decide_true, decide_false, Bool.true_and, Bool.and_true, Bool.false_and, Bool.and_false, Bool.not_true, Bool.not_false, Bool.true_or, Bool.or_true, Bool.false_or, Bool.or_false, q196_c, q196_g6, m_ld hM, m_seenBy hN hM hW hD, h0]
theorem m_goes (hN : 3000 ≤ N) (hM : rM V s) (hW : sWF s) (hD : sWD s) {f : Nat} (hf : f < s 3) : ∃ W, fX12_goes N 216 (qH g V X) 196 (Int32.ofNat f) = some (qH g W X) ∧ rM W (sGoes s f) ∧ qfr V W 198 1 := by
  obtain ⟨⟨w0, w0b⟩, ⟨w1, w1b⟩, w2, w3, w4, w5, w95, w113, w101, w129, w134⟩ := id hW
  obtain ⟨d139, d140, d141, d147, d159, d164, d169, dinj⟩ := id hD
  have h1 := d141 f hf
  have h2 := d147 f hf
  unfold fX12_goes
  cases hc : sCan s f with
  | false =>
    have hs : sGoes s f = sU s (147 + f) ((s (147 + f) + 1) % 4) := by unfold sGoes; rw [hc]; rfl
    simp (disch := omega) only [qlit, qadd, qmul, qleT, qleF, qltT, qltF, qeqT, qeqF, qdiv, qrem, qmr, zbl0, zbl1, qzb, qzF0, qzT0, Option.bind_some, zbd_some, if_true, if_false, qneo, qneo', qlto, qltoF, qleo, qleo', qdT, qdF, decide_true, decide_false, Bool.true_and, Bool.and_true, Bool.false_and, Bool.and_false, Bool.not_true, Bool.not_false, Bool.true_or, Bool.or_true, Bool.false_or, Bool.or_false, q196_c, q196_g6, m_ld hM, m_canGo hN hM hW hD, hc, m_st]
    rw [hs]
    exact ⟨_, rfl, hM.set, qfr.w (by omega) (by omega)⟩
  | true =>
    cases hb : sBeside s (s (141 + f)) (s (147 + f)) with
    | none => unfold sCan at hc; rw [hb] at hc; cases hc
    | some t =>
      have ht := sBeside_lt hW hb
      have hs : sGoes s f = sU (sU (sU s (141 + f) t) (169 + t) (s (95 + f) + 1)) (153 + f) (s (153 + f) + 1) := by unfold sGoes; rw [hc, hb]; rfl
      have hM2 : rM (qw V 198 (upd (V 198) (141 + f) (Int32.ofNat t))) (sU s (141 + f) t) := hM.set
      have hM3 := hM2.set (k := 169 + t) (x := s (95 + f) + 1)
      have hM4 := hM3.set (k := 153 + f) (x := s (153 + f) + 1)
      simp (disch := omega) only [qlit, qadd, qmul, qleT, qleF, qltT, qltF, qeqT, qeqF, qdiv, qrem, qmr, zbl0, zbl1, qzb, qzF0, qzT0, Option.bind_some, zbd_some, if_true, if_false, qneo, qneo', qlto, qltoF, qleo, qleo', qdT, qdF, decide_true, decide_false, Bool.true_and, Bool.and_true, Bool.false_and, Bool.and_false, Bool.not_true, Bool.not_false, Bool.true_or, Bool.or_true, Bool.false_or, Bool.or_false, q196_c, q196_g6, m_ld hM, m_canGo hN hM hW hD, m_beside hM hW, hc, hb, qo_some, m_st, m_ld hM2, m_ld hM3, sU_s, sU_n]
      rw [hs]
      exact ⟨_, rfl, hM4, (qfr.w (by omega) (by omega)).tr ((qfr.w (by omega) (by omega)).tr (qfr.w (by omega) (by omega)))⟩
theorem rM.to {W : Nat → Nat → Int32} {t : Nat → Nat} (hM : rM W s) (h : s = t) : rM W t := h ▸ hM
theorem m_hour2 (hN : 3000 ≤ N) : ∀ m i k V s, rM V s → sWF s → sWD s → i + m = s 3 → m < k → ∃ W, fX12_hour_2 N 216 k (qH g V X) 196 (Int32.ofNat i) = some (qH g W X) ∧ rM W (sU (sHourL s i m) 139 (s 139 + 1)) ∧ qfr V W 198 1 := by
  intro m
  induction m with
  | zero =>
    intro i k V s hM hW hD hi hk
    obtain ⟨k, rfl⟩ : ∃ j, k = j + 1 := ⟨k - 1, by omega⟩
    obtain ⟨⟨w0, w0b⟩, ⟨w1, w1b⟩, w2, w3, w4, w5, w95, w113, w101, w129, w134⟩ := id hW
    unfold fX12_hour_2 sHourL
    simp (disch := omega) only [qlit, qadd, qmul, qleT, qleF, qltT, qltF, qeqT, qeqF, qdiv, qrem, qmr, zbl0, zbl1, qzb, qzF0, qzT0, Option.bind_some, zbd_some, if_true, if_false, qneo, qneo', qlto, qltoF, qleo, qleo', qdT, qdF, decide_true, decide_false, Bool.true_and, Bool.and_true, Bool.false_and, Bool.and_false, Bool.not_true, Bool.not_false, Bool.true_or, Bool.or_true, Bool.false_or, Bool.or_false, q196_c, q196_g6, m_ld hM, m_st]
    exact ⟨_, rfl, hM.set, qfr.w (by omega) (by omega)⟩
  | succ m ih =>
    intro i k V s hM hW hD hi hk
    obtain ⟨k, rfl⟩ : ∃ j, k = j + 1 := ⟨k - 1, by omega⟩
    obtain ⟨⟨w0, w0b⟩, ⟨w1, w1b⟩, w2, w3, w4, w5, w95, w113, w101, w129, w134⟩ := id hW
    obtain ⟨d139, d140, d141, d147, d159, d164, d169, dinj⟩ := id hD
    have h113 := w113 i (by omega)
    have hsl := sSeers_lt hW (f := i)
    have hmo : (s 139 + 1) % s (113 + i) < 10 := Nat.lt_of_lt_of_le (Nat.mod_lt _ (by omega)) (by omega)
    have hstep : sHourL s i (m + 1) = sHourL (sTurn s i) (i + 1) m := rfl
    unfold fX12_hour_2 fX12_hour_48
    rw [hstep]
    by_cases hd : (s 139 + 1) % s (113 + i) = 0
    · by_cases h0 : sSeers s i = 0
      · have ht : sTurn s i = sGoes s i := by unfold sTurn; rw [if_pos ⟨hd, h0⟩]
        obtain ⟨W1, x1, x2, x3⟩ := m_goes (g := g) (X := X) hN hM hW hD (f := i) (by omega)
        obtain ⟨y1, y2, y3, y4⟩ := sGoes_wd hW hD (f := i) (by omega)
        obtain ⟨W2, z1, z2, z3⟩ := ih (i + 1) k W1 (sGoes s i) x2 (y2.wf hW) y1 (by rw [y2 3 (by omega)]; omega) (by omega)
        unfold znz
        simp (disch := omega) only [qlit, qadd, qmul, qleT, qleF, qltT, qltF, qeqT, qeqF, qdiv, qrem, qmr, zbl0, zbl1, qzb, qzF0, qzT0, Option.bind_some, zbd_some, if_true, if_false, qneo, qneo', qlto, qltoF, qleo, qleo', qdT, qdF, decide_true, decide_false, Bool.true_and, Bool.and_true, Bool.false_and, Bool.and_false, Bool.not_true, Bool.not_false, Bool.true_or, Bool.or_true, Bool.false_or, Bool.or_false, q196_c, q196_g6, m_ld hM, m_seenBy hN hM hW hD, hd, h0, x1, z1]
        rw [ht]
        refine ⟨W2, rfl, ?_, x3.tr z3⟩
        rw [y3] at z2
        exact z2
      · have ht : sTurn s i = s := by unfold sTurn; rw [if_neg (fun h => h0 h.2)]
        obtain ⟨W2, z1, z2, z3⟩ := ih (i + 1) k V s hM hW hD (by omega) (by omega)
        unfold znz
        simp (disch := omega) only [qlit, qadd, qmul, qleT, qleF, qltT, qltF, qeqT, qeqF, qdiv, qrem, qmr, zbl0, zbl1, qzb, qzF0, qzT0, Option.bind_some, zbd_some, if_true, if_false, qneo, qneo', qlto, qltoF, qleo, qleo', qdT, qdF, decide_true, decide_false, Bool.true_and, Bool.and_true, Bool.false_and, Bool.and_false, Bool.not_true, Bool.not_false, Bool.true_or, Bool.or_true, Bool.false_or, Bool.or_false, q196_c, q196_g6, m_ld hM, m_seenBy hN hM hW hD, hd, z1]
        rw [ht]
        exact ⟨W2, rfl, z2, z3⟩
    · have ht : sTurn s i = s := by unfold sTurn; rw [if_neg (fun h => hd h.1)]
      obtain ⟨W2, z1, z2, z3⟩ := ih (i + 1) k V s hM hW hD (by omega) (by omega)
      unfold znz
      simp (disch := omega) only [qlit, qadd, qmul, qleT, qleF, qltT, qltF, qeqT, qeqF, qdiv, qrem, qmr, zbl0, zbl1, qzb, qzF0, qzT0, Option.bind_some, zbd_some, if_true, if_false, qneo, qneo', qlto, qltoF, qleo, qleo', qdT, qdF, decide_true, decide_false, Bool.true_and, Bool.and_true, Bool.false_and, Bool.and_false, Bool.not_true, Bool.not_false, Bool.true_or, Bool.or_true, Bool.false_or, Bool.or_false, q196_c, q196_g6, m_ld hM, z1]
      rw [ht]
      exact ⟨W2, rfl, z2, z3⟩
theorem m_hour (hN : 3000 ≤ N) (hM : rM V s) (hW : sWF s) (hD : sWD s) : ∃ W, fX12_hour N 216 (qH g V X) 196 = some (qH g W X) ∧ rM W (sHour s) ∧ qfr V W 198 1 := by
  have h3 := hW.2.2.2.1
  obtain ⟨W, h1, h2, h4⟩ := m_hour2 (g := g) (X := X) hN (s 3) 0 N V s hM hW hD (by omega) (by omega)
  refine ⟨W, h1, ?_, h4⟩
  show rM W (sU (sHourL s 0 (s 3)) 139 (sHourL s 0 (s 3) 139 + 1))
  rw [(sHourL_wd (s 3) 0 hW hD (by omega)).2.2.1]
  exact h2
end QO
