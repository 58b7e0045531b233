/-! line -/
section QLI
variable {g : zF} {V W K : Nat → Nat → Int32} {X Y : Nat → Nat → Int64} {N n : Nat} {s t u B : Nat → Nat}
def cP (V : Nat → Nat → Int32) (n c : Nat) : Nat → Nat → Int32 := qw (qw V 193 (upd (V 193) n (Int32.ofNat c))) 191 (upd (V 191) 6 (Int32.ofNat (n + 1)))
def mP (V : Nat → Nat → Int32) (n c : Nat) : Nat → Nat → Int32 := qw (qw V 208 (upd (V 208) n (Int32.ofNat c))) 196 (upd (V 196) 35 (Int32.ofNat (n + 1)))
def cPs (V : Nat → Nat → Int32) (n : Nat) : List Nat → Nat → Nat → Int32
  | [] => V
  | c :: l => cPs (cP V n c) (n + 1) l
def mPs (V : Nat → Nat → Int32) (n : Nat) : List Nat → Nat → Nat → Int32
  | [] => V
  | c :: l => mPs (mP V n c) (n + 1) l
theorem cP_6 {c : Nat} : (cP V n c) 191 6 = Int32.ofNat (n + 1) := by unfold cP; rw [qw_s, upd_s]
theorem mP_6 {c : Nat} : (mP V n c) 196 35 = Int32.ofNat (n + 1) := by unfold mP; rw [qw_s, upd_s]
theorem cPs_app : ∀ (l1 l2 : List Nat) (V : Nat → Nat → Int32) (n : Nat), cPs (cPs V n l1) (n + l1.length) l2 = cPs V n (l1 ++ l2) := by
  intro l1
  induction l1 with
  | nil => intro l2 V n; rfl
  | cons y l ih =>
    intro l2 V n
    show cPs (cPs (cP V n y) (n + 1) l) (n + (l.length + 1)) l2 = cPs (cP V n y) (n + 1) (l ++ l2)
    rw [show n + (l.length + 1) = n + 1 + l.length by omega]
    exact ih l2 _ _
theorem mPs_app : ∀ (l1 l2 : List Nat) (V : Nat → Nat → Int32) (n : Nat), mPs (mPs V n l1) (n + l1.length) l2 = mPs V n (l1 ++ l2) := by
  intro l1
  induction l1 with
  | nil => intro l2 V n; rfl
  | cons y l ih =>
    intro l2 V n
    show mPs (mPs (mP V n y) (n + 1) l) (n + (l.length + 1)) l2 = mPs (mP V n y) (n + 1) (l ++ l2)
    rw [show n + (l.length + 1) = n + 1 + l.length by omega]
    exact ih l2 _ _
theorem cPs_6 (h : V 191 6 = Int32.ofNat n) : ∀ l : List Nat, (cPs V n l) 191 6 = Int32.ofNat (n + l.length) := by
  intro l
  induction l generalizing V n with
  | nil => exact h
  | cons y l ih =>
    have := ih (V := cP V n y) (n := n + 1) cP_6
    rw [show n + 1 + l.length = n + (l.length + 1) by omega] at this
    exact this
theorem mPs_6 (h : V 196 35 = Int32.ofNat n) : ∀ l : List Nat, (mPs V n l) 196 35 = Int32.ofNat (n + l.length) := by
  intro l
  induction l generalizing V n with
  | nil => exact h
  | cons y l ih =>
    have := ih (V := mP V n y) (n := n + 1) mP_6
    rw [show n + 1 + l.length = n + (l.length + 1) by omega] at this
    exact this
theorem cPs_fr : ∀ (l : List Nat) (V : Nat → Nat → Int32) (n : Nat), (∀ b j, ¬ (b = 191 ∧ j = 6) → b ≠ 193 → (cPs V n l) b j = V b j) ∧ (∀ j, j < n → (cPs V n l) 193 j = V 193 j) ∧ ∀ j, j < l.length → (cPs V n l) 193 (n + j) = Int32.ofNat (l.getD j 0) := by
  intro l
  induction l with
  | nil => intro V n; exact ⟨fun _ _ _ _ => rfl, fun _ _ => rfl, fun j hj => absurd hj (Nat.not_lt_zero _)⟩
  | cons y l ih =>
    intro V n
    obtain ⟨h1, h2, h3⟩ := ih (cP V n y) (n + 1)
    refine ⟨fun b j b1 b2 => ?_, fun j hj => ?_, fun j hj => ?_⟩
    · show cPs (cP V n y) (n + 1) l b j = _
      rw [h1 b j b1 b2]
      unfold cP
      by_cases e : b = 191
      · subst e
        rw [qw_s, upd_n (by omega)]
      · rw [qw_n e, qw_n b2]
    · show cPs (cP V n y) (n + 1) l 193 j = _
      rw [h2 j (by omega)]
      unfold cP
      rw [qw_n (by decide), qw_s, upd_n (by omega)]
    · show cPs (cP V n y) (n + 1) l 193 (n + j) = _
      cases j with
      | zero =>
        rw [h2 _ (by omega)]
        unfold cP
        rw [qw_n (by decide), qw_s]
        exact upd_s
      | succ j =>
        rw [show n + (j + 1) = n + 1 + j by omega, h3 j (Nat.lt_of_succ_lt_succ hj)]
        rfl
theorem mPs_fr : ∀ (l : List Nat) (V : Nat → Nat → Int32) (n : Nat), (∀ b j, ¬ (b = 196 ∧ j = 35) → b ≠ 208 → (mPs V n l) b j = V b j) ∧ (∀ j, j < n → (mPs V n l) 208 j = V 208 j) ∧ ∀ j, j < l.length → (mPs V n l) 208 (n + j) = Int32.ofNat (l.getD j 0) := by
  intro l
  induction l with
  | nil => intro V n; exact ⟨fun _ _ _ _ => rfl, fun _ _ => rfl, fun j hj => absurd hj (Nat.not_lt_zero _)⟩
  | cons y l ih =>
    intro V n
    obtain ⟨h1, h2, h3⟩ := ih (mP V n y) (n + 1)
    refine ⟨fun b j b1 b2 => ?_, fun j hj => ?_, fun j hj => ?_⟩
    · show mPs (mP V n y) (n + 1) l b j = _
      rw [h1 b j b1 b2]
      unfold mP
      by_cases e : b = 196
      · subst e
        rw [qw_s, upd_n (by omega)]
      · rw [qw_n e, qw_n b2]
    · show mPs (mP V n y) (n + 1) l 208 j = _
      rw [h2 j (by omega)]
      unfold mP
      rw [qw_n (by decide), qw_s, upd_n (by omega)]
    · show mPs (mP V n y) (n + 1) l 208 (n + j) = _
      cases j with
      | zero =>
        rw [h2 _ (by omega)]
        unfold mP
        rw [qw_n (by decide), qw_s]
        exact upd_s
      | succ j =>
        rw [show n + (j + 1) = n + 1 + j by omega, h3 j (Nat.lt_of_succ_lt_succ hj)]
        rfl
/-! letters -/
theorem q64_shr {x : Nat} (hx : x < 9223372036854775808) : ∀ k, k < 64 → zlshr (Int64.ofNat x) (Int32.ofNat k) = Int64.ofNat (x / 2 ^ k) := by
  intro k hk
  have hsm : ∀ k, k < 64 → ((Int32.ofNat k).toInt64 &&& 63) = Int64.ofNat k ∧ ((Int64.ofNat k).toBitVec.smod 64).toNat = k := by decide +kernel
  unfold zlshr
  rw [(hsm k hk).1]
  apply Int64.toInt_inj.mp
  have e1 : ∀ y, (Int64.ofNat y).toBitVec = BitVec.ofNat 64 y := fun y => rfl
  have h3 : x / 2 ^ k ≤ x := Nat.div_le_self _ _
  rw [Int64.toInt_ofNat_of_lt (by omega)]
  show (Int64.ofNat x >>> Int64.ofNat k).toBitVec.toInt = _
  rw [Int64.toBitVec_shiftRight, BitVec.sshiftRight_eq', (hsm k hk).2, BitVec.toInt_sshiftRight]
  have h1 : (Int64.ofNat x).toBitVec.toInt = (x : Int) := Int64.toInt_ofNat_of_lt (n := x) (by omega)
  rw [h1, Int.shiftRight_eq_div_pow]
  simp
theorem q64_and {a b : Nat} : Int64.ofNat a &&& Int64.ofNat b = Int64.ofNat (a &&& b) := by
  apply Int64.toBitVec_inj.mp
  have e1 : ∀ y, (Int64.ofNat y).toBitVec = BitVec.ofNat 64 y := fun y => rfl
  rw [Int64.toBitVec_and, e1, e1, e1]
  apply BitVec.eq_of_toNat_eq
  simp [BitVec.toNat_and, Nat.and_mod_two_pow]
theorem q64_i32 {a : Nat} (h : a < 2147483648) : (Int64.ofNat a).toInt32 = Int32.ofNat a := by
  rw [← q64i h]
  exact Int32.toInt32_toInt64 _
theorem q64_d5 {x j : Nat} (hx : x < 34359738368) (hj : j < 7) : (zlshr (Int64.ofNat x) (Int32.ofNat (5 * j))).toInt32 &&& (31 : Int32) = Int32.ofNat (x / 32 ^ j % 32) := by
  rw [q64_shr (by omega) _ (by omega)]
  have e : (Int64.ofNat (x / 2 ^ (5 * j))).toInt32 = Int32.ofNat (x / 2 ^ (5 * j)) := by
    apply Int32.toBitVec_inj.mp
    have e1 : (Int64.ofNat (x / 2 ^ (5 * j))).toInt32.toBitVec = (BitVec.ofNat 64 (x / 2 ^ (5 * j))).signExtend 32 := rfl
    rw [e1, qbv, BitVec.signExtend_eq_setWidth_of_le _ (by decide)]
    apply BitVec.eq_of_toNat_eq
    rw [BitVec.toNat_setWidth, BitVec.toNat_ofNat, BitVec.toNat_ofNat]
    exact Nat.mod_mod_of_dvd _ (by decide)
  rw [e, show (31 : Int32) = Int32.ofNat (2 ^ 5 - 1) from rfl, qand, Nat.and_two_pow_sub_one_eq_mod, Nat.pow_mul]
theorem q64_d8 {x j : Nat} (hx : x < 9223372036854775808) (hj : j < 8) : zlshr (Int64.ofNat x) (Int32.ofNat (8 * j)) &&& (255 : Int64) = Int64.ofNat (x / 256 ^ j % 256) := by
  rw [q64_shr hx _ (by omega), show (255 : Int64) = Int64.ofNat (2 ^ 8 - 1) from rfl, q64_and, Nat.and_two_pow_sub_one_eq_mod, Nat.pow_mul]
theorem dg5 : ∀ (w : List Nat) (j : Nat), wOK w → r5 w / 32 ^ j % 32 = if j < w.length then w.getD j 0 - 96 else 0 := by
  intro w
  induction w with
  | nil => intro j _; unfold r5; simp
  | cons c l ih =>
    intro j h
    have hc := h c List.mem_cons_self
    cases j with
    | zero =>
      rw [r5_s, if_pos (by simp), Nat.pow_zero, Nat.div_one]
      show (32 * r5 l + (c - 96)) % 32 = c - 96
      omega
    | succ j =>
      have := ih j (fun x hx => h x (List.mem_cons_of_mem _ hx))
      rw [r5_s, Nat.pow_succ, Nat.mul_comm (32 ^ j), ← Nat.div_div_eq_div_mul, show (32 * r5 l + (c - 96)) / 32 = r5 l by omega, this]
      simp
theorem dg8 : ∀ (w : List Nat) (j : Nat), wOK w → r8 w / 256 ^ j % 256 = if j < w.length then w.getD j 0 else 0 := by
  intro w
  induction w with
  | nil => intro j _; unfold r8; simp
  | cons c l ih =>
    intro j h
    have hc := h c List.mem_cons_self
    cases j with
    | zero =>
      rw [r8_s, if_pos (by simp), Nat.pow_zero, Nat.div_one]
      show (256 * r8 l + c) % 256 = c
      omega
    | succ j =>
      have := ih j (fun x hx => h x (List.mem_cons_of_mem _ hx))
      rw [r8_s, Nat.pow_succ, Nat.mul_comm (256 ^ j), ← Nat.div_div_eq_div_mul, show (256 * r8 l + c) / 256 = r8 l by omega, this]
      simp
theorem wOK_at {w : List Nat} (h : wOK w) {j : Nat} (hj : j < w.length) : 97 ≤ w.getD j 0 ∧ w.getD j 0 ≤ 122 := by
  rw [List.getD_eq_getElem?_getD, List.getElem?_eq_getElem hj]
  exact h _ (List.getElem_mem hj)
def spL (w : List Nat) : Nat → List Nat
  | 0 => []
  | j + 1 => if j < w.length then w.getD j 0 :: spL w j else spL w j
theorem spL_le {w : List Nat} : ∀ j, (spL w j).length ≤ j := by
  intro j
  induction j with
  | zero => exact Nat.le_refl _
  | succ j ih =>
    unfold spL
    split
    · exact Nat.succ_le_succ ih
    · omega
theorem spL_8 {w : List Nat} (h : w.length ≤ 7) : spL w 8 = spL w 7 := by
  show (if 7 < w.length then _ else _) = _
  rw [if_neg (by omega)]
theorem c_sgn {c : Nat} (h : V 191 6 = Int32.ofNat n) (hn : n < 40) : fX0_addSign N 216 (qH g V X) 191 (Int32.ofNat c) = some (qH g (cP V n c) X) := by
  unfold fX0_addSign
  rw [q191_g5, Option.bind_some, q191_g6, Option.bind_some, h, e_put qk_193 hn (by omega), Option.bind_some, q191_g6, Option.bind_some, qw_n (by decide), h, l1, qadd, q191_p6, Option.bind_some, qw_n (by decide)]
  rfl
theorem b128 : ∀ c, c < 128 → (Int32.ofNat c).toInt8.toInt32 = Int32.ofNat c := by decide +kernel
theorem m_lay {c : Nat} (h : V 196 35 = Int32.ofNat n) (hn : n < 40) (hc : c < 128) : fX12_lays N 216 (qH g V X) 196 (Int32.ofNat c) = some (qH g (mP V n c) X) := by
  unfold fX12_lays
  rw [q196_g34, Option.bind_some, q196_g35, Option.bind_some, h, qsB qk_208 hn (by omega), Option.bind_some, b128 c hc, b128 c hc, q196_g35, Option.bind_some, qw_n (by decide), h, l1, qadd, q196_p35, Option.bind_some, qw_n (by decide)]
  rfl
theorem am5 {a : Nat} : Int32.ofNat (a + 5) + -5 = Int32.ofNat a := by rw [← qadd, Int32.add_assoc, show Int32.ofNat 5 + (-5 : Int32) = 0 by decide, Int32.add_zero]
theorem am8 {a : Nat} : Int32.ofNat (a + 8) + -8 = Int32.ofNat a := by rw [← qadd, Int32.add_assoc, show Int32.ofNat 8 + (-8 : Int32) = 0 by decide, Int32.add_zero]
theorem c_nameL {w : List Nat} (hw : wOK w) (h7 : w.length ≤ 7) : ∀ j k V n, j ≤ 7 → j < k → V 191 6 = Int32.ofNat n → n + j ≤ 40 → fX0_addName_3 N 216 k (qH g V X) 191 (Int64.ofNat (r5 w)) (Int32.ofNat (5 * j) + -5) = some (qH g (cPs V n (spL w j)) X) := by
  intro j
  induction j with
  | zero =>
    intro k V n hj hk h hn
    obtain ⟨k, rfl⟩ := Nat.exists_eq_succ_of_ne_zero (n := k) (by omega)
    unfold fX0_addName_3
    rw [if_pos (by decide)]
    rfl
  | succ j ih =>
    intro k V n hj hk h hn
    obtain ⟨k, rfl⟩ := Nat.exists_eq_succ_of_ne_zero (n := k) (by omega)
    have hd := dg5 w j hw
    unfold fX0_addName_3 spL
    rw [show 5 * (j + 1) = 5 * j + 5 by omega, am5, if_neg (Int32.ofNat_not_neg (by omega)), q64_d5 (r5_b hw h7) (by omega), hd]
    by_cases e : j < w.length
    · obtain ⟨c1, c2⟩ := wOK_at hw e
      rw [if_pos e, if_pos e, if_neg (by rw [l0, qeq (by omega) (by omega)]; omega), q191_c, Option.bind_some, show (97 : Int32) = Int32.ofNat 97 from rfl, qadd, l1, qsub (by omega), c_sgn h (by omega), Option.bind_some]
      unfold fX0_addName_32
      rw [show 97 + (w.getD j 0 - 96) - 1 = w.getD j 0 by omega]
      exact ih k _ (n + 1) (by omega) (by omega) cP_6 (by omega)
    · rw [if_neg e, if_neg e, if_pos (by decide)]
      unfold fX0_addName_32
      exact ih k V n (by omega) (by omega) h (by omega)
theorem m_nameL {w : List Nat} (hw : wOK w) (h7 : w.length ≤ 7) : ∀ j k V n, j ≤ 8 → j < k → V 196 35 = Int32.ofNat n → n + (spL w j).length ≤ 40 → fX12_spells_3 N 216 k (qH g V X) 196 (Int64.ofNat (r8 w)) (Int32.ofNat (8 * j) + -8) = some (qH g (mPs V n (spL w j)) X) := by
  intro j
  induction j with
  | zero =>
    intro k V n hj hk h hn
    obtain ⟨k, rfl⟩ := Nat.exists_eq_succ_of_ne_zero (n := k) (by omega)
    unfold fX12_spells_3
    rw [if_pos (by decide)]
    rfl
  | succ j ih =>
    intro k V n hj hk h hn
    obtain ⟨k, rfl⟩ := Nat.exists_eq_succ_of_ne_zero (n := k) (by omega)
    have hd := dg8 w j hw
    have hb := r8_b hw h7
    unfold spL at hn
    unfold fX12_spells_3 spL
    rw [show 8 * (j + 1) = 8 * j + 8 by omega, am8, if_neg (Int32.ofNat_not_neg (by omega)), q64_d8 (by omega) (by omega), hd]
    by_cases e : j < w.length
    · obtain ⟨c1, c2⟩ := wOK_at hw e
      rw [if_pos e] at hn
      have hn2 : n + ((spL w j).length + 1) ≤ 40 := hn
      rw [if_pos e, if_pos e, if_neg (by rw [q64_cmp, show (0 : Int64) = Int64.ofNat 0 from rfl, q64_inj (by omega) (by omega)]; omega), q196_c, Option.bind_some, q64_i32 (by omega), m_lay h (by omega) (by omega), Option.bind_some]
      unfold fX12_spells_31
      exact ih k _ (n + 1) (by omega) (by omega) mP_6 (by omega)
    · rw [if_neg e] at hn
      rw [if_neg e, if_neg e, if_pos (by rw [q64_cmp]; rfl)]
      unfold fX12_spells_31
      exact ih k V n (by omega) (by omega) h (by omega)
theorem c_name {w : List Nat} (hN : 3000 ≤ N) (hw : wOK w) (h7 : w.length ≤ 7) (h : V 191 6 = Int32.ofNat n) (hn : n + 7 ≤ 40) : fX0_addName N 216 (qH g V X) 191 (Int64.ofNat (r5 w)) = some (qH g (cPs V n (spL w 7)) X) := c_nameL hw h7 7 N V n (by omega) (by omega) h (by omega)
theorem m_name {w : List Nat} (hN : 3000 ≤ N) (hw : wOK w) (h7 : w.length ≤ 7) (h : V 196 35 = Int32.ofNat n) (hn : n + 7 ≤ 40) : fX12_spells N 216 (qH g V X) 196 (Int64.ofNat (r8 w)) = some (qH g (mPs V n (spL w 7)) X) := by
  have := m_nameL (g := g) (X := X) (N := N) hw h7 8 N V n (by omega) (by omega) h (by rw [spL_8 h7]; have := spL_le (w := w) 7; omega)
  rw [spL_8 h7] at this
  exact this
theorem m_says {w : List Nat} (hN : 3000 ≤ N) (hw : wOK w) (h7 : w.length ≤ 7) (h : V 196 35 = Int32.ofNat n) (hn : n + 8 ≤ 40) : fX12_says N 216 (qH g V X) 196 (Int64.ofNat (r8 w)) = some (qH g (mPs V n (32 :: spL w 7)) X) := by
  unfold fX12_says
  rw [q196_c, Option.bind_some, show (32 : Int32) = Int32.ofNat 32 from rfl, m_lay h (by omega) (by omega), Option.bind_some, q196_c, Option.bind_some, m_name hN hw h7 mP_6 (by omega), Option.bind_some]
  rfl
def tx (i : Nat) : List Nat := [[], [], [32, 97, 116, 32], [32, 116, 111, 32], [32, 115, 101, 101, 110]].getD i []
theorem c_textL {i : Nat} (hi : i = 2 ∨ i = 3 ∨ i = 4) : ∀ m k V n a, a + m = (tx i).length → m < k → V 191 6 = Int32.ofNat n → n + m ≤ 40 → fX0_addText_2 N 216 k (qH g V X) 191 i (Int32.ofNat a) = some (qH g (cPs V n ((tx i).drop a)) X) := by
  have hl : zslen i = some (Int32.ofNat (tx i).length) := by rcases hi with rfl | rfl | rfl <;> rfl
  have hl5 : (tx i).length ≤ 5 := by rcases hi with rfl | rfl | rfl <;> decide
  have hch : ∀ a, a < (tx i).length → zschar i (Int32.ofNat a) = some (Int32.ofNat ((tx i).getD a 0)) := by
    intro a ha
    have h5 : a = 0 ∨ a = 1 ∨ a = 2 ∨ a = 3 ∨ a = 4 := by omega
    rcases hi with rfl | rfl | rfl
    · rcases h5 with rfl | rfl | rfl | rfl | rfl
      all_goals first | decide | exact absurd ha (by decide)
    · rcases h5 with rfl | rfl | rfl | rfl | rfl
      all_goals first | decide | exact absurd ha (by decide)
    · rcases h5 with rfl | rfl | rfl | rfl | rfl
      all_goals first | decide | exact absurd ha (by decide)
  intro m
  induction m with
  | zero =>
    intro k V n a ha hk h hn
    obtain ⟨k, rfl⟩ := Nat.exists_eq_succ_of_ne_zero (n := k) (by omega)
    unfold fX0_addText_2
    rw [hl, Option.bind_some, if_pos (by rw [qle (by omega) (by omega)]; omega), List.drop_eq_nil_of_le (by omega)]
    rfl
  | succ m ih =>
    intro k V n a ha hk h hn
    obtain ⟨k, rfl⟩ := Nat.exists_eq_succ_of_ne_zero (n := k) (by omega)
    have hlt : a < (tx i).length := by omega
    unfold fX0_addText_2
    rw [hl, Option.bind_some, if_neg (by rw [qle (by omega) (by omega)]; omega), hch a hlt, Option.bind_some, q191_c, Option.bind_some, c_sgn h (by omega), Option.bind_some, l1, qadd, List.drop_eq_getElem_cons hlt]
    have e : (tx i).getD a 0 = (tx i)[a] := by rw [List.getD_eq_getElem?_getD, List.getElem?_eq_getElem hlt]; rfl
    rw [e]
    exact ih k _ (n + 1) (a + 1) (by omega) (by omega) cP_6 (by omega)
theorem c_text {i : Nat} (hN : 3000 ≤ N) (hi : i = 2 ∨ i = 3 ∨ i = 4) (h : V 191 6 = Int32.ofNat n) (hn : n + 5 ≤ 40) : fX0_addText N 216 (qH g V X) 191 i = some (qH g (cPs V n (tx i)) X) := by
  have hl5 : (tx i).length ≤ 5 := by rcases hi with rfl | rfl | rfl <;> decide
  have := c_textL (g := g) (X := X) (N := N) hi (tx i).length N V n 0 (by omega) (by omega) h (by omega)
  rw [List.drop_zero] at this
  exact this
end QLI
