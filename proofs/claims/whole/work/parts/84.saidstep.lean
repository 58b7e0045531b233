/-! said: the step -/
section QSB
variable {g : zF} {V W K : Nat → Nat → Int32} {X Y : Nat → Nat → Int64} {N n : Nat} {s t u B : Nat → Nat}
def stk (V : Nat → Nat → Int32) : List Bool → Prop
  | [] => True
  | b :: l => V 211 l.length = qz b ∧ stk V l
theorem stk.fr {l : List Bool} (h : stk V l) (e : ∀ j, j < l.length → W 211 j = V 211 j) : stk W l := by
  induction l with
  | nil => trivial
  | cons b l ih =>
    exact ⟨by rw [e _ (by show l.length < l.length + 1; omega)]; exact h.1, ih h.2 (fun j hj => e j (by show j < l.length + 1; omega))⟩
theorem stk.put {l : List Bool} (h : stk V l) {b : Bool} : stk (qw V 211 (upd (V 211) l.length (qz b))) (b :: l) := ⟨by rw [qw_s, upd_s], h.fr (fun j hj => by rw [qw_s, upd_n (by omega)])⟩
theorem rN.ok (h : rN V 31 s) {i : Nat} (hi : i < s 250) : nOK s i := by
  obtain ⟨-, -, -, h4⟩ := h
  obtain ⟨-, a1, -, -, -, -, -, a2, a3, a4⟩ := h4 i hi
  exact ⟨a1, a2, a3, a4⟩
theorem rN.step (h : rN V 31 s) {i : Nat} (hi : i < s 250) : (s (251 + 3 * i) < 8 ∧ V 32 i = Int32.ofNat (19 + s (251 + 3 * i))) ∨ (s (251 + 3 * i) = 20 ∧ V 32 i = Int32.ofNat 18) ∨ (s (251 + 3 * i) = 21 ∧ V 32 i = Int32.ofNat 17) ∨ (s (251 + 3 * i) = 22 ∧ V 32 i = Int32.ofNat 16) := by
  obtain ⟨-, -, -, h4⟩ := h
  obtain ⟨⟨k, hk, h1, h2⟩, a1, -⟩ := h4 i hi
  have e : ∀ m, m < 23 → Int32.ofNat (s (251 + 3 * i)) = Int32.ofNat m → s (251 + 3 * i) = m := by
    intro m hm h
    rw [qeq (by omega) (by omega)] at h
    exact h
  have : k = 0 ∨ k = 1 ∨ k = 2 ∨ k = 3 ∨ k = 4 ∨ k = 5 ∨ k = 6 ∨ k = 7 ∨ k = 8 ∨ k = 9 ∨ k = 10 := by omega
  rcases this with rfl | rfl | rfl | rfl | rfl | rfl | rfl | rfl | rfl | rfl | rfl
  · have := e 0 (by omega) h2; rw [this]; exact Or.inl ⟨by omega, h1⟩
  · have := e 1 (by omega) h2; rw [this]; exact Or.inl ⟨by omega, h1⟩
  · have := e 2 (by omega) h2; rw [this]; exact Or.inl ⟨by omega, h1⟩
  · have := e 3 (by omega) h2; rw [this]; exact Or.inl ⟨by omega, h1⟩
  · have := e 4 (by omega) h2; rw [this]; exact Or.inl ⟨by omega, h1⟩
  · have := e 5 (by omega) h2; rw [this]; exact Or.inl ⟨by omega, h1⟩
  · have := e 6 (by omega) h2; rw [this]; exact Or.inl ⟨by omega, h1⟩
  · have := e 7 (by omega) h2; rw [this]; exact Or.inl ⟨by omega, h1⟩
  · have := e 20 (by omega) h2; rw [this]; exact Or.inr (Or.inl ⟨rfl, h1⟩)
  · have := e 21 (by omega) h2; rw [this]; exact Or.inr (Or.inr (Or.inl ⟨rfl, h1⟩))
  · have := e 22 (by omega) h2; rw [this]; exact Or.inr (Or.inr (Or.inr ⟨rfl, h1⟩))
/-- the truth at the end -/
def saidF (s : Nat → Nat) (f : Nat) : Bool := (stE s (lvF s f) (s 250)).headD false
theorem enc_lt2 {l : List Bool} (h : l.length < 22) : enc l < 4194304 := Nat.lt_of_lt_of_le (enc_lt l) (Nat.le_trans (Nat.pow_le_pow_right (show 2 > 0 by decide) (show l.length ≤ 22 by omega)) (by decide))
theorem c_holdsL (hN : 3000 ≤ N) (hR : rF V 4 s) (hS : rS V 15 s) (hW : sWF s) (hD : sWD s) (h9 : s 139 ≤ 1000) (hG : sWG s) (hNs : rN V 31 s) (h0 : s 250 ≠ 0) {f : Nat} (hf : f < s 3) : ∀ m k i, i + m = s 250 → m < k → fX6_holds_5 N 216 (qH g V X) k 31 15 (Int32.ofNat f) (Int32.ofNat (enc (stE s (lvF s f) i))) (Int32.ofNat i) = some (qz (saidF s f)) := by
  have h40 := hNs.2.1
  have hlen : ∀ i, i ≤ s 250 → (stE s (lvF s f) i).length = nDep s i := fun i hi => stE_len i (fun k hk => hNs.ok (by omega))
  intro m
  induction m with
  | zero =>
    intro k i hi hk
    obtain ⟨k, rfl⟩ := Nat.exists_eq_succ_of_ne_zero (n := k) (by omega)
    have hd : nDep s (s 250) = 1 := by rcases hNs.2.2.1 with h | h; exact absurd h h0; exact h
    have hl := hlen (s 250) (Nat.le_refl _)
    rw [hd] at hl
    rw [show i = s 250 by omega]
    unfold fX6_holds_5 saidF
    rw [qN_g0 qN_31, Option.bind_some, hNs.1, if_pos (by rw [qle (by omega) (by omega)]; omega)]
    match hs : stE s (lvF s f) (s 250) with
    | [] => rw [hs] at hl; cases hl
    | b :: l =>
      rw [l1, qand, enc_top]
      cases b <;> rfl
  | succ m ih =>
    intro k i hi hk
    obtain ⟨k, rfl⟩ := Nat.exists_eq_succ_of_ne_zero (n := k) (by omega)
    have hih := ih k (i + 1) (by omega) (by omega)
    have hl := hlen i (by omega)
    have hl2 := hlen (i + 1) (by omega)
    obtain ⟨ok1, ok2, ok3, ok4⟩ := hNs.ok (i := i) (by omega)
    obtain ⟨-, -, -, h4⟩ := id hNs
    obtain ⟨-, -, q2, q3, q4, q5, q6, -⟩ := h4 i (by omega)
    have k1 : fX11_at N 216 (qH g V X) 32 (Int32.ofNat i) = some (V 32 i) := e_at (qN_k1 qN_31) (by omega) (by omega)
    have hE := enc_lt2 (l := stE s (lvF s f) i) (by omega)
    unfold fX6_holds_5
    rw [qN_g0 qN_31, Option.bind_some, hNs.1, if_neg (by rw [qle (by omega) (by omega)]; omega), qN_g1 qN_31, Option.bind_some, k1, Option.bind_some]
    rcases hNs.step (i := i) (by omega) with ⟨e, hv⟩ | ⟨e, hv⟩ | ⟨e, hv⟩ | ⟨e, hv⟩
    · have hst : stE s (lvF s f) (i + 1) = lvF s f i :: stE s (lvF s f) i := by
        conv => lhs; unfold stE
        rw [if_neg (by omega), if_neg (by omega), if_neg (by omega)]
      rw [hst] at hih
      rw [hv, if_neg (by rw [show (18 : Int32) = Int32.ofNat 18 from rfl, qeq (by omega) (by omega)]; omega), if_neg (by rw [show (17 : Int32) = Int32.ofNat 17 from rfl, qeq (by omega) (by omega)]; omega), if_neg (by rw [show (16 : Int32) = Int32.ofNat 16 from rfl, qeq (by omega) (by omega)]; omega), qN_c qN_31, Option.bind_some, c_leaf hN hR hS hW hD h9 hG hf (by omega) e rfl hv q2 q3 q4 q5 q6, Option.bind_some]
      unfold fX6_holds_98 fX6_holds_100
      have hp : Int32.ofNat (enc (lvF s f i :: stE s (lvF s f) i)) = zishl (Int32.ofNat (enc (stE s (lvF s f) i))) (1 : Int32) ||| Int32.ofNat (lvF s f i).toNat := by
        rw [show (1 : Int32) = Int32.ofNat 1 from rfl, qshl (by omega), qor, enc_push]
      rw [hp, ← qadd] at hih
      cases hb : lvF s f i with
      | true => rw [hb] at hih; rw [if_neg (by decide)]; exact hih
      | false => rw [hb] at hih; rw [if_pos (by decide)]; exact hih
    · have := ok2 e
      match hs : stE s (lvF s f) i with
      | [] => rw [hs] at hl; have : 0 = nDep s i := hl; omega
      | b :: l =>
        have hst : stE s (lvF s f) (i + 1) = (!b) :: l := by
          conv => lhs; unfold stE
          rw [if_pos e, hs]
        rw [hst, ← qadd] at hih
        rw [hv, if_pos (by rfl)]
        unfold fX6_holds_100
        rw [show (1 : Int32) = Int32.ofNat 1 from rfl, qxor, enc_not]
        exact hih
    · have := ok3 (Or.inl e)
      match hs : stE s (lvF s f) i with
      | [] => rw [hs] at hl; have : 0 = nDep s i := hl; omega
      | [b] => rw [hs] at hl; have : 1 = nDep s i := hl; omega
      | b :: b2 :: l =>
        have hst : stE s (lvF s f) (i + 1) = (b2 && b) :: l := by
          conv => lhs; unfold stE
          rw [if_neg (by omega), if_pos e, hs]
        rw [hs] at hl hE
        have hl3 : l.length + 1 + 1 = nDep s i := hl
        rw [hst, ← qadd] at hih
        rw [hv, if_neg (by decide), if_pos (by rfl)]
        unfold fX6_holds_100
        rw [show (-2 : Int32) = Int32.ofNat 4294967294 by decide, show (1 : Int32) = Int32.ofNat 1 from rfl, qshr (by omega) (by omega), enc_sh, qor, qand, enc_and (by omega)]
        exact hih
    · have := ok3 (Or.inr e)
      match hs : stE s (lvF s f) i with
      | [] => rw [hs] at hl; have : 0 = nDep s i := hl; omega
      | [b] => rw [hs] at hl; have : 1 = nDep s i := hl; omega
      | b :: b2 :: l =>
        have hst : stE s (lvF s f) (i + 1) = (b2 || b) :: l := by
          conv => lhs; unfold stE
          rw [if_neg (by omega), if_neg (by omega), if_pos e, hs]
        rw [hs] at hl hE
        rw [hst, ← qadd] at hih
        rw [hv, if_neg (by decide), if_neg (by decide), if_pos (by rfl)]
        unfold fX6_holds_100
        rw [show (1 : Int32) = Int32.ofNat 1 from rfl, qshr (by omega) (by omega), enc_sh, qand, qor, enc_or]
        exact hih
theorem m_saidL (hN : 3000 ≤ N) (hW : sWF s) (hD : sWD s) (h9 : s 139 ≤ 1000) (hG : sWG s) (hNs : rN K 31 s) (h0 : s 250 ≠ 0) {f : Nat} (hf : f < s 3) : ∀ m k i V, i + m = s 250 → m < k → rM V s → stk V (stE s (lvF s f) i) → ∃ W, fX12_isSaid_4 N 216 k (qH g V X) 196 (Int32.ofNat f) (Int32.ofNat (stE s (lvF s f) i).length) (Int32.ofNat i) = some (qH g W X, qz (saidF s f)) ∧ ∀ b, b ≠ 211 → W b = V b := by
  have h40 := hNs.2.1
  have hlen : ∀ i, i ≤ s 250 → (stE s (lvF s f) i).length = nDep s i := fun i hi => stE_len i (fun k hk => hNs.ok (by omega))
  intro m
  induction m with
  | zero =>
    intro k i V hi hk hM hT
    obtain ⟨k, rfl⟩ := Nat.exists_eq_succ_of_ne_zero (n := k) (by omega)
    have hd : nDep s (s 250) = 1 := by rcases hNs.2.2.1 with h | h; exact absurd h h0; exact h
    have hl := hlen (s 250) (Nat.le_refl _)
    rw [hd] at hl
    rw [show i = s 250 by omega] at hT ⊢
    refine ⟨V, ?_, fun _ _ => rfl⟩
    unfold fX12_isSaid_4 saidF
    rw [q196_g6, Option.bind_some, show (250 : Int32) = Int32.ofNat 250 from rfl, m_ld hM (by omega), Option.bind_some, if_pos (by rw [qle (by omega) (by omega)]; omega), q196_g46, Option.bind_some, l0, qlI (t := 3) qk_211 (Or.inr (Or.inr rfl)) (by omega) (by omega), Option.bind_some]
    match hs : stE s (lvF s f) (s 250) with
    | [] => rw [hs] at hl; cases hl
    | b :: l =>
      rw [hs] at hl hT
      have hl0 : l.length = 0 := by have : l.length + 1 = 1 := hl; omega
      have hT1 := hT.1
      rw [hl0] at hT1
      rw [hT1, qzb]
      rfl
  | succ m ih =>
    intro k i V hi hk hM hT
    obtain ⟨k, rfl⟩ := Nat.exists_eq_succ_of_ne_zero (n := k) (by omega)
    have hl := hlen i (by omega)
    obtain ⟨ok1, ok2, ok3, ok4⟩ := hNs.ok (i := i) (by omega)
    obtain ⟨-, -, -, h4⟩ := id hNs
    obtain ⟨-, -, q2, q3, q4, q5, q6, -⟩ := h4 i (by omega)
    have a1 : (251 : Int32) + (3 : Int32) * Int32.ofNat i = Int32.ofNat (251 + 3 * i) := by rw [l3, show (251 : Int32) = Int32.ofNat 251 from rfl, qmul, qadd]
    have g250 : zlI 216 (qH g V X) 0 198 (250 : Int32) = some (Int32.ofNat (s 250)) := m_ld hM (k := 250) (by omega)
    have ge : zlI 216 (qH g V X) 0 198 (Int32.ofNat (251 + 3 * i)) = some (Int32.ofNat (s (251 + 3 * i))) := m_ld hM (by omega)
    have ge1 : zlI 216 (qH g V X) 0 198 (Int32.ofNat (251 + 3 * i) + 1) = some (Int32.ofNat (s (252 + 3 * i))) := by rw [l1, qadd, m_ld hM (by omega), show 251 + 3 * i + 1 = 252 + 3 * i by omega]
    have ge2 : zlI 216 (qH g V X) 0 198 (Int32.ofNat (251 + 3 * i) + 2) = some (Int32.ofNat (s (253 + 3 * i))) := by rw [show (2 : Int32) = Int32.ofNat 2 from rfl, qadd, m_ld hM (by omega), show 251 + 3 * i + 2 = 253 + 3 * i by omega]
    have c250 : (Int32.ofNat (s 250) ≤ Int32.ofNat i) = False := eq_false (by rw [qle (by omega) (by omega)]; omega)
    have u1 : ((21 : Int32) = 20) = False := eq_false (by decide)
    have u2 : ((22 : Int32) = 20) = False := eq_false (by decide)
    have u3 : ((22 : Int32) = 21) = False := eq_false (by decide)
    have zT : (qz true = 0) = False := eq_false (by decide)
    have zF : (qz false = 0) = True := eq_true rfl
    -- one truth put, and on
    have fin : ∀ j b l, j = l.length → j < 45 → stk V l → stE s (lvF s f) (i + 1) = b :: l → ∃ W, ((zsZ 216 (qH g V X) 3 211 (Int32.ofNat j) (qz b)).bind fun f14 => fX12_isSaid_4 N 216 k f14 196 (Int32.ofNat f) (Int32.ofNat (l.length + 1)) (Int32.ofNat i + 1)) = some (qH g W X, qz (saidF s f)) ∧ ∀ b, b ≠ 211 → W b = V b := by
      intro j b l hj hj2 hT2 he
      subst hj
      have hT3 := hT2.put (b := b)
      rw [← he] at hT3
      obtain ⟨W, x1, x2⟩ := ih k (i + 1) _ (by omega) (by omega) (hM.fr (W := qw V 211 (upd (V 211) l.length (qz b))) (qw_n (by decide))) hT3
      rw [he, List.length_cons] at x1
      refine ⟨W, ?_, fun b2 hb2 => by rw [x2 b2 hb2, qw_n hb2]⟩
      rw [qsZ qk_211 hj2 (by omega) (by cases b; exact Or.inl rfl; exact Or.inr rfl), Option.bind_some, l1, qadd]
      exact x1
    rcases hNs.step (i := i) (by omega) with ⟨e, -⟩ | ⟨e, -⟩ | ⟨e, -⟩ | ⟨e, -⟩
    · have hst : stE s (lvF s f) (i + 1) = lvF s f i :: stE s (lvF s f) i := by
        conv => lhs; unfold stE
        rw [if_neg (by omega), if_neg (by omega), if_neg (by omega)]
      obtain ⟨W, x1, x2⟩ := fin _ _ _ rfl (by omega) hT hst
      refine ⟨W, ?_, x2⟩
      have n20 : (Int32.ofNat (s (251 + 3 * i)) = 20) = False := eq_false (by rw [show (20 : Int32) = Int32.ofNat 20 from rfl, qeq (by omega) (by omega)]; omega)
      have n21 : (Int32.ofNat (s (251 + 3 * i)) = 21) = False := eq_false (by rw [show (21 : Int32) = Int32.ofNat 21 from rfl, qeq (by omega) (by omega)]; omega)
      have n22 : (Int32.ofNat (s (251 + 3 * i)) = 22) = False := eq_false (by rw [show (22 : Int32) = Int32.ofNat 22 from rfl, qeq (by omega) (by omega)]; omega)
      have lf := m_leaf (g := g) (X := X) hN hM hW hD h9 hG hf e q4 q5 q6
      unfold fX12_isSaid_4 fX12_isSaid_206
      simp only [q196_g6, q196_g46, q196_c, Option.bind_some, a1, g250, ge, ge1, ge2, c250, n20, n21, n22, if_false, lf]
      rw [show Int32.ofNat (stE s (lvF s f) i).length + 1 = Int32.ofNat ((stE s (lvF s f) i).length + 1) by rw [l1, qadd]]
      exact x1
    · have := ok2 e
      match hs : stE s (lvF s f) i with
      | [] => rw [hs] at hl; have : 0 = nDep s i := hl; omega
      | b :: l =>
        rw [hs] at hl hT
        have hl3 : l.length + 1 = nDep s i := hl
        have hst : stE s (lvF s f) (i + 1) = (!b) :: l := by
          conv => lhs; unfold stE
          rw [if_pos e, hs]
        obtain ⟨W, x1, x2⟩ := fin _ _ _ rfl (by omega) hT.2 hst
        refine ⟨W, ?_, x2⟩
        have gv : zlI 216 (qH g V X) 3 211 (Int32.ofNat (b :: l).length - 1) = some (qz b) := by rw [List.length_cons, show Int32.ofNat (l.length + 1) - 1 = Int32.ofNat l.length by rw [l1, qsub (by omega)]; rfl, qlI (t := 3) qk_211 (Or.inr (Or.inr rfl)) (by omega) (by omega), hT.1]
        have gx : Int32.ofNat (b :: l).length - 1 = Int32.ofNat l.length := by rw [List.length_cons, l1, qsub (by omega)]; rfl
        have ge' : zlI 216 (qH g V X) 0 198 (Int32.ofNat (251 + 3 * i)) = some 20 := by rw [ge, e]; rfl
        rw [gx] at gv
        unfold fX12_isSaid_4 fX12_isSaid_60 fX12_isSaid_206
        cases b with
        | true =>
          simp only [q196_g6, q196_g46, Option.bind_some, a1, g250, ge', c250, if_false, if_true, gx, gv, zT]
          exact x1
        | false =>
          simp only [q196_g6, q196_g46, Option.bind_some, a1, g250, ge', c250, if_false, if_true, gx, gv, zF]
          exact x1
    · have := ok3 (Or.inl e)
      match hs : stE s (lvF s f) i with
      | [] => rw [hs] at hl; have : 0 = nDep s i := hl; omega
      | [b] => rw [hs] at hl; have : 1 = nDep s i := hl; omega
      | b :: b2 :: l =>
        rw [hs] at hl hT
        have hl3 : l.length + 1 + 1 = nDep s i := hl
        have hst : stE s (lvF s f) (i + 1) = (b2 && b) :: l := by
          conv => lhs; unfold stE
          rw [if_neg (by omega), if_pos e, hs]
        obtain ⟨W, x1, x2⟩ := fin _ _ _ rfl (by omega) hT.2.2 hst
        refine ⟨W, ?_, x2⟩
        have t1 : V 211 (l.length + 1) = qz b := hT.1
        have t2 : V 211 l.length = qz b2 := hT.2.1
        have am : Int32.ofNat (l.length + 1 + 1) + -1 = Int32.ofNat (l.length + 1) := by rw [← qadd, show Int32.ofNat (l.length + 1) + Int32.ofNat 1 + -1 = Int32.ofNat (l.length + 1) + (Int32.ofNat 1 + -1) from Int32.add_assoc _ _ _, show Int32.ofNat 1 + (-1 : Int32) = 0 by decide, Int32.add_zero]
        have as : Int32.ofNat (l.length + 1) - 1 = Int32.ofNat l.length := by rw [l1, qsub (by omega)]; rfl
        have g1 : zlI 216 (qH g V X) 3 211 (Int32.ofNat l.length) = some (qz b2) := by rw [qlI (t := 3) qk_211 (Or.inr (Or.inr rfl)) (by omega) (by omega), t2]
        have g2 : zlI 216 (qH g V X) 3 211 (Int32.ofNat (l.length + 1)) = some (qz b) := by rw [qlI (t := 3) qk_211 (Or.inr (Or.inr rfl)) (by omega) (by omega), t1]
        have ge' : zlI 216 (qH g V X) 0 198 (Int32.ofNat (251 + 3 * i)) = some 21 := by rw [ge, e]; rfl
        unfold fX12_isSaid_4 fX12_isSaid_88 fX12_isSaid_158 fX12_isSaid_134 fX12_isSaid_163 fX12_isSaid_206
        cases b2 <;> cases b <;> simp only [q196_g6, q196_g46, Option.bind_some, a1, g250, ge', c250, if_false, if_true, List.length_cons, am, as, g1, g2, zT, zF, u1, u2, u3] <;> exact x1
    · have := ok3 (Or.inr e)
      match hs : stE s (lvF s f) i with
      | [] => rw [hs] at hl; have : 0 = nDep s i := hl; omega
      | [b] => rw [hs] at hl; have : 1 = nDep s i := hl; omega
      | b :: b2 :: l =>
        rw [hs] at hl hT
        have hl3 : l.length + 1 + 1 = nDep s i := hl
        have hst : stE s (lvF s f) (i + 1) = (b2 || b) :: l := by
          conv => lhs; unfold stE
          rw [if_neg (by omega), if_neg (by omega), if_pos e, hs]
        obtain ⟨W, x1, x2⟩ := fin _ _ _ rfl (by omega) hT.2.2 hst
        refine ⟨W, ?_, x2⟩
        have t1 : V 211 (l.length + 1) = qz b := hT.1
        have t2 : V 211 l.length = qz b2 := hT.2.1
        have am : Int32.ofNat (l.length + 1 + 1) + -1 = Int32.ofNat (l.length + 1) := by rw [← qadd, show Int32.ofNat (l.length + 1) + Int32.ofNat 1 + -1 = Int32.ofNat (l.length + 1) + (Int32.ofNat 1 + -1) from Int32.add_assoc _ _ _, show Int32.ofNat 1 + (-1 : Int32) = 0 by decide, Int32.add_zero]
        have as : Int32.ofNat (l.length + 1) - 1 = Int32.ofNat l.length := by rw [l1, qsub (by omega)]; rfl
        have g1 : zlI 216 (qH g V X) 3 211 (Int32.ofNat l.length) = some (qz b2) := by rw [qlI (t := 3) qk_211 (Or.inr (Or.inr rfl)) (by omega) (by omega), t2]
        have g2 : zlI 216 (qH g V X) 3 211 (Int32.ofNat (l.length + 1)) = some (qz b) := by rw [qlI (t := 3) qk_211 (Or.inr (Or.inr rfl)) (by omega) (by omega), t1]
        have ge' : zlI 216 (qH g V X) 0 198 (Int32.ofNat (251 + 3 * i)) = some 22 := by rw [ge, e]; rfl
        unfold fX12_isSaid_4 fX12_isSaid_88 fX12_isSaid_158 fX12_isSaid_134 fX12_isSaid_163 fX12_isSaid_206
        cases b2 <;> cases b <;> simp only [q196_g6, q196_g46, Option.bind_some, a1, g250, ge', c250, if_false, if_true, List.length_cons, am, as, g1, g2, zT, zF, u1, u2, u3] <;> exact x1
def sdL (q : Nat → Bool) (p : Int32) : Nat → Nat → Nat → Int32
  | _, 0, c => if p = -1 then Int32.ofNat c else -1
  | f, m + 1, c => if q f then (if Int32.ofNat c = p then Int32.ofNat f else sdL q p (f + 1) m (c + 1)) else sdL q p (f + 1) m c
theorem s_37 (hN : 3000 ≤ N) {f : zF} (hI : Inv f) (p1 : Int32) : ∃ f2, zlc37 N 216 f p1 = some f2 ∧ Inv f2 := by
  obtain ⟨g, V, X, s, rfl, hg, hJ⟩ := hI
  obtain ⟨⟨⟨hW, hD, hG, h9⟩, hWL, hR, hL, hS, hM, hNs, hNm⟩, hU, hR2⟩ := id hJ
  have h40 := hNs.2.1
  obtain ⟨f0, f1, f2, f3, -⟩ := rF4 hR
  have w3 := hW.2.2.2.1
  unfold zlc37
  have fin : ∀ r W, fX11_said N 216 (qH g V X) 0 p1 = some r → fX12_said N 216 (qH g V X) 196 p1 = some (qH g W X, r) → (∀ b j, b ≠ 211 → ¬ (b = 196 ∧ j = 0) → W b j = V b j) → ∃ f2, ((zck 216 (qH g V X) 11 0).bind fun _ => ((fX11_said N 216 (qH g V X) 0 p1).bind fun x1 => ((zck 216 (qH g V X) 12 196).bind fun _ => (zbd (fX12_said N 216 (qH g V X) 196 p1) fun f3 x2 => (if x1 = x2 then some f3 else none))))) = some f2 ∧ Inv f2 := by
    intro r W h1 h2 h3
    rw [q0_c, Option.bind_some, h1, Option.bind_some, q196_c, Option.bind_some, h2, zbd_some, if_pos rfl]
    refine ⟨_, rfl, g, _, _, s, rfl, hg, hJ.pt (fun b j hb => h3 b j ?_ ?_) (fun _ _ _ => rfl)⟩
    · unfold scr at hb; omega
    · unfold scr at hb; omega
  have hqT : ∀ b j, b ≠ 211 → ¬ (b = 196 ∧ j = 0) → qT V b j = V b j := by
    intro b j _ hb
    by_cases e : b = 196
    · subst e; exact qT_j (by omega)
    · rw [qT_n e]
  by_cases h0 : s 250 = 0
  · refine fin (-1) (qT V) ?_ ?_ hqT
    · unfold fX11_said
      rw [q0_g4, Option.bind_some, qN_g0 qN_31, Option.bind_some, hNs.1, h0, if_pos (by decide)]
    · unfold fX12_said
      rw [m_thr0, Option.bind_some, q196_g6, Option.bind_some, show (250 : Int32) = Int32.ofNat 250 from rfl, m_ld hM.thr (by omega), Option.bind_some, h0, if_pos (by decide)]
  · by_cases hp : (-1 : Int32) ≤ p1
    · have cL : ∀ m k i c, i + m = s 3 → m < k → fX11_said_21 N 216 (qH g V X) k 0 p1 (Int32.ofNat c) (Int32.ofNat i) = some (sdL (saidF s) p1 i m c) := by
        intro m
        induction m with
        | zero =>
          intro k i c hi hk
          obtain ⟨k, rfl⟩ := Nat.exists_eq_succ_of_ne_zero (n := k) (by omega)
          unfold fX11_said_21 sdL
          rw [q0_g1, Option.bind_some, c4_g3, Option.bind_some, f3, if_pos (by rw [qle (by omega) (by omega)]; omega)]
          split <;> rfl
        | succ m ih =>
          intro k i c hi hk
          obtain ⟨k, rfl⟩ := Nat.exists_eq_succ_of_ne_zero (n := k) (by omega)
          have hh := c_holdsL (g := g) (X := X) hN hR hS hW hD h9 hG hNs h0 (f := i) (by omega) (s 250) N 0 (by omega) (by omega)
          unfold fX11_said_21 sdL fX6_holds fX11_said_57
          rw [q0_g1, Option.bind_some, c4_g3, Option.bind_some, f3, if_neg (by rw [qle (by omega) (by omega)]; omega), q0_g4, Option.bind_some, q0_g2, Option.bind_some, qN_c qN_31, Option.bind_some]
          rw [show fX6_holds_5 N 216 (qH g V X) N 31 15 (Int32.ofNat i) 0 0 = some (qz (saidF s i)) from hh, Option.bind_some]
          cases saidF s i with
          | false =>
            rw [if_pos qzf, if_neg (by decide), l1, qadd]
            exact ih k (i + 1) c (by omega) (by omega)
          | true =>
            rw [if_neg qzt, if_pos rfl]
            by_cases e : Int32.ofNat c = p1
            · rw [if_pos e, if_pos e]
            · rw [if_neg e, if_neg e, l1, qadd, qadd]
              exact ih k (i + 1) (c + 1) (by omega) (by omega)
      have mL : ∀ m k i c V2, i + m = s 3 → m < k → rM V2 s → ∃ W, fX12_said_27 N 216 k (qH g V2 X) 196 p1 (Int32.ofNat c) (Int32.ofNat i) = some (qH g W X, sdL (saidF s) p1 i m c) ∧ ∀ b, b ≠ 211 → W b = V2 b := by
        intro m
        induction m with
        | zero =>
          intro k i c V2 hi hk hM2
          obtain ⟨k, rfl⟩ := Nat.exists_eq_succ_of_ne_zero (n := k) (by omega)
          refine ⟨V2, ?_, fun _ _ => rfl⟩
          unfold fX12_said_27 sdL
          rw [q196_g6, Option.bind_some, l3, m_ld hM2 (by omega), Option.bind_some, if_pos (by rw [qle (by omega) (by omega)]; omega)]
          split <;> rfl
        | succ m ih =>
          intro k i c V2 hi hk hM2
          obtain ⟨k, rfl⟩ := Nat.exists_eq_succ_of_ne_zero (n := k) (by omega)
          obtain ⟨W, x1, x2⟩ := m_saidL (g := g) (X := X) hN hW hD h9 hG hNs h0 (f := i) (by omega) (s 250) N 0 V2 (by omega) (by omega) hM2 trivial
          have hMW : rM W s := hM2.fr (x2 198 (by decide))
          have e0 : fX12_isSaid N 216 (qH g V2 X) 196 (Int32.ofNat i) = some (qH g W X, qz (saidF s i)) := x1
          unfold fX12_said_27 sdL fX12_said_58
          rw [q196_g6, Option.bind_some, l3, m_ld hM2 (by omega), Option.bind_some, if_neg (by rw [qle (by omega) (by omega)]; omega), q196_c, Option.bind_some, e0, zbd_some]
          cases saidF s i with
          | false =>
            obtain ⟨W2, y1, y2⟩ := ih k (i + 1) c W (by omega) (by omega) hMW
            refine ⟨W2, ?_, fun b hb => by rw [y2 b hb, x2 b hb]⟩
            rw [if_pos qzf, if_neg (by decide), l1, qadd]
            exact y1
          | true =>
            rw [if_neg qzt, if_pos rfl]
            by_cases e : Int32.ofNat c = p1
            · exact ⟨W, by rw [if_pos e, if_pos e], x2⟩
            · obtain ⟨W2, y1, y2⟩ := ih k (i + 1) (c + 1) W (by omega) (by omega) hMW
              refine ⟨W2, ?_, fun b hb => by rw [y2 b hb, x2 b hb]⟩
              rw [if_neg e, if_neg e, l1, qadd, qadd]
              exact y1
      obtain ⟨W, y1, y2⟩ := mL (s 3) N 0 0 (qT V) (by omega) (by omega) hM.thr
      refine fin (sdL (saidF s) p1 0 (s 3) 0) W ?_ ?_ (fun b j b1 b2 => by rw [y2 b b1]; exact hqT b j b1 b2)
      · unfold fX11_said
        rw [q0_g4, Option.bind_some, qN_g0 qN_31, Option.bind_some, hNs.1, if_neg (by rw [l0, qeq (by omega) (by omega)]; exact h0), if_pos hp]
        exact cL (s 3) N 0 0 (by omega) (by omega)
      · unfold fX12_said
        rw [m_thr0, Option.bind_some, q196_g6, Option.bind_some, show (250 : Int32) = Int32.ofNat 250 from rfl, m_ld hM.thr (by omega), Option.bind_some, if_neg (by rw [l0, qeq (by omega) (by omega)]; exact h0), if_pos hp]
        exact y1
    · refine fin (-1) (qT V) ?_ ?_ hqT
      · unfold fX11_said
        rw [q0_g4, Option.bind_some, qN_g0 qN_31, Option.bind_some, hNs.1, if_neg (by rw [l0, qeq (by omega) (by omega)]; exact h0), if_neg hp]
      · unfold fX12_said
        rw [m_thr0, Option.bind_some, q196_g6, Option.bind_some, show (250 : Int32) = Int32.ofNat 250 from rfl, m_ld hM.thr (by omega), Option.bind_some, if_neg (by rw [l0, qeq (by omega) (by omega)]; exact h0), if_neg hp]
end QSB
