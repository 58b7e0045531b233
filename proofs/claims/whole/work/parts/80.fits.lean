/-! fits -/
section QFT
variable {g : zF} {V W K : Nat → Nat → Int32} {X Y : Nat → Nat → Int64} {N n : Nat} {s t u B : Nat → Nat}
def kE (B : Nat → Nat) (i : Nat) : Nat := 9 * B (2 * i + 1) + B (2 * i)
def okc (s B : Nat → Nat) (i : Nat) : Bool := (qrg (Int32.ofNat (B (2 * i))) 0 (s 0) && qrg (Int32.ofNat (B (2 * i + 1))) 0 (s 1)) && decide (s (5 + kE B i) = 0)
def okA (s B : Nat → Nat) : Nat → Nat → Bool
  | _, 0 => true
  | i, m + 1 => okc s B i && okA s B (i + 1) m
def stp (s : Nat → Nat) (c d : Nat) : Nat × Nat := match sBeside s c d with
  | some t => if s (5 + t) = 0 then (t, d) else (c, (d + 1) % 4)
  | none => (c, (d + 1) % 4)
def trc (s : Nat → Nat) (K c0 d0 : Nat) : Nat → Nat × Nat
  | 0 => (c0, d0)
  | i + 1 => if (i + 1) % K = 0 then stp s (trc s K c0 d0 i).1 (trc s K c0 d0 i).2 else trc s K c0 d0 i
theorem stp_lt (hW : sWF s) {c d : Nat} (hc : c < 81) (hd : d < 4) : (stp s c d).1 < 81 ∧ (stp s c d).2 < 4 := by
  unfold stp
  cases hb : sBeside s c d with
  | none => exact ⟨hc, Nat.mod_lt _ (by decide)⟩
  | some t =>
    have := sBeside_lt hW hb
    dsimp only
    split
    · exact ⟨this, hd⟩
    · exact ⟨hc, Nat.mod_lt _ (by decide)⟩
theorem trc_lt (hW : sWF s) {K c0 d0 : Nat} (hc : c0 < 81) (hd : d0 < 4) : ∀ i, (trc s K c0 d0 i).1 < 81 ∧ (trc s K c0 d0 i).2 < 4 := by
  intro i
  induction i with
  | zero => exact ⟨hc, hd⟩
  | succ i ih =>
    unfold trc
    split
    · exact stp_lt hW ih.1 ih.2
    · exact ih
theorem and3 {d : Nat} (hd : d < 4) : (d + 1) &&& 3 = (d + 1) % 4 := by
  have : d = 0 ∨ d = 1 ∨ d = 2 ∨ d = 3 := by omega
  rcases this with rfl | rfl | rfl | rfl <;> rfl
theorem okc_e (hW : sWF s) {i : Nat} (h : (qrg (Int32.ofNat (B (2 * i))) 0 (s 0) && qrg (Int32.ofNat (B (2 * i + 1))) 0 (s 1)) = true) (h1 : B (2 * i) < 256) (h2 : B (2 * i + 1) < 256) : kE B i < 81 := by
  obtain ⟨⟨w0, w0b⟩, ⟨w1, w1b⟩, -⟩ := hW
  rw [Bool.and_eq_true, qrg_k (by omega), qrg_k (by omega)] at h
  have a1 := of_decide_eq_true h.1
  have a2 := of_decide_eq_true h.2
  unfold kE
  omega
theorem c_goA (hW : sWF s) {f K c0 d0 : Nat} (hf : f < 36) (hK : 1 ≤ K ∧ K < 100) (hc0 : c0 < 81) (hd0 : d0 < 4) : ∀ m k V i, i + m = 13 → m < k → rF V 4 s → ∃ W, fX4_goAlone_26 N 216 k (qH g V X) 187 4 (Int32.ofNat f) (Int32.ofNat (trc s K c0 d0 i).1) (Int32.ofNat (trc s K c0 d0 i).2) (Int32.ofNat K) (Int32.ofNat i) = some (qH g W X) ∧ (∀ j, i ≤ j → j < 13 → W 190 (13 * f + j) = Int32.ofNat (trc s K c0 d0 j).1) ∧ ∀ b j, ¬ (b = 190 ∧ 13 * f + i ≤ j ∧ j < 13 * f + 13) → W b j = V b j := by
  intro m
  induction m with
  | zero =>
    intro k V i hi hk hR
    obtain ⟨k, rfl⟩ := Nat.exists_eq_succ_of_ne_zero (n := k) (by omega)
    refine ⟨V, ?_, fun j a1 a2 => by omega, fun b j hb => rfl⟩
    unfold fX4_goAlone_26
    rw [if_pos (by rw [show (13 : Int32) = Int32.ofNat 13 from rfl, qle (by omega) (by omega)]; omega)]
  | succ m ih =>
    intro k V i hi hk hR
    obtain ⟨k, rfl⟩ := Nat.exists_eq_succ_of_ne_zero (n := k) (by omega)
    obtain ⟨b1, b2⟩ := trc_lt hW hc0 hd0 (K := K) i
    generalize hp : trc s K c0 d0 i = p at b1 b2
    obtain ⟨c, d⟩ := p
    dsimp only at b1 b2
    have hR2 : rF (qw V 190 (upd (V 190) (13 * f + i) (Int32.ofNat c))) 4 s := hR.pt (fun b j a1 a2 => by rw [qw_n (by omega)])
    obtain ⟨W, x1, x2, x3⟩ := ih k (qw V 190 (upd (V 190) (13 * f + i) (Int32.ofNat c))) (i + 1) (by omega) (by omega) hR2
    refine ⟨W, ?_, fun j a1 a2 => ?_, fun b j hb => ?_⟩
    · have hn : trc s K c0 d0 (i + 1) = if (i + 1) % K = 0 then stp s c d else (c, d) := by
        conv => lhs; unfold trc
        rw [hp]
      unfold fX4_goAlone_26
      dsimp only
      rw [if_neg (by rw [show (13 : Int32) = Int32.ofNat 13 from rfl, qle (by omega) (by omega)]; omega), q187_g5, Option.bind_some, show (13 : Int32) = Int32.ofNat 13 from rfl, qmul, qadd, e_put qk_190 (by omega) (by omega), Option.bind_some, l1, qadd, e_divides hK.1 (by omega) (by omega), Option.bind_some]
      by_cases hd : (i + 1) % K = 0
      · rw [if_pos hd] at hn
        unfold stp at hn
        rw [decide_eq_true hd, if_neg qzt, qF_c qF_4, Option.bind_some, e_beside qF_4 hR2 hW b1 b2, Option.bind_some]
        cases hb : sBeside s c d with
        | none =>
          rw [hb] at hn
          dsimp only at hn
          rw [hn] at x1
          rw [if_pos (by rfl)]
          unfold fX4_goAlone_84 fX4_goAlone_98
          rw [l1, qadd, l3, qand, and3 b2, qadd]
          exact x1
        | some t =>
          have ht := sBeside_lt hW hb
          have h5 := hW.2.2.2.2.2.1 t ht
          rw [hb] at hn
          dsimp only at hn
          rw [show qo (some t) = Int32.ofNat t from rfl, if_neg (by rw [qmr, qneo (by omega)]; exact id), Option.bind_some, e_hasHedge qF_4 hR2 hW ht, Option.bind_some]
          by_cases h0 : s (5 + t) = 0
          · rw [if_pos h0] at hn
            rw [hn] at x1
            rw [decide_eq_false (by omega), if_pos qzf]
            unfold fX4_goAlone_98
            rw [l1, qadd]
            exact x1
          · rw [if_neg h0] at hn
            rw [hn] at x1
            rw [decide_eq_true (by omega), if_neg qzt]
            unfold fX4_goAlone_84 fX4_goAlone_98
            rw [l1, qadd, l3, qand, and3 b2, qadd]
            exact x1
      · rw [if_neg hd] at hn
        rw [hn] at x1
        rw [decide_eq_false hd, if_pos qzf]
        unfold fX4_goAlone_98
        rw [l1, qadd]
        exact x1
    · by_cases e : j = i
      · subst e
        rw [x3 190 _ (by omega), qw_s, upd_s, hp]
      · exact x2 j (by omega) a2
    · rw [x3 b j (by omega)]
      by_cases e : b = 190
      · subst e
        rw [qw_s, upd_n (by omega)]
      · rw [qw_n e]
theorem m_layT (hW : sWF s) {f c0 d0 : Nat} (hf : f < 36) (hc0 : c0 < 81) (hd0 : d0 < 4) : ∀ m k V i, i + m = 13 → m < k → rM V s → ∃ W, fX12_laysTrail_11 N 216 k (qH g V X) 196 (Int32.ofNat f) (Int32.ofNat (trc s (f % 9 + 1) c0 d0 (i - 1)).2) (Int32.ofNat (trc s (f % 9 + 1) c0 d0 (i - 1)).1) (Int32.ofNat i) = some (qH g W X) ∧ (∀ j, i ≤ j → j < 13 → W 207 (13 * f + j) = Int32.ofNat (trc s (f % 9 + 1) c0 d0 j).1) ∧ ∀ b j, ¬ (b = 207 ∧ 13 * f + i ≤ j ∧ j < 13 * f + 13) → W b j = V b j := by
  intro m
  induction m with
  | zero =>
    intro k V i hi hk hM
    obtain ⟨k, rfl⟩ := Nat.exists_eq_succ_of_ne_zero (n := k) (by omega)
    refine ⟨V, ?_, fun j a1 a2 => by omega, fun b j hb => rfl⟩
    unfold fX12_laysTrail_11
    rw [if_pos (by rw [show (13 : Int32) = Int32.ofNat 13 from rfl, qle (by omega) (by omega)]; omega)]
  | succ m ih =>
    intro k V i hi hk hM
    obtain ⟨k, rfl⟩ := Nat.exists_eq_succ_of_ne_zero (n := k) (by omega)
    obtain ⟨b1, b2⟩ := trc_lt hW hc0 hd0 (K := f % 9 + 1) (i - 1)
    generalize hp : trc s (f % 9 + 1) c0 d0 (i - 1) = p at b1 b2
    obtain ⟨c, d⟩ := p
    dsimp only at b1 b2
    have hW2 : ∀ x, rM (qw V 207 (upd (V 207) (13 * f + i) x)) s := fun x => hM.fr (qw_n (by decide))
    have fin : ∀ c2 d2, trc s (f % 9 + 1) c0 d0 i = (c2, d2) → ∃ W, fX12_laysTrail_86 (fX12_laysTrail_11 N 216 k) N 216 (qH g V X) 196 (Int32.ofNat f) (Int32.ofNat d2) (Int32.ofNat c2) (Int32.ofNat i) = some (qH g W X) ∧ (∀ j, i ≤ j → j < 13 → W 207 (13 * f + j) = Int32.ofNat (trc s (f % 9 + 1) c0 d0 j).1) ∧ ∀ b j, ¬ (b = 207 ∧ 13 * f + i ≤ j ∧ j < 13 * f + 13) → W b j = V b j := by
      intro c2 d2 he
      obtain ⟨W, x1, x2, x3⟩ := ih k (qw V 207 (upd (V 207) (13 * f + i) (Int32.ofNat c2))) (i + 1) (by omega) (by omega) (hW2 _)
      rw [show i + 1 - 1 = i by omega, he] at x1
      refine ⟨W, ?_, fun j a1 a2 => ?_, fun b j hb => ?_⟩
      · unfold fX12_laysTrail_86
        rw [q196_g31, Option.bind_some, show (13 : Int32) = Int32.ofNat 13 from rfl, qmul, qadd, qsI (t := 0) qk_207 (Or.inl rfl) (by omega) (by omega), Option.bind_some, l1, qadd]
        exact x1
      · by_cases e : j = i
        · subst e
          rw [x3 207 _ (by omega), qw_s, upd_s, he]
        · exact x2 j (by omega) a2
      · rw [x3 b j (by omega)]
        by_cases e : b = 207
        · subst e
          rw [qw_s, upd_n (by omega)]
        · rw [qw_n e]
    unfold fX12_laysTrail_11
    dsimp only
    by_cases hi0 : i = 0
    · subst hi0
      obtain ⟨W, x1, x2⟩ := fin c d hp
      refine ⟨W, ?_, x2⟩
      rw [if_neg (by rw [show (13 : Int32) = Int32.ofNat 13 from rfl, qle (by omega) (by omega)]; omega), if_pos (by decide)]
      exact x1
    · have hi1 : trc s (f % 9 + 1) c0 d0 i = if i % (f % 9 + 1) = 0 then stp s c d else (c, d) := by
        obtain ⟨i', rfl⟩ := Nat.exists_eq_succ_of_ne_zero hi0
        conv => lhs; unfold trc
        rw [show Nat.succ i' - 1 = i' from rfl] at hp
        rw [hp]
      have ez : zrem (Int32.ofNat f) (9 : Int32) + (1 : Int32) = Int32.ofNat (f % 9 + 1) := by
        rw [show (9 : Int32) = Int32.ofNat 9 from rfl, qrem (by omega) (by omega), l1, qadd]
      have hz : znz (Int32.ofNat (f % 9 + 1)) = some () := by
        unfold znz
        rw [if_neg (by rw [l0, qeq (by omega) (by omega)]; omega)]
      rw [if_neg (by rw [show (13 : Int32) = Int32.ofNat 13 from rfl, qle (by omega) (by omega)]; omega), if_neg (by rw [l0, qle (by omega) (by omega)]; omega), ez, hz, Option.bind_some, qrem (by omega) (by omega)]
      by_cases hd : i % (f % 9 + 1) = 0
      · rw [if_pos hd] at hi1
        unfold stp at hi1
        rw [if_pos (by rw [hd]; rfl), q196_c, Option.bind_some, m_beside hM hW b1 b2, Option.bind_some]
        have hturn : trc s (f % 9 + 1) c0 d0 i = (c, (d + 1) % 4) → ∀ x6, ∃ W, fX12_laysTrail_65 (fX12_laysTrail_11 N 216 k) N 216 (qH g V X) 196 (Int32.ofNat f) (Int32.ofNat d) (Int32.ofNat c) (Int32.ofNat i) x6 = some (qH g W X) ∧ (∀ j, i ≤ j → j < 13 → W 207 (13 * f + j) = Int32.ofNat (trc s (f % 9 + 1) c0 d0 j).1) ∧ ∀ b j, ¬ (b = 207 ∧ 13 * f + i ≤ j ∧ j < 13 * f + 13) → W b j = V b j := by
          intro he x6
          obtain ⟨W, x1, x2⟩ := fin c ((d + 1) % 4) he
          refine ⟨W, ?_, x2⟩
          unfold fX12_laysTrail_65 fX12_laysTrail_66
          rw [if_pos rfl, l1, qadd, l4, qrem (by omega) (by omega)]
          exact x1
        cases hb : sBeside s c d with
        | none =>
          rw [hb] at hi1
          dsimp only at hi1
          rw [if_pos (by decide)]
          exact hturn hi1 _
        | some t =>
          have ht := sBeside_lt hW hb
          have h5 := hW.2.2.2.2.2.1 t ht
          rw [hb] at hi1
          dsimp only at hi1
          rw [show qo (some t) = Int32.ofNat t from rfl, if_neg (Int32.ofNat_not_neg (by omega)), q196_g6, Option.bind_some, l5, qadd, m_ld hM (by omega), Option.bind_some]
          by_cases h0 : s (5 + t) = 0
          · rw [if_pos h0] at hi1
            rw [if_pos (by rw [h0]; rfl)]
            obtain ⟨W, x1, x2⟩ := fin t d hi1
            refine ⟨W, ?_, x2⟩
            unfold fX12_laysTrail_66
            rw [if_neg (by decide)]
            exact x1
          · rw [if_neg h0] at hi1
            rw [if_neg (by rw [l0, qeq (by omega) (by omega)]; omega)]
            exact hturn hi1 _
      · rw [if_neg hd] at hi1
        have hml := Nat.mod_le i (f % 9 + 1)
        rw [if_neg (by rw [l0, qeq (by omega) (by omega)]; exact hd)]
        exact fin c d hi1
def ftA (p E : Nat → Nat) : Nat → Nat → Bool
  | _, 0 => true
  | i, m + 1 => if p i = E i then ftA p E (i + 1) m else false
theorem c_asS {f mm : Nat} {p E : Nat → Nat} (hf : f < 36) (h8 : mm ≤ 8) (h4 : V 187 4 = Int32.ofNat mm) (h1 : ∀ j, j < mm → V 190 (13 * f + j) = Int32.ofNat (p j)) (h2 : ∀ j, j < mm → V 189 j = Int32.ofNat (E j)) (hp : ∀ j, p j < 1000) (hE : ∀ j, j < mm → E j < 1000) : ∀ m k i, i + m = mm → m < k → fX4_isAsShown_2 N 216 (qH g V X) k 187 (Int32.ofNat f) (Int32.ofNat i) = some (qz (ftA p E i m)) := by
  intro m
  induction m with
  | zero =>
    intro k i hi hk
    obtain ⟨k, rfl⟩ := Nat.exists_eq_succ_of_ne_zero (n := k) (by omega)
    unfold fX4_isAsShown_2
    rw [q187_g4, Option.bind_some, h4, if_pos (by rw [qle (by omega) (by omega)]; omega)]
    rfl
  | succ m ih =>
    intro k i hi hk
    obtain ⟨k, rfl⟩ := Nat.exists_eq_succ_of_ne_zero (n := k) (by omega)
    have b1 := hp i
    have b2 := hE i (by omega)
    unfold fX4_isAsShown_2 ftA
    rw [q187_g4, Option.bind_some, h4, if_neg (by rw [qle (by omega) (by omega)]; omega), q187_g5, Option.bind_some, show (13 : Int32) = Int32.ofNat 13 from rfl, qmul, qadd, e_at qk_190 (by omega) (by omega), Option.bind_some, q187_g3, Option.bind_some, e_at qk_189 (by omega) (by omega), Option.bind_some, h1 i (by omega), h2 i (by omega)]
    by_cases h : p i = E i
    · rw [if_pos (by rw [h]), if_pos h, l1, qadd]
      exact ih k (i + 1) (by omega) (by omega)
    · rw [if_neg (by rw [qeq (by omega) (by omega)]; exact h), if_neg h]
      rfl
theorem m_oct (hB : mB V B n) {i : Nat} (hi : i < n) : fX12_octet N 216 (qH g V X) 196 (Int32.ofNat i) = some (Int32.ofNat (B i)) := by
  obtain ⟨h1, h2, h3⟩ := hB
  unfold fX12_octet
  rw [q196_g1, Option.bind_some, qlI (t := 2) qk_197 (Or.inr (Or.inl rfl)) (k := i) (by omega) (by omega), Option.bind_some, show (255 : Int32) = Int32.ofNat 255 from rfl, (h3 i hi).2]
theorem m_cellT (hB : mB V B n) {i : Nat} (hi : 2 * i + 1 < n) : fX12_cellTold N 216 (qH g V X) 196 (Int32.ofNat i) = some (Int32.ofNat (kE B i)) := by
  unfold fX12_cellTold
  rw [q196_c, Option.bind_some, show (2 : Int32) = Int32.ofNat 2 from rfl, qmul, l1, qadd, m_oct hB hi, Option.bind_some, Option.bind_some, m_oct hB (by omega), Option.bind_some, show (9 : Int32) = Int32.ofNat 9 from rfl, qmul, qadd]
  rfl
theorem m_isFit0 {f mm : Nat} (h3 : V 196 3 = Int32.ofNat n) (hn : n / 2 = mm) (hn2 : n < 1000) : ∀ m k i, i + m = mm → m < k → fX12_isFit_4 N 216 (qH g V X) k 196 (Int32.ofNat f) 0 (Int32.ofNat i) = some (qz false) := by
  intro m
  induction m with
  | zero =>
    intro k i hi hk
    obtain ⟨k, rfl⟩ := Nat.exists_eq_succ_of_ne_zero (n := k) (by omega)
    unfold fX12_isFit_4
    rw [q196_g3, Option.bind_some, h3, show (2 : Int32) = Int32.ofNat 2 from rfl, qdiv (by omega) (by omega), if_pos (by rw [qle (by omega) (by omega)]; omega)]
    rfl
  | succ m ih =>
    intro k i hi hk
    obtain ⟨k, rfl⟩ := Nat.exists_eq_succ_of_ne_zero (n := k) (by omega)
    unfold fX12_isFit_4 fX12_isFit_41 fX12_isFit_42
    rw [q196_g3, Option.bind_some, h3, show (2 : Int32) = Int32.ofNat 2 from rfl, qdiv (by omega) (by omega), if_neg (by rw [qle (by omega) (by omega)]; omega), if_pos rfl, l1, qadd]
    exact ih k (i + 1) (by omega) (by omega)
theorem m_isFitL {f mm : Nat} {p : Nat → Nat} (hf : f < 36) (hB : mB V B n) (hn : n / 2 = mm) (h8 : mm ≤ 8) (h1 : ∀ j, j < mm → V 207 (13 * f + j) = Int32.ofNat (p j)) (hp : ∀ j, p j < 1000) (hE : ∀ j, j < mm → kE B j < 1000) : ∀ m k i, i + m = mm → m < k → fX12_isFit_4 N 216 (qH g V X) k 196 (Int32.ofNat f) 1 (Int32.ofNat i) = some (qz (ftA p (kE B) i m)) := by
  have hn9 : n ≤ 940 := hB.2.1
  intro m
  induction m with
  | zero =>
    intro k i hi hk
    obtain ⟨k, rfl⟩ := Nat.exists_eq_succ_of_ne_zero (n := k) (by omega)
    unfold fX12_isFit_4
    rw [q196_g3, Option.bind_some, hB.1, show (2 : Int32) = Int32.ofNat 2 from rfl, qdiv (by omega) (by omega), if_pos (by rw [qle (by omega) (by omega)]; omega)]
    rfl
  | succ m ih =>
    intro k i hi hk
    obtain ⟨k, rfl⟩ := Nat.exists_eq_succ_of_ne_zero (n := k) (by omega)
    have b1 := hp i
    have b2 := hE i (by omega)
    unfold fX12_isFit_4 ftA
    rw [q196_g3, Option.bind_some, hB.1, show (2 : Int32) = Int32.ofNat 2 from rfl, qdiv (by omega) (by omega), if_neg (by rw [qle (by omega) (by omega)]; omega), if_neg (by decide), q196_g31, Option.bind_some, show (13 : Int32) = Int32.ofNat 13 from rfl, qmul, qadd, qlI (t := 0) qk_207 (Or.inl rfl) (by omega) (by omega), Option.bind_some, q196_c, Option.bind_some, m_cellT hB (by omega), Option.bind_some, h1 i (by omega)]
    by_cases h : p i = kE B i
    · rw [if_pos (by rw [h]), if_pos h]
      unfold fX12_isFit_42
      rw [show Int32.ofNat i + 1 = Int32.ofNat (i + 1) by rw [l1, qadd]]
      exact ih k (i + 1) (by omega) (by omega)
    · rw [if_neg (by rw [qeq (by omega) (by omega)]; exact h), if_neg h]
      unfold fX12_isFit_41 fX12_isFit_42
      rw [show Int32.ofNat i + 1 = Int32.ofNat (i + 1) by rw [l1, qadd]]
      exact m_isFit0 hB.1 hn (by omega) m k (i + 1) (by omega) (by omega)
end QFT
