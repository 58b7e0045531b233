/-! mean; the tape fed -/
section QG
variable {g : zF} {V V2 : Nat → Nat → Int32} {X X2 : Nat → Nat → Int64} {N : Nat} {s : Nat → Nat}
theorem qgcd (a b : Nat) : Nat.gcd a b = Nat.gcd b (a % b) := by rw [Nat.gcd_comm a b, Nat.gcd_rec, Nat.gcd_comm]
theorem c_gcd7 {f : zF} : ∀ b, b ≤ 50 → ∀ a i k, a < 2147483648 → i + b < 60 → b < k → fX11_commonDivisor_7 N 216 f k (Int32.ofNat a) (Int32.ofNat b) (Int32.ofNat i) = some (Int32.ofNat (Nat.gcd a b)) := by
  intro b
  induction b using Nat.strongRecOn with
  | _ b ih =>
    intro hb a i k ha hi hk
    obtain ⟨k, rfl⟩ : ∃ j, k = j + 1 := ⟨k - 1, by omega⟩
    unfold fX11_commonDivisor_7
    rw [show (64 : Int32) = Int32.ofNat 64 from rfl, if_neg (by rw [qle (by omega) (by omega)]; omega)]
    by_cases h0 : b = 0
    · subst h0
      rw [if_pos (show Int32.ofNat 0 ≤ 0 by decide), Nat.gcd_zero_right]
    · have hm : a % b < b := Nat.mod_lt _ (by omega)
      have h1 : znz (Int32.ofNat b) = some () := by unfold znz; rw [if_neg (by rw [qlit0, qeq (by omega) (by omega)]; exact h0)]
      rw [if_neg (by rw [qlit0, qle (by omega) (by omega)]; omega), h1, Option.bind_some, qrem ha (by omega), qlit1, qadd, ih (a % b) hm (by omega) b (i + 1) k (by omega) (by omega) (by omega), ← qgcd]
theorem m_gcd44 {p : Int32} : ∀ b, b ≤ 50 → ∀ a k, a < 2147483648 → b < k → fX12_mean_44 N 216 k (qH g V X) 196 p (Int32.ofNat a) (Int32.ofNat b) = fX12_mean_44 N 216 1 (qH g V X) 196 p (Int32.ofNat (Nat.gcd a b)) (Int32.ofNat 0) := by
  intro b
  induction b using Nat.strongRecOn with
  | _ b ih =>
    intro hb a k ha hk
    obtain ⟨k, rfl⟩ : ∃ j, k = j + 1 := ⟨k - 1, by omega⟩
    by_cases h0 : b = 0
    · subst h0
      rw [Nat.gcd_zero_right]
      unfold fX12_mean_44
      rw [if_pos (show Int32.ofNat 0 = (0 : Int32) from rfl), if_pos (show Int32.ofNat 0 = (0 : Int32) from rfl)]
    · have hm : a % b < b := Nat.mod_lt _ (by omega)
      have h1 : znz (Int32.ofNat b) = some () := by unfold znz; rw [if_neg (by rw [qlit0, qeq (by omega) (by omega)]; exact h0)]
      rw [qgcd, ← ih (a % b) hm (by omega) b k (by omega) (by omega)]
      conv => lhs; unfold fX12_mean_44
      rw [if_neg (by rw [qlit0, qeq (by omega) (by omega)]; exact h0), h1, Option.bind_some, qrem ha (by omega)]
theorem sGone_le (hW : sWF s) (hG : sWG s) (h9 : s 139 ≤ 1000) : sGone s ≤ 6000 := by
  have h : ∀ n, n ≤ s 3 → qsum (fun f => s (153 + f)) n ≤ 1000 * n := by
    intro n
    induction n with
    | zero => intro _; exact Nat.le_refl 0
    | succ n ih =>
      intro hn
      have := ih (by omega)
      have := hG n (by omega)
      unfold qsum
      omega
  have h3 := hW.2.2.2.1
  have := h (s 3) (by omega)
  unfold sGone
  omega
theorem m_mean44 (hN : 3000 ≤ N) (hM : rM V s) (hW : sWF s) (hG : sWG s) (h9 : s 139 ≤ 1000) (h3 : 1 ≤ s 3) {k : Nat} (hk : k < 2) : fX12_mean_44 N 216 N (qH g V X) 196 (Int32.ofNat k) (Int32.ofNat (s 3)) (Int32.ofNat (sGone s)) = some (qH g V X, Int32.ofNat ((if k = 0 then sGone s else s 3) / Nat.gcd (sGone s) (s 3))) := by
  obtain ⟨⟨w0, w0b⟩, ⟨w1, w1b⟩, w2, w3, w4, w5, w95, w113, w101, w129, w134⟩ := id hW
  have hg := sGone_le hW hG h9
  have hgc : 1 ≤ Nat.gcd (sGone s) (s 3) := Nat.gcd_pos_of_pos_right _ (by omega)
  have hgl : Nat.gcd (sGone s) (s 3) ≤ s 3 := Nat.gcd_le_right _ (by omega)
  have hz : znz (Int32.ofNat (Nat.gcd (sGone s) (s 3))) = some () := by unfold znz; rw [if_neg (by rw [qlit0, qeq (by omega) (by omega)]; omega)]
  have hend : fX12_mean_44 N 216 1 (qH g V X) 196 (Int32.ofNat k) (Int32.ofNat (Nat.gcd (sGone s) (s 3))) (Int32.ofNat 0) = some (qH g V X, Int32.ofNat ((if k = 0 then sGone s else s 3) / Nat.gcd (sGone s) (s 3))) := by
    unfold fX12_mean_44 fX12_mean_78
    rw [if_pos (show Int32.ofNat 0 = (0 : Int32) from rfl)]
    by_cases h0 : k = 0
    · rw [if_pos h0, if_pos (by rw [h0]; rfl), q196_c, Option.bind_some, m_wentInAll hN hM hW, Option.bind_some, hz, Option.bind_some, qdiv (by omega) (by omega)]
    · rw [if_neg h0, if_neg (by rw [qlit0, qeq (by omega) (by omega)]; exact h0), q196_g6, Option.bind_some, show (3 : Int32) = Int32.ofNat 3 from rfl, m_ld hM (by omega), Option.bind_some, hz, Option.bind_some, qdiv (by omega) (by omega)]
  by_cases h0 : sGone s = 0
  · rw [h0] at hend ⊢
    rw [m_gcd44 0 (by omega) _ N (by omega) (by omega), Nat.gcd_zero_right]
    rw [Nat.gcd_zero_left] at hend ⊢
    exact hend
  · obtain ⟨M, rfl⟩ : ∃ j, N = j + 1 := ⟨N - 1, by omega⟩
    have hm : s 3 % sGone s ≤ s 3 := Nat.mod_le _ _
    have hz2 : znz (Int32.ofNat (sGone s)) = some () := by unfold znz; rw [if_neg (by rw [qlit0, qeq (by omega) (by omega)]; exact h0)]
    conv => lhs; unfold fX12_mean_44
    rw [if_neg (by rw [qlit0, qeq (by omega) (by omega)]; exact h0), hz2, Option.bind_some, qrem (by omega) (by omega), m_gcd44 (s 3 % sGone s) (by omega) (sGone s) M (by omega) (by omega), ← qgcd, Nat.gcd_comm]
    exact hend
theorem tq_mean (hN : 3000 ≤ N) (hW : sWF s) (hD : sWD s) (hR : rF V 4 s) (hS : rS V 15 s) (hM : rM V s) (hG : sWG s) (h9 : s 139 ≤ 1000) (p : Int32) : ∃ v r, fX11_mean N 216 (qH g V X) 0 p = some v ∧ tO g V X (fun f => fX12_mean N 216 f 196 p) r v := by
  obtain ⟨⟨w0, w0b⟩, ⟨w1, w1b⟩, w2, w3, w4, w5, w95, w113, w101, w129, w134⟩ := id hW
  obtain ⟨d139, d140, d141, d147, d159, d164, d169, dinj⟩ := id hD
  obtain ⟨f0, f1, f2, f3, f4, f8, f10, f11, f12, f13, f14⟩ := rF4 hR
  obtain ⟨r1, r16, r17, r18, r19, r20, r21, r22⟩ := rS15 hS
  have hbad : s 3 = 0 ∨ qrg p 0 2 = false → tO g V X (fun f => fX12_mean N 216 f 196 p) (Int32.ofNat 0) none := by
    intro h
    unfold tO
    dsimp only
    unfold fX12_mean fX12_mean_19 fX12_mean_24
    rw [q196_g6, Option.bind_some, show (3 : Int32) = Int32.ofNat 3 from rfl, m_ld hM (by omega), Option.bind_some]
    by_cases h0 : s 3 = 0
    · rw [if_pos (by rw [h0]; rfl), q196_c, Option.bind_some, l1', mt1, q196_p0, Option.bind_some, zbd_some, if_neg (by decide)]
      rfl
    · have hp := h.resolve_left h0
      rw [if_neg (by rw [qlit0, qeq (by omega) (by omega)]; exact h0), show (1 : Int32) = Int32.ofNat 1 from rfl, l0, m_in (by omega) (by omega), hp, Option.bind_some, if_pos (show qz false = Int32.ofNat 0 from rfl), q196_c, Option.bind_some, mt1, q196_p0, Option.bind_some, zbd_some, if_neg (by decide)]
  by_cases h0 : s 3 = 0
  · refine ⟨none, _, ?_, hbad (Or.inl h0)⟩
    unfold fX11_mean fX11_mean_20
    rw [c0_1, Option.bind_some, c4_g3, Option.bind_some, f3, h0, if_pos (by decide)]
  · cases hp : qrg p 0 2 with
    | false =>
      refine ⟨none, _, ?_, hbad (Or.inr hp)⟩
      unfold fX11_mean fX11_mean_20
      rw [c0_1, Option.bind_some, c4_g3, Option.bind_some, f3, if_neg (by rw [qlit1, qlt (by omega) (by omega)]; omega)]
      rcases qarg p with h | ⟨k, hk, rfl⟩
      · rw [if_pos h]
      · rw [qrg_k hk] at hp
        have hq2 := of_decide_eq_false hp
        rw [if_neg (Int32.ofNat_not_neg hk), if_neg (by rw [qlit1, qle (by omega) (by omega)]; omega)]
    | true =>
      obtain ⟨k, rfl, hk, -, hk2⟩ := qrg_e hp
      have hg := sGone_le hW hG h9
      have hgc : 1 ≤ Nat.gcd (sGone s) (s 3) := Nat.gcd_pos_of_pos_right _ (by omega)
      have hgl : Nat.gcd (sGone s) (s 3) ≤ s 3 := Nat.gcd_le_right _ (by omega)
      have hz : znz (Int32.ofNat (Nat.gcd (sGone s) (s 3))) = some () := by unfold znz; rw [if_neg (by rw [qlit0, qeq (by omega) (by omega)]; omega)]
      refine ⟨some (Int32.ofNat ((if k = 0 then sGone s else s 3) / Nat.gcd (sGone s) (s 3))), 0, ?_, ?_⟩
      · have hcd : fX11_commonDivisor N 216 (qH g V X) (Int32.ofNat (sGone s)) (Int32.ofNat (s 3)) = some (Int32.ofNat (Nat.gcd (sGone s) (s 3))) := c_gcd7 (s 3) (by omega) _ 0 N (by omega) (by omega) (by omega)
        unfold fX11_mean fX11_mean_66
        rw [c0_1, Option.bind_some, c4_g3, Option.bind_some, f3, if_neg (by rw [qlit1, qlt (by omega) (by omega)]; omega), if_neg (Int32.ofNat_not_neg hk), if_pos (by rw [qlit1, qle (by omega) (by omega)]; omega), c0_2, Option.bind_some, c15_c, Option.bind_some, e_goneByAll hN qS_15 qF_4 hR hS hW, Option.bind_some, Option.bind_some, c4_g3, Option.bind_some, f3, hcd, Option.bind_some]
        by_cases hk0 : k = 0
        · rw [if_pos hk0, if_pos (by rw [hk0]; rfl), if_neg (by rw [qlit0, qle (by omega) (by omega)]; omega), hz, Option.bind_some, qdiv (by omega) (by omega)]
        · rw [if_neg hk0, if_neg (by rw [qlit0, qeq (by omega) (by omega)]; exact hk0), Option.bind_some, c4_g3, Option.bind_some, f3, if_neg (by rw [qlit0, qle (by omega) (by omega)]; omega), hz, Option.bind_some, qdiv (by omega) (by omega)]
      · intro Y
        dsimp only
        have h44 := m_mean44 (g := g) (X := Y) hN hM.thr hW hG h9 (by omega) hk2
        unfold fX12_mean fX12_mean_19 fX12_mean_24
        rw [q196_g6, Option.bind_some, show (3 : Int32) = Int32.ofNat 3 from rfl, m_ld hM (by omega), Option.bind_some, if_neg (by rw [qlit0, qeq (by omega) (by omega)]; exact h0), show (1 : Int32) = Int32.ofNat 1 from rfl, l0, m_in (by omega) (by omega), hp, Option.bind_some, if_neg (show ¬ qz true = Int32.ofNat 0 by decide), q196_c, Option.bind_some, mt0, m_thr, Option.bind_some, zbd_some, if_pos rfl, q196_g6, Option.bind_some, m_ld hM.thr (by omega), Option.bind_some, q196_c, Option.bind_some, m_wentInAll hN hM.thr hW, Option.bind_some]
        exact h44
theorem s_29 (hN : 3000 ≤ N) {f : zF} (hI : Inv f) (p1 : Int32) : ∃ f2, zlc29 N 216 f p1 = some f2 ∧ Inv f2 := by
  obtain ⟨g, V, X, s, rfl, hg, hJ⟩ := hI
  obtain ⟨⟨⟨hW, hD, hG, h9⟩, hWL, hR, hL, hS, hM, hNs, hNm⟩, hU, hR2⟩ := id hJ
  obtain ⟨v, r, h1, h2⟩ := tq_mean (g := g) (X := X) hN hW hD hR hS hM hG h9 p1
  unfold zlc29 fL_mean
  exact tstep (o2 := fun f => fX12_mean N 216 f 196 p1) hg hJ h1 h2

end QG
