/-! line: the step -/
section QLJ
variable {g : zF} {V W K : Nat → Nat → Int32} {X Y : Nat → Nat → Int64} {N n : Nat} {s t u B : Nat → Nat}
theorem c_nameA {w l : List Nat} (hN : 3000 ≤ N) (hw : wOK w) (h7 : w.length ≤ 7) (h : V 191 6 = Int32.ofNat 0) (hn : l.length + 7 ≤ 40) : fX0_addName N 216 (qH g (cPs V 0 l) X) 191 (Int64.ofNat (r5 w)) = some (qH g (cPs V 0 (l ++ spL w 7)) X) := by
  rw [c_name hN hw h7 (cPs_6 h l) (by omega), cPs_app]
theorem c_textA {i : Nat} {l : List Nat} (hN : 3000 ≤ N) (hi : i = 2 ∨ i = 3 ∨ i = 4) (h : V 191 6 = Int32.ofNat 0) (hn : l.length + 5 ≤ 40) : fX0_addText N 216 (qH g (cPs V 0 l) X) 191 i = some (qH g (cPs V 0 (l ++ tx i)) X) := by
  rw [c_text hN hi (cPs_6 h l) (by omega), cPs_app]
theorem c_sgnA {c : Nat} {l : List Nat} (h : V 191 6 = Int32.ofNat 0) (hn : l.length + 1 ≤ 40) : fX0_addSign N 216 (qH g (cPs V 0 l) X) 191 (Int32.ofNat c) = some (qH g (cPs V 0 (l ++ [c])) X) := by
  rw [c_sgn (cPs_6 h l) (by omega), ← cPs_app]
  rfl
theorem m_nameA {w l : List Nat} (hN : 3000 ≤ N) (hw : wOK w) (h7 : w.length ≤ 7) (h : V 196 35 = Int32.ofNat 0) (hn : l.length + 7 ≤ 40) : fX12_spells N 216 (qH g (mPs V 0 l) X) 196 (Int64.ofNat (r8 w)) = some (qH g (mPs V 0 (l ++ spL w 7)) X) := by
  rw [m_name hN hw h7 (mPs_6 h l) (by omega), mPs_app]
theorem m_saysA {w l : List Nat} (hN : 3000 ≤ N) (hw : wOK w) (h7 : w.length ≤ 7) (h : V 196 35 = Int32.ofNat 0) (hn : l.length + 8 ≤ 40) : fX12_says N 216 (qH g (mPs V 0 l) X) 196 (Int64.ofNat (r8 w)) = some (qH g (mPs V 0 (l ++ 32 :: spL w 7)) X) := by
  rw [m_says hN hw h7 (mPs_6 h l) (by omega), mPs_app]
theorem m_layA {c : Nat} {l : List Nat} (h : V 196 35 = Int32.ofNat 0) (hn : l.length + 1 ≤ 40) (hc : c < 128) : fX12_lays N 216 (qH g (mPs V 0 l) X) 196 (Int32.ofNat c) = some (qH g (mPs V 0 (l ++ [c])) X) := by
  rw [m_lay (mPs_6 h l) (by omega) hc, ← mPs_app]
  rfl
theorem c_nmAt {r n k : Nat} (h : r < 216 ∧ qK r = 21 ∧ qL r = n) (hk : k < n) (hn : n < 2147483648) : fX11_nameAt N 216 (qH g V X) r (Int32.ofNat k) = some (X r k) := by
  unfold fX11_nameAt
  rw [if_neg (Int32.ofNat_not_neg (by omega)), qlenL h, Option.bind_some, if_neg (by rw [qle (by omega) (by omega)]; omega), qlL h hk hn, Option.bind_some]
theorem jLine (hJ : jA V X s) (hT : jL W) (e : ∀ b j, ¬ (b = 191 ∧ j = 6) → b ≠ 193 → ¬ (b = 196 ∧ (j = 0 ∨ j = 35)) → b ≠ 208 → W b j = V b j) : jA W X s := by
  obtain ⟨h1, h2, j1, j2, j3, j4, j5, j6, j7, j8, j9, j10, j11⟩ := hJ
  refine ⟨h1.pt (fun b j h => e b j (by omega) (by omega) (by omega) (by omega)) (fun _ _ _ => rfl), h2.pt sEq.rf (fun b j h => e b j (by omega) (by omega) (by omega) (by omega)), ?_, j2, ?_, ?_, ?_, ?_, ?_, ?_, ?_, hT, ?_⟩
  · exact j1.pt (fun b j h => e b j (by omega) (by omega) (by omega) (by omega))
  · exact j3.pt (fun b j h => e b j (by omega) (by omega) (by omega) (by omega))
  · exact j4.pt (fun b j h => e b j (by omega) (by omega) (by omega) (by omega)) (fun _ _ _ => rfl)
  · exact j5.pt (fun b j h => e b j (by omega) (by omega) (by omega) (by omega)) (fun _ _ _ => rfl)
  · exact j6.pt (fun b j h => e b j (by omega) (by omega) (by omega) (by omega))
  · exact j7.pt (fun b j h => e b j (by omega) (by omega) (by omega) (by omega))
  · exact j8.pt (fun b j h => e b j (by omega) (by omega) (by omega) (by omega))
  · exact j9.pt (fun b j h => e b j (by omega) (by omega) (by omega) (by omega))
  · exact j11.pt (fun b j h => e b j (by omega) (by omega) (by omega) (by omega))
/-- the line of a figure, without its end -/
def lnF (s : Nat → Nat) (w : List Nat) (f : Nat) : List Nat := ((((((([] : List Nat) ++ spL w 7) ++ tx 2) ++ [48 + s (141 + f) % 9]) ++ [32]) ++ [48 + s (141 + f) / 9]) ++ tx 3) ++ spL (wK (s (147 + f))) 7
def lnT (s : Nat → Nat) (w : List Nat) (f : Nat) : List Nat := if sSeers s f = 0 then lnF s w f else lnF s w f ++ tx 4
theorem tx_len : (tx 2).length = 4 ∧ (tx 3).length = 4 ∧ (tx 4).length = 5 := by decide
theorem c_line (hN : 3000 ≤ N) (hR : rF V 4 s) (hS : rS V 15 s) (hW : sWF s) (hD : sWD s) (hX : cW X) {f : Nat} {w : List Nat} (hf : f < s 3) (hw : wOK w) (h7 : w.length ≤ 7) (hn : X 6 f = Int64.ofNat (r5 w)) : ∃ V0, fX11_line N 216 (qH g V X) 0 (Int32.ofNat f) = some (qH g (cPs V0 0 (lnT s w f)) X, Int32.ofNat (lnT s w f).length) ∧ V0 191 6 = Int32.ofNat 0 ∧ ∀ b j, ¬ (b = 191 ∧ j = 6) → V0 b j = V b j := by
  obtain ⟨⟨w0, w0b⟩, ⟨w1, w1b⟩, w2, w3, w4, w5, w95, w113, w101, w129, w134⟩ := id hW
  obtain ⟨d139, d140, d141, d147, d159, d164, d169, dinj⟩ := id hD
  obtain ⟨r1, r16, r17, r18, r19, r20, r21, r22⟩ := rS15 hS
  have c141 := d141 f hf
  have c147 := d147 f hf
  obtain ⟨kw, kl⟩ := wK_ok _ (Nat.lt_of_lt_of_le c147 (by decide))
  obtain ⟨t2, t3, t4⟩ := tx_len
  have sp1 := spL_le (w := w) 7
  have sp2 := spL_le (w := wK (s (147 + f))) 7
  have h0 : (qw V 191 (upd (V 191) 6 0)) 191 6 = Int32.ofNat 0 := by rw [qw_s, upd_s]; rfl
  have hV0 : ∀ b j, ¬ (b = 191 ∧ j = 6) → (qw V 191 (upd (V 191) 6 0)) b j = V b j := by
    intro b j hb
    by_cases e : b = 191
    · subst e
      rw [qw_s, upd_n (by omega)]
    · rw [qw_n e]
  refine ⟨qw V 191 (upd (V 191) 6 0), ?_, h0, hV0⟩
  have hfr : ∀ (l : List Nat) b j, b ≠ 191 → b ≠ 193 → (cPs (qw V 191 (upd (V 191) 6 0)) 0 l) b j = V b j := fun l b j b1 b2 => by rw [(cPs_fr l _ 0).1 b j (by omega) b2, qw_n b1]
  have x1 : Int32.ofNat 48 + zrem (Int32.ofNat (s (141 + f))) (Int32.ofNat 9) = Int32.ofNat (48 + s (141 + f) % 9) := by rw [qrem (by omega) (by omega), qadd]
  have x2 : Int32.ofNat 48 + Int32.ofNat (s (141 + f)) / Int32.ofNat 9 = Int32.ofNat (48 + s (141 + f) / 9) := by rw [qdiv (by omega) (by omega), qadd]
  have y17 : ∀ l : List Nat, fX11_at N 216 (qH g (cPs (qw V 191 (upd (V 191) 6 0)) 0 l) X) 17 (Int32.ofNat f) = some (Int32.ofNat (s (147 + f))) := fun l => by rw [c17_at (by omega), hfr l 17 f (by decide) (by decide), r17 f hf]
  have ysr : ∀ l : List Nat, fX8_seers N 216 (qH g (cPs (qw V 191 (upd (V 191) 6 0)) 0 l) X) 15 (Int32.ofNat f) = some (Int32.ofNat (sSeers s f)) := fun l => e_seers hN qS_15 qF_4 (hR.pt (fun b j a1 a2 => hfr l b j (by omega) (by omega))) (hS.pt (fun b j a1 a2 => hfr l b j (by omega) (by omega))) hW hD hf
  have yn : ∀ V2, fX11_nameAt N 216 (qH g V2 X) 6 (Int32.ofNat f) = some (Int64.ofNat (r5 w)) := fun V2 => by rw [c_nmAt (qF_k2 qF_4) (by omega) (by omega), hn]
  have yd : ∀ V2, fX11_nameAt N 216 (qH g V2 X) 3 (Int32.ofNat (s (147 + f))) = some (Int64.ofNat (r5 (wK (s (147 + f))))) := fun V2 => by rw [c_nmAt qk_3 (by omega) (by omega), hX _ (by omega)]
  have hl := sSeers_lt hW (f := f)
  unfold fX11_line
  rw [q0_g1, Option.bind_some, qF_c qF_4, Option.bind_some, c_hasFigure hR hW, Option.bind_some, qrg_k (by omega), decide_eq_true ⟨Nat.zero_le _, hf⟩, if_neg qzt, q0_g2, Option.bind_some, c15_g2, Option.bind_some, c16_at (by omega), Option.bind_some, r16 f hf, q0_g12, Option.bind_some, q191_p6, Option.bind_some]
  rw [show qw V 191 (upd (V 191) 6 0) = cPs (qw V 191 (upd (V 191) 6 0)) 0 [] from rfl]
  rw [q0_g12, Option.bind_some, q0_g1, Option.bind_some, c4_g6, Option.bind_some, yn, Option.bind_some, q191_c, Option.bind_some, c_nameA hN hw h7 h0 (by simp), Option.bind_some]
  rw [q0_g12, Option.bind_some, q191_c, Option.bind_some, c_textA hN (Or.inl rfl) h0 (by simp; omega), Option.bind_some]
  rw [q0_g12, Option.bind_some, q191_c, Option.bind_some, show (48 : Int32) = Int32.ofNat 48 from rfl, show (9 : Int32) = Int32.ofNat 9 from rfl, x1, c_sgnA h0 (by simp; omega), Option.bind_some]
  rw [q0_g12, Option.bind_some, q191_c, Option.bind_some, show (32 : Int32) = Int32.ofNat 32 from rfl, c_sgnA h0 (by simp; omega), Option.bind_some]
  rw [q0_g12, Option.bind_some, q191_c, Option.bind_some, x2, c_sgnA h0 (by simp; omega), Option.bind_some]
  rw [q0_g12, Option.bind_some, q191_c, Option.bind_some, c_textA hN (Or.inr (Or.inl rfl)) h0 (by simp; omega), Option.bind_some]
  rw [q0_g12, Option.bind_some, q0_g0, Option.bind_some, q1_g1, Option.bind_some, q0_g2, Option.bind_some, c15_g3, Option.bind_some, y17, Option.bind_some, yd, Option.bind_some, q191_c, Option.bind_some, c_nameA hN kw kl h0 (by simp; omega), Option.bind_some]
  rw [q0_g2, Option.bind_some, c15_c, Option.bind_some, ysr, Option.bind_some]
  have hF : (lnF s w f).length ≤ 7 + 4 + 1 + 1 + 1 + 4 + 7 := by unfold lnF; simp; omega
  have e6 : ∀ l : List Nat, (cPs (qw V 191 (upd (V 191) 6 0)) 0 l) 191 6 = Int32.ofNat l.length := fun l => by rw [cPs_6 h0 l, Nat.zero_add]
  unfold fX11_line_157 lnT
  by_cases hz : sSeers s f = 0
  · rw [if_pos (by rw [hz]; rfl), if_pos hz, q0_g12, Option.bind_some, q191_g6, Option.bind_some, e6]
    rfl
  · rw [if_neg (by rw [l0, qeq (by omega) (by omega)]; exact hz), if_neg hz, q0_g12, Option.bind_some, q191_c, Option.bind_some]
    have := c_textA (g := g) (X := X) (l := lnF s w f) hN (Or.inr (Or.inr (rfl : (4 : Nat) = 4))) h0 (by omega)
    unfold lnF at this ⊢
    rw [this, Option.bind_some, q0_g12, Option.bind_some, q191_g6, Option.bind_some, e6]
    rfl
def lmF (s : Nat → Nat) (w : List Nat) (f : Nat) : List Nat := (((((((([] : List Nat) ++ spL w 7) ++ 32 :: spL [116, 97] 7) ++ [32]) ++ [48 + s (141 + f) % 9]) ++ [32]) ++ [48 + s (141 + f) / 9]) ++ 32 :: spL [111, 116] 7) ++ 32 :: spL (wK (s (147 + f))) 7
theorem lmF_e {w : List Nat} {f : Nat} : lmF s w f = lnF s w f := by
  unfold lmF lnF
  rw [show tx 2 = (32 :: spL [116, 97] 7) ++ [32] by decide, show tx 3 = (32 :: spL [111, 116] 7) ++ [32] by decide]
  simp
theorem m_line (hN : 3000 ≤ N) (hM : rM V s) (hW : sWF s) (hD : sWD s) {f : Nat} {w : List Nat} (hf : f < s 3) (hw : wOK w) (h7 : w.length ≤ 7) (hn : X 201 (4 + f) = Int64.ofNat (r8 w)) : ∃ V0, fX12_line N 216 (qH g V X) 196 (Int32.ofNat f) = some (qH g (mPs V0 0 (lnT s w f)) X, Int32.ofNat (lnT s w f).length) ∧ V0 196 35 = Int32.ofNat 0 ∧ ∀ b j, ¬ (b = 196 ∧ (j = 0 ∨ j = 35)) → V0 b j = V b j := by
  obtain ⟨⟨w0, w0b⟩, ⟨w1, w1b⟩, w2, w3, w4, w5, w95, w113, w101, w129, w134⟩ := id hW
  obtain ⟨d139, d140, d141, d147, d159, d164, d169, dinj⟩ := id hD
  have c141 := d141 f hf
  have c147 := d147 f hf
  obtain ⟨kw, kl⟩ := wK_ok _ (Nat.lt_of_lt_of_le c147 (by decide))
  have sp1 := spL_le (w := w) 7
  have sp2 := spL_le (w := wK (s (147 + f))) 7
  have hl := sSeers_lt hW (f := f)
  generalize hV : qw (qT V) 196 (upd (qT V 196) 35 0) = V0
  have h0 : V0 196 35 = Int32.ofNat 0 := by rw [← hV, qw_s, upd_s]; rfl
  have hV0 : ∀ b j, ¬ (b = 196 ∧ (j = 0 ∨ j = 35)) → V0 b j = V b j := by
    intro b j hb
    rw [← hV]
    by_cases e : b = 196
    · subst e
      rw [qw_s, upd_n (by omega), qT_j (by omega)]
    · rw [qw_n e, qT_n e]
  have hMl : ∀ l : List Nat, rM (mPs V0 0 l) s := fun l i hi => by rw [(mPs_fr l V0 0).1 198 i (by omega) (by decide), hV0 _ _ (by omega)]; exact hM i hi
  refine ⟨V0, ?_, h0, hV0⟩
  have x1 : Int32.ofNat 48 + zrem (Int32.ofNat (s (141 + f))) (Int32.ofNat 9) = Int32.ofNat (48 + s (141 + f) % 9) := by rw [qrem (by omega) (by omega), qadd]
  have x2 : Int32.ofNat 48 + Int32.ofNat (s (141 + f)) / Int32.ofNat 9 = Int32.ofNat (48 + s (141 + f) / 9) := by rw [qdiv (by omega) (by omega), qadd]
  have yn : ∀ V2, zlL 216 (qH g V2 X) 1 201 (Int32.ofNat (4 + f)) = some (Int64.ofNat (r8 w)) := fun V2 => by rw [qlL qk_201 (by omega) (by omega), hn]
  have y141 : ∀ l : List Nat, zlI 216 (qH g (mPs V0 0 l) X) 0 198 (Int32.ofNat (141 + f)) = some (Int32.ofNat (s (141 + f))) := fun l => m_ld (hMl l) (by omega)
  have y147 : ∀ l : List Nat, zlI 216 (qH g (mPs V0 0 l) X) 0 198 (Int32.ofNat (147 + f)) = some (Int32.ofNat (s (147 + f))) := fun l => m_ld (hMl l) (by omega)
  have ysr : ∀ l : List Nat, fX12_seenBy N 216 (qH g (mPs V0 0 l) X) 196 (Int32.ofNat f) = some (Int32.ofNat (sSeers s f)) := fun l => m_seenBy hN (hMl l) hW hD hf
  have oat : wOK [116, 97] := by unfold wOK; decide
  have oto : wOK [111, 116] := by unfold wOK; decide
  have ose : wOK [110, 101, 101, 115] := by unfold wOK; decide
  have lat : (spL [116, 97] 7).length = 2 := by decide
  have lto : (spL [111, 116] 7).length = 2 := by decide
  have a1 : (4 : Int32) + Int32.ofNat f = Int32.ofNat (4 + f) := by rw [show (4 : Int32) = Int32.ofNat 4 from rfl, qadd]
  have a2 : (141 : Int32) + Int32.ofNat f = Int32.ofNat (141 + f) := by rw [show (141 : Int32) = Int32.ofNat 141 from rfl, qadd]
  have a3 : (147 : Int32) + Int32.ofNat f = Int32.ofNat (147 + f) := by rw [show (147 : Int32) = Int32.ofNat 147 from rfl, qadd]
  unfold fX12_line
  rw [m_thr0, Option.bind_some, q196_c, Option.bind_some, m_isFigure hM.thr hW, Option.bind_some, qrg_k (by omega), decide_eq_true ⟨Nat.zero_le _, hf⟩, if_neg qzt, q196_p35, Option.bind_some, hV]
  rw [show qH g V0 X = qH g (mPs V0 0 []) X from rfl]
  rw [q196_g9, Option.bind_some, a1, yn, Option.bind_some, q196_c, Option.bind_some, m_nameA hN hw h7 h0 (by simp), Option.bind_some]
  rw [q196_c, Option.bind_some, show (24948 : Int64) = Int64.ofNat (r8 [116, 97]) from rfl, m_saysA hN oat (by decide) h0 (by simp; omega), Option.bind_some]
  rw [q196_c, Option.bind_some, show (32 : Int32) = Int32.ofNat 32 from rfl, m_layA h0 (by simp; omega) (by omega), Option.bind_some]
  rw [q196_g6, Option.bind_some, a2, y141, Option.bind_some, q196_c, Option.bind_some, show (48 : Int32) = Int32.ofNat 48 from rfl, show (9 : Int32) = Int32.ofNat 9 from rfl, x1, m_layA h0 (by simp; omega) (by omega), Option.bind_some]
  rw [q196_c, Option.bind_some, m_layA h0 (by simp; omega) (by omega), Option.bind_some]
  rw [q196_g6, Option.bind_some, y141, Option.bind_some, q196_c, Option.bind_some, x2, m_layA h0 (by simp; omega) (by omega), Option.bind_some]
  rw [q196_c, Option.bind_some, show (29807 : Int64) = Int64.ofNat (r8 [111, 116]) from rfl, m_saysA hN oto (by decide) h0 (by simp; omega), Option.bind_some]
  rw [q196_g6, Option.bind_some, a3, y147, Option.bind_some]
  have hF : (lmF s w f).length ≤ 7 + 4 + 1 + 1 + 1 + 4 + 7 := by unfold lmF; simp; omega
  have e6 : ∀ l : List Nat, (mPs V0 0 l) 196 35 = Int32.ofNat l.length := fun l => by rw [mPs_6 h0 l, Nat.zero_add]
  have fin : ∀ z, z = Int64.ofNat (r8 (wK (s (147 + f)))) → fX12_line_145 N 216 (qH g (mPs V0 0 (((((((([] : List Nat) ++ spL w 7) ++ 32 :: spL [116, 97] 7) ++ [32]) ++ [48 + s (141 + f) % 9]) ++ [32]) ++ [48 + s (141 + f) / 9]) ++ 32 :: spL [111, 116] 7)) X) 196 (Int32.ofNat f) 196 z = some (qH g (mPs V0 0 (lnT s w f)) X, Int32.ofNat (lnT s w f).length) := by
    intro z hz
    subst hz
    unfold fX12_line_145 fX12_line_163
    rw [q196_c, Option.bind_some, m_saysA hN kw kl h0 (by simp; omega), Option.bind_some, q196_c, Option.bind_some]
    rw [show ((((((((([] : List Nat) ++ spL w 7) ++ 32 :: spL [116, 97] 7) ++ [32]) ++ [48 + s (141 + f) % 9]) ++ [32]) ++ [48 + s (141 + f) / 9]) ++ 32 :: spL [111, 116] 7) ++ 32 :: spL (wK (s (147 + f))) 7) = lnF s w f from lmF_e]
    rw [lmF_e] at hF
    rw [ysr, Option.bind_some]
    unfold lnT
    by_cases hz : sSeers s f = 0
    · rw [if_pos (by rw [hz]; rfl), if_pos hz, q196_g35, Option.bind_some, e6]
    · rw [if_neg (by rw [l0, qeq (by omega) (by omega)]; exact hz), if_neg hz, Option.bind_some, show (1936024942 : Int64) = Int64.ofNat (r8 [110, 101, 101, 115]) from rfl, m_saysA hN ose (by decide) h0 (by omega), Option.bind_some, q196_g35, Option.bind_some, show (32 :: spL [110, 101, 101, 115] 7) = tx 4 by decide, e6]
  by_cases e0 : s (147 + f) = 0
  · rw [if_pos (by rw [e0]; rfl)]
    exact fin _ (by rw [e0]; rfl)
  rw [if_neg (by rw [l0, qeq (by omega) (by omega)]; exact e0)]
  by_cases e1 : s (147 + f) = 1
  · rw [if_pos (by rw [e1]; rfl)]
    exact fin _ (by rw [e1]; rfl)
  rw [if_neg (by rw [l1, qeq (by omega) (by omega)]; exact e1)]
  by_cases e2 : s (147 + f) = 2
  · rw [if_pos (by rw [e2]; rfl)]
    exact fin _ (by rw [e2]; rfl)
  rw [if_neg (by rw [show (2 : Int32) = Int32.ofNat 2 from rfl, qeq (by omega) (by omega)]; exact e2)]
  exact fin _ (by rw [show s (147 + f) = 3 by omega]; rfl)
theorem s_30 (hN : 3000 ≤ N) {f : zF} (hI : Inv f) (p1 : Int32) : ∃ f2, zlc30 N 216 f p1 = some f2 ∧ Inv f2 := by
  obtain ⟨g, V, X, s, rfl, hg, hJ⟩ := hI
  obtain ⟨⟨⟨hW, hD, hG, h9⟩, hWL, hR, hL, hS, hM, hNs, hNm⟩, hU, hR2⟩ := id hJ
  unfold zlc30
  cases hp : qrg p1 0 (s 3) with
  | false =>
    refine cstep (o1 := fX11_line N 216 (qH g V X) 0 p1) (m := fun ff => fX12_line N 216 ff 196 p1) (V1 := V) (X1 := X) (V2 := qT V) (X2 := X) (r := -1) hg ?_ ?_ hJ.thr
    · unfold fX11_line
      rw [q0_g1, Option.bind_some, qF_c qF_4, Option.bind_some, c_hasFigure hR hW, Option.bind_some, hp, if_pos qzf]
    · unfold fX12_line
      rw [m_thr0, Option.bind_some, q196_c, Option.bind_some, m_isFigure hM.thr hW, Option.bind_some, hp, if_pos qzf]
  | true =>
    obtain ⟨f, rfl, hf1, -, hf⟩ := qrg_e hp
    obtain ⟨n1, n2, n3, n4⟩ := hNm
    obtain ⟨w, hw, h7, hx, hy⟩ := n2 f hf
    rw [Nat.zero_add] at hy
    obtain ⟨V0, c1, c2, c3⟩ := c_line (g := g) hN hR hS hW hD hR2.2.1.1 hf hw h7 hx
    have cf := cPs_fr (lnT s w f) V0 0
    have hMc : rM (cPs V0 0 (lnT s w f)) s := fun i hi => by rw [cf.1 _ _ (by omega) (by decide), c3 _ _ (by omega)]; exact hM i hi
    obtain ⟨M0, m1, m2, m3⟩ := m_line (g := g) hN hMc hW hD hf hw h7 hy
    have mf := mPs_fr (lnT s w f) M0 0
    have hlen : (lnT s w f).length ≤ 40 := by
      have sp1 := spL_le (w := w) 7
      have sp2 := spL_le (w := wK (s (147 + f))) 7
      obtain ⟨t2, t3, t4⟩ := tx_len
      unfold lnT lnF
      split
      · simp; omega
      · simp; omega
    refine cstep (o1 := fX11_line N 216 (qH g V X) 0 (Int32.ofNat f)) (m := fun ff => fX12_line N 216 ff 196 (Int32.ofNat f)) hg c1 m1 (jLine hJ ⟨(lnT s w f).length, hlen, ?_, ?_, fun i hi => ?_⟩ (fun b j b1 b2 b3 b4 => ?_))
    · rw [mf.1 _ _ (by omega) (by decide), m3 _ _ (by omega), cPs_6 c2, Nat.zero_add]
    · rw [mPs_6 m2, Nat.zero_add]
    · have h1 := cf.2.2 i hi
      have h2 := mf.2.2 i hi
      rw [Nat.zero_add] at h1 h2
      rw [mf.1 _ _ (by omega) (by decide), m3 _ _ (by omega), h1, h2]
    · rw [mf.1 _ _ (by omega) b4, m3 _ _ (by omega), cf.1 _ _ b1 b2, c3 _ _ b1]
end QLJ
