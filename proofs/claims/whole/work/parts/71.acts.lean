/-! the acts: turn, walk, shut, open, face -/
section QAC
variable {g : zF} {V W K : Nat → Nat → Int32} {X : Nat → Nat → Int64} {N : Nat} {s t : Nat → Nat}
theorem m_in03 {p : Int32} : fX12_isIn N 216 (qH g V X) p 0 (Int32.ofNat 3) = some (qz (qrg p 0 4)) := m_in (a := 0) (b := 3) (by omega) (by omega)
def cAct (N : Nat) (f : zF) (op : zF → Nat → Option (zF × Int32)) : Option (zF × Int32) := ((zgR 216 f 11 0 8).bind fun x4 => ((zgR 216 f 11 0 2).bind fun x5 => ((zck 216 f 10 x4).bind fun _ => ((fX10_hold N 216 f x4 x5).bind fun f6 => ((zgR 216 f6 11 0 2).bind fun x7 => ((zck 216 f6 8 x7).bind fun _ => (zbd (op f6 x7) fun f9 x8 => ((zck 216 f9 11 0).bind fun _ => (zbd (fX11_keepIfDone N 216 f9 0 x8) fun f11 x10 => some (f11, x10))))))))))
theorem c_act (hg : gQ g) {op : zF → Nat → Option (zF × Int32)} {n nx why : Nat} (hn : n ≤ 8) (hx : nx < 9) (h1 : V 65 1 = Int32.ofNat n) (h2 : V 65 2 = Int32.ofNat nx) (hW : sWF s) (hR : rF V 4 s) (hS : rS V 15 s) (hwhy : why < 100)
    (hop : ∀ W1, rF W1 4 s → rS W1 15 s → ∃ W2, op (qH g W1 X) 15 = some (qH g W2 X, Int32.ofNat why) ∧ rS W2 15 t ∧ qfr W1 W2 15 8) :
    ∃ W, cAct N (qH g V X) op = some (qH g W X, Int32.ofNat why) ∧ rS W 15 t ∧ rS W (67 + 8 * nx) s ∧ (∀ b, ¬ ((67 + 8 * nx ≤ b ∧ b < 67 + 8 * nx + 8) ∨ (15 ≤ b ∧ b < 23) ∨ (why = 0 ∧ b = 65)) → W b = V b) ∧ (why = 0 → W 65 1 = Int32.ofNat (min (n + 1) 8) ∧ W 65 2 = Int32.ofNat ((nx + 1) % 9)) := by
  obtain ⟨W1, a1, a2, a3⟩ := c_hold (g := g) (X := X) (N := N) hg hx h2 hS hW
  obtain ⟨W2, b1, b2, b3⟩ := hop W1 (hR.fr a3 (Or.inl (by omega))) (hS.fr a3 (Or.inl (by omega)))
  have a2b : rS W2 (67 + 8 * nx) s := a2.fr b3 (Or.inr (by omega))
  unfold cAct fX11_keepIfDone
  rw [q0_g8, Option.bind_some, q0_g2, Option.bind_some, q65_c, Option.bind_some, a1, Option.bind_some, q0_g2, Option.bind_some, c15_c, Option.bind_some, b1, zbd_some, q0_c, Option.bind_some]
  by_cases h : why = 0
  · obtain ⟨W3, c1, c2, c3, c4⟩ := c_keep (g := g) (X := X) (N := N) (V := W2) hn hx (by rw [b3 65 (by omega), a3 65 (by omega)]; exact h1) (by rw [b3 65 (by omega), a3 65 (by omega)]; exact h2)
    rw [if_pos (by rw [h]; rfl), q0_g8, Option.bind_some, q65_c, Option.bind_some, c1, Option.bind_some, zbd_some]
    refine ⟨W3, rfl, b2.fr c4 (Or.inl (by omega)), a2b.fr c4 (Or.inr (by omega)), fun b hb => ?_, fun _ => ⟨c2, c3⟩⟩
    rw [c4 b (by omega), b3 b (by omega), a3 b (by omega)]
  · rw [if_neg (by rw [qlit0, qeq (by omega) (by omega)]; exact h), zbd_some]
    refine ⟨W2, rfl, b2, a2b, fun b hb => ?_, fun h2 => absurd h2 h⟩
    rw [b3 b (by omega), a3 b (by omega)]
/-- the reference's row changed behind its keep -/
theorem act_fin (hJ : jA V X s) (ht : sOK t) (hk : sKp s t) {n nx : Nat} {U : Nat → Nat → Nat} (hn : n ≤ 8) (hx : nx < 9)
    (hU : ∀ j, j < n → sEq s (U j) ∧ sOK (U j) ∧ rS V (67 + 8 * ((nx + 9 - n + j) % 9)) (U j) ∧ ∀ i, i < 111 → V 203 (111 * j + i) = Int32.ofNat (U j (139 + i)))
    (hS : rS W 15 t) (hH : rS W (67 + 8 * nx) s) (hf : ∀ b, ¬ ((67 + 8 * nx ≤ b ∧ b < 67 + 8 * nx + 8) ∨ (15 ≤ b ∧ b < 23) ∨ b = 65) → W b = V b) (h1 : W 65 1 = Int32.ofNat (min (n + 1) 8)) (h2 : W 65 2 = Int32.ofNat ((nx + 1) % 9))
    (k1 : K 196 23 = Int32.ofNat (min (n + 1) 8)) (k2 : ∀ j i, j < n ∧ (n = 8 → j < 7) → i < 111 → K 203 (111 * j + i) = qT W 203 (111 * (if n = 8 then j + 1 else j) + i)) (k3 : ∀ i, i < 111 → K 203 (111 * (if n = 8 then 7 else n) + i) = qT W 198 (139 + i))
    (k4 : ∀ b, b ≠ 196 → b ≠ 203 → K b = qT W b) (k5 : ∀ j, j ≠ 23 → K 196 j = qT W 196 j) {r : Nat → Int32} (hM : rM (qw K 198 r) t) : jA (qw K 198 r) X t := by
  have e : ∀ b, b ≠ 196 → b ≠ 203 → b ≠ 198 → qw K 198 r b = W b := fun b b1 b2 b3 => by rw [qw_n b3, k4 b b1 b2, qT_n b1]
  refine act_do hJ ht hk hn hx hU (hS.pt (fun b j b1 b2 => by rw [e b (by omega) (by omega) (by omega)])) hM (hH.pt (fun b j b1 b2 => by rw [e b (by omega) (by omega) (by omega)])) (by rw [e 65 (by omega) (by omega) (by omega)]; exact h1) (by rw [e 65 (by omega) (by omega) (by omega)]; exact h2) (by rw [qw_n (by omega)]; exact k1) (fun j i hj hi => ?_) (fun i hi => ?_) (fun b j hb hb2 => ?_)
  · rw [qw_n (by omega), k2 j i hj hi, qT_n (by omega), hf 203 (by omega)]
  · rw [qw_n (by omega), k3 i hi, qT_n (by omega), hf 198 (by omega)]
  · by_cases e196 : b = 196
    · subst e196
      unfold scr at hb
      rw [qw_n (by omega), k5 j (by omega), qT_j (by omega), hf 196 (by omega)]
    · rw [e b e196 (by omega) (by omega), hf b (by omega)]
theorem sOK.u (h : sOK s) {k x : Nat} (hk : (∃ l, k = 164 + l ∧ l < s 4 ∧ x < 4) ∨ (∃ l, k = 159 + l ∧ l < s 4 ∧ x < 81) ∨ (∃ f, k = 147 + f ∧ f < s 3 ∧ x < 4) ∨ (k = 140 ∧ x < 2 ^ s 4)) : sOK (sU s k x) := by
  obtain ⟨hW, hD, hG, h9⟩ := h
  obtain ⟨-, -, -, w3, w4, -⟩ := id hW
  have hb : 140 ≤ k ∧ (k < 153 ∨ 159 ≤ k) ∧ k < 250 := by
    rcases hk with ⟨l, h1, h2, h3⟩ | ⟨l, h1, h2, h3⟩ | ⟨l, h1, h2, h3⟩ | ⟨h1, h2⟩ <;> omega
  exact ⟨(sEq.u (by omega)).wf hW, sWD.set hW hD hk, hG.u hW ⟨hb.1, hb.2.1⟩, by rw [sU_n (by omega)]; exact h9⟩
theorem bad_step (hJ : jA V X s) : jA (qT V) X s := hJ.thr

theorem sWhyWalk_lt {l d : Nat} : sWhyWalk s l d < 100 := by
  unfold sWhyWalk
  split
  · omega
  · split
    · split <;> omega
    · omega
theorem sWhyFace_lt {l d : Nat} : sWhyFace s l d < 100 := by
  unfold sWhyFace
  split
  · split <;> omega
  · omega
theorem sWalk_s {l d : Nat} (h : ¬ sWhyWalk s l d = 0) : sWalk s l d = s := by
  unfold sWhyWalk at h
  unfold sWalk sFree
  cases hb : sBeside s (s (159 + l)) d with
  | none => rfl
  | some t =>
    rw [hb] at h
    dsimp only at h ⊢
    rw [if_neg]
    intro h2
    rw [Bool.and_eq_true] at h2
    rw [if_pos (of_decide_eq_true h2.1), if_pos h2.2] at h
    exact h rfl
theorem sWalk_t {l d : Nat} (h : sWhyWalk s l d = 0) : ∃ t, sBeside s (s (159 + l)) d = some t ∧ sWalk s l d = sU s (159 + l) t := by
  unfold sWhyWalk at h
  unfold sWalk sFree
  cases hb : sBeside s (s (159 + l)) d with
  | none => rw [hb] at h; cases h
  | some t =>
    rw [hb] at h
    dsimp only at h ⊢
    refine ⟨t, rfl, ?_⟩
    split at h
    · rename_i h0
      split at h
      · rename_i h1
        rw [if_pos]
        rw [Bool.and_eq_true]
        exact ⟨decide_eq_true h0, h1⟩
      · cases h
    · cases h
theorem sWalk_ok (h : sOK s) {l d : Nat} (hl : l < s 4) : sOK (sWalk s l d) := by
  obtain ⟨hW, hD, hG, h9⟩ := h
  have hw4 := hW.2.2.2.2.1
  obtain ⟨h1, h2⟩ := sWalk_wd (d := d) hW hD hl
  exact ⟨h2.wf hW, h1, sWalk_wg hG hW hl, by rw [sWalk_139 (by omega)]; exact h9⟩

theorem s_9 (hN : 3000 ≤ N) {f : zF} (hI : Inv f) (p1 p2 : Int32) : ∃ f2, zlc9 N 216 f p1 p2 = some f2 ∧ Inv f2 := by
  obtain ⟨g, V, X, s, rfl, hg, hJ⟩ := hI
  obtain ⟨⟨⟨hW, hD, hG, h9⟩, hWL, hR, hL, hS, hM, hNs, hNm⟩, hU, hR2⟩ := id hJ
  obtain ⟨n, nx, U, hn, hx, u1, u2, u3, hU4⟩ := id hU
  unfold zlc9
  cases hp : qrg p1 0 (s 4) with
  | false =>
    refine cstep (o1 := fX11_turn N 216 (qH g V X) 0 p1 p2) (m := fun ff => fX12_turn N 216 ff 196 p1 p2) (V1 := V) (X1 := X) (V2 := qT V) (X2 := X) (r := -1) hg ?_ ?_ hJ.thr
    · unfold fX11_turn
      rw [c0_1, Option.bind_some, c4_c, Option.bind_some, c_hasLooker hR hW, Option.bind_some, hp, if_pos qzf]
    · skip
      unfold fX12_turn
      rw [m_thr0, Option.bind_some, q196_c, Option.bind_some, m_isLooker hM.thr hW, Option.bind_some, hp, if_pos qzf]
  | true =>
    obtain ⟨l, rfl, hl0, -, hl⟩ := qrg_e hp
    cases hq : qrg p2 0 4 with
    | false =>
      refine cstep (o1 := fX11_turn N 216 (qH g V X) 0 (Int32.ofNat l) p2) (m := fun ff => fX12_turn N 216 ff 196 (Int32.ofNat l) p2) (V1 := V) (X1 := X) (V2 := qT V) (X2 := X) (r := -1) hg ?_ ?_ hJ.thr
      · unfold fX11_turn
        rw [c0_1, Option.bind_some, c4_c, Option.bind_some, c_hasLooker hR hW, Option.bind_some, hp, if_neg qzt, c_isSide, Option.bind_some, hq, if_pos qzf]
      · skip
        unfold fX12_turn
        rw [m_thr0, Option.bind_some, q196_c, Option.bind_some, m_isLooker hM.thr hW, Option.bind_some, hp, if_neg qzt, show (3 : Int32) = Int32.ofNat 3 from rfl, show fX12_isIn N 216 (qH g (qT V) X) p2 0 (Int32.ofNat 3) = some (qz false) from by rw [← hq]; exact m_in03, Option.bind_some, if_pos qzf]
    | true =>
      obtain ⟨d, rfl, hd0, -, hd⟩ := qrg_e hq
      obtain ⟨⟨w0, w0b⟩, ⟨w1, w1b⟩, w2, w3, w4, w5, w95, w113, w101, w129, w134⟩ := id hW
      obtain ⟨d139, d140, d141, d147, d159, d164, d169, dinj⟩ := id hD
      have hwhy : (if s (164 + l) = d then 1 else 0) < 100 := by split <;> omega
      obtain ⟨W, c1, c2, c3, c4, c5⟩ := c_act (g := g) (X := X) (N := N) (t := sU s (164 + l) d) (op := fun ff x => fX8_turnTo N 216 ff x (Int32.ofNat l) (Int32.ofNat d)) hg hn hx u1 u2 hW hR hS hwhy (fun W1 e1 e2 => e_turnTo qS_15 e2 hW hD hl hd)
      have hc : fX11_turn N 216 (qH g V X) 0 (Int32.ofNat l) (Int32.ofNat d) = some (qH g W X, Int32.ofNat ((if s (164 + l) = d then 1 else 0))) := by
        rw [← c1]
        unfold fX11_turn cAct
        rw [c0_1, Option.bind_some, c4_c, Option.bind_some, c_hasLooker hR hW, Option.bind_some, hp, if_neg qzt, c_isSide, Option.bind_some, hq, if_neg qzt]
      have hMW : rM W s := fun i hi => by rw [c4 198 (by omega)]; exact hM i hi
      have hpre : ∀ {α : Type} (a b : Option α), (if qz (qrg (Int32.ofNat d) 0 4) = 0 then a else b) = b := fun a b => by rw [hq, if_neg qzt]
      by_cases h0 : (if s (164 + l) = d then 1 else 0) = 0
      · obtain ⟨v1, v2⟩ := c5 h0
        obtain ⟨K, k0, k1, k2, k3, k4, k5⟩ := m_keep (g := g) (X := X) (V := qT W) (N := N) hN hn (by rw [qT_j (by omega), c4 196 (by omega)]; exact u3)
        have hMK : rM K s := fun i hi => by rw [k4 198 (by omega) (by omega), qT_n (by omega)]; exact hMW i hi
        refine cstep (o1 := fX11_turn N 216 (qH g V X) 0 (Int32.ofNat l) (Int32.ofNat d)) (m := fun ff => fX12_turn N 216 ff 196 (Int32.ofNat l) (Int32.ofNat d)) (X2 := X) hg hc ?_ (act_fin hJ (t := sU s (164 + l) d) (r := upd (K 198) (164 + l) (Int32.ofNat d)) ((hJ.1.1).u (Or.inl ⟨l, rfl, hl, hd⟩)) (sKp.u (by omega) (by omega)) hn hx hU4 c2 c3 (fun b hb => c4 b (by omega)) v1 v2 k1 k2 k3 k4 k5 ?_)
        · skip
          have e : s (164 + l) ≠ d := by intro e; rw [if_pos e] at h0; omega
          have dl := d164 l hl
          unfold fX12_turn
          rw [m_thr0, Option.bind_some, q196_c, Option.bind_some, m_isLooker hMW.thr hW, Option.bind_some, hp, if_neg qzt, show (3 : Int32) = Int32.ofNat 3 from rfl, show fX12_isIn N 216 (qH g (qT W) X) (Int32.ofNat d) 0 (Int32.ofNat 3) = some (qz true) from by rw [← hq]; exact m_in03, Option.bind_some, if_neg qzt, q196_g6, Option.bind_some, show (164 : Int32) = Int32.ofNat 164 from rfl, qadd, m_ld hMW.thr (by omega), Option.bind_some, if_neg (by rw [qeq (by omega) (by omega)]; exact e), Option.bind_some, k0, Option.bind_some, q196_g6, Option.bind_some, m_st (by omega), Option.bind_some, if_neg e]
          rfl
        · exact hMK.set
      · refine cstep (o1 := fX11_turn N 216 (qH g V X) 0 (Int32.ofNat l) (Int32.ofNat d)) (m := fun ff => fX12_turn N 216 ff 196 (Int32.ofNat l) (Int32.ofNat d)) hg hc ?_ (V2 := qT W) (X2 := X) (act_no hJ u2 hx ?_ (fun b hb => c4 b (by omega))).thr
        · skip
          unfold fX12_turn
          rw [m_thr0, Option.bind_some, q196_c, Option.bind_some, m_isLooker hMW.thr hW, Option.bind_some, hp, if_neg qzt, show (3 : Int32) = Int32.ofNat 3 from rfl, show fX12_isIn N 216 (qH g (qT W) X) (Int32.ofNat d) 0 (Int32.ofNat 3) = some (qz true) from by rw [← hq]; exact m_in03, Option.bind_some, if_neg qzt]
          rw [q196_g6, Option.bind_some, show (164 : Int32) = Int32.ofNat 164 from rfl, qadd, m_ld hMW.thr (by omega), Option.bind_some]
          by_cases e : s (164 + l) = d
          · rw [if_pos (by rw [e]), if_pos e]; rfl
          · rw [if_neg e] at h0; exact absurd rfl h0
        · have ht : sU s (164 + l) d = s := by
            by_cases e : s (164 + l) = d
            · rw [← e, sU_id]
            · rw [if_neg e] at h0; exact absurd rfl h0
          rw [ht] at c2
          exact c2

theorem s_10 (hN : 3000 ≤ N) {f : zF} (hI : Inv f) (p1 p2 : Int32) : ∃ f2, zlc10 N 216 f p1 p2 = some f2 ∧ Inv f2 := by
  obtain ⟨g, V, X, s, rfl, hg, hJ⟩ := hI
  obtain ⟨⟨⟨hW, hD, hG, h9⟩, hWL, hR, hL, hS, hM, hNs, hNm⟩, hU, hR2⟩ := id hJ
  obtain ⟨n, nx, U, hn, hx, u1, u2, u3, hU4⟩ := id hU
  unfold zlc10
  cases hp : qrg p1 0 (s 4) with
  | false =>
    refine cstep (o1 := fX11_walk N 216 (qH g V X) 0 p1 p2) (m := fun ff => fX12_walk N 216 ff 196 p1 p2) (V1 := V) (X1 := X) (V2 := qT V) (X2 := X) (r := -1) hg ?_ ?_ hJ.thr
    · unfold fX11_walk
      rw [c0_1, Option.bind_some, c4_c, Option.bind_some, c_hasLooker hR hW, Option.bind_some, hp, if_pos qzf]
    · skip
      unfold fX12_walk
      rw [m_thr0, Option.bind_some, q196_c, Option.bind_some, m_isLooker hM.thr hW, Option.bind_some, hp, if_pos qzf]
  | true =>
    obtain ⟨l, rfl, hl0, -, hl⟩ := qrg_e hp
    cases hq : qrg p2 0 4 with
    | false =>
      refine cstep (o1 := fX11_walk N 216 (qH g V X) 0 (Int32.ofNat l) p2) (m := fun ff => fX12_walk N 216 ff 196 (Int32.ofNat l) p2) (V1 := V) (X1 := X) (V2 := qT V) (X2 := X) (r := -1) hg ?_ ?_ hJ.thr
      · unfold fX11_walk
        rw [c0_1, Option.bind_some, c4_c, Option.bind_some, c_hasLooker hR hW, Option.bind_some, hp, if_neg qzt, c_isSide, Option.bind_some, hq, if_pos qzf]
      · skip
        unfold fX12_walk
        rw [m_thr0, Option.bind_some, q196_c, Option.bind_some, m_isLooker hM.thr hW, Option.bind_some, hp, if_neg qzt, show (3 : Int32) = Int32.ofNat 3 from rfl, show fX12_isIn N 216 (qH g (qT V) X) p2 0 (Int32.ofNat 3) = some (qz false) from by rw [← hq]; exact m_in03, Option.bind_some, if_pos qzf]
    | true =>
      obtain ⟨d, rfl, hd0, -, hd⟩ := qrg_e hq
      obtain ⟨⟨w0, w0b⟩, ⟨w1, w1b⟩, w2, w3, w4, w5, w95, w113, w101, w129, w134⟩ := id hW
      obtain ⟨d139, d140, d141, d147, d159, d164, d169, dinj⟩ := id hD
      have hwhy : sWhyWalk s l d < 100 := sWhyWalk_lt
      obtain ⟨W, c1, c2, c3, c4, c5⟩ := c_act (g := g) (X := X) (N := N) (t := sWalk s l d) (op := fun ff x => fX8_walkTo N 216 ff x (Int32.ofNat l) (Int32.ofNat d)) hg hn hx u1 u2 hW hR hS hwhy (fun W1 e1 e2 => e_walkTo hN qS_15 qF_4 e1 e2 hW hD hl hd)
      have hc : fX11_walk N 216 (qH g V X) 0 (Int32.ofNat l) (Int32.ofNat d) = some (qH g W X, Int32.ofNat (sWhyWalk s l d)) := by
        rw [← c1]
        unfold fX11_walk cAct
        rw [c0_1, Option.bind_some, c4_c, Option.bind_some, c_hasLooker hR hW, Option.bind_some, hp, if_neg qzt, c_isSide, Option.bind_some, hq, if_neg qzt]
      have hMW : rM W s := fun i hi => by rw [c4 198 (by omega)]; exact hM i hi
      have hpre : ∀ {α : Type} (a b : Option α), (if qz (qrg (Int32.ofNat d) 0 4) = 0 then a else b) = b := fun a b => by rw [hq, if_neg qzt]
      by_cases h0 : sWhyWalk s l d = 0
      · obtain ⟨v1, v2⟩ := c5 h0
        obtain ⟨K, k0, k1, k2, k3, k4, k5⟩ := m_keep (g := g) (X := X) (V := qT W) (N := N) hN hn (by rw [qT_j (by omega), c4 196 (by omega)]; exact u3)
        have hMK : rM K s := fun i hi => by rw [k4 198 (by omega) (by omega), qT_n (by omega)]; exact hMW i hi
        obtain ⟨t, ht, ht2⟩ := sWalk_t h0
        refine cstep (o1 := fX11_walk N 216 (qH g V X) 0 (Int32.ofNat l) (Int32.ofNat d)) (m := fun ff => fX12_walk N 216 ff 196 (Int32.ofNat l) (Int32.ofNat d)) (X2 := X) hg hc ?_ (act_fin hJ (t := sWalk s l d) (r := upd (K 198) (159 + l) (Int32.ofNat t)) (sWalk_ok hJ.1.1 hl) (sWalk_k hW hl) hn hx hU4 c2 c3 (fun b hb => c4 b (by omega)) v1 v2 k1 k2 k3 k4 k5 ?_)
        · skip
          have dl := d159 l hl
          unfold fX12_walk
          rw [m_thr0, Option.bind_some, q196_c, Option.bind_some, m_isLooker hMW.thr hW, Option.bind_some, hp, if_neg qzt, show (3 : Int32) = Int32.ofNat 3 from rfl, show fX12_isIn N 216 (qH g (qT W) X) (Int32.ofNat d) 0 (Int32.ofNat 3) = some (qz true) from by rw [← hq]; exact m_in03, Option.bind_some, if_neg qzt, Option.bind_some, m_whyWalk hN hMW.thr hW hD hl hd, Option.bind_some, if_pos (by rw [h0]; decide), Option.bind_some, k0, Option.bind_some, q196_g6, Option.bind_some, Option.bind_some, show (159 : Int32) = Int32.ofNat 159 from rfl, qadd, m_ld hMK (by omega), Option.bind_some, q196_c, Option.bind_some, m_beside hMK hW dl hd, Option.bind_some, ht, qo_some, m_st (by omega), Option.bind_some, h0]
          rfl
        · rw [ht2]
          exact hMK.set
      · refine cstep (o1 := fX11_walk N 216 (qH g V X) 0 (Int32.ofNat l) (Int32.ofNat d)) (m := fun ff => fX12_walk N 216 ff 196 (Int32.ofNat l) (Int32.ofNat d)) hg hc ?_ (V2 := qT W) (X2 := X) (act_no hJ u2 hx ?_ (fun b hb => c4 b (by omega))).thr
        · skip
          unfold fX12_walk
          rw [m_thr0, Option.bind_some, q196_c, Option.bind_some, m_isLooker hMW.thr hW, Option.bind_some, hp, if_neg qzt, show (3 : Int32) = Int32.ofNat 3 from rfl, show fX12_isIn N 216 (qH g (qT W) X) (Int32.ofNat d) 0 (Int32.ofNat 3) = some (qz true) from by rw [← hq]; exact m_in03, Option.bind_some, if_neg qzt]
          rw [Option.bind_some, m_whyWalk hN hMW.thr hW hD hl hd, Option.bind_some, if_neg (by rw [qlit0, qle (by omega) (by omega)]; omega)]
        · have ht : sWalk s l d = s := by
            exact sWalk_s h0
          rw [ht] at c2
          exact c2

theorem s_13 (hN : 3000 ≤ N) {f : zF} (hI : Inv f) (p1 p2 : Int32) : ∃ f2, zlc13 N 216 f p1 p2 = some f2 ∧ Inv f2 := by
  obtain ⟨g, V, X, s, rfl, hg, hJ⟩ := hI
  obtain ⟨⟨⟨hW, hD, hG, h9⟩, hWL, hR, hL, hS, hM, hNs, hNm⟩, hU, hR2⟩ := id hJ
  obtain ⟨n, nx, U, hn, hx, u1, u2, u3, hU4⟩ := id hU
  unfold zlc13
  cases hp : qrg p1 0 (s 3) with
  | false =>
    refine cstep (o1 := fX11_face N 216 (qH g V X) 0 p1 p2) (m := fun ff => fX12_face N 216 ff 196 p1 p2) (V1 := V) (X1 := X) (V2 := qT V) (X2 := X) (r := -1) hg ?_ ?_ hJ.thr
    · unfold fX11_face
      rw [c0_1, Option.bind_some, c4_c, Option.bind_some, c_hasFigure hR hW, Option.bind_some, hp, if_pos qzf]
    · skip
      unfold fX12_face
      rw [m_thr0, Option.bind_some, q196_c, Option.bind_some, m_isFigure hM.thr hW, Option.bind_some, hp, if_pos qzf]
  | true =>
    obtain ⟨f, rfl, hl0, -, hl⟩ := qrg_e hp
    cases hq : qrg p2 0 4 with
    | false =>
      refine cstep (o1 := fX11_face N 216 (qH g V X) 0 (Int32.ofNat f) p2) (m := fun ff => fX12_face N 216 ff 196 (Int32.ofNat f) p2) (V1 := V) (X1 := X) (V2 := qT V) (X2 := X) (r := -1) hg ?_ ?_ hJ.thr
      · unfold fX11_face
        rw [c0_1, Option.bind_some, c4_c, Option.bind_some, c_hasFigure hR hW, Option.bind_some, hp, if_neg qzt, c_isSide, Option.bind_some, hq, if_pos qzf]
      · skip
        unfold fX12_face
        rw [m_thr0, Option.bind_some, q196_c, Option.bind_some, m_isFigure hM.thr hW, Option.bind_some, hp, if_neg qzt, show (3 : Int32) = Int32.ofNat 3 from rfl, show fX12_isIn N 216 (qH g (qT V) X) p2 0 (Int32.ofNat 3) = some (qz false) from by rw [← hq]; exact m_in03, Option.bind_some, if_pos qzf]
    | true =>
      obtain ⟨d, rfl, hd0, -, hd⟩ := qrg_e hq
      obtain ⟨⟨w0, w0b⟩, ⟨w1, w1b⟩, w2, w3, w4, w5, w95, w113, w101, w129, w134⟩ := id hW
      obtain ⟨d139, d140, d141, d147, d159, d164, d169, dinj⟩ := id hD
      have hwhy : sWhyFace s f d < 100 := sWhyFace_lt
      obtain ⟨W, c1, c2, c3, c4, c5⟩ := c_act (g := g) (X := X) (N := N) (t := (if sWhyFace s f d = 0 then sU s (147 + f) d else s)) (op := fun ff x => fX8_faceTo N 216 ff x (Int32.ofNat f) (Int32.ofNat d)) hg hn hx u1 u2 hW hR hS hwhy (fun W1 e1 e2 => e_faceTo hN qS_15 qF_4 e1 e2 hW hD hl hd)
      have hc : fX11_face N 216 (qH g V X) 0 (Int32.ofNat f) (Int32.ofNat d) = some (qH g W X, Int32.ofNat (sWhyFace s f d)) := by
        rw [← c1]
        unfold fX11_face cAct
        rw [c0_1, Option.bind_some, c4_c, Option.bind_some, c_hasFigure hR hW, Option.bind_some, hp, if_neg qzt, c_isSide, Option.bind_some, hq, if_neg qzt]
      have hMW : rM W s := fun i hi => by rw [c4 198 (by omega)]; exact hM i hi
      have hpre : ∀ {α : Type} (a b : Option α), (if qz (qrg (Int32.ofNat d) 0 4) = 0 then a else b) = b := fun a b => by rw [hq, if_neg qzt]
      by_cases h0 : sWhyFace s f d = 0
      · obtain ⟨v1, v2⟩ := c5 h0
        obtain ⟨K, k0, k1, k2, k3, k4, k5⟩ := m_keep (g := g) (X := X) (V := qT W) (N := N) hN hn (by rw [qT_j (by omega), c4 196 (by omega)]; exact u3)
        have hMK : rM K s := fun i hi => by rw [k4 198 (by omega) (by omega), qT_n (by omega)]; exact hMW i hi
        rw [if_pos h0] at c2
        refine cstep (o1 := fX11_face N 216 (qH g V X) 0 (Int32.ofNat f) (Int32.ofNat d)) (m := fun ff => fX12_face N 216 ff 196 (Int32.ofNat f) (Int32.ofNat d)) (X2 := X) hg hc ?_ (act_fin hJ (t := sU s (147 + f) d) (r := upd (K 198) (147 + f) (Int32.ofNat d)) ((hJ.1.1).u (Or.inr (Or.inr (Or.inl ⟨f, rfl, hl, hd⟩)))) (sKp.u (by omega) (by omega)) hn hx hU4 c2 c3 (fun b hb => c4 b (by omega)) v1 v2 k1 k2 k3 k4 k5 ?_)
        · skip
          unfold fX12_face
          rw [m_thr0, Option.bind_some, q196_c, Option.bind_some, m_isFigure hMW.thr hW, Option.bind_some, hp, if_neg qzt, show (3 : Int32) = Int32.ofNat 3 from rfl, show fX12_isIn N 216 (qH g (qT W) X) (Int32.ofNat d) 0 (Int32.ofNat 3) = some (qz true) from by rw [← hq]; exact m_in03, Option.bind_some, if_neg qzt, Option.bind_some, m_whyFace hN hMW.thr hW hD hl hd, Option.bind_some, if_pos (by rw [h0]; decide), Option.bind_some, k0, Option.bind_some, q196_g6, Option.bind_some, show (147 : Int32) = Int32.ofNat 147 from rfl, qadd, m_st (by omega), Option.bind_some, h0]
          rfl
        · exact hMK.set
      · refine cstep (o1 := fX11_face N 216 (qH g V X) 0 (Int32.ofNat f) (Int32.ofNat d)) (m := fun ff => fX12_face N 216 ff 196 (Int32.ofNat f) (Int32.ofNat d)) hg hc ?_ (V2 := qT W) (X2 := X) (act_no hJ u2 hx ?_ (fun b hb => c4 b (by omega))).thr
        · skip
          unfold fX12_face
          rw [m_thr0, Option.bind_some, q196_c, Option.bind_some, m_isFigure hMW.thr hW, Option.bind_some, hp, if_neg qzt, show (3 : Int32) = Int32.ofNat 3 from rfl, show fX12_isIn N 216 (qH g (qT W) X) (Int32.ofNat d) 0 (Int32.ofNat 3) = some (qz true) from by rw [← hq]; exact m_in03, Option.bind_some, if_neg qzt]
          rw [Option.bind_some, m_whyFace hN hMW.thr hW hD hl hd, Option.bind_some, if_neg (by rw [qlit0, qle (by omega) (by omega)]; omega)]
        · have ht : (if sWhyFace s f d = 0 then sU s (147 + f) d else s) = s := by
            rw [if_neg h0]
          rw [ht] at c2
          exact c2

theorem s_11 (hN : 3000 ≤ N) {f : zF} (hI : Inv f) (p1 : Int32) : ∃ f2, zlc11 N 216 f p1 = some f2 ∧ Inv f2 := by
  obtain ⟨g, V, X, s, rfl, hg, hJ⟩ := hI
  obtain ⟨⟨⟨hW, hD, hG, h9⟩, hWL, hR, hL, hS, hM, hNs, hNm⟩, hU, hR2⟩ := id hJ
  obtain ⟨n, nx, U, hn, hx, u1, u2, u3, hU4⟩ := id hU
  unfold zlc11
  cases hp : qrg p1 0 (s 4) with
  | false =>
    refine cstep (o1 := fX11_shut N 216 (qH g V X) 0 p1) (m := fun ff => fX12_shut N 216 ff 196 p1) (V1 := V) (X1 := X) (V2 := qT V) (X2 := X) (r := -1) hg ?_ ?_ hJ.thr
    · unfold fX11_shut
      rw [c0_1, Option.bind_some, c4_c, Option.bind_some, c_hasLooker hR hW, Option.bind_some, hp, if_pos qzf]
    · skip
      unfold fX12_shut fX12_blinks
      rw [q196_c, Option.bind_some, m_thr0, Option.bind_some, q196_c, Option.bind_some, m_isLooker hM.thr hW, Option.bind_some, hp, if_pos qzf, zbd_some]
  | true =>
    obtain ⟨l, rfl, hl0, -, hl⟩ := qrg_e hp
    obtain ⟨⟨w0, w0b⟩, ⟨w1, w1b⟩, w2, w3, w4, w5, w95, w113, w101, w129, w134⟩ := id hW
    obtain ⟨d139, d140, d141, d147, d159, d164, d169, dinj⟩ := id hD
    have hsl := sShut_lt (s := s) l
    have hwhy : (if sShut s l = 1 then 1 else 0) < 100 := by split <;> omega
    obtain ⟨W, c1, c2, c3, c4, c5⟩ := c_act (g := g) (X := X) (N := N) (t := if sShut s l = 1 then s else sFlip s l) (op := fun ff x => fX8_setEyes N 216 ff x (Int32.ofNat l) (Int32.ofNat 1)) hg hn hx u1 u2 hW hR hS hwhy (fun W1 e1 e2 => e_setEyes qS_15 e2 hW hl (by omega))
    have hc : fX11_shut N 216 (qH g V X) 0 (Int32.ofNat l) = some (qH g W X, Int32.ofNat (if sShut s l = 1 then 1 else 0)) := by
      rw [← c1]
      unfold fX11_shut cAct
      rw [c0_1, Option.bind_some, c4_c, Option.bind_some, c_hasLooker hR hW, Option.bind_some, hp, if_neg qzt]
      rfl
    have hMW : rM W s := fun i hi => by rw [c4 198 (by omega)]; exact hM i hi
    by_cases h0 : sShut s l = 1
    · rw [if_pos h0] at c2 hc c4
      refine cstep (o1 := fX11_shut N 216 (qH g V X) 0 (Int32.ofNat l)) (m := fun ff => fX12_shut N 216 ff 196 (Int32.ofNat l)) hg hc ?_ (V2 := qT W) (X2 := X) (act_no hJ u2 hx c2 (fun b hb => c4 b (by omega))).thr
      unfold fX12_shut fX12_blinks
      rw [q196_c, Option.bind_some, m_thr0, Option.bind_some, q196_c, Option.bind_some, m_isLooker hMW.thr hW, Option.bind_some, hp, if_neg qzt, Option.bind_some, m_isShut hN hMW.thr hW hD hl, Option.bind_some, h0, if_pos (by decide), zbd_some]
      rfl
    · rw [if_neg h0] at c2 hc c4 c5
      obtain ⟨v1, v2⟩ := c5 rfl
      obtain ⟨K, k0, k1, k2, k3, k4, k5⟩ := m_keep (g := g) (X := X) (V := qT W) (N := N) hN hn (by rw [qT_j (by omega), c4 196 (by omega)]; exact u3)
      have hMK : rM K s := fun i hi => by rw [k4 198 (by omega) (by omega), qT_n (by omega)]; exact hMW i hi
      have hs : sShut s l = 0 := by omega
      refine cstep (o1 := fX11_shut N 216 (qH g V X) 0 (Int32.ofNat l)) (m := fun ff => fX12_shut N 216 ff 196 (Int32.ofNat l)) (X2 := X) hg hc ?_ (act_fin hJ (t := sFlip s l) (r := upd (K 198) 140 (Int32.ofNat (s 140 ^^^ 2 ^ l))) (hJ.1.1.u (Or.inr (Or.inr (Or.inr ⟨rfl, Nat.xor_lt_two_pow d140 (Nat.pow_lt_pow_right (by decide) hl)⟩)))) sFlip_k hn hx hU4 c2 c3 (fun b hb => c4 b (by omega)) v1 v2 k1 k2 k3 k4 k5 ?_)
      · skip
        unfold fX12_shut fX12_blinks
        rw [q196_c, Option.bind_some, m_thr0, Option.bind_some, q196_c, Option.bind_some, m_isLooker hMW.thr hW, Option.bind_some, hp, if_neg qzt, Option.bind_some, m_isShut hN hMW.thr hW hD hl, Option.bind_some, hs, if_neg (by decide), Option.bind_some, k0, Option.bind_some, q196_g6, Option.bind_some, show (140 : Int32) = Int32.ofNat 140 from rfl, m_ld hMK (by omega), Option.bind_some, qlit1, qshl1 (by omega), qxor, m_st (by omega), Option.bind_some, zbd_some]
        rfl
      · exact hMK.set

theorem s_12 (hN : 3000 ≤ N) {f : zF} (hI : Inv f) (p1 : Int32) : ∃ f2, zlc12 N 216 f p1 = some f2 ∧ Inv f2 := by
  obtain ⟨g, V, X, s, rfl, hg, hJ⟩ := hI
  obtain ⟨⟨⟨hW, hD, hG, h9⟩, hWL, hR, hL, hS, hM, hNs, hNm⟩, hU, hR2⟩ := id hJ
  obtain ⟨n, nx, U, hn, hx, u1, u2, u3, hU4⟩ := id hU
  unfold zlc12
  cases hp : qrg p1 0 (s 4) with
  | false =>
    refine cstep (o1 := fX11_open N 216 (qH g V X) 0 p1) (m := fun ff => fX12_open N 216 ff 196 p1) (V1 := V) (X1 := X) (V2 := qT V) (X2 := X) (r := -1) hg ?_ ?_ hJ.thr
    · unfold fX11_open
      rw [c0_1, Option.bind_some, c4_c, Option.bind_some, c_hasLooker hR hW, Option.bind_some, hp, if_pos qzf]
    · skip
      unfold fX12_open fX12_blinks
      rw [q196_c, Option.bind_some, m_thr0, Option.bind_some, q196_c, Option.bind_some, m_isLooker hM.thr hW, Option.bind_some, hp, if_pos qzf, zbd_some]
  | true =>
    obtain ⟨l, rfl, hl0, -, hl⟩ := qrg_e hp
    obtain ⟨⟨w0, w0b⟩, ⟨w1, w1b⟩, w2, w3, w4, w5, w95, w113, w101, w129, w134⟩ := id hW
    obtain ⟨d139, d140, d141, d147, d159, d164, d169, dinj⟩ := id hD
    have hsl := sShut_lt (s := s) l
    have hwhy : (if sShut s l = 0 then 1 else 0) < 100 := by split <;> omega
    obtain ⟨W, c1, c2, c3, c4, c5⟩ := c_act (g := g) (X := X) (N := N) (t := if sShut s l = 0 then s else sFlip s l) (op := fun ff x => fX8_setEyes N 216 ff x (Int32.ofNat l) (Int32.ofNat 0)) hg hn hx u1 u2 hW hR hS hwhy (fun W1 e1 e2 => e_setEyes qS_15 e2 hW hl (by omega))
    have hc : fX11_open N 216 (qH g V X) 0 (Int32.ofNat l) = some (qH g W X, Int32.ofNat (if sShut s l = 0 then 1 else 0)) := by
      rw [← c1]
      unfold fX11_open cAct
      rw [c0_1, Option.bind_some, c4_c, Option.bind_some, c_hasLooker hR hW, Option.bind_some, hp, if_neg qzt]
      rfl
    have hMW : rM W s := fun i hi => by rw [c4 198 (by omega)]; exact hM i hi
    by_cases h0 : sShut s l = 0
    · rw [if_pos h0] at c2 hc c4
      refine cstep (o1 := fX11_open N 216 (qH g V X) 0 (Int32.ofNat l)) (m := fun ff => fX12_open N 216 ff 196 (Int32.ofNat l)) hg hc ?_ (V2 := qT W) (X2 := X) (act_no hJ u2 hx c2 (fun b hb => c4 b (by omega))).thr
      unfold fX12_open fX12_blinks
      rw [q196_c, Option.bind_some, m_thr0, Option.bind_some, q196_c, Option.bind_some, m_isLooker hMW.thr hW, Option.bind_some, hp, if_neg qzt, Option.bind_some, m_isShut hN hMW.thr hW hD hl, Option.bind_some, h0, if_pos (by decide), zbd_some]
      rfl
    · rw [if_neg h0] at c2 hc c4 c5
      obtain ⟨v1, v2⟩ := c5 rfl
      obtain ⟨K, k0, k1, k2, k3, k4, k5⟩ := m_keep (g := g) (X := X) (V := qT W) (N := N) hN hn (by rw [qT_j (by omega), c4 196 (by omega)]; exact u3)
      have hMK : rM K s := fun i hi => by rw [k4 198 (by omega) (by omega), qT_n (by omega)]; exact hMW i hi
      have hs : sShut s l = 1 := by omega
      refine cstep (o1 := fX11_open N 216 (qH g V X) 0 (Int32.ofNat l)) (m := fun ff => fX12_open N 216 ff 196 (Int32.ofNat l)) (X2 := X) hg hc ?_ (act_fin hJ (t := sFlip s l) (r := upd (K 198) 140 (Int32.ofNat (s 140 ^^^ 2 ^ l))) (hJ.1.1.u (Or.inr (Or.inr (Or.inr ⟨rfl, Nat.xor_lt_two_pow d140 (Nat.pow_lt_pow_right (by decide) hl)⟩)))) sFlip_k hn hx hU4 c2 c3 (fun b hb => c4 b (by omega)) v1 v2 k1 k2 k3 k4 k5 ?_)
      · skip
        unfold fX12_open fX12_blinks
        rw [q196_c, Option.bind_some, m_thr0, Option.bind_some, q196_c, Option.bind_some, m_isLooker hMW.thr hW, Option.bind_some, hp, if_neg qzt, Option.bind_some, m_isShut hN hMW.thr hW hD hl, Option.bind_some, hs, if_neg (by decide), Option.bind_some, k0, Option.bind_some, q196_g6, Option.bind_some, show (140 : Int32) = Int32.ofNat 140 from rfl, m_ld hMK (by omega), Option.bind_some, qlit1, qshl1 (by omega), qxor, m_st (by omega), Option.bind_some, zbd_some]
        rfl
      · exact hMK.set

end QAC
