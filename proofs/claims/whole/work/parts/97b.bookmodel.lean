/-! a book read: the reference -/
section QBB
variable {g : zF} {V W U K : Nat → Nat → Int32} {X Y Z : Nat → Nat → Int64} {N n m p o k pl d e c : Nat} {s t u B : Nat → Nat} {Q : sQ} {cs : List sC}
def sdd (a : Nat) : Prop := a = 0 ∨ a = 1 ∨ a = 4
def bMo (V : Nat → Nat → Int32) (cs : List sC) : Prop := ∀ i x, cs[i]? = some x → V 200 (3 * i) = Int32.ofNat x.1 ∧ V 200 (3 * i + 1) = Int32.ofNat x.2.1 ∧ (sdd x.1 → V 200 (3 * i + 2) = Int32.ofNat x.2.2)
theorem bMo.cg (h : bMo V cs) (e : ∀ j, j < 3 * cs.length → W 200 j = V 200 j) : bMo W cs := by
  intro i x hi
  have := (List.getElem?_eq_some_iff.mp hi).1
  rw [e _ (by omega), e _ (by omega), e _ (by omega)]
  exact h i x hi
/-- the names: figures, lookers, none of both -/
def mbQ (V : Nat → Nat → Int32) (X : Nat → Nat → Int64) (Q : sQ) : Prop := wMsR X ∧ (nOKs Q.1 Q.2.1 ∧ (∀ i, i < Q.2.1 → X 201 (4 + i) = Int64.ofNat (r8 (Q.1 i))) ∧ Q.2.1 ≤ 6 ∧ V 198 3 = Int32.ofNat Q.2.1) ∧ (nOKs Q.2.2.1 Q.2.2.2 ∧ (∀ i, i < Q.2.2.2 → X 201 (10 + i) = Int64.ofNat (r8 (Q.2.2.1 i))) ∧ Q.2.2.2 ≤ 5 ∧ V 198 4 = Int32.ofNat Q.2.2.2) ∧ ∀ i l, i < Q.2.1 → l < Q.2.2.2 → Q.1 i ≠ Q.2.2.1 l
theorem mbQ.fr (h : mbQ V X Q) (h1 : ∀ j, W 198 j = V 198 j) (h2 : ∀ b, b ≠ 196 → Y b = X b) : mbQ W Y Q := by
  obtain ⟨a0, ⟨a1, a2, a3, a4⟩, ⟨b1, b2, b3, b4⟩, c1⟩ := h
  exact ⟨fun v hv => by rw [h2 202 (by decide)]; exact a0 v hv, ⟨a1, fun i hi => by rw [h2 201 (by decide)]; exact a2 i hi, a3, by rw [h1]; exact a4⟩, ⟨b1, fun i hi => by rw [h2 201 (by decide)]; exact b2 i hi, b3, by rw [h1]; exact b4⟩, c1⟩
/-- what reading a line comes to in the reference: line c -/
def mbRel (B : Nat → Nat) (n m : Nat) (V : Nat → Nat → Int32) (X : Nat → Nat → Int64) (c : Nat) (W : Nat → Nat → Int32) (Y : Nat → Nat → Int64) (r : Int32) : Except (Nat × Nat) (Nat × sC) → Prop
  | .error (k, pl) => r = Int32.ofNat 0 ∧ mFl W k pl ∧ sFr V W X Y
  | .ok (p2, x) => r = Int32.ofNat 1 ∧ mN B n m W Y p2 ∧ W 196 15 = V 196 15 ∧ (W 200 (3 * c) = Int32.ofNat x.1 ∧ W 200 (3 * c + 1) = Int32.ofNat x.2.1 ∧ (sdd x.1 → W 200 (3 * c + 2) = Int32.ofNat x.2.2)) ∧ (∀ j, j < 3 * c → W 200 j = V 200 j) ∧ sFr V W X Y
theorem mbRel.pre {r : Int32} {x : Except (Nat × Nat) (Nat × sC)} (h : mbRel B n m W Y c U Z r x) (hf : sFr V W X Y) (h15 : W 196 15 = V 196 15) (h200 : ∀ j, W 200 j = V 200 j) : mbRel B n m V X c U Z r x := by
  cases x with
  | error e => exact ⟨h.1, h.2.1, hf.tr h.2.2⟩
  | ok v =>
    obtain ⟨h1, h2, h3, h4, h5, h6⟩ := h
    exact ⟨h1, h2, by rw [h3]; exact h15, h4, fun j hj => by rw [h5 j hj]; exact h200 j, hf.tr h6⟩
theorem mFr.cc (h : mFr V W X Y) (j : Nat) : W 200 j = V 200 j := by rw [h.2.1 200 (by decide)]
/-- the reference's row of lines written -/
def b2 (V : Nat → Nat → Int32) (c : Nat) (x y : Int32) : Nat → Nat → Int32 := qw V 200 (upd (upd (V 200) (3 * c) x) (3 * c + 1) y)
theorem b2_n {b : Nat} {x y : Int32} (h : b ≠ 200) : b2 V c x y b = V b := qw_n h
theorem b2_fr {x y : Int32} : sFr V (b2 V c x y) X X := ⟨fun j _ _ _ => by rw [b2_n (by decide)], fun b h1 h2 _ => b2_n h2, fun _ _ => rfl⟩
theorem M_231 (hN : 3000 ≤ N) {a w : Nat} (h : mN B n m V X p) (hk : (tTok B n m p).1 = 4) (hc : c < 40) (ha : a < 5) : hV g (fX12_bookLine_231 N 216 (qH g V X) 196 (Int32.ofNat (3 * c)) (Int32.ofNat w) (Int32.ofNat a)) (fun W Y r => mbRel B n m V X c W Y r (if a = 2 ∨ a = 3 then .ok ((tTok B n m p).2.2.1, a, w, 0) else bSd B n m a w (tTok B n m p).2.2.1)) := by
  unfold fX12_bookLine_231
  rw [if_pos (by rw [l0, qle (by omega) (by omega)]; omega), q196_c, Option.bind_some]
  refine hV_bind (mN.adv hN h (by omega) (by omega)) (fun W Y hx => ?_)
  obtain ⟨x1, x2, x3, x4, x5⟩ := hx
  rw [q196_g8, Option.bind_some, qsI (t := 0) qk_200 (Or.inl rfl) (by omega) (by omega), Option.bind_some, q196_g8, Option.bind_some, show Int32.ofNat (3 * c) + (1 : Int32) = Int32.ofNat (3 * c + 1) by rw [l1, qadd], qsI (t := 0) qk_200 (Or.inl rfl) (by omega) (by omega), Option.bind_some, qw_qw, qw_s]
  show hV g (if Int32.ofNat a = (2 : Int32) then ((zbl (1 : Int32)).bind fun y => some (qH g (b2 W c (Int32.ofNat a) (Int32.ofNat w)) Y, y)) else (if Int32.ofNat a = (3 : Int32) then ((zbl (1 : Int32)).bind fun y => some (qH g (b2 W c (Int32.ofNat a) (Int32.ofNat w)) Y, y)) else ((zck 216 (qH g (b2 W c (Int32.ofNat a) (Int32.ofNat w)) Y) 12 196).bind fun _ => (zbd (fX12_takesSide N 216 (qH g (b2 W c (Int32.ofNat a) (Int32.ofNat w)) Y) 196) fun f16 x15 => ((zgR 216 f16 12 196 8).bind fun x17 => ((zgI 216 f16 12 196 18).bind fun x18 => ((zsI 216 f16 0 x17 (Int32.ofNat (3 * c) + (2 : Int32)) x18).bind fun f19 => ((zbl x15).bind fun y => some (f19, y))))))))) _
  have e200 : ∀ j, (b2 W c (Int32.ofNat a) (Int32.ofNat w)) 200 j = upd (upd (W 200) (3 * c) (Int32.ofNat a)) (3 * c + 1) (Int32.ofNat w) j := fun j => by unfold b2; rw [qw_s]
  have hN2 : mN B n m (b2 W c (Int32.ofNat a) (Int32.ofNat w)) Y (tTok B n m p).2.2.1 := x1.cg (fun j _ => by rw [b2_n (by decide)]) (fun j => by rw [b2_n (by decide)]) (fun _ => rfl)
  have hf2 : sFr V (b2 W c (Int32.ofNat a) (Int32.ofNat w)) X Y := x2.sf.tr b2_fr
  have no : (a = 2 ∨ a = 3) → hV g ((zbl (1 : Int32)).bind fun y => some (qH g (b2 W c (Int32.ofNat a) (Int32.ofNat w)) Y, y)) (fun W Y r => mbRel B n m V X c W Y r (if a = 2 ∨ a = 3 then .ok ((tTok B n m p).2.2.1, a, w, 0) else bSd B n m a w (tTok B n m p).2.2.1)) := by
    intro h23
    rw [show zbl (1 : Int32) = some (Int32.ofNat 1) from rfl, Option.bind_some, if_pos h23]
    refine hV_pure ⟨rfl, hN2, by rw [b2_n (by decide)]; exact x3, ⟨?_, ?_, fun h => ?_⟩, fun j hj => ?_, hf2⟩
    · rw [e200, upd_n (by omega), upd_s]
    · rw [e200, upd_s]
    · have : sdd a := h
      unfold sdd at this
      omega
    · rw [e200, upd_n (by omega), upd_n (by omega)]; exact x2.cc j
  by_cases h2 : a = 2
  · rw [if_pos (by rw [h2]; rfl)]
    exact no (Or.inl h2)
  rw [if_neg (by rw [show (2 : Int32) = Int32.ofNat 2 from rfl, qeq (by omega) (by omega)]; exact h2)]
  by_cases h3 : a = 3
  · rw [if_pos (by rw [h3]; rfl)]
    exact no (Or.inr h3)
  rw [if_neg (by rw [show (3 : Int32) = Int32.ofNat 3 from rfl, qeq (by omega) (by omega)]; exact h3), q196_c, Option.bind_some, if_neg (by omega)]
  refine hV_zbd (m_takesSide hN hN2) (fun W2 Y2 r hx => ?_)
  obtain ⟨hx, hf3⟩ := hx
  rw [q196_g8, Option.bind_some, q196_g18, Option.bind_some, show Int32.ofNat (3 * c) + (2 : Int32) = Int32.ofNat (3 * c + 2) by rw [show (2 : Int32) = Int32.ofNat 2 from rfl, qadd], qsI (t := 0) qk_200 (Or.inl rfl) (by omega) (by omega), Option.bind_some]
  have hf4 : sFr W2 (qw W2 200 (upd (W2 200) (3 * c + 2) (W2 196 18))) Y2 Y2 := ⟨fun j _ _ _ => by rw [qw_n (by decide)], fun b h1 h2 _ => qw_n h2, fun _ _ => rfl⟩
  unfold bSd
  cases ha : aSide B n m (tTok B n m p).2.2.1 with
  | error ee =>
    obtain ⟨k, pl⟩ := ee
    rw [ha] at hx
    rw [hx.1, show zbl (Int32.ofNat 0) = some (Int32.ofNat 0) from rfl, Option.bind_some]
    exact hV_pure ⟨rfl, ⟨by rw [qw_n (by decide)]; exact hx.2.1, by rw [qw_n (by decide)]; exact hx.2.2⟩, (hf2.tr hf3.sf).tr hf4⟩
  | ok v =>
    obtain ⟨v, p2⟩ := v
    rw [ha] at hx
    obtain ⟨y1, y2, y3, y4⟩ := hx
    rw [y1, show zbl (Int32.ofNat 1) = some (Int32.ofNat 1) from rfl, Option.bind_some]
    refine hV_pure ⟨rfl, y4.cg (fun j _ => by rw [qw_n (by decide)]) (fun j => by rw [qw_n (by decide)]) (fun _ => rfl), ?_, ⟨?_, ?_, fun _ => ?_⟩, fun j hj => ?_, (hf2.tr hf3.sf).tr hf4⟩
    · rw [qw_n (by decide), y3, b2_n (by decide)]; exact x3
    · rw [qw_s, upd_n (by omega), hf3.cc, e200, upd_n (by omega), upd_s]
    · rw [qw_s, upd_n (by omega), hf3.cc, e200, upd_s]
    · rw [qw_s, upd_s]; exact y2
    · rw [qw_s, upd_n (by omega), hf3.cc, e200, upd_n (by omega), upd_n (by omega)]; exact x2.cc j
/-- a word that fits none -/
theorem M_231n {w : Int32} (h : mN B n m V X p) : hV g (fX12_bookLine_231 N 216 (qH g V X) 196 (Int32.ofNat (3 * c)) w (-1)) (fun W Y r => mbRel B n m V X c W Y r (.error (1, (tTok B n m p).2.1))) := by
  unfold fX12_bookLine_231
  rw [if_neg (by decide), q196_c, Option.bind_some]
  exact m_badS h (k := 1) (fun W Y a b => ⟨rfl, a, b.sf⟩)
theorem mNv (h : mN B n m V X p) (hf : mFr V W X Y) (h2 : mN B n m W Y k) : True := trivial
def isFg : Option (Bool × Nat) → Bool
  | some (true, _) => true
  | _ => false
theorem M_90 (hN : 3000 ≤ N) {w : Option (Bool × Nat)} (h : mN B n m V X p) (h37 : V 196 37 = Int32.ofNat c) (hc : c ≤ 40) (hw : bWho B n m Q p = .ok w) (hv : ∀ b v, w = some (b, v) → V 196 18 = Int32.ofNat v) : hV g (fX12_bookLine_90 N 216 (qH g V X) 196 (Int32.ofNat (3 * c)) (qz w.isNone) (qz (isFg w))) (fun W Y r => mbRel B n m V X c W Y r (if 40 ≤ c then .error (4, (tTok B n m p).2.1) else bRest B n m (tTok B n m p).2.2.1 w)) := by
  have hk := bWho_k hw
  unfold fX12_bookLine_90
  rw [q196_g37, Option.bind_some, h37]
  by_cases h40 : c = 40
  · rw [if_pos (by rw [h40]; rfl), if_pos (by omega), q196_c, Option.bind_some]
    exact m_badS h (k := 4) (fun W Y a b => ⟨rfl, a, b.sf⟩)
  rw [if_neg (by rw [show (40 : Int32) = Int32.ofNat 40 from rfl, qeq (by omega) (by omega)]; exact h40), if_neg (by omega), q196_g18, Option.bind_some, q196_c, Option.bind_some]
  refine hV_bind (mN.adv hN h hk.1 hk.2.1) (fun W Y hx => ?_)
  obtain ⟨x1, x2, x3, x4, x5⟩ := hx
  have tr : ∀ {o : Option (zF × Int32)} {x : Except (Nat × Nat) (Nat × sC)}, hV g o (fun W2 Y2 r => mbRel B n m W Y c W2 Y2 r x) → hV g o (fun W2 Y2 r => mbRel B n m V X c W2 Y2 r x) := fun ho => hV_mono ho (fun W2 Y2 r h2 => h2.pre x2.sf x3 x2.cc)
  rcases w with _ | ⟨b, v⟩
  · rw [show (none : Option (Bool × Nat)).isNone = true from rfl, if_neg qzt, q196_g8, Option.bind_some, show (5 : Int32) = Int32.ofNat 5 from rfl, qsI (t := 0) qk_200 (Or.inl rfl) (by omega) (by omega), Option.bind_some, q196_c, Option.bind_some, l1, show (60 : Int32) = Int32.ofNat 60 from rfl]
    have hf2 : sFr W (qw W 200 (upd (W 200) (3 * c) (Int32.ofNat 5))) Y Y := ⟨fun j _ _ _ => by rw [qw_n (by decide)], fun b h1 h2 _ => qw_n h2, fun _ _ => rfl⟩
    have hN2 : mN B n m (qw W 200 (upd (W 200) (3 * c) (Int32.ofNat 5))) Y (tTok B n m p).2.2.1 := x1.cg (fun j _ => by rw [qw_n (by decide)]) (fun j => by rw [qw_n (by decide)]) (fun _ => rfl)
    refine tr ?_
    show hV g _ (fun W2 Y2 r => mbRel B n m W Y c W2 Y2 r (bHr B n m (tTok B n m p).2.2.1))
    unfold bHr
    refine hV_zbd (m_takes hN hN2 (lo := 1) (hi := 60) (by omega) (by omega)) (fun W2 Y2 r hy => ?_)
    obtain ⟨hy, hf3⟩ := hy
    cases ha : aNum B n m 1 60 (tTok B n m p).2.2.1 with
    | error ee =>
      obtain ⟨k, pl⟩ := ee
      rw [ha] at hy
      rw [hy.1, if_pos (show Int32.ofNat 0 = (0 : Int32) from rfl)]
      exact ⟨W2, Y2, _, rfl, rfl, hy.2, hf2.tr hf3.sf⟩
    | ok vv =>
      obtain ⟨v, p2⟩ := vv
      rw [ha] at hy
      obtain ⟨y1, y2, y3, y4⟩ := hy
      rw [y1, if_neg (show ¬ Int32.ofNat 1 = (0 : Int32) by decide), q196_g8, Option.bind_some, q196_g18, Option.bind_some, qadd, qsI (t := 0) qk_200 (Or.inl rfl) (by omega) (by omega), Option.bind_some, show zbl (Int32.ofNat 1) = some (Int32.ofNat 1) from rfl, Option.bind_some]
      have hf4 : sFr W2 (qw W2 200 (upd (W2 200) (3 * c + 1) (W2 196 18))) Y2 Y2 := ⟨fun j _ _ _ => by rw [qw_n (by decide)], fun b h1 h2 _ => qw_n h2, fun _ _ => rfl⟩
      refine hV_pure ⟨rfl, y4.cg (fun j _ => by rw [qw_n (by decide)]) (fun j => by rw [qw_n (by decide)]) (fun _ => rfl), ?_, ⟨?_, ?_, fun h => ?_⟩, fun j hj => ?_, (hf2.tr hf3.sf).tr hf4⟩
      · rw [qw_n (by decide), y3, qw_n (by decide)]
      · rw [qw_s, upd_n (by omega), hf3.cc, qw_s, upd_s]
      · rw [qw_s, upd_s]; exact y2
      · have : sdd 5 := h
        unfold sdd at this
        omega
      · rw [qw_s, upd_n (by omega), hf3.cc, qw_s, upd_n (by omega)]
  · have hvv := hv b v rfl
    rw [show (some (b, v)).isNone = false from rfl, if_pos qzf, hvv]
    cases b with
    | false =>
      rw [show isFg (some (false, v)) = false from rfl, if_pos qzf]
      have w10 : fX12_isWord N 216 (qH g W Y) 196 (500186639987 : Int64) = some (qz (aIs B n m 10 (tTok B n m p).2.2.1)) := m_isW (g := g) (N := N) x1 (v := 10) (by omega)
      have w11 : fX12_isWord N 216 (qH g W Y) 196 (512735603571 : Int64) = some (qz (aIs B n m 11 (tTok B n m p).2.2.1)) := m_isW (g := g) (N := N) x1 (v := 11) (by omega)
      have w12 : fX12_isWord N 216 (qH g W Y) 196 (495673767027 : Int64) = some (qz (aIs B n m 12 (tTok B n m p).2.2.1)) := m_isW (g := g) (N := N) x1 (v := 12) (by omega)
      have w13 : fX12_isWord N 216 (qH g W Y) 196 (478627065459 : Int64) = some (qz (aIs B n m 13 (tTok B n m p).2.2.1)) := m_isW (g := g) (N := N) x1 (v := 13) (by omega)
      simp only [q196_c, w10, w11, w12, w13, Option.bind_some]
      refine tr ?_
      show hV g _ (fun W2 Y2 r => mbRel B n m W Y c W2 Y2 r (bLk B n m v (tTok B n m p).2.2.1))
      unfold bLk
      cases a0 : aIs B n m 10 (tTok B n m p).2.2.1 with
      | true =>
        rw [if_neg qzt, if_pos rfl]
        exact M_231 hN (a := 0) x1 (aIs_k a0).1 (by omega) (by omega)
      | false =>
        rw [if_pos qzf, if_neg (show ¬ false = true by decide)]
        cases a1 : aIs B n m 11 (tTok B n m p).2.2.1 with
        | true =>
          rw [if_neg qzt, if_pos rfl]
          exact M_231 hN (a := 1) x1 (aIs_k a1).1 (by omega) (by omega)
        | false =>
          rw [if_pos qzf, if_neg (show ¬ false = true by decide)]
          cases a2 : aIs B n m 12 (tTok B n m p).2.2.1 with
          | true =>
            rw [if_neg qzt, if_pos rfl]
            exact M_231 hN (a := 2) x1 (aIs_k a2).1 (by omega) (by omega)
          | false =>
            rw [if_pos qzf, if_neg (show ¬ false = true by decide)]
            cases a3 : aIs B n m 13 (tTok B n m p).2.2.1 with
            | true =>
              rw [if_neg qzt, if_pos rfl]
              exact M_231 hN (a := 3) x1 (aIs_k a3).1 (by omega) (by omega)
            | false =>
              rw [if_pos qzf, if_neg (show ¬ false = true by decide)]
              exact M_231n x1
    | true =>
      rw [show isFg (some (true, v)) = true from rfl, if_neg qzt]
      have w14 : fX12_isWord N 216 (qH g W Y) 196 (439720568179 : Int64) = some (qz (aIs B n m 14 (tTok B n m p).2.2.1)) := m_isW (g := g) (N := N) x1 (v := 14) (by omega)
      rw [q196_c, Option.bind_some, w14, Option.bind_some]
      refine tr ?_
      show hV g _ (fun W2 Y2 r => mbRel B n m W Y c W2 Y2 r (bFg B n m v (tTok B n m p).2.2.1))
      unfold bFg
      cases a0 : aIs B n m 14 (tTok B n m p).2.2.1 with
      | true =>
        rw [if_neg qzt, if_pos rfl]
        exact M_231 hN (a := 4) x1 (aIs_k a0).1 (by omega) (by omega)
      | false =>
        rw [if_pos qzf, if_neg (show ¬ false = true by decide)]
        exact M_231n x1
theorem M_line (hN : 3000 ≤ N) (h : mN B n m V X p) (h37 : V 196 37 = Int32.ofNat c) (hc : c ≤ 40) (hQ : mbQ V X Q) : hV g (fX12_bookLine N 216 (qH g V X) 196) (fun W Y r => mbRel B n m V X c W Y r (bLine B n m Q c p)) := by
  obtain ⟨hWm, ⟨q1, q2, q3, q4⟩, ⟨q5, q6, q7, q8⟩, qd⟩ := hQ
  have w15 : fX12_isWord N 216 (qH g V X) 196 (1752135026 : Int64) = some (qz (aIs B n m 15 p)) := m_isW (g := g) (N := N) h (v := 15) (by omega)
  unfold fX12_bookLine fX12_bookLine_44 fX12_bookLine_45
  rw [q196_g37, Option.bind_some, q196_c, Option.bind_some, w15, Option.bind_some, h37, l3, qmul]
  unfold bLine
  cases a15 : aIs B n m 15 p with
  | true =>
    have ew : bWho B n m Q p = .ok none := by
      unfold bWho
      rw [a15, if_pos rfl]
    rw [ew, if_neg qzt, if_neg qzt]
    unfold fX12_bookLine_71
    rw [if_pos rfl]
    exact M_90 hN h h37 hc ew (fun b v e => by cases e)
  | false =>
    rw [if_pos qzf, Option.bind_some, m_isName hN h hWm, Option.bind_some, if_pos qzf, if_pos qzf, if_pos rfl]
    -- no figure's: a looker's, or nobody's
    have hlook : (∀ i, fndN Q.1 Q.2.1 (tTok B n m p).2.2.2.2 = some i → (tTok B n m p).1 ≠ 5) → hV g ((zgR 216 (qH g V X) 12 196 6).bind fun x36 => ((zlI 216 (qH g V X) 0 x36 (4 : Int32)).bind fun x37 => ((zck 216 (qH g V X) 12 196).bind fun _ => (zbd (fX12_looksAt N 216 (qH g V X) 196 (10 : Int32) x37) fun f39 x38 => (if x38 = 0 then ((zbl (0 : Int32)).bind fun y => some (f39, y)) else (fX12_bookLine_71 N 216 f39 196 (Int32.ofNat (3 * c)) (qz false) 0)))))) (fun W Y r => mbRel B n m V X c W Y r (match bWho B n m Q p with
        | .error e => .error e
        | .ok w => if 40 ≤ c then .error (4, (tTok B n m p).2.1) else bRest B n m (tTok B n m p).2.2.1 w)) := by
      intro hno
      rw [q196_g6, Option.bind_some, show (4 : Int32) = Int32.ofNat 4 from rfl, qlI (t := 0) qk_198 (Or.inl rfl) (by omega) (by omega), Option.bind_some, q8, q196_c, Option.bind_some]
      refine hV_zbd (m_looks hN h hWm (z := 10) (by omega) q5 q6) (fun W Y r hx => ?_)
      obtain ⟨hx, hf⟩ := hx
      cases ha : aOf B n m Q.2.2.1 Q.2.2.2 p with
      | error ee =>
        obtain ⟨kk, pl⟩ := ee
        rw [ha] at hx
        have ew : bWho B n m Q p = .error (kk, pl) := by
          unfold aOf at ha
          unfold bWho
          rw [a15, if_neg (by decide)]
          by_cases hk : (tTok B n m p).1 = 5
          · rw [if_pos hk] at ha ⊢
            cases hfL : fndN Q.2.2.1 Q.2.2.2 (tTok B n m p).2.2.2.2 with
            | some l => rw [hfL] at ha; cases ha
            | none =>
              rw [hfL] at ha
              dsimp only at ha ⊢
              cases hfF : fndN Q.1 Q.2.1 (tTok B n m p).2.2.2.2 with
              | some f => exact absurd hk (hno f hfF)
              | none => injection ha with h1; rw [h1]
          · rw [if_neg hk] at ha ⊢
            injection ha with h1
            rw [h1]
        rw [ew, hx.1, if_pos (show Int32.ofNat 0 = (0 : Int32) from rfl)]
        exact ⟨W, Y, _, rfl, rfl, hx.2, hf.sf⟩
      | ok vv =>
        obtain ⟨l, p2⟩ := vv
        rw [ha] at hx
        obtain ⟨y1, y2, y3, y4⟩ := hx
        have hn := aOf_nx ha
        have ew : bWho B n m Q p = .ok (some (false, l)) := by
          unfold aOf at ha
          unfold bWho
          rw [a15, if_neg (by decide)]
          rw [if_pos hn.1] at ha ⊢
          cases hfL : fndN Q.2.2.1 Q.2.2.2 (tTok B n m p).2.2.2.2 with
          | some l2 => rw [hfL] at ha; injection ha with h1; injection h1 with h2 h3; rw [h2]
          | none => rw [hfL] at ha; cases ha
        rw [ew, y1, if_neg (show ¬ Int32.ofNat 1 = (0 : Int32) by decide)]
        unfold fX12_bookLine_71
        rw [if_pos rfl]
        exact hV_mono (M_90 (g := g) hN y4 (by rw [hf.1 37 (by decide) (by decide)]; exact h37) hc ew (fun b v e => by injection e with e; injection e with e1 e2; rw [← e2]; exact y2)) (fun W2 Y2 r h2 => h2.pre hf.sf y3 hf.cc)
    by_cases hk : (tTok B n m p).1 = 5
    · obtain ⟨o1, o2, -⟩ := tW_ok (m := m) h.2.2.2.1 (Or.inr hk)
      have h17 := h.2.2.2.2.2.2.2.2 (by omega)
      have hsk : ∀ {V2 : Nat → Nat → Int32}, fX12_seek N 216 (qH g V2 X) 196 (Int32.ofNat 4) (Int32.ofNat Q.2.1) = some (qo (fndN Q.1 Q.2.1 (tTok B n m p).2.2.2.2)) := m_seek hN (by omega) q1 q2 o1 o2 h17
      rw [decide_eq_true hk, if_neg qzt, q196_g6, Option.bind_some, qlI (t := 0) qk_198 (Or.inl rfl) (by omega) (by omega), Option.bind_some, q4, Option.bind_some, show (4 : Int32) = Int32.ofNat 4 from rfl, hsk, Option.bind_some]
      cases hfF : fndN Q.1 Q.2.1 (tTok B n m p).2.2.2.2 with
      | none =>
        rw [if_pos (show qo none < 0 by decide)]
        have := hlook (fun i hi => by rw [hfF] at hi; cases hi)
        rw [q196_g6, Option.bind_some] at this
        exact this
      | some f =>
        have hf6 := fndN_lt hfF
        have hno : fndN Q.2.2.1 Q.2.2.2 (tTok B n m p).2.2.2.2 = none := by
          cases hfL : fndN Q.2.2.1 Q.2.2.2 (tTok B n m p).2.2.2.2 with
          | none => rfl
          | some l =>
            have := fndN_lt hfL
            exact absurd (hf6.2.trans this.2.symm) (qd f l hf6.1 this.1)
        have ew : bWho B n m Q p = .ok (some (true, f)) := by
          unfold bWho
          rw [a15, if_neg (by decide), if_pos hk, hno]
          dsimp only
          rw [hfF]
        rw [ew, if_neg (by rw [show qo (some f) = Int32.ofNat f from rfl, l0, qlt (by omega) (by omega)]; omega), if_neg (show ¬ (1 : Int32) = 0 by decide)]
        unfold fX12_bookLine_71
        rw [if_neg (show ¬ (1 : Int32) = 0 by decide), q196_g6, Option.bind_some, l3, qlI (t := 0) qk_198 (Or.inl rfl) (by omega) (by omega), Option.bind_some, q4, q196_c, Option.bind_some, show (4 : Int32) = Int32.ofNat 4 from rfl, hsk, Option.bind_some, q196_p18, Option.bind_some, hfF]
        have hf18 : mFr V (qw V 196 (upd (V 196) 18 (qo (some f)))) X X := mFr.w (fun j a b => upd_n (by omega))
        have := M_90 (g := g) (c := c) hN (h.put (j := 18) (x := qo (some f)) (Or.inl rfl)) (by rw [qw_s, upd_n (by decide)]; exact h37) hc ew (fun b v e => by injection e with e; injection e with e1 e2; rw [qw_s, upd_s, ← e2]; rfl)
        exact hV_mono this (fun W2 Y2 r h2 => h2.pre hf18.sf (by rw [qw_s, upd_n (by decide)]) hf18.cc)
    · rw [decide_eq_false hk, if_pos qzf]
      exact hlook (fun _ _ => hk)
end QBB
