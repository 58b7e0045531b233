/-! names -/
section QNA
variable {g : zF} {V W U K : Nat → Nat → Int32} {X Y Z : Nat → Nat → Int64} {N n m p k pl : Nat} {s t u B : Nat → Nat}
def nOKs (q : Nat → List Nat) (c : Nat) : Prop := ∀ i, i < c → wOK (q i) ∧ (q i).length ≤ 7
def fndN (q : Nat → List Nat) (c : Nat) (w : List Nat) : Option Nat := qfnd (fun i => decide (q i = w)) 0 c
theorem fndN_lt {q : Nat → List Nat} {c i : Nat} {w : List Nat} (h : fndN q c w = some i) : i < c ∧ q i = w := by
  have := qfnd_lt h
  exact ⟨by omega, of_decide_eq_true this.2.2⟩
theorem fndN_no {q : Nat → List Nat} {c : Nat} {w : List Nat} (h : fndN q c w = none) : ∀ i, i < c → q i ≠ w := by
  intro i hi
  have := qfnd_none h i (by omega) (by omega)
  exact of_decide_eq_false this
theorem c_findN (hN : 3000 ≤ N) {r L c : Nat} (hr : r < 216 ∧ qK r = 21 ∧ qL r = L) (hL : L < 1000) (hc : c ≤ L) {q : Nat → List Nat} {w : List Nat} (hq : nOKs q c) (hX : ∀ i, i < c → X r i = Int64.ofNat (r5 (q i))) (hw : wOK w) (hl : w.length ≤ 7) : fX11_placeOf N 216 (qH g V X) r (Int32.ofNat c) (Int64.ofNat (r5 w)) = some (qo (fndN q c w)) := by
  rw [c_placeOf hN hr hL hc (fun v => decide (X r v = Int64.ofNat (r5 w))) (fun v hv => rfl)]
  unfold fndN
  congr 2
  refine qfnd_cg c 0 (fun i _ hi => ?_)
  obtain ⟨k1, k2⟩ := hq i (by omega)
  have b1 := r5_b hw hl
  have b2 := r5_b k1 k2
  rw [hX i (by omega)]
  refine decide_eq_decide.mpr ?_
  rw [q64_inj (by omega) (by omega)]
  exact ⟨fun h => r5_inj _ _ k1 hw h, fun h => by rw [h]⟩
theorem m_seekL {z c : Nat} (hz : z + c ≤ 30) {q : Nat → List Nat} {w : List Nat} (hq : nOKs q c) (hX : ∀ i, i < c → X 201 (z + i) = Int64.ofNat (r8 (q i))) (hw : wOK w) (hl : w.length ≤ 7) (h17 : X 196 17 = Int64.ofNat (r8 w)) : ∀ j i k, i + j = c → j < k → fX12_seek_2 N 216 (qH g V X) k 196 (Int32.ofNat z) (Int32.ofNat c) (Int32.ofNat i) = some (qo (qfnd (fun i => decide (q i = w)) i j)) := by
  intro j
  induction j with
  | zero =>
    intro i k hi hk
    obtain ⟨k, rfl⟩ := Nat.exists_eq_succ_of_ne_zero (n := k) (by omega)
    unfold fX12_seek_2
    rw [if_pos (by rw [qle (by omega) (by omega)]; omega)]
    rfl
  | succ j ih =>
    intro i k hi hk
    obtain ⟨k, rfl⟩ := Nat.exists_eq_succ_of_ne_zero (n := k) (by omega)
    obtain ⟨k1, k2⟩ := hq i (by omega)
    have b1 := r8_b hw hl
    have b2 := r8_b k1 k2
    unfold fX12_seek_2 qfnd
    rw [if_neg (by rw [qle (by omega) (by omega)]; omega), q196_g9, Option.bind_some, qadd, qlL qk_201 (by omega) (by omega), Option.bind_some, q196_g17, Option.bind_some, hX i (by omega), h17]
    by_cases e : q i = w
    · rw [if_pos (by rw [q64_cmp, e]), decide_eq_true e, if_pos rfl]
      rfl
    · rw [if_neg (by rw [q64_cmp, q64_inj (by omega) (by omega)]; exact fun h => e (r8_inj _ _ k1 hw h)), decide_eq_false e, if_neg (by decide), l1, qadd]
      exact ih (i + 1) k (by omega) (by omega)
theorem m_seek (hN : 3000 ≤ N) {z c : Nat} (hz : z + c ≤ 30) {q : Nat → List Nat} {w : List Nat} (hq : nOKs q c) (hX : ∀ i, i < c → X 201 (z + i) = Int64.ofNat (r8 (q i))) (hw : wOK w) (hl : w.length ≤ 7) (h17 : X 196 17 = Int64.ofNat (r8 w)) : fX12_seek N 216 (qH g V X) 196 (Int32.ofNat z) (Int32.ofNat c) = some (qo (fndN q c w)) := m_seekL hz hq hX hw hl h17 c 0 N (by omega) (by omega)
theorem m_isNameF {f : zF} : ∀ j i k, i + j = 27 → j < k → fX12_isName_16 N 216 f k 196 0 (Int32.ofNat i) = some (qz false) := by
  intro j
  induction j with
  | zero =>
    intro i k hi hk
    obtain ⟨k, rfl⟩ := Nat.exists_eq_succ_of_ne_zero (n := k) (by omega)
    unfold fX12_isName_16
    rw [if_pos (by rw [show (27 : Int32) = Int32.ofNat 27 from rfl, qle (by omega) (by omega)]; omega)]
    rfl
  | succ j ih =>
    intro i k hi hk
    obtain ⟨k, rfl⟩ := Nat.exists_eq_succ_of_ne_zero (n := k) (by omega)
    unfold fX12_isName_16 fX12_isName_44 fX12_isName_45
    rw [if_neg (by rw [show (27 : Int32) = Int32.ofNat 27 from rfl, qle (by omega) (by omega)]; omega), if_pos rfl, l1, qadd]
    exact ih (i + 1) k (by omega) (by omega)
theorem m_isNameT {w : List Nat} (hW : ∀ v, v < 27 → X 202 v = Int64.ofNat (r8 (wMs.getD v []))) (hw : wOK w) (hl : w.length ≤ 7) (h17 : X 196 17 = Int64.ofNat (r8 w)) : ∀ j i k, i + j = 27 → j < k → fX12_isName_16 N 216 (qH g V X) k 196 1 (Int32.ofNat i) = some (qz (qfnd (fun v => decide (wMs.getD v [] = w)) i j).isNone) := by
  have hms : ∀ v, v < 27 → wOK (wMs.getD v []) ∧ (wMs.getD v []).length ≤ 7 := by
    have h : ∀ v, v < 27 → (wMs.getD v []).all (fun c => decide (97 ≤ c ∧ c ≤ 122)) = true ∧ (wMs.getD v []).length ≤ 7 := by decide +kernel
    intro v hv
    refine ⟨fun c hc => ?_, (h v hv).2⟩
    have := (List.all_eq_true.mp (h v hv).1) c hc
    exact of_decide_eq_true this
  intro j
  induction j with
  | zero =>
    intro i k hi hk
    obtain ⟨k, rfl⟩ := Nat.exists_eq_succ_of_ne_zero (n := k) (by omega)
    unfold fX12_isName_16
    rw [if_pos (by rw [show (27 : Int32) = Int32.ofNat 27 from rfl, qle (by omega) (by omega)]; omega)]
    rfl
  | succ j ih =>
    intro i k hi hk
    obtain ⟨k, rfl⟩ := Nat.exists_eq_succ_of_ne_zero (n := k) (by omega)
    obtain ⟨k1, k2⟩ := hms i (by omega)
    have b1 := r8_b hw hl
    have b2 := r8_b k1 k2
    unfold fX12_isName_16 fX12_isName_44 fX12_isName_45 qfnd
    rw [if_neg (by rw [show (27 : Int32) = Int32.ofNat 27 from rfl, qle (by omega) (by omega)]; omega), if_neg (by decide), q196_g17, Option.bind_some, q196_g10, Option.bind_some, qlL qk_202 (by omega) (by omega), Option.bind_some, h17, hW i (by omega)]
    by_cases e : wMs.getD i [] = w
    · rw [if_pos (by rw [q64_cmp, e]), show Int32.ofNat i + 1 = Int32.ofNat (i + 1) by rw [l1, qadd], m_isNameF j (i + 1) k (by omega) (by omega), decide_eq_true e, if_pos rfl]
      rfl
    · rw [if_neg (by rw [q64_cmp, q64_inj (by omega) (by omega)]; exact fun h => e (r8_inj _ _ hw k1 h).symm), show Int32.ofNat i + 1 = Int32.ofNat (i + 1) by rw [l1, qadd], ih (i + 1) k (by omega) (by omega), decide_eq_false e, if_neg (by decide)]
theorem wMs_K : (∀ v, v < 27 → ∃ v2, v2 < 27 ∧ wMs.getD v [] = wK v2) ∧ ∀ v, v < 27 → ∃ v2, v2 < 27 ∧ wMs.getD v2 [] = wK v := by
  have h1 : ∀ v, v < 27 → (List.range 27).any (fun v2 => decide (wMs.getD v [] = wK v2)) = true := by decide +kernel
  have h2 : ∀ v, v < 27 → (List.range 27).any (fun v2 => decide (wMs.getD v2 [] = wK v)) = true := by decide +kernel
  refine ⟨fun v hv => ?_, fun v hv => ?_⟩
  · obtain ⟨x, hx, h⟩ := List.any_eq_true.mp (h1 v hv)
    exact ⟨x, List.mem_range.mp hx, of_decide_eq_true h⟩
  · obtain ⟨x, hx, h⟩ := List.any_eq_true.mp (h2 v hv)
    exact ⟨x, List.mem_range.mp hx, of_decide_eq_true h⟩
theorem m_isName (hN : 3000 ≤ N) (h : mN B n m V X p) (hW : ∀ v, v < 27 → X 202 v = Int64.ofNat (r8 (wMs.getD v []))) : fX12_isName N 216 (qH g V X) 196 = some (qz (decide ((tTok B n m p).1 = 5))) := by
  have hk7 := tTok_k (B := B) (n := n) (m := m) (p := p)
  have hkd := h.kd (c := 1) (by omega)
  rw [(mKd_2 _ hk7).2.2.1] at hkd
  unfold fX12_isName fX12_isName_13
  rw [q196_g11, Option.bind_some]
  by_cases hk : (tTok B n m p).1 = 4 ∨ (tTok B n m p).1 = 5
  · obtain ⟨o1, o2, o3, o4⟩ := tW_ok h.2.2.2.1 hk
    rw [if_pos (by rw [l1, hkd]; exact hk)]
    have := m_isNameT (g := g) (V := V) (N := N) hW o1 o2 (h.2.2.2.2.2.2.2.2 (by omega)) 27 0 N (by omega) (by omega)
    rw [l0, this]
    congr 2
    cases hf : qfnd (fun v => decide (wMs.getD v [] = (tTok B n m p).2.2.2.2)) 0 27 with
    | none =>
      refine (decide_eq_true ?_).symm
      rcases hk with h4 | h5
      · exfalso
        obtain ⟨i1, i2⟩ := tIdx_s (o3 h4)
        obtain ⟨v2, hv2, e⟩ := wMs_K.2 _ i1
        have := qfnd_none hf v2 (Nat.zero_le _) (by omega)
        exact of_decide_eq_false this (by rw [e]; exact i2)
      · exact h5
    | some v =>
      have hv := qfnd_lt hf
      refine (decide_eq_false (fun h5 => ?_)).symm
      obtain ⟨v2, hv2, e2⟩ := wMs_K.1 v (by omega)
      exact tIdx_n (o4 h5) v2 hv2 (by rw [← e2]; exact of_decide_eq_true hv.2.2)
  · rw [if_neg (by rw [l1, hkd]; exact hk), l0, decide_eq_false (fun e => hk (Or.inr e))]
    exact m_isNameF 27 0 N (by omega) (by omega)
/-- a name out of a list -/
def aOf (B : Nat → Nat) (n m : Nat) (q : Nat → List Nat) (c p : Nat) : aR := if (tTok B n m p).1 = 5 then (match fndN q c (tTok B n m p).2.2.2.2 with
  | some i => .ok (i, (tTok B n m p).2.2.1)
  | none => .error (3, (tTok B n m p).2.1)) else .error (1, (tTok B n m p).2.1)
def rdOf (B : Nat → Nat) (n m : Nat) (q : Nat → List Nat) (c : Nat) : aA → Nat × aA
  | .ok p => (aV 0 (aOf B n m q c p), aP (aOf B n m q c p))
  | .error e => (0, .error e)
theorem cN.name (h : cN B n m V X p) (hk : (tTok B n m p).1 = 5) : X 1 9 = Int64.ofNat (r5 (tTok B n m p).2.2.2.2) ∧ wOK (tTok B n m p).2.2.2.2 ∧ (tTok B n m p).2.2.2.2.length ≤ 7 := by
  obtain ⟨o1, o2, -⟩ := tW_ok (m := m) h.2.2.2.2.1 (Or.inr hk)
  exact ⟨h.2.2.2.2.2.2.2.2.2.2.2 hk, o1, o2⟩
theorem C_of (hN : 3000 ≤ N) {a : aA} (h : cSt B n m V X a) {r L c : Nat} (hr : r < 216 ∧ qK r = 21 ∧ qL r = L) (hL : L < 1000) (hc : c ≤ L) {q : Nat → List Nat} (hq : ∀ p, a = .ok p → nOKs q c ∧ ∀ i, i < c → X r i = Int64.ofNat (r5 (q i))) : hV g (fX9_needNameOf N 216 (qH g V X) 1 r (Int32.ofNat c)) (fun W Y r => r = Int32.ofNat (rdOf B n m q c a).1 ∧ cSt B n m W Y (rdOf B n m q c a).2 ∧ cFr V W X Y) := by
  cases a with
  | error e =>
    obtain ⟨k, pl⟩ := e
    have hF : cFl B n m V X k pl := h
    unfold fX9_needNameOf fX9_needNameOf_21 fX9_needNameOf_41
    rw [q1_g5, Option.bind_some, hF.2.2.2.2.2.2.2.2, if_neg (by decide), if_pos rfl, Option.bind_some, if_neg (by decide), q1_c, Option.bind_some]
    exact hV_bind (c_failF hF) (fun W Y hx => hV_pure ⟨rfl, hx.1, hx.2⟩)
  | ok p =>
    have hC : cN B n m V X p := h
    obtain ⟨q1, q2⟩ := hq p rfl
    have hkd := hC.kd (a := 5) (by omega) (by omega)
    unfold fX9_needNameOf fX9_needNameOf_21 fX9_needNameOf_41
    show hV g _ (fun W Y r => r = Int32.ofNat (aV 0 (aOf B n m q c p)) ∧ cSt B n m W Y (aP (aOf B n m q c p)) ∧ cFr V W X Y)
    unfold aOf
    rw [q1_g5, Option.bind_some]
    by_cases hk : (tTok B n m p).1 = 5
    · obtain ⟨n1, n2, n3⟩ := hC.name hk
      rw [if_pos (by rw [show (3 : Int32) = Int32.ofNat (cKd 5) from rfl, hkd]; exact hk), if_pos hk, q1_g9, Option.bind_some, n1, c_findN hN hr hL hc q1 q2 n2 n3, Option.bind_some]
      cases hf : fndN q c (tTok B n m p).2.2.2.2 with
      | none =>
        rw [if_pos (show qo none = -1 from rfl), Option.bind_some, if_pos (by rw [show (3 : Int32) = Int32.ofNat (cKd 5) from rfl, hkd]; exact hk), q1_c, Option.bind_some]
        exact hV_bind (c_failN hC (k := 3) (by omega) (by omega)) (fun W Y hx => hV_pure ⟨rfl, hx.1, hx.2⟩)
      | some i =>
        have hi := (fndN_lt hf).1
        rw [show qo (some i) = Int32.ofNat i from rfl, if_neg (by rw [qne1 (by omega)]; exact id), q1_c, Option.bind_some]
        exact hV_bind (cN.adv hN hC (by omega) (by omega)) (fun W Y hx => hV_pure ⟨rfl, hx.1, hx.2.2⟩)
    · rw [if_neg (by rw [show (3 : Int32) = Int32.ofNat (cKd 5) from rfl, hkd]; exact hk), if_neg hk, if_pos rfl, Option.bind_some, if_neg (by rw [show (3 : Int32) = Int32.ofNat (cKd 5) from rfl, hkd]; exact hk), q1_c, Option.bind_some]
      exact hV_bind (c_failN hC (k := 1) (by omega) (by omega)) (fun W Y hx => hV_pure ⟨rfl, hx.1, hx.2⟩)
end QNA
