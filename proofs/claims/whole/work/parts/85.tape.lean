/-! feed and end -/
section QTP
variable {g : zF} {V W K : Nat → Nat → Int32} {X Y : Nat → Nat → Int64} {N n : Nat} {s t u B : Nat → Nat}
theorem b8 : ∀ k, k < 256 → (Int8.ofNat k).toInt32 &&& Int32.ofNat 255 = Int32.ofNat k ∧ (k < 128 → (Int8.ofNat k).toInt32 = Int32.ofNat k) ∧ (128 ≤ k → (Int8.ofNat k).toInt32 < Int32.ofNat 0) := by decide +kernel
def bV (y : Int8) : Nat := y.toBitVec.toNat
theorem bV_lt (y : Int8) : bV y < 256 := y.toBitVec.isLt
theorem bV_e (y : Int8) : Int8.ofNat (bV y) = y := by
  apply Int8.toBitVec_inj.mp
  apply BitVec.eq_of_toNat_eq
  show (BitVec.ofNat 8 (bV y)).toNat = _
  rw [BitVec.toNat_ofNat, Nat.mod_eq_of_lt (bV_lt y)]
  rfl
theorem bV_p (y : Int8) : y.toInt32 &&& Int32.ofNat 255 = Int32.ofNat (bV y) ∧ (bV y < 128 → y.toInt32 = Int32.ofNat (bV y)) ∧ (128 ≤ bV y → y.toInt32 < Int32.ofNat 0) := by
  have h := b8 (bV y) (bV_lt y)
  rw [bV_e] at h
  exact h
def A1 (V : Nat → Nat → Int32) (n : Nat) (x : Int32) : Nat → Nat → Int32 := qw (qw V 2 (upd (V 2) n x)) 1 (upd (V 1) 2 (Int32.ofNat (n + 1)))
def M1 (V : Nat → Nat → Int32) (n : Nat) (x : Int32) : Nat → Nat → Int32 := qw (qw V 197 (upd (V 197) n x)) 196 (upd (V 196) 2 (Int32.ofNat (n + 1)))
def apC (V : Nat → Nat → Int32) (n : Nat) : List Int8 → Nat → Nat → Int32
  | [] => V
  | y :: l => apC (A1 V n y.toInt32) (n + 1) l
def apM (V : Nat → Nat → Int32) (n : Nat) : List Int8 → Nat → Nat → Int32
  | [] => V
  | y :: l => apM (M1 V n y.toInt32) (n + 1) l
def extB (B : Nat → Nat) (n : Nat) : List Int8 → Nat → Nat
  | [] => B
  | y :: l => extB (sU B n (bV y)) (n + 1) l
theorem apC_app {V : Nat → Nat → Int32} : ∀ (l1 l2 : List Int8) (V : Nat → Nat → Int32) (n : Nat), apC (apC V n l1) (n + l1.length) l2 = apC V n (l1 ++ l2) := by
  intro l1
  induction l1 with
  | nil => intro l2 V n; rfl
  | cons y l ih =>
    intro l2 V n
    show apC (apC (A1 V n y.toInt32) (n + 1) l) (n + (l.length + 1)) l2 = apC (A1 V n y.toInt32) (n + 1) (l ++ l2)
    rw [show n + (l.length + 1) = n + 1 + l.length by omega]
    exact ih l2 _ _
theorem apM_app {V : Nat → Nat → Int32} : ∀ (l1 l2 : List Int8) (V : Nat → Nat → Int32) (n : Nat), apM (apM V n l1) (n + l1.length) l2 = apM V n (l1 ++ l2) := by
  intro l1
  induction l1 with
  | nil => intro l2 V n; rfl
  | cons y l ih =>
    intro l2 V n
    show apM (apM (M1 V n y.toInt32) (n + 1) l) (n + (l.length + 1)) l2 = apM (M1 V n y.toInt32) (n + 1) (l ++ l2)
    rw [show n + (l.length + 1) = n + 1 + l.length by omega]
    exact ih l2 _ _
theorem cB_ap : ∀ (l : List Int8) (V : Nat → Nat → Int32) (B : Nat → Nat) (n : Nat), cB V B n → n + l.length ≤ 940 → cB (apC V n l) (extB B n l) (n + l.length) := by
  intro l
  induction l with
  | nil => intro V B n h _; exact h
  | cons y l ih =>
    intro V B n h hl
    have hl2 : n + (l.length + 1) ≤ 940 := hl
    have := ih (A1 V n y.toInt32) (sU B n (bV y)) (n + 1) ⟨by unfold A1; rw [qw_s, upd_s], by omega, fun i hi => ?_⟩ (by omega)
    · rw [show n + 1 + l.length = n + (y :: l).length by show n + 1 + l.length = n + (l.length + 1); omega] at this
      exact this
    · unfold A1
      rw [qw_n (by decide), qw_s]
      by_cases e : i = n
      · subst e
        obtain ⟨p1, p2, p3⟩ := bV_p y
        rw [upd_s, sU_s]
        exact ⟨bV_lt y, p1, p2, p3⟩
      · rw [upd_n e, sU_n e]
        exact h.2.2 i (by omega)
theorem mB_ap : ∀ (l : List Int8) (V : Nat → Nat → Int32) (B : Nat → Nat) (n : Nat), V 196 2 = Int32.ofNat n → (∀ i, i < n → V 197 i &&& Int32.ofNat 255 = Int32.ofNat (B i)) → (apM V n l) 196 2 = Int32.ofNat (n + l.length) ∧ ∀ i, i < n + l.length → (apM V n l) 197 i &&& Int32.ofNat 255 = Int32.ofNat (extB B n l i) := by
  intro l
  induction l with
  | nil => intro V B n h h2; exact ⟨h, h2⟩
  | cons y l ih =>
    intro V B n h h2
    have := ih (M1 V n y.toInt32) (sU B n (bV y)) (n + 1) (by unfold M1; rw [qw_s, upd_s]) (fun i hi => by
      unfold M1
      rw [qw_n (by decide), qw_s]
      by_cases e : i = n
      · subst e
        rw [upd_s, sU_s]
        exact (bV_p y).1
      · rw [upd_n e, sU_n e]
        exact h2 i (by omega))
    rw [show n + 1 + l.length = n + (y :: l).length by show n + 1 + l.length = n + (l.length + 1); omega] at this
    exact this
theorem apC_fr : ∀ (l : List Int8) (V : Nat → Nat → Int32) (n : Nat), (∀ b j, ¬ (b = 1 ∧ j = 2) → b ≠ 2 → (apC V n l) b j = V b j) ∧ ∀ j, j < n → (apC V n l) 2 j = V 2 j := by
  intro l
  induction l with
  | nil => intro V n; exact ⟨fun _ _ _ _ => rfl, fun _ _ => rfl⟩
  | cons y l ih =>
    intro V n
    obtain ⟨h1, h2⟩ := ih (A1 V n y.toInt32) (n + 1)
    refine ⟨fun b j b1 b2 => ?_, fun j hj => ?_⟩
    · show apC (A1 V n y.toInt32) (n + 1) l b j = _
      rw [h1 b j b1 b2]
      unfold A1
      by_cases e : b = 1
      · subst e
        rw [qw_s, upd_n (by omega)]
      · rw [qw_n e, qw_n b2]
    · show apC (A1 V n y.toInt32) (n + 1) l 2 j = _
      rw [h2 j (by omega)]
      unfold A1
      rw [qw_n (by decide), qw_s, upd_n (by omega)]
theorem apM_fr : ∀ (l : List Int8) (V : Nat → Nat → Int32) (n : Nat), (∀ b j, ¬ (b = 196 ∧ j = 2) → b ≠ 197 → (apM V n l) b j = V b j) := by
  intro l
  induction l with
  | nil => intro V n b j _ _; rfl
  | cons y l ih =>
    intro V n b j b1 b2
    show apM (M1 V n y.toInt32) (n + 1) l b j = _
    rw [ih (M1 V n y.toInt32) (n + 1) b j b1 b2]
    unfold M1
    by_cases e : b = 196
    · subst e
      rw [qw_s, upd_n (by omega)]
    · rw [qw_n e, qw_n b2]
theorem c_add1 {k sh : Nat} {p : Int32} (hs : sh < 100) (h2 : V 1 2 = Int32.ofNat n) (hn : n < 940) : fX9_add_3 N 216 (k + 1) (qH g V X) 1 p (Int32.ofNat sh) = fX9_add_3 N 216 k (qH g (A1 V n (zishr p (Int32.ofNat sh)).toInt8.toInt32) X) 1 p (Int32.ofNat sh + -8) := by
  have e1 : zlen 216 (qH g V X) 2 2 = some (Int32.ofNat 940) := qlen (t := 2) qk_2 (Or.inr (Or.inl rfl))
  conv => lhs; unfold fX9_add_3
  rw [if_neg (Int32.ofNat_not_neg (by omega)), q1_g2, Option.bind_some, h2, if_neg (Int32.ofNat_not_neg (by omega)), Option.bind_some, q1_g0, Option.bind_some, e1, Option.bind_some, if_neg (by rw [qle (by omega) (by omega)]; omega), Option.bind_some, Option.bind_some, qsB qk_2 hn (by omega), Option.bind_some, q1_g2, Option.bind_some, qw_n (by decide), h2, l1, qadd, q1_p2, Option.bind_some, qw_n (by decide), Int8.toInt8_toInt32]
  rfl
theorem m_add1 {k sh : Nat} {p : Int32} (hs : sh < 100) (h2 : V 196 2 = Int32.ofNat n) (hn : n < 940) : fX12_four_3 N 216 (k + 1) (qH g V X) 196 p (Int32.ofNat sh) = fX12_four_3 N 216 k (qH g (M1 V n (zishr p (Int32.ofNat sh)).toInt8.toInt32) X) 196 p (Int32.ofNat sh + -8) := by
  conv => lhs; unfold fX12_four_3
  rw [if_neg (Int32.ofNat_not_neg (by omega)), q196_g1, Option.bind_some, q196_g2, Option.bind_some, h2, qsB qk_197 hn (by omega), Option.bind_some, q196_g2, Option.bind_some, qw_n (by decide), h2, l1, qadd, q196_p2, Option.bind_some, qw_n (by decide), Int8.toInt8_toInt32]
  rfl
def by4 (p : Int32) : List Int8 := [(zishr p (Int32.ofNat 24)).toInt8, (zishr p (Int32.ofNat 16)).toInt8, (zishr p (Int32.ofNat 8)).toInt8, (zishr p (Int32.ofNat 0)).toInt8]
theorem A1_2 {x : Int32} : (A1 V n x) 1 2 = Int32.ofNat (n + 1) := by unfold A1; rw [qw_s, upd_s]
theorem M1_2 {x : Int32} : (M1 V n x) 196 2 = Int32.ofNat (n + 1) := by unfold M1; rw [qw_s, upd_s]
theorem c_add {p : Int32} (hN : 3000 ≤ N) (h2 : V 1 2 = Int32.ofNat n) (hn : n + 4 ≤ 940) : fX9_add N 216 (qH g V X) 1 p = some (qH g (apC V n (by4 p)) X) := by
  obtain ⟨k, hk⟩ : ∃ k, N = k + 5 := ⟨N - 5, by omega⟩
  unfold fX9_add
  have e : fX9_add_3 N 216 N (qH g V X) 1 p 24 = fX9_add_3 N 216 (k + 4 + 1) (qH g V X) 1 p (Int32.ofNat 24) := by rw [← hk]; rfl
  rw [e, c_add1 (by omega) h2 (by omega), show Int32.ofNat 24 + -8 = Int32.ofNat 16 by decide, c_add1 (by omega) A1_2 (by omega), show Int32.ofNat 16 + -8 = Int32.ofNat 8 by decide, c_add1 (by omega) A1_2 (by omega), show Int32.ofNat 8 + -8 = Int32.ofNat 0 by decide, c_add1 (by omega) A1_2 (by omega)]
  unfold fX9_add_3
  rw [if_pos (by decide)]
  rfl
theorem m_add {p : Int32} (hN : 3000 ≤ N) (h2 : V 196 2 = Int32.ofNat n) (hn : n + 4 ≤ 940) : fX12_four N 216 (qH g V X) 196 p = some (qH g (apM V n (by4 p)) X) := by
  obtain ⟨k, hk⟩ : ∃ k, N = k + 5 := ⟨N - 5, by omega⟩
  unfold fX12_four
  have e : fX12_four_3 N 216 N (qH g V X) 196 p 24 = fX12_four_3 N 216 (k + 4 + 1) (qH g V X) 196 p (Int32.ofNat 24) := by rw [← hk]; rfl
  rw [e, m_add1 (by omega) h2 (by omega), show Int32.ofNat 24 + -8 = Int32.ofNat 16 by decide, m_add1 (by omega) M1_2 (by omega), show Int32.ofNat 16 + -8 = Int32.ofNat 8 by decide, m_add1 (by omega) M1_2 (by omega), show Int32.ofNat 8 + -8 = Int32.ofNat 0 by decide, m_add1 (by omega) M1_2 (by omega)]
  unfold fX12_four_3
  rw [if_pos (by decide)]
  rfl
theorem apC_2 (h2 : V 1 2 = Int32.ofNat n) : ∀ l : List Int8, (apC V n l) 1 2 = Int32.ofNat (n + l.length) := by
  intro l
  induction l generalizing V n with
  | nil => exact h2
  | cons y l ih =>
    have := ih (V := A1 V n y.toInt32) (n := n + 1) A1_2
    rw [show n + 1 + l.length = n + (l.length + 1) by omega] at this
    exact this
theorem apM_2 (h2 : V 196 2 = Int32.ofNat n) : ∀ l : List Int8, (apM V n l) 196 2 = Int32.ofNat (n + l.length) := by
  intro l
  induction l generalizing V n with
  | nil => exact h2
  | cons y l ih =>
    have := ih (V := M1 V n y.toInt32) (n := n + 1) M1_2
    rw [show n + 1 + l.length = n + (l.length + 1) by omega] at this
    exact this
theorem jTape (hJ : jA V X s) (hT : jT W) (e : ∀ b j, ¬ (b = 1 ∧ j = 2) → b ≠ 2 → ¬ (b = 196 ∧ (j = 0 ∨ j = 2)) → b ≠ 197 → W b j = V b j) : jA W X s := by
  obtain ⟨h1, h2, j1, j2, j3, j4, j5, j6, j7, j8, j9, j10, j11⟩ := hJ
  refine ⟨h1.pt (fun b j h => e b j (by omega) (by omega) (by omega) (by omega)) (fun _ _ _ => rfl), h2.pt sEq.rf (fun b j h => e b j (by omega) (by omega) (by omega) (by omega)), hT, j2, ?_, ?_, ?_, ?_, ?_, ?_, ?_, ?_, ?_⟩
  · exact j3.pt (fun b j h => e b j (by omega) (by omega) (by omega) (by omega))
  · exact j4.pt (fun b j h => e b j (by omega) (by omega) (by omega) (by omega)) (fun _ _ _ => rfl)
  · exact j5.pt (fun b j h => e b j (by omega) (by omega) (by omega) (by omega)) (fun _ _ _ => rfl)
  · exact j6.pt (fun b j h => e b j (by omega) (by omega) (by omega) (by omega))
  · exact j7.pt (fun b j h => e b j (by omega) (by omega) (by omega) (by omega))
  · exact j8.pt (fun b j h => e b j (by omega) (by omega) (by omega) (by omega))
  · exact j9.pt (fun b j h => e b j (by omega) (by omega) (by omega) (by omega))
  · exact j10.pt (fun b j h => e b j (by omega) (by omega) (by omega) (by omega))
  · exact j11.pt (fun b j h => e b j (by omega) (by omega) (by omega) (by omega))
theorem s_0 (hN : 3000 ≤ N) {f : zF} (hI : Inv f) (p1 p2 p3 p4 p5 : Int32) : ∃ f2, zlc0 N 216 f p1 p2 p3 p4 p5 = some f2 ∧ Inv f2 := by
  obtain ⟨g, V, X, s, rfl, hg, hJ⟩ := hI
  obtain ⟨n, B, hcB, hn2, hB197⟩ := hJ.2.2.1
  have hn9 := hcB.2.1
  have hT2 : qT V 196 2 = Int32.ofNat n := by rw [qT_j (by decide)]; exact hn2
  unfold zlc0
  by_cases h : n ≤ 920
  · have e4 : ∀ p, (by4 p).length = 4 := fun p => rfl
    have d1 := apC_2 hcB.1 (by4 p1)
    have d2 := apC_2 d1 (by4 p2)
    have d3 := apC_2 d2 (by4 p3)
    have d4 := apC_2 d3 (by4 p4)
    have d5 := apC_2 d4 (by4 p5)
    rw [apC_app (V := V), apC_app (V := V), apC_app (V := V), apC_app (V := V)] at d5
    have hc : fX11_feed N 216 (qH g V X) 0 p1 p2 p3 p4 p5 = some (qH g (apC V n (by4 p1 ++ (by4 p2 ++ (by4 p3 ++ (by4 p4 ++ by4 p5))))) X, Int32.ofNat (n + 20)) := by
      unfold fX11_feed
      rw [q0_g0, Option.bind_some, q1_g2, Option.bind_some, hcB.1, if_pos (by rw [show (920 : Int32) = Int32.ofNat 920 from rfl, qle (by omega) (by omega)]; exact h), Option.bind_some, q1_c, Option.bind_some, c_add hN hcB.1 (by omega), Option.bind_some, q0_g0, Option.bind_some, q1_c, Option.bind_some, c_add hN d1 (by rw [e4]; omega), Option.bind_some, q0_g0, Option.bind_some, q1_c, Option.bind_some, c_add hN d2 (by rw [e4, e4]; omega), Option.bind_some, q0_g0, Option.bind_some, q1_c, Option.bind_some, c_add hN d3 (by rw [e4, e4, e4]; omega), Option.bind_some, q0_g0, Option.bind_some, q1_c, Option.bind_some, c_add hN d4 (by rw [e4, e4, e4, e4]; omega), Option.bind_some, q0_g0, Option.bind_some, q1_g2, Option.bind_some, apC_app (V := V), apC_app (V := V), apC_app (V := V), apC_app (V := V), d5, e4, e4, e4, e4, e4, show n + 4 + 4 + 4 + 4 + 4 = n + 20 by omega]
    have hL : (by4 p1 ++ (by4 p2 ++ (by4 p3 ++ (by4 p4 ++ by4 p5)))).length = 20 := rfl
    generalize hl : (by4 p1 ++ (by4 p2 ++ (by4 p3 ++ (by4 p4 ++ by4 p5)))) = l at hc hL d5
    have c1 := cB_ap l V B n hcB (by omega)
    obtain ⟨c2, -⟩ := apC_fr l V n
    have k2 : qT (apC V n l) 196 2 = Int32.ofNat n := by rw [qT_j (by decide), c2 _ _ (by omega) (by omega)]; exact hn2
    have m1 := apM_2 k2 (by4 p1)
    have m2 := apM_2 m1 (by4 p2)
    have m3 := apM_2 m2 (by4 p3)
    have m4 := apM_2 m3 (by4 p4)
    have m5 := apM_2 m4 (by4 p5)
    rw [apM_app (V := V), apM_app (V := V), apM_app (V := V), apM_app (V := V)] at m5
    have hm : fX12_feed N 216 (qH g (apC V n l) X) 196 p1 p2 p3 p4 p5 = some (qH g (apM (qT (apC V n l)) n l) X, Int32.ofNat (n + 20)) := by
      unfold fX12_feed
      rw [m_thr0, Option.bind_some, q196_g2, Option.bind_some, k2, show (20 : Int32) = Int32.ofNat 20 from rfl, qadd, if_pos (by rw [show (940 : Int32) = Int32.ofNat 940 from rfl, qle (by omega) (by omega)]; omega), q196_c, Option.bind_some, m_add hN k2 (by omega), Option.bind_some, q196_c, Option.bind_some, m_add hN m1 (by rw [e4]; omega), Option.bind_some, q196_c, Option.bind_some, m_add hN m2 (by rw [e4, e4]; omega), Option.bind_some, q196_c, Option.bind_some, m_add hN m3 (by rw [e4, e4, e4]; omega), Option.bind_some, q196_c, Option.bind_some, m_add hN m4 (by rw [e4, e4, e4, e4]; omega), Option.bind_some, q196_g2, Option.bind_some, apM_app (V := V), apM_app (V := V), apM_app (V := V), apM_app (V := V), m5, e4, e4, e4, e4, e4, hl, show n + 4 + 4 + 4 + 4 + 4 = n + 20 by omega]
    have fM := apM_fr l (qT (apC V n l)) n
    obtain ⟨b1, b2⟩ := mB_ap l (qT (apC V n l)) B n k2 (fun i hi => by rw [qT_n (by decide), c2 _ _ (by omega) (by omega)]; exact hB197 i hi)
    refine cstep (o1 := fX11_feed N 216 (qH g V X) 0 p1 p2 p3 p4 p5) (m := fun ff => fX12_feed N 216 ff 196 p1 p2 p3 p4 p5) hg hc hm (jTape hJ ⟨n + l.length, extB B n l, ⟨?_, c1.2.1, fun i hi => ?_⟩, b1, b2⟩ (fun b j x1 x2 x3 x4 => ?_))
    · rw [fM _ _ (by omega) (by omega), qT_n (by decide)]; exact c1.1
    · rw [fM _ _ (by omega) (by omega), qT_n (by decide)]; exact c1.2.2 i hi
    · rw [fM _ _ (by omega) (by omega)]
      by_cases e : b = 196
      · subst e
        rw [qT_j (by omega), c2 _ _ x1 x2]
      · rw [qT_n e, c2 _ _ x1 x2]
  · refine cstep (o1 := fX11_feed N 216 (qH g V X) 0 p1 p2 p3 p4 p5) (m := fun ff => fX12_feed N 216 ff 196 p1 p2 p3 p4 p5) (V1 := V) (X1 := X) (V2 := qT V) (X2 := X) (r := -1) hg ?_ ?_ hJ.thr
    · unfold fX11_feed
      rw [q0_g0, Option.bind_some, q1_g2, Option.bind_some, hcB.1, if_neg (by rw [show (920 : Int32) = Int32.ofNat 920 from rfl, qle (by omega) (by omega)]; exact h)]
    · unfold fX12_feed
      rw [m_thr0, Option.bind_some, q196_g2, Option.bind_some, hT2, show (20 : Int32) = Int32.ofNat 20 from rfl, qadd, if_neg (by rw [show (940 : Int32) = Int32.ofNat 940 from rfl, qle (by omega) (by omega)]; omega)]
theorem s_1 (hN : 3000 ≤ N) {f : zF} (hI : Inv f) (p1 : Int32) : ∃ f2, zlc1 N 216 f p1 = some f2 ∧ Inv f2 := by
  obtain ⟨g, V, X, s, rfl, hg, hJ⟩ := hI
  obtain ⟨n, B, hcB, hn2, hB197⟩ := hJ.2.2.1
  have hn9 := hcB.2.1
  have hT2 : qT V 196 2 = Int32.ofNat n := by rw [qT_j (by decide)]; exact hn2
  unfold zlc1
  rcases qarg p1 with h | ⟨k, hk, rfl⟩
  · refine cstep (o1 := fX11_end N 216 (qH g V X) 0 p1) (m := fun ff => fX12_end N 216 ff 196 p1) (V1 := V) (X1 := X) (V2 := qT V) (X2 := X) (r := Int32.ofNat 0) hg ?_ ?_ hJ.thr
    · unfold fX11_end
      rw [if_pos h]; rfl
    · unfold fX12_end
      rw [m_thr0, Option.bind_some, if_pos h]; rfl
  · by_cases hkn : k ≤ n
    · have hT3 : qT (qw V 1 (upd (V 1) 2 (Int32.ofNat k))) 196 2 = Int32.ofNat n := by rw [qT_j (by decide), qw_n (by decide)]; exact hn2
      refine cstep (o1 := fX11_end N 216 (qH g V X) 0 (Int32.ofNat k)) (m := fun ff => fX12_end N 216 ff 196 (Int32.ofNat k)) (V1 := qw V 1 (upd (V 1) 2 (Int32.ofNat k))) (X1 := X) (V2 := qw (qT (qw V 1 (upd (V 1) 2 (Int32.ofNat k)))) 196 (upd (qT (qw V 1 (upd (V 1) 2 (Int32.ofNat k))) 196) 2 (Int32.ofNat k))) (X2 := X) (r := Int32.ofNat 1) hg ?_ ?_ (jTape hJ ⟨k, B, ⟨?_, by omega, fun i hi => ?_⟩, ?_, fun i hi => ?_⟩ (fun b j x1 x2 x3 x4 => ?_))
      · unfold fX11_end
        rw [if_neg (Int32.ofNat_not_neg (by omega)), q0_g0, Option.bind_some, q1_g2, Option.bind_some, hcB.1, if_pos (by rw [qle (by omega) (by omega)]; exact hkn), Option.bind_some, q1_p2, Option.bind_some]
        rfl
      · unfold fX12_end
        rw [m_thr0, Option.bind_some, if_neg (Int32.ofNat_not_neg (by omega)), q196_g2, Option.bind_some, hT3, if_pos (by rw [qle (by omega) (by omega)]; exact hkn), q196_p2, Option.bind_some]
        rfl
      · rw [qw_n (by decide), qT_n (by decide), qw_s, upd_s]
      · rw [qw_n (by decide), qT_n (by decide), qw_n (by decide)]; exact hcB.2.2 i (by omega)
      · rw [qw_s, upd_s]
      · rw [qw_n (by decide), qT_n (by decide), qw_n (by decide)]; exact hB197 i (by omega)
      · by_cases e : b = 196
        · subst e
          rw [qw_s, upd_n (by omega), qT_j (by omega), qw_n (by decide)]
        · rw [qw_n e, qT_n e]
          by_cases e1 : b = 1
          · subst e1
            rw [qw_s, upd_n (by omega)]
          · rw [qw_n e1]
    · refine cstep (o1 := fX11_end N 216 (qH g V X) 0 (Int32.ofNat k)) (m := fun ff => fX12_end N 216 ff 196 (Int32.ofNat k)) (V1 := V) (X1 := X) (V2 := qT V) (X2 := X) (r := Int32.ofNat 0) hg ?_ ?_ hJ.thr
      · unfold fX11_end
        rw [if_neg (Int32.ofNat_not_neg (by omega)), q0_g0, Option.bind_some, q1_g2, Option.bind_some, hcB.1, if_neg (by rw [qle (by omega) (by omega)]; exact hkn)]
        rfl
      · unfold fX12_end
        rw [m_thr0, Option.bind_some, if_neg (Int32.ofNat_not_neg (by omega)), q196_g2, Option.bind_some, hT2, if_neg (by rw [qle (by omega) (by omega)]; exact hkn)]
        rfl
end QTP
