/-! the pure half, put together -/
theorem pure_of (h2 : ∀ f, Inv f → ∃ f2, zlc2 3000 216 f = some f2 ∧ Inv f2) (h34 : ∀ f p1, Inv f → ∃ f2, zlc34 3000 216 f p1 = some f2 ∧ Inv f2) (h36 : ∀ f, Inv f → ∃ f2, zlc36 3000 216 f = some f2 ∧ Inv f2) : zPure 3000 Inv := by
  refine ⟨st_start, fun f c p1 p2 p3 p4 p5 hI => ?_⟩
  unfold zgo
  by_cases e0 : c = (0 : Int32)
  · rw [if_pos e0]
    exact s_0 (by omega) hI p1 p2 p3 p4 p5
  rw [if_neg e0]
  by_cases e1 : c = (1 : Int32)
  · rw [if_pos e1]
    exact s_1 (by omega) hI p1
  rw [if_neg e1]
  by_cases e2 : c = (2 : Int32)
  · rw [if_pos e2]
    exact h2 f hI
  rw [if_neg e2]
  by_cases e3 : c = (3 : Int32)
  · rw [if_pos e3]
    exact s_3 (by omega) hI
  rw [if_neg e3]
  by_cases e4 : c = (4 : Int32)
  · rw [if_pos e4]
    exact s_4 (by omega) hI p1 p2
  rw [if_neg e4]
  by_cases e5 : c = (5 : Int32)
  · rw [if_pos e5]
    exact s_5 (by omega) hI p1 p2
  rw [if_neg e5]
  by_cases e6 : c = (6 : Int32)
  · rw [if_pos e6]
    exact s_6 (by omega) hI p1 p2 p3
  rw [if_neg e6]
  by_cases e7 : c = (7 : Int32)
  · rw [if_pos e7]
    exact s_7 (by omega) hI p1
  rw [if_neg e7]
  by_cases e8 : c = (8 : Int32)
  · rw [if_pos e8]
    exact s_8 (by omega) hI p1
  rw [if_neg e8]
  by_cases e9 : c = (9 : Int32)
  · rw [if_pos e9]
    exact s_9 (by omega) hI p1 p2
  rw [if_neg e9]
  by_cases e10 : c = (10 : Int32)
  · rw [if_pos e10]
    exact s_10 (by omega) hI p1 p2
  rw [if_neg e10]
  by_cases e11 : c = (11 : Int32)
  · rw [if_pos e11]
    exact s_11 (by omega) hI p1
  rw [if_neg e11]
  by_cases e12 : c = (12 : Int32)
  · rw [if_pos e12]
    exact s_12 (by omega) hI p1
  rw [if_neg e12]
  by_cases e13 : c = (13 : Int32)
  · rw [if_pos e13]
    exact s_13 (by omega) hI p1 p2
  rw [if_neg e13]
  by_cases e14 : c = (14 : Int32)
  · rw [if_pos e14]
    exact s_14 (by omega) hI p1
  rw [if_neg e14]
  by_cases e15 : c = (15 : Int32)
  · rw [if_pos e15]
    exact s_15 (by omega) hI
  rw [if_neg e15]
  by_cases e16 : c = (16 : Int32)
  · rw [if_pos e16]
    exact s_16 (by omega) hI p1 p2
  rw [if_neg e16]
  by_cases e17 : c = (17 : Int32)
  · rw [if_pos e17]
    exact s_17 (by omega) hI p1 p2 p3
  rw [if_neg e17]
  by_cases e18 : c = (18 : Int32)
  · rw [if_pos e18]
    exact s_18 (by omega) hI
  rw [if_neg e18]
  by_cases e19 : c = (19 : Int32)
  · rw [if_pos e19]
    exact s_19 (by omega) hI p1
  rw [if_neg e19]
  by_cases e20 : c = (20 : Int32)
  · rw [if_pos e20]
    exact s_20 (by omega) hI
  rw [if_neg e20]
  by_cases e21 : c = (21 : Int32)
  · rw [if_pos e21]
    exact s_21 (by omega) hI
  rw [if_neg e21]
  by_cases e22 : c = (22 : Int32)
  · rw [if_pos e22]
    exact s_22 (by omega) hI p1 p2 p3 p4
  rw [if_neg e22]
  by_cases e23 : c = (23 : Int32)
  · rw [if_pos e23]
    exact s_23 (by omega) hI
  rw [if_neg e23]
  by_cases e24 : c = (24 : Int32)
  · rw [if_pos e24]
    exact s_24 (by omega) hI
  rw [if_neg e24]
  by_cases e25 : c = (25 : Int32)
  · rw [if_pos e25]
    exact s_25 (by omega) hI p1
  rw [if_neg e25]
  by_cases e26 : c = (26 : Int32)
  · rw [if_pos e26]
    exact s_26 (by omega) hI
  rw [if_neg e26]
  by_cases e27 : c = (27 : Int32)
  · rw [if_pos e27]
    exact s_27 (by omega) hI
  rw [if_neg e27]
  by_cases e28 : c = (28 : Int32)
  · rw [if_pos e28]
    exact s_28 (by omega) hI
  rw [if_neg e28]
  by_cases e29 : c = (29 : Int32)
  · rw [if_pos e29]
    exact s_29 (by omega) hI p1
  rw [if_neg e29]
  by_cases e30 : c = (30 : Int32)
  · rw [if_pos e30]
    exact s_30 (by omega) hI p1
  rw [if_neg e30]
  by_cases e31 : c = (31 : Int32)
  · rw [if_pos e31]
    exact s_31 (by omega) hI p1
  rw [if_neg e31]
  by_cases e32 : c = (32 : Int32)
  · rw [if_pos e32]
    exact s_32 (by omega) hI p1 p2
  rw [if_neg e32]
  by_cases e33 : c = (33 : Int32)
  · rw [if_pos e33]
    exact s_33 (by omega) hI p1 p2 p3
  rw [if_neg e33]
  by_cases e34 : c = (34 : Int32)
  · rw [if_pos e34]
    exact h34 f p1 hI
  rw [if_neg e34]
  by_cases e35 : c = (35 : Int32)
  · rw [if_pos e35]
    exact s_35 (by omega) hI p1
  rw [if_neg e35]
  by_cases e36 : c = (36 : Int32)
  · rw [if_pos e36]
    exact h36 f hI
  rw [if_neg e36]
  by_cases e37 : c = (37 : Int32)
  · rw [if_pos e37]
    exact s_37 (by omega) hI p1
  rw [if_neg e37]
  by_cases e38 : c = (38 : Int32)
  · rw [if_pos e38]
    exact s_38 (by omega) hI p1
  rw [if_neg e38]
  by_cases e39 : c = (39 : Int32)
  · rw [if_pos e39]
    exact s_39 (by omega) hI p1
  rw [if_neg e39]
  by_cases e40 : c = (40 : Int32)
  · rw [if_pos e40]
    exact s_40 (by omega) hI p1
  rw [if_neg e40]
  exact ⟨f, rfl, hI⟩
