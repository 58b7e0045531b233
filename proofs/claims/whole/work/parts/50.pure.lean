/-! THE PURE HALF: the heap of a run by its contents (ints V, longs X), its shape fixed -/
def qKs : List Nat := [11, 9, 22, 21, 2, 21, 21, 21, 20, 20, 20, 20, 20, 20, 20, 8, 20, 20, 20, 20, 20, 20, 20, 8, 20, 20, 20, 20, 20, 20, 20, 6, 20, 20, 20, 3, 2, 21, 21, 21, 20, 20, 20, 20, 20, 20, 20, 8, 20, 20, 20, 20, 20, 20, 20, 20, 1, 20, 20, 20, 7, 6, 20, 20, 20, 10, 24, 8, 20, 20, 20, 20, 20, 20, 20, 8, 20, 20, 20, 20, 20, 20, 20, 8, 20, 20, 20, 20, 20, 20, 20, 8, 20, 20, 20, 20, 20, 20, 20, 8, 20, 20, 20, 20, 20, 20, 20, 8, 20, 20, 20, 20, 20, 20, 20, 8, 20, 20, 20, 20, 20, 20, 20, 8, 20, 20, 20, 20, 20, 20, 20, 8, 20, 20, 20, 20, 20, 20, 20, 5, 2, 21, 21, 21, 20, 20, 20, 20, 20, 20, 20, 8, 20, 20, 20, 20, 20, 20, 20, 6, 20, 20, 20, 5, 2, 21, 21, 21, 20, 20, 20, 20, 20, 20, 20, 8, 20, 20, 20, 20, 20, 20, 20, 6, 20, 20, 20, 4, 20, 20, 20, 0, 20, 20, 20, 20, 12, 22, 20, 20, 20, 21, 21, 20, 20, 20, 20, 20, 22, 20, 20, 23, 20, 21, 23, 21]
def qLs : List Nat := [0, 0, 940, 27, 0, 4, 6, 5, 81, 4, 6, 6, 6, 5, 5, 0, 6, 6, 6, 5, 5, 5, 81, 0, 6, 6, 6, 5, 5, 5, 81, 0, 40, 40, 40, 0, 0, 4, 6, 5, 81, 4, 6, 6, 6, 5, 5, 0, 6, 6, 6, 5, 5, 5, 81, 9, 0, 40, 40, 40, 0, 0, 40, 40, 40, 0, 9, 0, 6, 6, 6, 5, 5, 5, 81, 0, 6, 6, 6, 5, 5, 5, 81, 0, 6, 6, 6, 5, 5, 5, 81, 0, 6, 6, 6, 5, 5, 5, 81, 0, 6, 6, 6, 5, 5, 5, 81, 0, 6, 6, 6, 5, 5, 5, 81, 0, 6, 6, 6, 5, 5, 5, 81, 0, 6, 6, 6, 5, 5, 5, 81, 0, 6, 6, 6, 5, 5, 5, 81, 0, 0, 4, 6, 5, 81, 4, 6, 6, 6, 5, 5, 0, 6, 6, 6, 5, 5, 5, 81, 0, 40, 40, 40, 0, 0, 4, 6, 5, 81, 4, 6, 6, 6, 5, 5, 0, 6, 6, 6, 5, 5, 5, 81, 0, 40, 40, 40, 0, 36, 8, 468, 0, 5, 40, 4, 20, 0, 940, 431, 139, 135, 30, 27, 888, 111, 5, 36, 468, 40, 4, 45, 45, 862, 30, 2, 1]
def qRs : List (List Nat) := [[1, 4, 15, 23, 31, 35, 56, 60, 65, 139, 163, 187, 191, 195], [2, 3, 0, 0, 0, 0, 0, 0, 0, 0, 0, 0], [], [], [0, 0, 0, 0, 0, 5, 6, 7, 8, 9, 10, 11, 12, 13, 14], [], [], [], [], [], [], [], [], [], [], [4, 0, 16, 17, 18, 19, 20, 21, 22], [], [], [], [], [], [], [], [4, 0, 24, 25, 26, 27, 28, 29, 30], [], [], [], [], [], [], [], [0, 32, 33, 34], [], [], [], [1, 36, 47, 55, 0, 0], [0, 0, 0, 0, 0, 37, 38, 39, 40, 41, 42, 43, 44, 45, 46], [], [], [], [], [], [], [], [], [], [], [36, 0, 48, 49, 50, 51, 52, 53, 54], [], [], [], [], [], [], [], [], [1, 4, 0, 57, 58, 59], [], [], [], [1, 4, 61, 0], [0, 62, 63, 64], [], [], [], [66, 0, 0], [], [4, 0, 68, 69, 70, 71, 72, 73, 74], [], [], [], [], [], [], [], [4, 0, 76, 77, 78, 79, 80, 81, 82], [], [], [], [], [], [], [], [4, 0, 84, 85, 86, 87, 88, 89, 90], [], [], [], [], [], [], [], [4, 0, 92, 93, 94, 95, 96, 97, 98], [], [], [], [], [], [], [], [4, 0, 100, 101, 102, 103, 104, 105, 106], [], [], [], [], [], [], [], [4, 0, 108, 109, 110, 111, 112, 113, 114], [], [], [], [], [], [], [], [4, 0, 116, 117, 118, 119, 120, 121, 122], [], [], [], [], [], [], [], [4, 0, 124, 125, 126, 127, 128, 129, 130], [], [], [], [], [], [], [], [4, 0, 132, 133, 134, 135, 136, 137, 138], [], [], [], [], [], [], [], [140, 151, 159, 0], [0, 0, 0, 0, 0, 141, 142, 143, 144, 145, 146, 147, 148, 149, 150], [], [], [], [], [], [], [], [], [], [], [140, 0, 152, 153, 154, 155, 156, 157, 158], [], [], [], [], [], [], [], [0, 160, 161, 162], [], [], [], [164, 175, 183, 0], [0, 0, 0, 0, 0, 165, 166, 167, 168, 169, 170, 171, 172, 173, 174], [], [], [], [], [], [], [], [], [], [], [164, 0, 176, 177, 178, 179, 180, 181, 182], [], [], [], [], [], [], [], [0, 184, 185, 186], [], [], [], [188, 0, 0, 189, 0, 190], [], [], [], [0, 192, 0, 0, 0, 193, 0, 194, 0], [], [], [], [], [0, 197, 0, 0, 0, 0, 198, 199, 200, 201, 202, 0, 0, 0, 0, 0, 0, 0, 0, 0, 0, 203, 204, 0, 0, 0, 205, 0, 0, 0, 206, 207, 0, 0, 208, 0, 0, 0, 209, 0, 210, 0, 0, 0, 0, 0, 211, 212, 213, 214], [], [], [], [], [], [], [], [], [], [], [], [], [], [], [], [], [], [], []]
def qTs : List (List Nat) := [[0, 2, 0, 0, 0, 2, 0, 2, 0], [2, 2, 0, 2, 2, 2], [0, 0, 0, 0, 0, 2, 2, 2, 2, 2, 2, 2, 2, 2, 2], [2, 2, 2, 2, 0, 0], [2, 0, 0, 2, 0, 2], [2, 2, 2, 0], [0, 2, 2, 2], [2, 2, 2, 0], [2, 0, 2, 2, 2, 2, 2, 2, 2], [2, 2, 0, 0, 0, 0, 0, 0, 0, 1, 0, 0], [2, 0, 0], [2, 2, 2, 2, 2, 2, 2, 2, 2, 2, 2, 2, 2, 2], [0, 2, 0, 0, 0, 0, 2, 2, 2, 2, 2, 0, 0, 0, 0, 0, 0, 1, 0, 0, 0, 2, 2, 0, 0, 0, 2, 0, 0, 0, 2, 2, 0, 0, 2, 0, 0, 0, 2, 0, 2, 0, 0, 0, 0, 0, 2, 2, 2, 2]]
def qK (a : Nat) : Nat := qKs.getD a 99
def qL (a : Nat) : Nat := qLs.getD a 0
def qR (a j : Nat) : Nat := (qRs.getD a []).getD j 0
def qFv (V : Nat → Nat → Int32) (X : Nat → Nat → Int64) (a : Nat) (t : List Nat) : List Value := (List.range t.length).map (fun j => if t.getD j 0 = 0 then Value.int (V a j) else if t.getD j 0 = 1 then Value.long (X a j) else Value.ref (qR a j))
def qE (g : zF) (V : Nat → Nat → Int32) (X : Nat → Nat → Int64) (a : Nat) : zE :=
  if qK a = 20 then .inl (0, qL a, .inl (V a)) else if qK a = 21 then .inl (1, qL a, .inr (.inl (X a))) else if qK a = 22 then .inl (2, qL a, .inl (V a)) else if qK a = 23 then .inl (3, qL a, .inl (V a)) else if qK a = 24 then g a else .inr (qK a, qFv V X a (qTs.getD (qK a) []))
def qH (g : zF) (V : Nat → Nat → Int32) (X : Nat → Nat → Int64) : zF := fun a => if a < 216 then qE g V X a else g a
def qw (V : Nat → Nat → Int32) (a : Nat) (r : Nat → Int32) : Nat → Nat → Int32 := fun b => if b = a then r else V b
def qx (X : Nat → Nat → Int64) (a : Nat) (r : Nat → Int64) : Nat → Nat → Int64 := fun b => if b = a then r else X b
theorem qw_s {V : Nat → Nat → Int32} {a : Nat} {r : Nat → Int32} : qw V a r a = r := by simp [qw]
theorem qw_n {V : Nat → Nat → Int32} {a b : Nat} {r : Nat → Int32} (h : b ≠ a) : qw V a r b = V b := by simp [qw, h]
theorem qx_s {X : Nat → Nat → Int64} {a : Nat} {r : Nat → Int64} : qx X a r a = r := by simp [qx]
theorem qx_n {X : Nat → Nat → Int64} {a b : Nat} {r : Nat → Int64} (h : b ≠ a) : qx X a r b = X b := by simp [qx, h]
section QB
variable {g : zF} {V : Nat → Nat → Int32} {X : Nat → Nat → Int64} {a ci j : Nat}
theorem qFv_at {t : List Nat} {k : Nat} (h : t[j]? = some k) : (qFv V X a t)[j]? = some (if k = 0 then Value.int (V a j) else if k = 1 then Value.long (X a j) else Value.ref (qR a j)) := by
  have hj := (List.getElem?_eq_some_iff.mp h).1
  unfold qFv
  rw [List.getElem?_map, List.getElem?_range hj]
  simp [List.getD_eq_getElem?_getD, h]
theorem qFv_len {t : List Nat} : (qFv V X a t).length = t.length := by simp [qFv]
theorem qE_o (hk : qK a = ci) (hc : ci < 20) : qE g V X a = .inr (ci, qFv V X a (qTs.getD ci [])) := by
  unfold qE
  rw [hk, if_neg (by omega), if_neg (by omega), if_neg (by omega), if_neg (by omega), if_neg (by omega)]
theorem qfld (ha : a < 216) (hk : qK a = ci) (hc : ci < 20) {k : Nat} (ht : (qTs.getD ci [])[j]? = some k) : zfld 216 (qH g V X) ci a j = some (if k = 0 then Value.int (V a j) else if k = 1 then Value.long (X a j) else Value.ref (qR a j)) := by
  unfold zfld qH
  rw [if_pos ha, if_pos ha, qE_o hk hc]
  simp only [if_true]
  exact qFv_at ht
theorem qgI (ha : a < 216) (hk : qK a = ci) (hc : ci < 20) (ht : (qTs.getD ci [])[j]? = some 0) : zgI 216 (qH g V X) ci a j = some (V a j) := by
  unfold zgI
  rw [qfld ha hk hc ht]
  rfl
theorem qgL (ha : a < 216) (hk : qK a = ci) (hc : ci < 20) (ht : (qTs.getD ci [])[j]? = some 1) : zgL 216 (qH g V X) ci a j = some (X a j) := by
  unfold zgL
  rw [qfld ha hk hc ht]
  rfl
theorem qgR {r : Nat} (ha : a < 216) (hk : qK a = ci) (hc : ci < 20) (ht : (qTs.getD ci [])[j]? = some 2) (hr : qR a j = r) : zgR 216 (qH g V X) ci a j = some r := by
  unfold zgR
  rw [qfld ha hk hc ht, ← hr]
  rfl
theorem qck (ha : a < 216) (hk : qK a = ci) (hc : ci < 20) : zck 216 (qH g V X) ci a = some () := by
  unfold zck qH
  rw [if_pos ha, if_pos ha, qE_o hk hc]
  simp
theorem qH_w {V2 : Nat → Nat → Int32} {X2 : Nat → Nat → Int64} {e : zE} (ha : a < 216) (he : qE g V2 X2 a = e) (hV : ∀ b, b ≠ a → V2 b = V b) (hX : ∀ b, b ≠ a → X2 b = X b) : zu (qH g V X) a e = qH g V2 X2 := by
  funext b
  unfold zu qH
  by_cases hb : b = a
  · subst hb
    rw [if_pos rfl, if_pos ha, he]
  · rw [if_neg hb]
    by_cases h2 : b < 216
    · rw [if_pos h2, if_pos h2]
      unfold qE qFv
      rw [hV b hb, hX b hb]
    · rw [if_neg h2, if_neg h2]
theorem qFv_set {t : List Nat} {x : Int32} (h : t[j]? = some 0) : (qFv V X a t).set j (.int x) = qFv (qw V a (upd (V a) j x)) X a t := by
  apply List.ext_getElem?
  intro i
  by_cases hi : i = j
  · subst hi
    rw [List.getElem?_set_self (by rw [qFv_len]; exact (List.getElem?_eq_some_iff.mp h).1), qFv_at h]
    simp [qw, upd]
  · rw [List.getElem?_set_ne (Ne.symm hi)]
    cases ht : t[i]? with
    | none =>
      have h1 : t.length ≤ i := List.getElem?_eq_none_iff.mp ht
      rw [List.getElem?_eq_none (by rw [qFv_len]; exact h1), List.getElem?_eq_none (by rw [qFv_len]; exact h1)]
    | some k =>
      rw [qFv_at ht, qFv_at ht]
      simp [qw, upd, hi]
theorem qFv_setL {t : List Nat} {x : Int64} (h : t[j]? = some 1) : (qFv V X a t).set j (.long x) = qFv V (qx X a (vp_updL (X a) j x)) a t := by
  apply List.ext_getElem?
  intro i
  by_cases hi : i = j
  · subst hi
    rw [List.getElem?_set_self (by rw [qFv_len]; exact (List.getElem?_eq_some_iff.mp h).1), qFv_at h]
    simp [qx, vp_updL]
  · rw [List.getElem?_set_ne (Ne.symm hi)]
    cases ht : t[i]? with
    | none =>
      have h1 : t.length ≤ i := List.getElem?_eq_none_iff.mp ht
      rw [List.getElem?_eq_none (by rw [qFv_len]; exact h1), List.getElem?_eq_none (by rw [qFv_len]; exact h1)]
    | some k =>
      rw [qFv_at ht, qFv_at ht]
      simp [qx, vp_updL, hi]
theorem qpI {x : Int32} (ha : a < 216) (hk : qK a = ci) (hc : ci < 20) (ht : (qTs.getD ci [])[j]? = some 0) : zpI 216 (qH g V X) ci a j x = some (qH g (qw V a (upd (V a) j x)) X) := by
  unfold zpI zpV
  rw [if_pos ha]
  have h1 : qH g V X a = .inr (ci, qFv V X a (qTs.getD ci [])) := by
    unfold qH
    rw [if_pos ha, qE_o hk hc]
  rw [h1]
  dsimp only
  rw [if_pos ⟨rfl, by rw [qFv_len]; exact (List.getElem?_eq_some_iff.mp ht).1⟩]
  refine congrArg some (qH_w ha ?_ (fun b hb => qw_n hb) (fun b hb => rfl))
  rw [qE_o hk hc, qFv_set ht]
theorem qpZ {x : Int32} (ha : a < 216) (hk : qK a = ci) (hc : ci < 20) (ht : (qTs.getD ci [])[j]? = some 0) (hx : x = 0 ∨ x = 1) : zpZ 216 (qH g V X) ci a j x = some (qH g (qw V a (upd (V a) j x)) X) := by
  unfold zpZ
  rw [if_pos hx]
  exact qpI ha hk hc ht
theorem qpL {x : Int64} (ha : a < 216) (hk : qK a = ci) (hc : ci < 20) (ht : (qTs.getD ci [])[j]? = some 1) : zpL 216 (qH g V X) ci a j x = some (qH g V (qx X a (vp_updL (X a) j x))) := by
  unfold zpL zpV
  rw [if_pos ha]
  have h1 : qH g V X a = .inr (ci, qFv V X a (qTs.getD ci [])) := by
    unfold qH
    rw [if_pos ha, qE_o hk hc]
  rw [h1]
  dsimp only
  rw [if_pos ⟨rfl, by rw [qFv_len]; exact (List.getElem?_eq_some_iff.mp ht).1⟩]
  refine congrArg some (qH_w ha ?_ (fun b hb => rfl) (fun b hb => qx_n hb))
  rw [qE_o hk hc, qFv_setL ht]
/-- int arrays, byte arrays, boolean arrays: kinds 0, 2, 3 -/
theorem qarr {t n : Nat} (h : a < 216 ∧ qK a = 20 + t ∧ qL a = n) (ht : t = 0 ∨ t = 2 ∨ t = 3) : zarr 216 (qH g V X) t a = some (n, .inl (V a)) := by
  obtain ⟨ha, hk, hn⟩ := h
  unfold zarr qH qE
  rw [if_pos ha, if_pos ha, hk, hn]
  rcases ht with rfl | rfl | rfl <;> simp
theorem qarL {n : Nat} (h : a < 216 ∧ qK a = 21 ∧ qL a = n) : zarr 216 (qH g V X) 1 a = some (n, .inr (.inl (X a))) := by
  obtain ⟨ha, hk, hn⟩ := h
  unfold zarr qH qE
  rw [if_pos ha, if_pos ha, hk, hn]
  simp
theorem qlen {t n : Nat} (h : a < 216 ∧ qK a = 20 + t ∧ qL a = n) (ht : t = 0 ∨ t = 2 ∨ t = 3) : zlen 216 (qH g V X) t a = some (Int32.ofNat n) := by
  unfold zlen
  rw [qarr h ht]
theorem qlenL {n : Nat} (h : a < 216 ∧ qK a = 21 ∧ qL a = n) : zlen 216 (qH g V X) 1 a = some (Int32.ofNat n) := by
  unfold zlen
  rw [qarL h]
theorem qnn {k n : Nat} (hk : k < n) (hn : n < 2147483648) : ¬ Int32.ofNat k < 0 ∧ (Int32.ofNat k).toNatClampNeg < n := by
  refine ⟨Int32.ofNat_not_neg (by omega), ?_⟩
  rw [Int32.toNatClampNeg_ofNat_of_lt (by omega)]
  exact hk
theorem qlI {t n k : Nat} (h : a < 216 ∧ qK a = 20 + t ∧ qL a = n) (ht : t = 0 ∨ t = 2 ∨ t = 3) (hk : k < n) (hn : n < 2147483648) : zlI 216 (qH g V X) t a (Int32.ofNat k) = some (V a k) := by
  unfold zlI
  rw [qarr h ht]
  dsimp only
  rw [if_pos (qnn hk hn), Int32.toNatClampNeg_ofNat_of_lt (by omega)]
theorem qlL {n k : Nat} (h : a < 216 ∧ qK a = 21 ∧ qL a = n) (hk : k < n) (hn : n < 2147483648) : zlL 216 (qH g V X) 1 a (Int32.ofNat k) = some (X a k) := by
  unfold zlL
  rw [qarL h]
  dsimp only
  rw [if_pos (qnn hk hn), Int32.toNatClampNeg_ofNat_of_lt (by omega)]
theorem qsI {t n k : Nat} {x : Int32} (h : a < 216 ∧ qK a = 20 + t ∧ qL a = n) (ht : t = 0 ∨ t = 2 ∨ t = 3) (hk : k < n) (hn : n < 2147483648) : zsI 216 (qH g V X) t a (Int32.ofNat k) x = some (qH g (qw V a (upd (V a) k x)) X) := by
  unfold zsI
  rw [qarr h ht]
  dsimp only
  rw [if_pos (qnn hk hn), Int32.toNatClampNeg_ofNat_of_lt (by omega)]
  refine congrArg some (qH_w h.1 ?_ (fun b hb => qw_n hb) (fun b hb => rfl))
  unfold qE
  rw [h.2.1, h.2.2, qw_s]
  rcases ht with rfl | rfl | rfl <;> simp
theorem qsL {n k : Nat} {x : Int64} (h : a < 216 ∧ qK a = 21 ∧ qL a = n) (hk : k < n) (hn : n < 2147483648) : zsL 216 (qH g V X) 1 a (Int32.ofNat k) x = some (qH g V (qx X a (vp_updL (X a) k x))) := by
  unfold zsL
  rw [qarL h]
  dsimp only
  rw [if_pos (qnn hk hn), Int32.toNatClampNeg_ofNat_of_lt (by omega)]
  refine congrArg some (qH_w h.1 ?_ (fun b hb => rfl) (fun b hb => qx_n hb))
  unfold qE
  rw [h.2.1, h.2.2, qx_s]
  simp
theorem qsB {n k : Nat} {x : Int32} (h : a < 216 ∧ qK a = 22 ∧ qL a = n) (hk : k < n) (hn : n < 2147483648) : zsB 216 (qH g V X) 2 a (Int32.ofNat k) x = some (qH g (qw V a (upd (V a) k x.toInt8.toInt32)) X) := by
  unfold zsB
  exact qsI h (Or.inr (Or.inl rfl)) hk hn
theorem qsZ {n k : Nat} {x : Int32} (h : a < 216 ∧ qK a = 23 ∧ qL a = n) (hk : k < n) (hn : n < 2147483648) (hx : x = 0 ∨ x = 1) : zsZ 216 (qH g V X) 3 a (Int32.ofNat k) x = some (qH g (qw V a (upd (V a) k x)) X) := by
  unfold zsZ
  rw [if_pos hx]
  exact qsI h (Or.inr (Or.inr rfl)) hk hn
/-- copying a row over a row as long -/
theorem qcpI {b n : Nat} (h : a < 216 ∧ qK a = 20 ∧ qL a = n) (h2 : b < 216 ∧ qK b = 20 ∧ qL b = n) (hn : n < 2147483648) : zcpI 216 (qH g V X) a 0 b 0 (Int32.ofNat n) = some (qH g (qw V b (fun i => if i < n then V a i else V b i)) X) := by
  unfold zcpI
  rw [qarr (t := 0) h (Or.inl rfl), qarr (t := 0) h2 (Or.inl rfl)]
  dsimp only
  have e1 : (Int32.ofNat n).toNatClampNeg = n := Int32.toNatClampNeg_ofNat_of_lt (by omega)
  have e0 : (0 : Int32).toNatClampNeg = 0 := rfl
  rw [e1, e0, if_pos ⟨by decide, by decide, Int32.ofNat_not_neg (by omega), by omega, by omega⟩]
  refine congrArg some (qH_w h2.1 ?_ (fun c hc => qw_n hc) (fun c hc => rfl))
  unfold qE
  rw [h2.2.1, h2.2.2, qw_s]
  simp only [if_true]
  congr 4
  funext i
  simp [va_cpy]
theorem qcpL {b n : Nat} (h : a < 216 ∧ qK a = 21 ∧ qL a = n) (h2 : b < 216 ∧ qK b = 21 ∧ qL b = n) (hn : n < 2147483648) : zcpL 216 (qH g V X) a 0 b 0 (Int32.ofNat n) = some (qH g V (qx X b (fun i => if i < n then X a i else X b i))) := by
  unfold zcpL
  rw [qarL h, qarL h2]
  dsimp only
  have e1 : (Int32.ofNat n).toNatClampNeg = n := Int32.toNatClampNeg_ofNat_of_lt (by omega)
  have e0 : (0 : Int32).toNatClampNeg = 0 := rfl
  rw [e1, e0, if_pos ⟨by decide, by decide, Int32.ofNat_not_neg (by omega), by omega, by omega⟩]
  refine congrArg some (qH_w h2.1 ?_ (fun c hc => rfl) (fun c hc => qx_n hc))
  unfold qE
  rw [h2.2.1, h2.2.2, qx_s]
  simp only [if_true, show ¬ (21 : Nat) = 20 from by decide, if_false]
  congr 5
  funext i
  simp [va_cpy]
end QB

section QA
variable {g : zF} {V : Nat → Nat → Int32} {X : Nat → Nat → Int64}
def qS (a φ : Nat) : Prop := a + 8 ≤ 216 ∧ qK a = 8 ∧ qRs.getD a [] = [φ, 0, a + 1, a + 2, a + 3, a + 4, a + 5, a + 6, a + 7] ∧ qK (a + 1) = 20 ∧ qK (a + 2) = 20 ∧ qK (a + 3) = 20 ∧ qK (a + 4) = 20 ∧ qK (a + 5) = 20 ∧ qK (a + 6) = 20 ∧ qK (a + 7) = 20 ∧ qL (a + 1) = 6 ∧ qL (a + 2) = 6 ∧ qL (a + 3) = 6 ∧ qL (a + 4) = 5 ∧ qL (a + 5) = 5 ∧ qL (a + 6) = 5 ∧ qL (a + 7) = 81
theorem qS_g1 {a φ : Nat} (h : qS a φ) : zgI 216 (qH g V X) 8 a 1 = some (V a 1) := qgI (Nat.lt_of_lt_of_le (Nat.lt_add_of_pos_right (by decide)) h.1) h.2.1 (by decide) rfl
theorem qS_p1 {a φ : Nat} (h : qS a φ) (x : Int32) : zpI 216 (qH g V X) 8 a 1 x = some (qH g (qw V a (upd (V a) 1 x)) X) := qpI (Nat.lt_of_lt_of_le (Nat.lt_add_of_pos_right (by decide)) h.1) h.2.1 (by decide) rfl
theorem qS_g0 {a φ : Nat} (h : qS a φ) : zgR 216 (qH g V X) 8 a 0 = some (φ) := qgR (Nat.lt_of_lt_of_le (Nat.lt_add_of_pos_right (by decide)) h.1) h.2.1 (by decide) rfl (by unfold qR; rw [h.2.2.1]; rfl)
theorem qS_g2 {a φ : Nat} (h : qS a φ) : zgR 216 (qH g V X) 8 a 2 = some (a + 1) := qgR (Nat.lt_of_lt_of_le (Nat.lt_add_of_pos_right (by decide)) h.1) h.2.1 (by decide) rfl (by unfold qR; rw [h.2.2.1]; rfl)
theorem qS_g3 {a φ : Nat} (h : qS a φ) : zgR 216 (qH g V X) 8 a 3 = some (a + 2) := qgR (Nat.lt_of_lt_of_le (Nat.lt_add_of_pos_right (by decide)) h.1) h.2.1 (by decide) rfl (by unfold qR; rw [h.2.2.1]; rfl)
theorem qS_g4 {a φ : Nat} (h : qS a φ) : zgR 216 (qH g V X) 8 a 4 = some (a + 3) := qgR (Nat.lt_of_lt_of_le (Nat.lt_add_of_pos_right (by decide)) h.1) h.2.1 (by decide) rfl (by unfold qR; rw [h.2.2.1]; rfl)
theorem qS_g5 {a φ : Nat} (h : qS a φ) : zgR 216 (qH g V X) 8 a 5 = some (a + 4) := qgR (Nat.lt_of_lt_of_le (Nat.lt_add_of_pos_right (by decide)) h.1) h.2.1 (by decide) rfl (by unfold qR; rw [h.2.2.1]; rfl)
theorem qS_g6 {a φ : Nat} (h : qS a φ) : zgR 216 (qH g V X) 8 a 6 = some (a + 5) := qgR (Nat.lt_of_lt_of_le (Nat.lt_add_of_pos_right (by decide)) h.1) h.2.1 (by decide) rfl (by unfold qR; rw [h.2.2.1]; rfl)
theorem qS_g7 {a φ : Nat} (h : qS a φ) : zgR 216 (qH g V X) 8 a 7 = some (a + 6) := qgR (Nat.lt_of_lt_of_le (Nat.lt_add_of_pos_right (by decide)) h.1) h.2.1 (by decide) rfl (by unfold qR; rw [h.2.2.1]; rfl)
theorem qS_g8 {a φ : Nat} (h : qS a φ) : zgR 216 (qH g V X) 8 a 8 = some (a + 7) := qgR (Nat.lt_of_lt_of_le (Nat.lt_add_of_pos_right (by decide)) h.1) h.2.1 (by decide) rfl (by unfold qR; rw [h.2.2.1]; rfl)
theorem qS_c {a φ : Nat} (h : qS a φ) : zck 216 (qH g V X) 8 a = some () := qck (Nat.lt_of_lt_of_le (Nat.lt_add_of_pos_right (by decide)) h.1) h.2.1 (by decide)
theorem qS_k1 {a φ : Nat} (h : qS a φ) : a + 1 < 216 ∧ qK (a + 1) = 20 ∧ qL (a + 1) = 6 := ⟨Nat.lt_of_lt_of_le (Nat.add_lt_add_left (by decide) a) h.1, h.2.2.2.1, h.2.2.2.2.2.2.2.2.2.2.1⟩
theorem qS_k2 {a φ : Nat} (h : qS a φ) : a + 2 < 216 ∧ qK (a + 2) = 20 ∧ qL (a + 2) = 6 := ⟨Nat.lt_of_lt_of_le (Nat.add_lt_add_left (by decide) a) h.1, h.2.2.2.2.1, h.2.2.2.2.2.2.2.2.2.2.2.1⟩
theorem qS_k3 {a φ : Nat} (h : qS a φ) : a + 3 < 216 ∧ qK (a + 3) = 20 ∧ qL (a + 3) = 6 := ⟨Nat.lt_of_lt_of_le (Nat.add_lt_add_left (by decide) a) h.1, h.2.2.2.2.2.1, h.2.2.2.2.2.2.2.2.2.2.2.2.1⟩
theorem qS_k4 {a φ : Nat} (h : qS a φ) : a + 4 < 216 ∧ qK (a + 4) = 20 ∧ qL (a + 4) = 5 := ⟨Nat.lt_of_lt_of_le (Nat.add_lt_add_left (by decide) a) h.1, h.2.2.2.2.2.2.1, h.2.2.2.2.2.2.2.2.2.2.2.2.2.1⟩
theorem qS_k5 {a φ : Nat} (h : qS a φ) : a + 5 < 216 ∧ qK (a + 5) = 20 ∧ qL (a + 5) = 5 := ⟨Nat.lt_of_lt_of_le (Nat.add_lt_add_left (by decide) a) h.1, h.2.2.2.2.2.2.2.1, h.2.2.2.2.2.2.2.2.2.2.2.2.2.2.1⟩
theorem qS_k6 {a φ : Nat} (h : qS a φ) : a + 6 < 216 ∧ qK (a + 6) = 20 ∧ qL (a + 6) = 5 := ⟨Nat.lt_of_lt_of_le (Nat.add_lt_add_left (by decide) a) h.1, h.2.2.2.2.2.2.2.2.1, h.2.2.2.2.2.2.2.2.2.2.2.2.2.2.2.1⟩
theorem qS_k7 {a φ : Nat} (h : qS a φ) : a + 7 < 216 ∧ qK (a + 7) = 20 ∧ qL (a + 7) = 81 := ⟨Nat.lt_of_lt_of_le (Nat.add_lt_add_left (by decide) a) h.1, h.2.2.2.2.2.2.2.2.2.1, h.2.2.2.2.2.2.2.2.2.2.2.2.2.2.2.2⟩
def qF (a : Nat) : Prop := a + 11 ≤ 216 ∧ qK a = 2 ∧ qRs.getD a [] = [0, 0, 0, 0, 0, a + 1, a + 2, a + 3, a + 4, a + 5, a + 6, a + 7, a + 8, a + 9, a + 10] ∧ qK (a + 1) = 21 ∧ qK (a + 2) = 21 ∧ qK (a + 3) = 21 ∧ qK (a + 4) = 20 ∧ qK (a + 5) = 20 ∧ qK (a + 6) = 20 ∧ qK (a + 7) = 20 ∧ qK (a + 8) = 20 ∧ qK (a + 9) = 20 ∧ qK (a + 10) = 20 ∧ qL (a + 1) = 4 ∧ qL (a + 2) = 6 ∧ qL (a + 3) = 5 ∧ qL (a + 4) = 81 ∧ qL (a + 5) = 4 ∧ qL (a + 6) = 6 ∧ qL (a + 7) = 6 ∧ qL (a + 8) = 6 ∧ qL (a + 9) = 5 ∧ qL (a + 10) = 5
theorem qF_g0 {a : Nat} (h : qF a) : zgI 216 (qH g V X) 2 a 0 = some (V a 0) := qgI (Nat.lt_of_lt_of_le (Nat.lt_add_of_pos_right (by decide)) h.1) h.2.1 (by decide) rfl
theorem qF_p0 {a : Nat} (h : qF a) (x : Int32) : zpI 216 (qH g V X) 2 a 0 x = some (qH g (qw V a (upd (V a) 0 x)) X) := qpI (Nat.lt_of_lt_of_le (Nat.lt_add_of_pos_right (by decide)) h.1) h.2.1 (by decide) rfl
theorem qF_g1 {a : Nat} (h : qF a) : zgI 216 (qH g V X) 2 a 1 = some (V a 1) := qgI (Nat.lt_of_lt_of_le (Nat.lt_add_of_pos_right (by decide)) h.1) h.2.1 (by decide) rfl
theorem qF_p1 {a : Nat} (h : qF a) (x : Int32) : zpI 216 (qH g V X) 2 a 1 x = some (qH g (qw V a (upd (V a) 1 x)) X) := qpI (Nat.lt_of_lt_of_le (Nat.lt_add_of_pos_right (by decide)) h.1) h.2.1 (by decide) rfl
theorem qF_g2 {a : Nat} (h : qF a) : zgI 216 (qH g V X) 2 a 2 = some (V a 2) := qgI (Nat.lt_of_lt_of_le (Nat.lt_add_of_pos_right (by decide)) h.1) h.2.1 (by decide) rfl
theorem qF_p2 {a : Nat} (h : qF a) (x : Int32) : zpI 216 (qH g V X) 2 a 2 x = some (qH g (qw V a (upd (V a) 2 x)) X) := qpI (Nat.lt_of_lt_of_le (Nat.lt_add_of_pos_right (by decide)) h.1) h.2.1 (by decide) rfl
theorem qF_g3 {a : Nat} (h : qF a) : zgI 216 (qH g V X) 2 a 3 = some (V a 3) := qgI (Nat.lt_of_lt_of_le (Nat.lt_add_of_pos_right (by decide)) h.1) h.2.1 (by decide) rfl
theorem qF_p3 {a : Nat} (h : qF a) (x : Int32) : zpI 216 (qH g V X) 2 a 3 x = some (qH g (qw V a (upd (V a) 3 x)) X) := qpI (Nat.lt_of_lt_of_le (Nat.lt_add_of_pos_right (by decide)) h.1) h.2.1 (by decide) rfl
theorem qF_g4 {a : Nat} (h : qF a) : zgI 216 (qH g V X) 2 a 4 = some (V a 4) := qgI (Nat.lt_of_lt_of_le (Nat.lt_add_of_pos_right (by decide)) h.1) h.2.1 (by decide) rfl
theorem qF_p4 {a : Nat} (h : qF a) (x : Int32) : zpI 216 (qH g V X) 2 a 4 x = some (qH g (qw V a (upd (V a) 4 x)) X) := qpI (Nat.lt_of_lt_of_le (Nat.lt_add_of_pos_right (by decide)) h.1) h.2.1 (by decide) rfl
theorem qF_g5 {a : Nat} (h : qF a) : zgR 216 (qH g V X) 2 a 5 = some (a + 1) := qgR (Nat.lt_of_lt_of_le (Nat.lt_add_of_pos_right (by decide)) h.1) h.2.1 (by decide) rfl (by unfold qR; rw [h.2.2.1]; rfl)
theorem qF_g6 {a : Nat} (h : qF a) : zgR 216 (qH g V X) 2 a 6 = some (a + 2) := qgR (Nat.lt_of_lt_of_le (Nat.lt_add_of_pos_right (by decide)) h.1) h.2.1 (by decide) rfl (by unfold qR; rw [h.2.2.1]; rfl)
theorem qF_g7 {a : Nat} (h : qF a) : zgR 216 (qH g V X) 2 a 7 = some (a + 3) := qgR (Nat.lt_of_lt_of_le (Nat.lt_add_of_pos_right (by decide)) h.1) h.2.1 (by decide) rfl (by unfold qR; rw [h.2.2.1]; rfl)
theorem qF_g8 {a : Nat} (h : qF a) : zgR 216 (qH g V X) 2 a 8 = some (a + 4) := qgR (Nat.lt_of_lt_of_le (Nat.lt_add_of_pos_right (by decide)) h.1) h.2.1 (by decide) rfl (by unfold qR; rw [h.2.2.1]; rfl)
theorem qF_g9 {a : Nat} (h : qF a) : zgR 216 (qH g V X) 2 a 9 = some (a + 5) := qgR (Nat.lt_of_lt_of_le (Nat.lt_add_of_pos_right (by decide)) h.1) h.2.1 (by decide) rfl (by unfold qR; rw [h.2.2.1]; rfl)
theorem qF_g10 {a : Nat} (h : qF a) : zgR 216 (qH g V X) 2 a 10 = some (a + 6) := qgR (Nat.lt_of_lt_of_le (Nat.lt_add_of_pos_right (by decide)) h.1) h.2.1 (by decide) rfl (by unfold qR; rw [h.2.2.1]; rfl)
theorem qF_g11 {a : Nat} (h : qF a) : zgR 216 (qH g V X) 2 a 11 = some (a + 7) := qgR (Nat.lt_of_lt_of_le (Nat.lt_add_of_pos_right (by decide)) h.1) h.2.1 (by decide) rfl (by unfold qR; rw [h.2.2.1]; rfl)
theorem qF_g12 {a : Nat} (h : qF a) : zgR 216 (qH g V X) 2 a 12 = some (a + 8) := qgR (Nat.lt_of_lt_of_le (Nat.lt_add_of_pos_right (by decide)) h.1) h.2.1 (by decide) rfl (by unfold qR; rw [h.2.2.1]; rfl)
theorem qF_g13 {a : Nat} (h : qF a) : zgR 216 (qH g V X) 2 a 13 = some (a + 9) := qgR (Nat.lt_of_lt_of_le (Nat.lt_add_of_pos_right (by decide)) h.1) h.2.1 (by decide) rfl (by unfold qR; rw [h.2.2.1]; rfl)
theorem qF_g14 {a : Nat} (h : qF a) : zgR 216 (qH g V X) 2 a 14 = some (a + 10) := qgR (Nat.lt_of_lt_of_le (Nat.lt_add_of_pos_right (by decide)) h.1) h.2.1 (by decide) rfl (by unfold qR; rw [h.2.2.1]; rfl)
theorem qF_c {a : Nat} (h : qF a) : zck 216 (qH g V X) 2 a = some () := qck (Nat.lt_of_lt_of_le (Nat.lt_add_of_pos_right (by decide)) h.1) h.2.1 (by decide)
theorem qF_k1 {a : Nat} (h : qF a) : a + 1 < 216 ∧ qK (a + 1) = 21 ∧ qL (a + 1) = 4 := ⟨Nat.lt_of_lt_of_le (Nat.add_lt_add_left (by decide) a) h.1, h.2.2.2.1, h.2.2.2.2.2.2.2.2.2.2.2.2.2.1⟩
theorem qF_k2 {a : Nat} (h : qF a) : a + 2 < 216 ∧ qK (a + 2) = 21 ∧ qL (a + 2) = 6 := ⟨Nat.lt_of_lt_of_le (Nat.add_lt_add_left (by decide) a) h.1, h.2.2.2.2.1, h.2.2.2.2.2.2.2.2.2.2.2.2.2.2.1⟩
theorem qF_k3 {a : Nat} (h : qF a) : a + 3 < 216 ∧ qK (a + 3) = 21 ∧ qL (a + 3) = 5 := ⟨Nat.lt_of_lt_of_le (Nat.add_lt_add_left (by decide) a) h.1, h.2.2.2.2.2.1, h.2.2.2.2.2.2.2.2.2.2.2.2.2.2.2.1⟩
theorem qF_k4 {a : Nat} (h : qF a) : a + 4 < 216 ∧ qK (a + 4) = 20 ∧ qL (a + 4) = 81 := ⟨Nat.lt_of_lt_of_le (Nat.add_lt_add_left (by decide) a) h.1, h.2.2.2.2.2.2.1, h.2.2.2.2.2.2.2.2.2.2.2.2.2.2.2.2.1⟩
theorem qF_k5 {a : Nat} (h : qF a) : a + 5 < 216 ∧ qK (a + 5) = 20 ∧ qL (a + 5) = 4 := ⟨Nat.lt_of_lt_of_le (Nat.add_lt_add_left (by decide) a) h.1, h.2.2.2.2.2.2.2.1, h.2.2.2.2.2.2.2.2.2.2.2.2.2.2.2.2.2.1⟩
theorem qF_k6 {a : Nat} (h : qF a) : a + 6 < 216 ∧ qK (a + 6) = 20 ∧ qL (a + 6) = 6 := ⟨Nat.lt_of_lt_of_le (Nat.add_lt_add_left (by decide) a) h.1, h.2.2.2.2.2.2.2.2.1, h.2.2.2.2.2.2.2.2.2.2.2.2.2.2.2.2.2.2.1⟩
theorem qF_k7 {a : Nat} (h : qF a) : a + 7 < 216 ∧ qK (a + 7) = 20 ∧ qL (a + 7) = 6 := ⟨Nat.lt_of_lt_of_le (Nat.add_lt_add_left (by decide) a) h.1, h.2.2.2.2.2.2.2.2.2.1, h.2.2.2.2.2.2.2.2.2.2.2.2.2.2.2.2.2.2.2.1⟩
theorem qF_k8 {a : Nat} (h : qF a) : a + 8 < 216 ∧ qK (a + 8) = 20 ∧ qL (a + 8) = 6 := ⟨Nat.lt_of_lt_of_le (Nat.add_lt_add_left (by decide) a) h.1, h.2.2.2.2.2.2.2.2.2.2.1, h.2.2.2.2.2.2.2.2.2.2.2.2.2.2.2.2.2.2.2.2.1⟩
theorem qF_k9 {a : Nat} (h : qF a) : a + 9 < 216 ∧ qK (a + 9) = 20 ∧ qL (a + 9) = 5 := ⟨Nat.lt_of_lt_of_le (Nat.add_lt_add_left (by decide) a) h.1, h.2.2.2.2.2.2.2.2.2.2.2.1, h.2.2.2.2.2.2.2.2.2.2.2.2.2.2.2.2.2.2.2.2.2.1⟩
theorem qF_k10 {a : Nat} (h : qF a) : a + 10 < 216 ∧ qK (a + 10) = 20 ∧ qL (a + 10) = 5 := ⟨Nat.lt_of_lt_of_le (Nat.add_lt_add_left (by decide) a) h.1, h.2.2.2.2.2.2.2.2.2.2.2.2.1, h.2.2.2.2.2.2.2.2.2.2.2.2.2.2.2.2.2.2.2.2.2.2⟩
def qN (a : Nat) : Prop := a + 4 ≤ 216 ∧ qK a = 6 ∧ qRs.getD a [] = [0, a + 1, a + 2, a + 3] ∧ qK (a + 1) = 20 ∧ qK (a + 2) = 20 ∧ qK (a + 3) = 20 ∧ qL (a + 1) = 40 ∧ qL (a + 2) = 40 ∧ qL (a + 3) = 40
theorem qN_g0 {a : Nat} (h : qN a) : zgI 216 (qH g V X) 6 a 0 = some (V a 0) := qgI (Nat.lt_of_lt_of_le (Nat.lt_add_of_pos_right (by decide)) h.1) h.2.1 (by decide) rfl
theorem qN_p0 {a : Nat} (h : qN a) (x : Int32) : zpI 216 (qH g V X) 6 a 0 x = some (qH g (qw V a (upd (V a) 0 x)) X) := qpI (Nat.lt_of_lt_of_le (Nat.lt_add_of_pos_right (by decide)) h.1) h.2.1 (by decide) rfl
theorem qN_g1 {a : Nat} (h : qN a) : zgR 216 (qH g V X) 6 a 1 = some (a + 1) := qgR (Nat.lt_of_lt_of_le (Nat.lt_add_of_pos_right (by decide)) h.1) h.2.1 (by decide) rfl (by unfold qR; rw [h.2.2.1]; rfl)
theorem qN_g2 {a : Nat} (h : qN a) : zgR 216 (qH g V X) 6 a 2 = some (a + 2) := qgR (Nat.lt_of_lt_of_le (Nat.lt_add_of_pos_right (by decide)) h.1) h.2.1 (by decide) rfl (by unfold qR; rw [h.2.2.1]; rfl)
theorem qN_g3 {a : Nat} (h : qN a) : zgR 216 (qH g V X) 6 a 3 = some (a + 3) := qgR (Nat.lt_of_lt_of_le (Nat.lt_add_of_pos_right (by decide)) h.1) h.2.1 (by decide) rfl (by unfold qR; rw [h.2.2.1]; rfl)
theorem qN_c {a : Nat} (h : qN a) : zck 216 (qH g V X) 6 a = some () := qck (Nat.lt_of_lt_of_le (Nat.lt_add_of_pos_right (by decide)) h.1) h.2.1 (by decide)
theorem qN_k1 {a : Nat} (h : qN a) : a + 1 < 216 ∧ qK (a + 1) = 20 ∧ qL (a + 1) = 40 := ⟨Nat.lt_of_lt_of_le (Nat.add_lt_add_left (by decide) a) h.1, h.2.2.2.1, h.2.2.2.2.2.2.1⟩
theorem qN_k2 {a : Nat} (h : qN a) : a + 2 < 216 ∧ qK (a + 2) = 20 ∧ qL (a + 2) = 40 := ⟨Nat.lt_of_lt_of_le (Nat.add_lt_add_left (by decide) a) h.1, h.2.2.2.2.1, h.2.2.2.2.2.2.2.1⟩
theorem qN_k3 {a : Nat} (h : qN a) : a + 3 < 216 ∧ qK (a + 3) = 20 ∧ qL (a + 3) = 40 := ⟨Nat.lt_of_lt_of_le (Nat.add_lt_add_left (by decide) a) h.1, h.2.2.2.2.2.1, h.2.2.2.2.2.2.2.2⟩
theorem qS_15 : qS 15 4 := by unfold qS; decide +kernel
theorem qS_23 : qS 23 4 := by unfold qS; decide +kernel
theorem qS_47 : qS 47 36 := by unfold qS; decide +kernel
theorem qS_151 : qS 151 140 := by unfold qS; decide +kernel
theorem qS_175 : qS 175 164 := by unfold qS; decide +kernel
theorem qS_ring : ∀ i, i < 9 → qS (67 + 8 * i) 4 := by unfold qS; decide +kernel
theorem qF_4 : qF 4 := by unfold qF; decide +kernel
theorem qF_36 : qF 36 := by unfold qF; decide +kernel
theorem qF_140 : qF 140 := by unfold qF; decide +kernel
theorem qF_164 : qF 164 := by unfold qF; decide +kernel
theorem qN_31 : qN 31 := by unfold qN; decide +kernel
theorem qN_61 : qN 61 := by unfold qN; decide +kernel
theorem qN_159 : qN 159 := by unfold qN; decide +kernel
theorem qN_183 : qN 183 := by unfold qN; decide +kernel
theorem q0_g0 : zgR 216 (qH g V X) 11 0 0 = some 1 := qgR (by decide) (by decide) (by decide) (by decide) (by decide)
theorem q0_g1 : zgR 216 (qH g V X) 11 0 1 = some 4 := qgR (by decide) (by decide) (by decide) (by decide) (by decide)
theorem q0_g2 : zgR 216 (qH g V X) 11 0 2 = some 15 := qgR (by decide) (by decide) (by decide) (by decide) (by decide)
theorem q0_g3 : zgR 216 (qH g V X) 11 0 3 = some 23 := qgR (by decide) (by decide) (by decide) (by decide) (by decide)
theorem q0_g4 : zgR 216 (qH g V X) 11 0 4 = some 31 := qgR (by decide) (by decide) (by decide) (by decide) (by decide)
theorem q0_g5 : zgR 216 (qH g V X) 11 0 5 = some 35 := qgR (by decide) (by decide) (by decide) (by decide) (by decide)
theorem q0_g6 : zgR 216 (qH g V X) 11 0 6 = some 56 := qgR (by decide) (by decide) (by decide) (by decide) (by decide)
theorem q0_g7 : zgR 216 (qH g V X) 11 0 7 = some 60 := qgR (by decide) (by decide) (by decide) (by decide) (by decide)
theorem q0_g8 : zgR 216 (qH g V X) 11 0 8 = some 65 := qgR (by decide) (by decide) (by decide) (by decide) (by decide)
theorem q0_g9 : zgR 216 (qH g V X) 11 0 9 = some 139 := qgR (by decide) (by decide) (by decide) (by decide) (by decide)
theorem q0_g10 : zgR 216 (qH g V X) 11 0 10 = some 163 := qgR (by decide) (by decide) (by decide) (by decide) (by decide)
theorem q0_g11 : zgR 216 (qH g V X) 11 0 11 = some 187 := qgR (by decide) (by decide) (by decide) (by decide) (by decide)
theorem q0_g12 : zgR 216 (qH g V X) 11 0 12 = some 191 := qgR (by decide) (by decide) (by decide) (by decide) (by decide)
theorem q0_g13 : zgR 216 (qH g V X) 11 0 13 = some 195 := qgR (by decide) (by decide) (by decide) (by decide) (by decide)
theorem q0_c : zck 216 (qH g V X) 11 0 = some () := qck (by decide) (by decide) (by decide)
theorem q1_g2 : zgI 216 (qH g V X) 9 1 2 = some (V 1 2) := qgI (by decide) (by decide) (by decide) (by decide)
theorem q1_p2 (x : Int32) : zpI 216 (qH g V X) 9 1 2 x = some (qH g (qw V 1 (upd (V 1) 2 x)) X) := qpI (by decide) (by decide) (by decide) (by decide)
theorem q1_g3 : zgI 216 (qH g V X) 9 1 3 = some (V 1 3) := qgI (by decide) (by decide) (by decide) (by decide)
theorem q1_p3 (x : Int32) : zpI 216 (qH g V X) 9 1 3 x = some (qH g (qw V 1 (upd (V 1) 3 x)) X) := qpI (by decide) (by decide) (by decide) (by decide)
theorem q1_g4 : zgI 216 (qH g V X) 9 1 4 = some (V 1 4) := qgI (by decide) (by decide) (by decide) (by decide)
theorem q1_p4 (x : Int32) : zpI 216 (qH g V X) 9 1 4 x = some (qH g (qw V 1 (upd (V 1) 4 x)) X) := qpI (by decide) (by decide) (by decide) (by decide)
theorem q1_g5 : zgI 216 (qH g V X) 9 1 5 = some (V 1 5) := qgI (by decide) (by decide) (by decide) (by decide)
theorem q1_p5 (x : Int32) : zpI 216 (qH g V X) 9 1 5 x = some (qH g (qw V 1 (upd (V 1) 5 x)) X) := qpI (by decide) (by decide) (by decide) (by decide)
theorem q1_g6 : zgI 216 (qH g V X) 9 1 6 = some (V 1 6) := qgI (by decide) (by decide) (by decide) (by decide)
theorem q1_p6 (x : Int32) : zpI 216 (qH g V X) 9 1 6 x = some (qH g (qw V 1 (upd (V 1) 6 x)) X) := qpI (by decide) (by decide) (by decide) (by decide)
theorem q1_g7 : zgI 216 (qH g V X) 9 1 7 = some (V 1 7) := qgI (by decide) (by decide) (by decide) (by decide)
theorem q1_p7 (x : Int32) : zpI 216 (qH g V X) 9 1 7 x = some (qH g (qw V 1 (upd (V 1) 7 x)) X) := qpI (by decide) (by decide) (by decide) (by decide)
theorem q1_g8 : zgI 216 (qH g V X) 9 1 8 = some (V 1 8) := qgI (by decide) (by decide) (by decide) (by decide)
theorem q1_p8 (x : Int32) : zpI 216 (qH g V X) 9 1 8 x = some (qH g (qw V 1 (upd (V 1) 8 x)) X) := qpI (by decide) (by decide) (by decide) (by decide)
theorem q1_g9 : zgL 216 (qH g V X) 9 1 9 = some (X 1 9) := qgL (by decide) (by decide) (by decide) (by decide)
theorem q1_p9 (x : Int64) : zpL 216 (qH g V X) 9 1 9 x = some (qH g V (qx X 1 (vp_updL (X 1) 9 x))) := qpL (by decide) (by decide) (by decide) (by decide)
theorem q1_g10 : zgI 216 (qH g V X) 9 1 10 = some (V 1 10) := qgI (by decide) (by decide) (by decide) (by decide)
theorem q1_p10 (x : Int32) : zpI 216 (qH g V X) 9 1 10 x = some (qH g (qw V 1 (upd (V 1) 10 x)) X) := qpI (by decide) (by decide) (by decide) (by decide)
theorem q1_g11 : zgI 216 (qH g V X) 9 1 11 = some (V 1 11) := qgI (by decide) (by decide) (by decide) (by decide)
theorem q1_p11 (x : Int32) : zpI 216 (qH g V X) 9 1 11 x = some (qH g (qw V 1 (upd (V 1) 11 x)) X) := qpI (by decide) (by decide) (by decide) (by decide)
theorem q1_g0 : zgR 216 (qH g V X) 9 1 0 = some 2 := qgR (by decide) (by decide) (by decide) (by decide) (by decide)
theorem q1_g1 : zgR 216 (qH g V X) 9 1 1 = some 3 := qgR (by decide) (by decide) (by decide) (by decide) (by decide)
theorem q1_c : zck 216 (qH g V X) 9 1 = some () := qck (by decide) (by decide) (by decide)
theorem q35_g4 : zgI 216 (qH g V X) 3 35 4 = some (V 35 4) := qgI (by decide) (by decide) (by decide) (by decide)
theorem q35_p4 (x : Int32) (hx : x = 0 ∨ x = 1) : zpZ 216 (qH g V X) 3 35 4 x = some (qH g (qw V 35 (upd (V 35) 4 x)) X) := qpZ (by decide) (by decide) (by decide) (by decide) hx
theorem q35_g5 : zgI 216 (qH g V X) 3 35 5 = some (V 35 5) := qgI (by decide) (by decide) (by decide) (by decide)
theorem q35_p5 (x : Int32) (hx : x = 0 ∨ x = 1) : zpZ 216 (qH g V X) 3 35 5 x = some (qH g (qw V 35 (upd (V 35) 5 x)) X) := qpZ (by decide) (by decide) (by decide) (by decide) hx
theorem q35_g0 : zgR 216 (qH g V X) 3 35 0 = some 1 := qgR (by decide) (by decide) (by decide) (by decide) (by decide)
theorem q35_g1 : zgR 216 (qH g V X) 3 35 1 = some 36 := qgR (by decide) (by decide) (by decide) (by decide) (by decide)
theorem q35_g2 : zgR 216 (qH g V X) 3 35 2 = some 47 := qgR (by decide) (by decide) (by decide) (by decide) (by decide)
theorem q35_g3 : zgR 216 (qH g V X) 3 35 3 = some 55 := qgR (by decide) (by decide) (by decide) (by decide) (by decide)
theorem q35_c : zck 216 (qH g V X) 3 35 = some () := qck (by decide) (by decide) (by decide)
theorem q56_g2 : zgI 216 (qH g V X) 1 56 2 = some (V 56 2) := qgI (by decide) (by decide) (by decide) (by decide)
theorem q56_p2 (x : Int32) : zpI 216 (qH g V X) 1 56 2 x = some (qH g (qw V 56 (upd (V 56) 2 x)) X) := qpI (by decide) (by decide) (by decide) (by decide)
theorem q56_g0 : zgR 216 (qH g V X) 1 56 0 = some 1 := qgR (by decide) (by decide) (by decide) (by decide) (by decide)
theorem q56_g1 : zgR 216 (qH g V X) 1 56 1 = some 4 := qgR (by decide) (by decide) (by decide) (by decide) (by decide)
theorem q56_g3 : zgR 216 (qH g V X) 1 56 3 = some 57 := qgR (by decide) (by decide) (by decide) (by decide) (by decide)
theorem q56_g4 : zgR 216 (qH g V X) 1 56 4 = some 58 := qgR (by decide) (by decide) (by decide) (by decide) (by decide)
theorem q56_g5 : zgR 216 (qH g V X) 1 56 5 = some 59 := qgR (by decide) (by decide) (by decide) (by decide) (by decide)
theorem q56_c : zck 216 (qH g V X) 1 56 = some () := qck (by decide) (by decide) (by decide)
theorem q60_g3 : zgI 216 (qH g V X) 7 60 3 = some (V 60 3) := qgI (by decide) (by decide) (by decide) (by decide)
theorem q60_p3 (x : Int32) : zpI 216 (qH g V X) 7 60 3 x = some (qH g (qw V 60 (upd (V 60) 3 x)) X) := qpI (by decide) (by decide) (by decide) (by decide)
theorem q60_g0 : zgR 216 (qH g V X) 7 60 0 = some 1 := qgR (by decide) (by decide) (by decide) (by decide) (by decide)
theorem q60_g1 : zgR 216 (qH g V X) 7 60 1 = some 4 := qgR (by decide) (by decide) (by decide) (by decide) (by decide)
theorem q60_g2 : zgR 216 (qH g V X) 7 60 2 = some 61 := qgR (by decide) (by decide) (by decide) (by decide) (by decide)
theorem q60_c : zck 216 (qH g V X) 7 60 = some () := qck (by decide) (by decide) (by decide)
theorem q65_g1 : zgI 216 (qH g V X) 10 65 1 = some (V 65 1) := qgI (by decide) (by decide) (by decide) (by decide)
theorem q65_p1 (x : Int32) : zpI 216 (qH g V X) 10 65 1 x = some (qH g (qw V 65 (upd (V 65) 1 x)) X) := qpI (by decide) (by decide) (by decide) (by decide)
theorem q65_g2 : zgI 216 (qH g V X) 10 65 2 = some (V 65 2) := qgI (by decide) (by decide) (by decide) (by decide)
theorem q65_p2 (x : Int32) : zpI 216 (qH g V X) 10 65 2 x = some (qH g (qw V 65 (upd (V 65) 2 x)) X) := qpI (by decide) (by decide) (by decide) (by decide)
theorem q65_g0 : zgR 216 (qH g V X) 10 65 0 = some 66 := qgR (by decide) (by decide) (by decide) (by decide) (by decide)
theorem q65_c : zck 216 (qH g V X) 10 65 = some () := qck (by decide) (by decide) (by decide)
theorem q139_g3 : zgI 216 (qH g V X) 5 139 3 = some (V 139 3) := qgI (by decide) (by decide) (by decide) (by decide)
theorem q139_p3 (x : Int32) (hx : x = 0 ∨ x = 1) : zpZ 216 (qH g V X) 5 139 3 x = some (qH g (qw V 139 (upd (V 139) 3 x)) X) := qpZ (by decide) (by decide) (by decide) (by decide) hx
theorem q139_g0 : zgR 216 (qH g V X) 5 139 0 = some 140 := qgR (by decide) (by decide) (by decide) (by decide) (by decide)
theorem q139_g1 : zgR 216 (qH g V X) 5 139 1 = some 151 := qgR (by decide) (by decide) (by decide) (by decide) (by decide)
theorem q139_g2 : zgR 216 (qH g V X) 5 139 2 = some 159 := qgR (by decide) (by decide) (by decide) (by decide) (by decide)
theorem q139_c : zck 216 (qH g V X) 5 139 = some () := qck (by decide) (by decide) (by decide)
theorem q163_g3 : zgI 216 (qH g V X) 5 163 3 = some (V 163 3) := qgI (by decide) (by decide) (by decide) (by decide)
theorem q163_p3 (x : Int32) (hx : x = 0 ∨ x = 1) : zpZ 216 (qH g V X) 5 163 3 x = some (qH g (qw V 163 (upd (V 163) 3 x)) X) := qpZ (by decide) (by decide) (by decide) (by decide) hx
theorem q163_g0 : zgR 216 (qH g V X) 5 163 0 = some 164 := qgR (by decide) (by decide) (by decide) (by decide) (by decide)
theorem q163_g1 : zgR 216 (qH g V X) 5 163 1 = some 175 := qgR (by decide) (by decide) (by decide) (by decide) (by decide)
theorem q163_g2 : zgR 216 (qH g V X) 5 163 2 = some 183 := qgR (by decide) (by decide) (by decide) (by decide) (by decide)
theorem q163_c : zck 216 (qH g V X) 5 163 = some () := qck (by decide) (by decide) (by decide)
theorem q187_g1 : zgI 216 (qH g V X) 4 187 1 = some (V 187 1) := qgI (by decide) (by decide) (by decide) (by decide)
theorem q187_p1 (x : Int32) : zpI 216 (qH g V X) 4 187 1 x = some (qH g (qw V 187 (upd (V 187) 1 x)) X) := qpI (by decide) (by decide) (by decide) (by decide)
theorem q187_g2 : zgI 216 (qH g V X) 4 187 2 = some (V 187 2) := qgI (by decide) (by decide) (by decide) (by decide)
theorem q187_p2 (x : Int32) : zpI 216 (qH g V X) 4 187 2 x = some (qH g (qw V 187 (upd (V 187) 2 x)) X) := qpI (by decide) (by decide) (by decide) (by decide)
theorem q187_g4 : zgI 216 (qH g V X) 4 187 4 = some (V 187 4) := qgI (by decide) (by decide) (by decide) (by decide)
theorem q187_p4 (x : Int32) : zpI 216 (qH g V X) 4 187 4 x = some (qH g (qw V 187 (upd (V 187) 4 x)) X) := qpI (by decide) (by decide) (by decide) (by decide)
theorem q187_g0 : zgR 216 (qH g V X) 4 187 0 = some 188 := qgR (by decide) (by decide) (by decide) (by decide) (by decide)
theorem q187_g3 : zgR 216 (qH g V X) 4 187 3 = some 189 := qgR (by decide) (by decide) (by decide) (by decide) (by decide)
theorem q187_g5 : zgR 216 (qH g V X) 4 187 5 = some 190 := qgR (by decide) (by decide) (by decide) (by decide) (by decide)
theorem q187_c : zck 216 (qH g V X) 4 187 = some () := qck (by decide) (by decide) (by decide)
theorem q191_g0 : zgI 216 (qH g V X) 0 191 0 = some (V 191 0) := qgI (by decide) (by decide) (by decide) (by decide)
theorem q191_p0 (x : Int32) : zpI 216 (qH g V X) 0 191 0 x = some (qH g (qw V 191 (upd (V 191) 0 x)) X) := qpI (by decide) (by decide) (by decide) (by decide)
theorem q191_g2 : zgI 216 (qH g V X) 0 191 2 = some (V 191 2) := qgI (by decide) (by decide) (by decide) (by decide)
theorem q191_p2 (x : Int32) : zpI 216 (qH g V X) 0 191 2 x = some (qH g (qw V 191 (upd (V 191) 2 x)) X) := qpI (by decide) (by decide) (by decide) (by decide)
theorem q191_g3 : zgI 216 (qH g V X) 0 191 3 = some (V 191 3) := qgI (by decide) (by decide) (by decide) (by decide)
theorem q191_p3 (x : Int32) : zpI 216 (qH g V X) 0 191 3 x = some (qH g (qw V 191 (upd (V 191) 3 x)) X) := qpI (by decide) (by decide) (by decide) (by decide)
theorem q191_g4 : zgI 216 (qH g V X) 0 191 4 = some (V 191 4) := qgI (by decide) (by decide) (by decide) (by decide)
theorem q191_p4 (x : Int32) : zpI 216 (qH g V X) 0 191 4 x = some (qH g (qw V 191 (upd (V 191) 4 x)) X) := qpI (by decide) (by decide) (by decide) (by decide)
theorem q191_g6 : zgI 216 (qH g V X) 0 191 6 = some (V 191 6) := qgI (by decide) (by decide) (by decide) (by decide)
theorem q191_p6 (x : Int32) : zpI 216 (qH g V X) 0 191 6 x = some (qH g (qw V 191 (upd (V 191) 6 x)) X) := qpI (by decide) (by decide) (by decide) (by decide)
theorem q191_g8 : zgI 216 (qH g V X) 0 191 8 = some (V 191 8) := qgI (by decide) (by decide) (by decide) (by decide)
theorem q191_p8 (x : Int32) (hx : x = 0 ∨ x = 1) : zpZ 216 (qH g V X) 0 191 8 x = some (qH g (qw V 191 (upd (V 191) 8 x)) X) := qpZ (by decide) (by decide) (by decide) (by decide) hx
theorem q191_g1 : zgR 216 (qH g V X) 0 191 1 = some 192 := qgR (by decide) (by decide) (by decide) (by decide) (by decide)
theorem q191_g5 : zgR 216 (qH g V X) 0 191 5 = some 193 := qgR (by decide) (by decide) (by decide) (by decide) (by decide)
theorem q191_g7 : zgR 216 (qH g V X) 0 191 7 = some 194 := qgR (by decide) (by decide) (by decide) (by decide) (by decide)
theorem q191_c : zck 216 (qH g V X) 0 191 = some () := qck (by decide) (by decide) (by decide)
theorem q196_g0 : zgI 216 (qH g V X) 12 196 0 = some (V 196 0) := qgI (by decide) (by decide) (by decide) (by decide)
theorem q196_p0 (x : Int32) : zpI 216 (qH g V X) 12 196 0 x = some (qH g (qw V 196 (upd (V 196) 0 x)) X) := qpI (by decide) (by decide) (by decide) (by decide)
theorem q196_g2 : zgI 216 (qH g V X) 12 196 2 = some (V 196 2) := qgI (by decide) (by decide) (by decide) (by decide)
theorem q196_p2 (x : Int32) : zpI 216 (qH g V X) 12 196 2 x = some (qH g (qw V 196 (upd (V 196) 2 x)) X) := qpI (by decide) (by decide) (by decide) (by decide)
theorem q196_g3 : zgI 216 (qH g V X) 12 196 3 = some (V 196 3) := qgI (by decide) (by decide) (by decide) (by decide)
theorem q196_p3 (x : Int32) : zpI 216 (qH g V X) 12 196 3 x = some (qH g (qw V 196 (upd (V 196) 3 x)) X) := qpI (by decide) (by decide) (by decide) (by decide)
theorem q196_g4 : zgI 216 (qH g V X) 12 196 4 = some (V 196 4) := qgI (by decide) (by decide) (by decide) (by decide)
theorem q196_p4 (x : Int32) : zpI 216 (qH g V X) 12 196 4 x = some (qH g (qw V 196 (upd (V 196) 4 x)) X) := qpI (by decide) (by decide) (by decide) (by decide)
theorem q196_g5 : zgI 216 (qH g V X) 12 196 5 = some (V 196 5) := qgI (by decide) (by decide) (by decide) (by decide)
theorem q196_p5 (x : Int32) : zpI 216 (qH g V X) 12 196 5 x = some (qH g (qw V 196 (upd (V 196) 5 x)) X) := qpI (by decide) (by decide) (by decide) (by decide)
theorem q196_g11 : zgI 216 (qH g V X) 12 196 11 = some (V 196 11) := qgI (by decide) (by decide) (by decide) (by decide)
theorem q196_p11 (x : Int32) : zpI 216 (qH g V X) 12 196 11 x = some (qH g (qw V 196 (upd (V 196) 11 x)) X) := qpI (by decide) (by decide) (by decide) (by decide)
theorem q196_g12 : zgI 216 (qH g V X) 12 196 12 = some (V 196 12) := qgI (by decide) (by decide) (by decide) (by decide)
theorem q196_p12 (x : Int32) : zpI 216 (qH g V X) 12 196 12 x = some (qH g (qw V 196 (upd (V 196) 12 x)) X) := qpI (by decide) (by decide) (by decide) (by decide)
theorem q196_g13 : zgI 216 (qH g V X) 12 196 13 = some (V 196 13) := qgI (by decide) (by decide) (by decide) (by decide)
theorem q196_p13 (x : Int32) : zpI 216 (qH g V X) 12 196 13 x = some (qH g (qw V 196 (upd (V 196) 13 x)) X) := qpI (by decide) (by decide) (by decide) (by decide)
theorem q196_g14 : zgI 216 (qH g V X) 12 196 14 = some (V 196 14) := qgI (by decide) (by decide) (by decide) (by decide)
theorem q196_p14 (x : Int32) : zpI 216 (qH g V X) 12 196 14 x = some (qH g (qw V 196 (upd (V 196) 14 x)) X) := qpI (by decide) (by decide) (by decide) (by decide)
theorem q196_g15 : zgI 216 (qH g V X) 12 196 15 = some (V 196 15) := qgI (by decide) (by decide) (by decide) (by decide)
theorem q196_p15 (x : Int32) : zpI 216 (qH g V X) 12 196 15 x = some (qH g (qw V 196 (upd (V 196) 15 x)) X) := qpI (by decide) (by decide) (by decide) (by decide)
theorem q196_g16 : zgI 216 (qH g V X) 12 196 16 = some (V 196 16) := qgI (by decide) (by decide) (by decide) (by decide)
theorem q196_p16 (x : Int32) : zpI 216 (qH g V X) 12 196 16 x = some (qH g (qw V 196 (upd (V 196) 16 x)) X) := qpI (by decide) (by decide) (by decide) (by decide)
theorem q196_g17 : zgL 216 (qH g V X) 12 196 17 = some (X 196 17) := qgL (by decide) (by decide) (by decide) (by decide)
theorem q196_p17 (x : Int64) : zpL 216 (qH g V X) 12 196 17 x = some (qH g V (qx X 196 (vp_updL (X 196) 17 x))) := qpL (by decide) (by decide) (by decide) (by decide)
theorem q196_g18 : zgI 216 (qH g V X) 12 196 18 = some (V 196 18) := qgI (by decide) (by decide) (by decide) (by decide)
theorem q196_p18 (x : Int32) : zpI 216 (qH g V X) 12 196 18 x = some (qH g (qw V 196 (upd (V 196) 18 x)) X) := qpI (by decide) (by decide) (by decide) (by decide)
theorem q196_g19 : zgI 216 (qH g V X) 12 196 19 = some (V 196 19) := qgI (by decide) (by decide) (by decide) (by decide)
theorem q196_p19 (x : Int32) : zpI 216 (qH g V X) 12 196 19 x = some (qH g (qw V 196 (upd (V 196) 19 x)) X) := qpI (by decide) (by decide) (by decide) (by decide)
theorem q196_g20 : zgI 216 (qH g V X) 12 196 20 = some (V 196 20) := qgI (by decide) (by decide) (by decide) (by decide)
theorem q196_p20 (x : Int32) (hx : x = 0 ∨ x = 1) : zpZ 216 (qH g V X) 12 196 20 x = some (qH g (qw V 196 (upd (V 196) 20 x)) X) := qpZ (by decide) (by decide) (by decide) (by decide) hx
theorem q196_g23 : zgI 216 (qH g V X) 12 196 23 = some (V 196 23) := qgI (by decide) (by decide) (by decide) (by decide)
theorem q196_p23 (x : Int32) : zpI 216 (qH g V X) 12 196 23 x = some (qH g (qw V 196 (upd (V 196) 23 x)) X) := qpI (by decide) (by decide) (by decide) (by decide)
theorem q196_g24 : zgI 216 (qH g V X) 12 196 24 = some (V 196 24) := qgI (by decide) (by decide) (by decide) (by decide)
theorem q196_p24 (x : Int32) : zpI 216 (qH g V X) 12 196 24 x = some (qH g (qw V 196 (upd (V 196) 24 x)) X) := qpI (by decide) (by decide) (by decide) (by decide)
theorem q196_g25 : zgI 216 (qH g V X) 12 196 25 = some (V 196 25) := qgI (by decide) (by decide) (by decide) (by decide)
theorem q196_p25 (x : Int32) (hx : x = 0 ∨ x = 1) : zpZ 216 (qH g V X) 12 196 25 x = some (qH g (qw V 196 (upd (V 196) 25 x)) X) := qpZ (by decide) (by decide) (by decide) (by decide) hx
theorem q196_g27 : zgI 216 (qH g V X) 12 196 27 = some (V 196 27) := qgI (by decide) (by decide) (by decide) (by decide)
theorem q196_p27 (x : Int32) : zpI 216 (qH g V X) 12 196 27 x = some (qH g (qw V 196 (upd (V 196) 27 x)) X) := qpI (by decide) (by decide) (by decide) (by decide)
theorem q196_g28 : zgI 216 (qH g V X) 12 196 28 = some (V 196 28) := qgI (by decide) (by decide) (by decide) (by decide)
theorem q196_p28 (x : Int32) : zpI 216 (qH g V X) 12 196 28 x = some (qH g (qw V 196 (upd (V 196) 28 x)) X) := qpI (by decide) (by decide) (by decide) (by decide)
theorem q196_g29 : zgI 216 (qH g V X) 12 196 29 = some (V 196 29) := qgI (by decide) (by decide) (by decide) (by decide)
theorem q196_p29 (x : Int32) (hx : x = 0 ∨ x = 1) : zpZ 216 (qH g V X) 12 196 29 x = some (qH g (qw V 196 (upd (V 196) 29 x)) X) := qpZ (by decide) (by decide) (by decide) (by decide) hx
theorem q196_g32 : zgI 216 (qH g V X) 12 196 32 = some (V 196 32) := qgI (by decide) (by decide) (by decide) (by decide)
theorem q196_p32 (x : Int32) : zpI 216 (qH g V X) 12 196 32 x = some (qH g (qw V 196 (upd (V 196) 32 x)) X) := qpI (by decide) (by decide) (by decide) (by decide)
theorem q196_g33 : zgI 216 (qH g V X) 12 196 33 = some (V 196 33) := qgI (by decide) (by decide) (by decide) (by decide)
theorem q196_p33 (x : Int32) : zpI 216 (qH g V X) 12 196 33 x = some (qH g (qw V 196 (upd (V 196) 33 x)) X) := qpI (by decide) (by decide) (by decide) (by decide)
theorem q196_g35 : zgI 216 (qH g V X) 12 196 35 = some (V 196 35) := qgI (by decide) (by decide) (by decide) (by decide)
theorem q196_p35 (x : Int32) : zpI 216 (qH g V X) 12 196 35 x = some (qH g (qw V 196 (upd (V 196) 35 x)) X) := qpI (by decide) (by decide) (by decide) (by decide)
theorem q196_g36 : zgI 216 (qH g V X) 12 196 36 = some (V 196 36) := qgI (by decide) (by decide) (by decide) (by decide)
theorem q196_p36 (x : Int32) : zpI 216 (qH g V X) 12 196 36 x = some (qH g (qw V 196 (upd (V 196) 36 x)) X) := qpI (by decide) (by decide) (by decide) (by decide)
theorem q196_g37 : zgI 216 (qH g V X) 12 196 37 = some (V 196 37) := qgI (by decide) (by decide) (by decide) (by decide)
theorem q196_p37 (x : Int32) : zpI 216 (qH g V X) 12 196 37 x = some (qH g (qw V 196 (upd (V 196) 37 x)) X) := qpI (by decide) (by decide) (by decide) (by decide)
theorem q196_g39 : zgI 216 (qH g V X) 12 196 39 = some (V 196 39) := qgI (by decide) (by decide) (by decide) (by decide)
theorem q196_p39 (x : Int32) (hx : x = 0 ∨ x = 1) : zpZ 216 (qH g V X) 12 196 39 x = some (qH g (qw V 196 (upd (V 196) 39 x)) X) := qpZ (by decide) (by decide) (by decide) (by decide) hx
theorem q196_g41 : zgI 216 (qH g V X) 12 196 41 = some (V 196 41) := qgI (by decide) (by decide) (by decide) (by decide)
theorem q196_p41 (x : Int32) : zpI 216 (qH g V X) 12 196 41 x = some (qH g (qw V 196 (upd (V 196) 41 x)) X) := qpI (by decide) (by decide) (by decide) (by decide)
theorem q196_g42 : zgI 216 (qH g V X) 12 196 42 = some (V 196 42) := qgI (by decide) (by decide) (by decide) (by decide)
theorem q196_p42 (x : Int32) : zpI 216 (qH g V X) 12 196 42 x = some (qH g (qw V 196 (upd (V 196) 42 x)) X) := qpI (by decide) (by decide) (by decide) (by decide)
theorem q196_g43 : zgI 216 (qH g V X) 12 196 43 = some (V 196 43) := qgI (by decide) (by decide) (by decide) (by decide)
theorem q196_p43 (x : Int32) : zpI 216 (qH g V X) 12 196 43 x = some (qH g (qw V 196 (upd (V 196) 43 x)) X) := qpI (by decide) (by decide) (by decide) (by decide)
theorem q196_g44 : zgI 216 (qH g V X) 12 196 44 = some (V 196 44) := qgI (by decide) (by decide) (by decide) (by decide)
theorem q196_p44 (x : Int32) : zpI 216 (qH g V X) 12 196 44 x = some (qH g (qw V 196 (upd (V 196) 44 x)) X) := qpI (by decide) (by decide) (by decide) (by decide)
theorem q196_g45 : zgI 216 (qH g V X) 12 196 45 = some (V 196 45) := qgI (by decide) (by decide) (by decide) (by decide)
theorem q196_p45 (x : Int32) (hx : x = 0 ∨ x = 1) : zpZ 216 (qH g V X) 12 196 45 x = some (qH g (qw V 196 (upd (V 196) 45 x)) X) := qpZ (by decide) (by decide) (by decide) (by decide) hx
theorem q196_g1 : zgR 216 (qH g V X) 12 196 1 = some 197 := qgR (by decide) (by decide) (by decide) (by decide) (by decide)
theorem q196_g6 : zgR 216 (qH g V X) 12 196 6 = some 198 := qgR (by decide) (by decide) (by decide) (by decide) (by decide)
theorem q196_g7 : zgR 216 (qH g V X) 12 196 7 = some 199 := qgR (by decide) (by decide) (by decide) (by decide) (by decide)
theorem q196_g8 : zgR 216 (qH g V X) 12 196 8 = some 200 := qgR (by decide) (by decide) (by decide) (by decide) (by decide)
theorem q196_g9 : zgR 216 (qH g V X) 12 196 9 = some 201 := qgR (by decide) (by decide) (by decide) (by decide) (by decide)
theorem q196_g10 : zgR 216 (qH g V X) 12 196 10 = some 202 := qgR (by decide) (by decide) (by decide) (by decide) (by decide)
theorem q196_g21 : zgR 216 (qH g V X) 12 196 21 = some 203 := qgR (by decide) (by decide) (by decide) (by decide) (by decide)
theorem q196_g22 : zgR 216 (qH g V X) 12 196 22 = some 204 := qgR (by decide) (by decide) (by decide) (by decide) (by decide)
theorem q196_g26 : zgR 216 (qH g V X) 12 196 26 = some 205 := qgR (by decide) (by decide) (by decide) (by decide) (by decide)
theorem q196_g30 : zgR 216 (qH g V X) 12 196 30 = some 206 := qgR (by decide) (by decide) (by decide) (by decide) (by decide)
theorem q196_g31 : zgR 216 (qH g V X) 12 196 31 = some 207 := qgR (by decide) (by decide) (by decide) (by decide) (by decide)
theorem q196_g34 : zgR 216 (qH g V X) 12 196 34 = some 208 := qgR (by decide) (by decide) (by decide) (by decide) (by decide)
theorem q196_g38 : zgR 216 (qH g V X) 12 196 38 = some 209 := qgR (by decide) (by decide) (by decide) (by decide) (by decide)
theorem q196_g40 : zgR 216 (qH g V X) 12 196 40 = some 210 := qgR (by decide) (by decide) (by decide) (by decide) (by decide)
theorem q196_g46 : zgR 216 (qH g V X) 12 196 46 = some 211 := qgR (by decide) (by decide) (by decide) (by decide) (by decide)
theorem q196_g47 : zgR 216 (qH g V X) 12 196 47 = some 212 := qgR (by decide) (by decide) (by decide) (by decide) (by decide)
theorem q196_g48 : zgR 216 (qH g V X) 12 196 48 = some 213 := qgR (by decide) (by decide) (by decide) (by decide) (by decide)
theorem q196_g49 : zgR 216 (qH g V X) 12 196 49 = some 214 := qgR (by decide) (by decide) (by decide) (by decide) (by decide)
theorem q196_c : zck 216 (qH g V X) 12 196 = some () := qck (by decide) (by decide) (by decide)
theorem qk_2 : 2 < 216 ∧ qK 2 = 22 ∧ qL 2 = 940 := by decide +kernel
theorem qk_3 : 3 < 216 ∧ qK 3 = 21 ∧ qL 3 = 27 := by decide +kernel
theorem qk_55 : 55 < 216 ∧ qK 55 = 20 ∧ qL 55 = 9 := by decide +kernel
theorem qk_57 : 57 < 216 ∧ qK 57 = 20 ∧ qL 57 = 40 := by decide +kernel
theorem qk_58 : 58 < 216 ∧ qK 58 = 20 ∧ qL 58 = 40 := by decide +kernel
theorem qk_59 : 59 < 216 ∧ qK 59 = 20 ∧ qL 59 = 40 := by decide +kernel
theorem qk_188 : 188 < 216 ∧ qK 188 = 20 ∧ qL 188 = 36 := by decide +kernel
theorem qk_189 : 189 < 216 ∧ qK 189 = 20 ∧ qL 189 = 8 := by decide +kernel
theorem qk_190 : 190 < 216 ∧ qK 190 = 20 ∧ qL 190 = 468 := by decide +kernel
theorem qk_192 : 192 < 216 ∧ qK 192 = 20 ∧ qL 192 = 5 := by decide +kernel
theorem qk_193 : 193 < 216 ∧ qK 193 = 20 ∧ qL 193 = 40 := by decide +kernel
theorem qk_194 : 194 < 216 ∧ qK 194 = 20 ∧ qL 194 = 4 := by decide +kernel
theorem qk_195 : 195 < 216 ∧ qK 195 = 20 ∧ qL 195 = 20 := by decide +kernel
theorem qk_197 : 197 < 216 ∧ qK 197 = 22 ∧ qL 197 = 940 := by decide +kernel
theorem qk_198 : 198 < 216 ∧ qK 198 = 20 ∧ qL 198 = 431 := by decide +kernel
theorem qk_199 : 199 < 216 ∧ qK 199 = 20 ∧ qL 199 = 139 := by decide +kernel
theorem qk_200 : 200 < 216 ∧ qK 200 = 20 ∧ qL 200 = 135 := by decide +kernel
theorem qk_201 : 201 < 216 ∧ qK 201 = 21 ∧ qL 201 = 30 := by decide +kernel
theorem qk_202 : 202 < 216 ∧ qK 202 = 21 ∧ qL 202 = 27 := by decide +kernel
theorem qk_203 : 203 < 216 ∧ qK 203 = 20 ∧ qL 203 = 888 := by decide +kernel
theorem qk_204 : 204 < 216 ∧ qK 204 = 20 ∧ qL 204 = 111 := by decide +kernel
theorem qk_205 : 205 < 216 ∧ qK 205 = 20 ∧ qL 205 = 5 := by decide +kernel
theorem qk_206 : 206 < 216 ∧ qK 206 = 20 ∧ qL 206 = 36 := by decide +kernel
theorem qk_207 : 207 < 216 ∧ qK 207 = 20 ∧ qL 207 = 468 := by decide +kernel
theorem qk_208 : 208 < 216 ∧ qK 208 = 22 ∧ qL 208 = 40 := by decide +kernel
theorem qk_209 : 209 < 216 ∧ qK 209 = 20 ∧ qL 209 = 4 := by decide +kernel
theorem qk_210 : 210 < 216 ∧ qK 210 = 20 ∧ qL 210 = 45 := by decide +kernel
theorem qk_211 : 211 < 216 ∧ qK 211 = 23 ∧ qL 211 = 45 := by decide +kernel
theorem qk_212 : 212 < 216 ∧ qK 212 = 20 ∧ qL 212 = 862 := by decide +kernel
theorem qk_213 : 213 < 216 ∧ qK 213 = 21 ∧ qL 213 = 30 := by decide +kernel
theorem qk_214 : 214 < 216 ∧ qK 214 = 23 ∧ qL 214 = 2 := by decide +kernel
theorem qk_215 : 215 < 216 ∧ qK 215 = 21 ∧ qL 215 = 1 := by decide +kernel
end QA
