/-! a field: the reference's lines -/
section QFI
variable {g : zF} {V W U K C : Nat → Nat → Int32} {X Y Z D : Nat → Nat → Int64} {N n m p o k pl d e c ln w : Nat} {s t u B h r : Nat → Nat} {q : Nat → List Nat} {fl : Bool}
/-- what reading a line comes to in the reference -/
def gRel (B : Nat → Nat) (n m : Nat) (fl : Bool) (V : Nat → Nat → Int32) (X : Nat → Nat → Int64) (W : Nat → Nat → Int32) (Y : Nat → Nat → Int64) (z : Int32) : fR → Prop
  | .error (k, pl) => z = Int32.ofNat 0 ∧ mFl W k pl ∧ gFr V W X Y
  | .ok (p, h, q) => z = Int32.ofNat 1 ∧ gN B n m fl W Y p h ∧ gX Y h q ∧ gFr V W X Y
theorem gRel_e {a : aA} {h2 : Nat → Nat} {q2 : Nat → List Nat} {k pl : Nat} (he : a = .error (k, pl)) (h1 : mFl W k pl) (hf : gFr V W X Y) : gRel B n m fl V X W Y (Int32.ofNat 0) (fMk a h2 q2) := by
  rw [he]
  exact ⟨rfl, h1, hf⟩
theorem gRel_o {a : aA} {h2 : Nat → Nat} {q2 : Nat → List Nat} (he : a = .ok p) (h1 : gN B n m fl W Y p h2) (hx : gX Y h2 q2) (hf : gFr V W X Y) : gRel B n m fl V X W Y (Int32.ofNat 1) (fMk a h2 q2) := by
  rw [he]
  exact ⟨rfl, h1, hx, hf⟩
theorem gX.cg (hX : gX X h q) (e1 : Y 201 = X 201) (e2 : Y 202 = X 202) : gX Y h q := by
  unfold gX wMsR at hX ⊢
  rw [e1, e2]
  exact hX
theorem gX.row (hX : gX X h q) (e2 : r 2 = h 2) (e3 : r 3 = h 3) (e4 : r 4 = h 4) : gX X r q := by
  unfold gX at hX ⊢
  rw [e2, e3, e4]
  exact hX
/-- the first word of a line read on -/
theorem G_adv (hN : 3000 ≤ N) (h0 : gN B n m fl V X p h) (hk : (tTok B n m p).1 = 4) {f : zF → Option (zF × Int32)} {R : (Nat → Nat → Int32) → (Nat → Nat → Int64) → Int32 → Prop} (hO : ∀ W Y, gN B n m fl W Y (tTok B n m p).2.2.1 h → gFr V W X Y → Y 201 = X 201 → Y 202 = X 202 → hV g (f (qH g W Y)) R) : hV g ((fX12_next N 216 (qH g V X) 196).bind f) R := by
  refine hV_bind (mN.adv hN h0.1 (by omega) (by omega)) (fun W Y hx => ?_)
  obtain ⟨x1, x2, x3, x4, x5⟩ := hx
  exact hO W Y (h0.fr x1 x3 x2) x2.gf (x2.2.2 201 (by decide)) (x2.2.2 202 (by decide))
theorem g_one {f : zF} : ((zbl (1 : Int32)).bind fun y => some (f, y)) = some (f, Int32.ofNat 1) := rfl
theorem M_size (hN : 3000 ≤ N) (h0 : gN B n m fl V X p h) (hk : (tTok B n m p).1 = 4) (hX : gX X h q) : hV g (fX12_readField N 216 (qH g V X) 196) (fun W Y z => gRel B n m true V X W Y z (if fl = true then .error (3, (tTok B n m p).2.1) else fMk (szA2 B n m (tTok B n m p).2.2.1).2 (sU (sU h 0 (szA1 B n m (tTok B n m p).2.2.1).1) 1 (szA2 B n m (tTok B n m p).2.2.1).1) q)) := by
  unfold fX12_readField
  rw [q196_g20, Option.bind_some, h0.2.2.1]
  cases fl with
  | true =>
    rw [if_neg qzt, if_pos rfl, q196_c, Option.bind_some]
    exact m_badS h0.1 (k := 3) (fun W Y a b => ⟨rfl, a, b.gf⟩)
  | false =>
    rw [if_pos qzf, if_neg (show ¬ false = true by decide), q196_p20 _ (Or.inr rfl), Option.bind_some, q196_c, Option.bind_some]
    have h1 : gN B n m true (qw V 196 (upd (V 196) 20 1)) X p h := ⟨h0.1.put (j := 20) (by omega), by rw [qw_s, upd_n (by decide)]; exact h0.2.1, by rw [qw_s, upd_s]; rfl, fun j hj => by rw [qw_n (by decide)]; exact h0.2.2.2 j hj⟩
    have hf1 : gFr V (qw V 196 (upd (V 196) 20 1)) X X := ⟨fun j a b c => by rw [qw_s, upd_n c], fun b x y => qw_n x, fun _ _ _ => rfl, fun _ _ => rfl⟩
    refine G_adv hN h1 hk (fun W Y a1 a2 a3 a4 => ?_)
    rw [q196_c, Option.bind_some]
    refine G_puts hN (i := 0) (lo := 2) (hi := 9) (by omega) (by omega) (by omega) a1 (fun W2 Y2 k pl e1 e2 e3 => ?_) (fun W2 Y2 p1 e1 e2 e3 e4 e5 => ?_)
    · have e6 : (szA2 B n m (tTok B n m p).2.2.1).2 = .error (k, pl) := by
        unfold szA2 szA1
        rw [e1]; rfl
      exact gRel_e e6 e2 ((hf1.tr a2).tr e3)
    rw [q196_c, Option.bind_some]
    have e7 : szA2 B n m (tTok B n m p).2.2.1 = rdNum B n m 2 9 (.ok p1) := by
      unfold szA2 szA1
      rw [e1]
    rw [e7]
    refine G_puts hN (i := 1) (lo := 2) (hi := 9) (by omega) (by omega) (by omega) e2 (fun W3 Y3 k pl f1 f2 f3 => ?_) (fun W3 Y3 p2 f1 f2 f3 f4 f5 => ?_)
    · exact gRel_e f1 f2 (((hf1.tr a2).tr e3).tr f3)
    rw [g_one]
    refine hV_pure (gRel_o f1 f2 (((hX.cg (by rw [f4, e4, a3]) (by rw [f5, e5, a4]) : gX Y3 h q)).row ?_ ?_ ?_) (((hf1.tr a2).tr e3).tr f3))
    · rw [sU_n (by decide), sU_n (by decide)]
    · rw [sU_n (by decide), sU_n (by decide)]
    · rw [sU_n (by decide), sU_n (by decide)]
theorem M_hedge (hN : 3000 ≤ N) (h0 : gN B n m fl V X p h) (hk : (tTok B n m p).1 = 4) (hB : fdB h) (hX : gX X h q) : hV g (fX12_readHedge N 216 (qH g V X) 196) (fun W Y z => gRel B n m fl V X W Y z (fMk (hgA1 B n m h (tTok B n m p).2.2.1).2 (sU h (5 + (hgA1 B n m h (tTok B n m p).2.2.1).1) 1) q)) := by
  unfold fX12_readHedge
  rw [q196_c, Option.bind_some]
  refine G_adv hN h0 hk (fun W Y a1 a2 a3 a4 => ?_)
  rw [q196_c, Option.bind_some]
  have hc := (cell_xy (B := B) (n := n) (m := m) (a := .ok (tTok B n m p).2.2.1) hB).1
  refine G_cell hN hB (fun _ _ => rfl) a1 (fun W2 Y2 k pl e1 e2 e3 => gRel_e e1 e2 (a2.tr e3)) (fun W2 Y2 p1 e1 e2 e3 e4 e5 e6 => ?_)
  rw [q196_g7, Option.bind_some, q196_g18, Option.bind_some, e2, show (5 : Int32) = Int32.ofNat 5 from rfl, qadd, g_put (by omega), Option.bind_some, g_one]
  have hx : gX Y2 h q := hX.cg (by rw [e5, a3]) (by rw [e6, a4])
  refine hV_pure (gRel_o e1 (e3.put (v := 1)) (hx.row ?_ ?_ ?_) ((a2.tr e4).tr g_w))
  · exact sU_n (by omega)
  · exact sU_n (by omega)
  · exact sU_n (by omega)
theorem M_owner (hN : 3000 ≤ N) (h0 : gN B n m fl V X p h) (hk : (tTok B n m p).1 = 4) (hB : fdB h) (hX : gX X h q) (hn : fdN h q) : hV g (fX12_readOwner N 216 (qH g V X) 196) (fun W Y z => gRel B n m fl V X W Y z (if 4 ≤ h 2 then .error (4, (tTok B n m p).2.1) else fMk (owA1 B n m h q (tTok B n m p).2.2.1).2 (sU h 2 (h 2 + 1)) (qU q (h 2) (owA1 B n m h q (tTok B n m p).2.2.1).1))) := by
  obtain ⟨b1, b2, b3, b4, b5, -⟩ := id hB
  unfold fX12_readOwner
  rw [q196_g7, Option.bind_some, g_a2, Option.bind_some, h0.2.2.2 2 (by omega)]
  by_cases h4 : 4 ≤ h 2
  · rw [if_pos (by rw [show (4 : Int32) = Int32.ofNat 4 from rfl, qeq (by omega) (by omega)]; omega), if_pos h4, q196_c, Option.bind_some]
    exact m_badS h0.1 (k := 4) (fun W Y a b => ⟨rfl, a, b.gf⟩)
  rw [if_neg (by rw [show (4 : Int32) = Int32.ofNat 4 from rfl, qeq (by omega) (by omega)]; omega), if_neg h4, q196_c, Option.bind_some]
  refine G_adv hN h0 hk (fun W Y a1 a2 a3 a4 => ?_)
  rw [q196_c, Option.bind_some, show (15 : Int32) = Int32.ofNat 15 from rfl, qadd]
  refine G_new hN (z := 15 + h 2) (by omega) (by omega) hB (hX.cg a3 a4) hn a1 (fun W2 Y2 k pl e1 e2 e3 => gRel_e e1 e2 (a2.tr e3)) (fun W2 Y2 p1 e1 e2 e3 e4 e5 => ?_)
  rw [q196_g7, Option.bind_some, g_a2, Option.bind_some, e2.2.2.2 2 (by omega), l1, qadd, show (2 : Int32) = Int32.ofNat 2 from rfl, g_put (by omega), Option.bind_some, show zbl (Int32.ofNat 1) = some (Int32.ofNat 1) from rfl, Option.bind_some]
  refine hV_pure (gRel_o e1 e2.put ⟨?_, fun i hi => ?_, fun i hi => ?_, fun i hi => ?_⟩ ((a2.tr e3).tr g_w))
  · have := hX.1
    unfold wMsR at this ⊢
    rw [e5, a4]; exact this
  · rw [sU_s] at hi
    rw [e4]
    by_cases ei : i = h 2
    · rw [ei, vpU_s, qU_s]; rfl
    · rw [vpU_n (by omega), qU_n ei, a3]; exact hX.2.1 i (by omega)
  · rw [sU_n (by decide)] at hi
    rw [e4, vpU_n (by omega), qU_n (by omega), a3]; exact hX.2.2.1 i hi
  · rw [sU_n (by decide)] at hi
    rw [e4, vpU_n (by omega), qU_n (by omega), a3]; exact hX.2.2.2 i hi
end QFI
