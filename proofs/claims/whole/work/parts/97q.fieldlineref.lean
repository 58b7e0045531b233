/-! a field: the reference's line by its first word -/
section QFL
variable {g : zF} {V W U K C : Nat → Nat → Int32} {X Y Z D : Nat → Nat → Int64} {N n m p o k pl d e c ln w : Nat} {s t u B h r : Nat → Nat} {q : Nat → List Nat} {fl : Bool}
theorem gRel.z {z : Int32} {x : fR} (hx : gRel B n m fl V X W Y z x) : z = Int32.ofNat 0 ∨ z = Int32.ofNat 1 := by
  cases x with
  | error e => exact Or.inl hx.1
  | ok v => exact Or.inr hx.1
theorem gRel.pre {z : Int32} {x : fR} (hf : gFr V U X X) (hx : gRel B n m fl U X W Y z x) : gRel B n m fl V X W Y z x := by
  cases x with
  | error e => exact ⟨hx.1, hx.2.1, hf.tr hx.2.2⟩
  | ok v => exact ⟨hx.1, hx.2.1, hx.2.2.1, hf.tr hx.2.2.2⟩
theorem G_zbl {ou : Option (zF × Int32)} {x : fR} (ho : hV g ou (fun W Y z => gRel B n m fl U X W Y z x)) (hf : gFr V U X X) : hV g (zbd ou fun f z => (zbl z).bind fun y => some (f, y)) (fun W Y z => gRel B n m fl V X W Y z x) := by
  refine hV_zbd ho (fun W Y z hx => ?_)
  rcases hx.z with rfl | rfl
  · exact ⟨W, Y, _, rfl, hx.pre hf⟩
  · exact ⟨W, Y, _, rfl, hx.pre hf⟩
theorem M_fline (hN : 3000 ≤ N) (h0 : gN B n m fl V X p h) (hB : fdB h) (hX : gX X h q) (hn : fdN h q) : hV g (fX12_readLine N 216 (qH g V X) 196) (fun W Y z => gRel B n m (fFl B n m fl p) V X W Y z (fLine B n m h q fl p)) := by
  have nofl : ∀ v, aIs B n m v p = true → v ≠ 6 → fFl B n m fl p = true := by
    intro v hv h6
    have h1 := aIs_k hv
    have : aIs B n m 6 p = false := decide_eq_false (fun e => by omega)
    unfold fFl
    rw [this]
    cases fl <;> rfl
  have w4 : fX12_isWord N 216 (qH g V X) 196 (439854918756 : Int64) = some (qz (aIs B n m 4 p)) := m_isW (g := g) (N := N) h0.1 (v := 4) (by omega)
  have w6 : fX12_isWord N 216 (qH g V X) 196 (478745093490 : Int64) = some (qz (aIs B n m 6 p)) := m_isW (g := g) (N := N) h0.1 (v := 6) (by omega)
  unfold fX12_readLine
  rw [q196_c, Option.bind_some, w4, Option.bind_some]
  cases v4 : aIs B n m 4 p with
  | true =>
    have eL : fLine B n m h q fl p = (if fl = true then .error (3, (tTok B n m p).2.1) else fMk (szA2 B n m (tTok B n m p).2.2.1).2 (sU (sU h 0 (szA1 B n m (tTok B n m p).2.2.1).1) 1 (szA2 B n m (tTok B n m p).2.2.1).1) q) := by
      unfold fLine
      rw [v4]
      exact if_pos rfl
    rw [if_neg qzt, Option.bind_some, eL, nofl 4 v4 (by decide)]
    exact G_zbl (M_size hN h0 (aIs_k v4).1 hX) gFr.rf
  | false =>
  have e35 : (if qz (aIs B n m 6 p) = 0 then fX12_readLine_35 N 216 (qH g V X) 196 196 (qz fl) (1 : Int32) else fX12_readLine_35 N 216 (qH g V X) 196 196 (qz fl) (0 : Int32)) = fX12_readLine_35 N 216 (qH g V X) 196 196 (qz fl) (qz (!(aIs B n m 6 p))) := by
    cases aIs B n m 6 p with
    | true => rw [if_neg qzt]; rfl
    | false => rw [if_pos qzf]; rfl
  rw [if_pos qzf, q196_g20, Option.bind_some, Option.bind_some, w6, Option.bind_some, h0.2.2.1, e35]
  unfold fX12_readLine_35
  have eor : qz fl ||| qz (!(aIs B n m 6 p)) = qz (fFl B n m fl p) := by
    unfold fFl
    cases fl <;> cases aIs B n m 6 p <;> decide
  have e01 : qz (fFl B n m fl p) = 0 ∨ qz (fFl B n m fl p) = 1 := by
    cases fFl B n m fl p
    · exact Or.inl rfl
    · exact Or.inr rfl
  rw [eor, q196_p20 _ e01, Option.bind_some]
  have h1 : gN B n m (fFl B n m fl p) (qw V 196 (upd (V 196) 20 (qz (fFl B n m fl p)))) X p h := ⟨h0.1.put (j := 20) (by omega), by rw [qw_s, upd_n (by decide)]; exact h0.2.1, by rw [qw_s, upd_s], fun j hj => by rw [qw_n (by decide)]; exact h0.2.2.2 j hj⟩
  have hf1 : gFr V (qw V 196 (upd (V 196) 20 (qz (fFl B n m fl p)))) X X := ⟨fun j a b c => by rw [qw_s, upd_n c], fun b x y => qw_n x, fun _ _ _ => rfl, fun _ _ => rfl⟩
  generalize hU : qw V 196 (upd (V 196) 20 (qz (fFl B n m fl p))) = U at h1 hf1
  have u5 : fX12_isWord N 216 (qH g U X) 196 (448377677669 : Int64) = some (qz (aIs B n m 5 p)) := m_isW (g := g) (N := N) h1.1 (v := 5) (by omega)
  have u6 : fX12_isWord N 216 (qH g U X) 196 (478745093490 : Int64) = some (qz (aIs B n m 6 p)) := m_isW (g := g) (N := N) h1.1 (v := 6) (by omega)
  have u7 : fX12_isWord N 216 (qH g U X) 196 (1818324580 : Int64) = some (qz (aIs B n m 7 p)) := m_isW (g := g) (N := N) h1.1 (v := 7) (by omega)
  have u8 : fX12_isWord N 216 (qH g U X) 196 (112602893349477 : Int64) = some (qz (aIs B n m 8 p)) := m_isW (g := g) (N := N) h1.1 (v := 8) (by omega)
  have u9 : fX12_isWord N 216 (qH g U X) 196 (119225866478962 : Int64) = some (qz (aIs B n m 9 p)) := m_isW (g := g) (N := N) h1.1 (v := 9) (by omega)
  simp only [q196_c, u5, u6, u7, u8, u9, Option.bind_some]
  cases v5 : aIs B n m 5 p with
  | true =>
    have eL : fLine B n m h q fl p = fMk (hgA1 B n m h (tTok B n m p).2.2.1).2 (sU h (5 + (hgA1 B n m h (tTok B n m p).2.2.1).1) 1) q := by
      unfold fLine
      rw [v4, v5]
      rfl
    rw [if_neg qzt, eL]
    exact G_zbl (M_hedge hN h1 (aIs_k v5).1 hB hX) hf1
  | false =>
  rw [if_pos qzf]
  cases v6 : aIs B n m 6 p with
  | true =>
    have eL : fLine B n m h q fl p = (if 4 ≤ h 2 then .error (4, (tTok B n m p).2.1) else fMk (owA1 B n m h q (tTok B n m p).2.2.1).2 (sU h 2 (h 2 + 1)) (qU q (h 2) (owA1 B n m h q (tTok B n m p).2.2.1).1)) := by
      unfold fLine
      rw [v4, v5, v6]
      rfl
    rw [if_neg qzt, eL]
    exact G_zbl (M_owner hN h1 (aIs_k v6).1 hB hX hn) hf1
  | false =>
  rw [if_pos qzf]
  cases v7 : aIs B n m 7 p with
  | true =>
    have eL : fLine B n m h q fl p = fMk (laA3 B n m h q (tTok B n m p).2.2.1) (sU h (86 + (laA2 B n m h q (tTok B n m p).2.2.1).1) ((laA1 B n m h q (tTok B n m p).2.2.1).1 + 1)) q := by
      unfold fLine
      rw [v4, v5, v6, v7]
      rfl
    rw [if_neg qzt, eL]
    exact G_zbl (M_land hN h1 (aIs_k v7).1 hB hX hn) hf1
  | false =>
  rw [if_pos qzf]
  cases v8 : aIs B n m 8 p with
  | true =>
    have eL : fLine B n m h q fl p = (if 6 ≤ h 3 then .error (4, (tTok B n m p).2.1) else fMk (fiA5 B n m h q (tTok B n m p).2.2.1).2 (fiH B n m h q (tTok B n m p).2.2.1) (qU q (4 + h 3) (owA1 B n m h q (tTok B n m p).2.2.1).1)) := by
      unfold fLine
      rw [v4, v5, v6, v7, v8]
      rfl
    rw [if_neg qzt, eL]
    exact G_zbl (M_figure hN h1 (aIs_k v8).1 hB hX hn) hf1
  | false =>
  rw [if_pos qzf]
  cases v9 : aIs B n m 9 p with
  | true =>
    have eL : fLine B n m h q fl p = (if 5 ≤ h 4 then .error (4, (tTok B n m p).2.1) else fMk (loA5 B n m h q (tTok B n m p).2.2.1).2 (loH B n m h q (tTok B n m p).2.2.1) (qU q (10 + h 4) (owA1 B n m h q (tTok B n m p).2.2.1).1)) := by
      unfold fLine
      rw [v4, v5, v6, v7, v8, v9]
      rfl
    rw [if_neg qzt, eL]
    exact G_zbl (M_looker hN h1 (aIs_k v9).1 hB hX hn) hf1
  | false =>
  have eL : fLine B n m h q fl p = .error (1, (tTok B n m p).2.1) := by
    unfold fLine
    rw [v4, v5, v6, v7, v8, v9]
    rfl
  rw [if_pos qzf, eL]
  exact m_badS h1.1 (k := 1) (fun W Y a b => ⟨rfl, a, hf1.tr b.gf⟩)
end QFL
