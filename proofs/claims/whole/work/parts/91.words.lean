/-! sides taken: the reference -/
section QMA
variable {g : zF} {V W U K : Nat → Nat → Int32} {X Y Z : Nat → Nat → Int64} {N n m p k pl : Nat} {s t u B : Nat → Nat}
/-- the letters of a word token: small letters, at most seven -/
theorem tW_ok (hp : p ≤ n) (hk : (tTok B n m p).1 = 4 ∨ (tTok B n m p).1 = 5) : wOK (tTok B n m p).2.2.2.2 ∧ (tTok B n m p).2.2.2.2.length ≤ 7 ∧ ((tTok B n m p).1 = 4 → tIdx (tTok B n m p).2.2.2.2 = some (tTok B n m p).2.2.2.1) ∧ ((tTok B n m p).1 = 5 → tIdx (tTok B n m p).2.2.2.2 = none) := by
  unfold tTok at hk ⊢
  generalize tSk B (n - p) p = q at hk ⊢
  unfold tTk at hk ⊢
  split at hk
  · rcases hk with h | h
    · exact absurd h (show ¬ 1 = 4 by decide)
    · exact absurd h (show ¬ 1 = 5 by decide)
  rename_i h1
  rw [if_neg h1]
  split at hk
  · rcases hk with h | h
    · exact absurd h (show ¬ 0 = 4 by decide)
    · exact absurd h (show ¬ 0 = 5 by decide)
  rename_i h2
  rw [if_neg h2]
  split at hk
  · dsimp only at hk
    split at hk <;> rcases hk with h | h <;> exact absurd h (by decide)
  rename_i h3
  rw [if_neg h3]
  split at hk
  · rename_i h4
    rw [if_pos h4]
    refine ⟨tAll_wd _ h4.1, by rw [tWd_len]; exact h4.2, ?_, ?_⟩
    · dsimp only
      intro h
      cases hx : tIdx (tWd B q (tRn B (n - q) q)) with
      | none => rw [hx] at h; exact absurd h (by decide)
      | some v => rfl
    · dsimp only
      intro h
      cases hx : tIdx (tWd B q (tRn B (n - q) q)) with
      | none => rfl
      | some v => rw [hx] at h; exact absurd h (show ¬ (4 : Nat) = 5 by decide)
  rename_i h4
  split at hk
  · rcases hk with h | h
    · exact absurd h (show ¬ 3 = 4 by decide)
    · exact absurd h (show ¬ 3 = 5 by decide)
  · rcases hk with h | h
    · exact absurd h (show ¬ 6 = 4 by decide)
    · exact absurd h (show ¬ 6 = 5 by decide)
/-- the token is this word -/
def aIs (B : Nat → Nat) (n m v p : Nat) : Bool := decide ((tTok B n m p).1 = 4 ∧ (tTok B n m p).2.2.2.1 = v)
theorem m_isW (h : mN B n m V X p) {v : Nat} (hv : v < 27) : fX12_isWord N 216 (qH g V X) 196 (Int64.ofNat (r8 (wK v))) = some (qz (aIs B n m v p)) := by
  have hk7 := tTok_k (B := B) (n := n) (m := m) (p := p)
  have hkd := h.kd (c := 1) (by omega)
  rw [(mKd_2 _ hk7).2.2.1] at hkd
  obtain ⟨kw, kl⟩ := wK_ok v hv
  unfold fX12_isWord aIs
  rw [q196_g11, Option.bind_some]
  by_cases hk : (tTok B n m p).1 = 4 ∨ (tTok B n m p).1 = 5
  · obtain ⟨o1, o2, o3, o4⟩ := tW_ok h.2.2.2.1 hk
    have hX := h.2.2.2.2.2.2.2.2 (by omega)
    have b1 := r8_b o1 o2
    have b2 := r8_b kw kl
    rw [if_pos (by rw [l1, hkd]; exact hk), q196_g17, Option.bind_some, hX]
    by_cases e : (tTok B n m p).2.2.2.2 = wK v
    · have ht : tIdx (tTok B n m p).2.2.2.2 = some v := by rw [e]; exact tIdx_wK hv
      have h4 : (tTok B n m p).1 = 4 ∧ (tTok B n m p).2.2.2.1 = v := by
        rcases hk with h4 | h5
        · have := o3 h4
          rw [ht] at this
          exact ⟨h4, (Option.some.inj this).symm⟩
        · have := o4 h5
          rw [ht] at this
          cases this
      rw [if_pos (by rw [q64_cmp, e]), decide_eq_true h4]
      rfl
    · have h4 : ¬ ((tTok B n m p).1 = 4 ∧ (tTok B n m p).2.2.2.1 = v) := by
        rintro ⟨h4, h5⟩
        have := (tIdx_s (o3 h4)).2
        rw [h5] at this
        exact e this.symm
      rw [if_neg (by rw [q64_cmp, q64_inj (by omega) (by omega)]; exact fun h8 => e (r8_inj _ _ o1 kw h8)), decide_eq_false h4]
      rfl
  · rw [if_neg (by rw [l1, hkd]; exact hk), decide_eq_false (fun e => hk (Or.inl e.1))]
    rfl
end QMA
