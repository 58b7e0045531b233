/-! the law, more cases -/
section ZLAW
variable {G : zG} {p : Program} {l : Launch} {e : Env} {s : State} {m : MethodId} {b : Nat} {below : List Frame} {meth : Method} {c : Code} {H : Heap} {locs : List Loc} {cells slots : Nat} {Q : State → Prop} {N n q L : Nat} {xs : Nat → Int32} {f f9 : zF} {ls : Array Slot} {p1 p2 p3 p4 p5 : Int32}
def zlc20 (N n : Nat) (f : zF) : Option zF :=
    ((zck n f 11 0).bind fun _ => (zbd (fX11_few N n f 0) fun f2 x1 => ((zck n f2 12 196).bind fun _ => (zbd (fX12_few N n f2 196) fun f4 x3 => (if x1 = x3 then some f4 else none)))))
set_option maxRecDepth 100000 in
set_option maxHeartbeats 4000000 in
theorem zlw20 (B : zB G p s m #[Value.ref b] meth c RL cL_law 7 (some .boolean)) (hG : zOK G) (hLf : l.stackTraces = false) (hX : va_X b L xs s G.2.2.2) (hbl : b < G.2.2.2.size) (hj : q + 6 ≤ L ∧ L ≤ 3072) (hcs : cells + 1 ≤ room_1.cells ∧ slots + 6 ≤ room_1.slots) (h : zlc20 N n f = some f9) (hS : zS G n f H locs) (hl : lv_has ls 7 [(0, .ref b), (1, zr G 0), (2, zr G 196), (3, zr G 215), (4, .int (Int32.ofNat q))])
    (kk : ∀ H1 locs1, zS G n f9 H1 locs1 → ∀ ls1, lv_has ls1 7 [(0, .ref b), (1, zr G 0), (2, zr G 196), (3, zr G 215), (4, .int (Int32.ofNat q))] → W p l e room_1 s m #[Value.ref b] below meth c H1 locs1 (cells + 1) (slots + 6) Q (F0 m 1403 ls1 [])) : W p l e room_1 s m #[Value.ref b] below meth c H locs cells slots Q (F0 m 871 ls []) := by
  have he := B.1
  have hb := B.2.1
  unfold zlc20 at h
  refine W.widen (Nat.le_add_right _ 1) (Nat.le_add_right _ 6) ?_
  refine z_aload_n he hb dL_law_871 rfl (lv_at hl 1 rfl) (zref_r _ _) ?_
  obtain ⟨_, hc, h⟩ := zob h
  obtain ⟨f2, x1, hx, h⟩ := zbd_i h
  refine zq_callV (ci := 11) (T := TX11) (N := 14) (rest := []) B hS (mX11_few l G hx) zy_X11_few zk_944 ⟨by decide, by decide⟩ hc rfl rfl hl rfl (Nat.le_of_ble_eq_true rfl) dL_law_872 hcs (fun H locs hS => ?_)
  refine z_aload_n he hb dL_law_875 rfl (lv_at hl 2 rfl) (zref_r _ _) ?_
  obtain ⟨_, hc, h⟩ := zob h
  obtain ⟨f4, x3, hx, h⟩ := zbd_i h
  refine zq_callV (ci := 12) (T := TX12) (N := 50) (rest := [_]) B hS (mX12_few l G hx) zy_X12_few zk_1801 ⟨by decide, by decide⟩ hc rfl rfl hl rfl (Nat.le_of_ble_eq_true rfl) dL_law_876 hcs (fun H locs hS => ?_)
  refine lv_icmp_eq (tgt := 1403) he hb dL_law_879 (by decide) (fun hc => ?_) (fun hc => ?_)
  · rw [if_pos hc] at h
    obtain rfl := Option.some.inj h
    exact kk _ _ hS _ hl
  · rw [if_neg hc] at h
    cases h
def zlc21 (N n : Nat) (f : zF) : Option zF :=
    ((zck n f 11 0).bind fun _ => ((fX11_fewest N n f 0).bind fun x1 => ((zck n f 12 196).bind fun _ => (zbd (fX12_fewest N n f 196) fun f3 x2 => (if x1 = x2 then some f3 else none)))))
set_option maxRecDepth 100000 in
set_option maxHeartbeats 4000000 in
theorem zlw21 (B : zB G p s m #[Value.ref b] meth c RL cL_law 7 (some .boolean)) (hG : zOK G) (hLf : l.stackTraces = false) (hX : va_X b L xs s G.2.2.2) (hbl : b < G.2.2.2.size) (hj : q + 6 ≤ L ∧ L ≤ 3072) (hcs : cells + 1 ≤ room_1.cells ∧ slots + 6 ≤ room_1.slots) (h : zlc21 N n f = some f9) (hS : zS G n f H locs) (hl : lv_has ls 7 [(0, .ref b), (1, zr G 0), (2, zr G 196), (3, zr G 215), (4, .int (Int32.ofNat q))])
    (kk : ∀ H1 locs1, zS G n f9 H1 locs1 → ∀ ls1, lv_has ls1 7 [(0, .ref b), (1, zr G 0), (2, zr G 196), (3, zr G 215), (4, .int (Int32.ofNat q))] → W p l e room_1 s m #[Value.ref b] below meth c H1 locs1 (cells + 1) (slots + 6) Q (F0 m 1403 ls1 [])) : W p l e room_1 s m #[Value.ref b] below meth c H locs cells slots Q (F0 m 884 ls []) := by
  have he := B.1
  have hb := B.2.1
  unfold zlc21 at h
  refine W.widen (Nat.le_add_right _ 1) (Nat.le_add_right _ 6) ?_
  refine z_aload_n he hb dL_law_884 rfl (lv_at hl 1 rfl) (zref_r _ _) ?_
  obtain ⟨_, hc, h⟩ := zob h
  obtain ⟨x1, hx, h⟩ := zob h
  refine zq_callV (ci := 11) (T := TX11) (N := 14) (rest := []) B hS (mX11_fewest l G hx) zy_X11_fewest zk_952 ⟨by decide, by decide⟩ hc rfl rfl hl rfl (Nat.le_of_ble_eq_true rfl) dL_law_885 hcs (fun H locs hS => ?_)
  refine z_aload_n he hb dL_law_888 rfl (lv_at hl 2 rfl) (zref_r _ _) ?_
  obtain ⟨_, hc, h⟩ := zob h
  obtain ⟨f3, x2, hx, h⟩ := zbd_i h
  refine zq_callV (ci := 12) (T := TX12) (N := 50) (rest := [_]) B hS (mX12_fewest l G hx) zy_X12_fewest zk_1809 ⟨by decide, by decide⟩ hc rfl rfl hl rfl (Nat.le_of_ble_eq_true rfl) dL_law_889 hcs (fun H locs hS => ?_)
  refine lv_icmp_eq (tgt := 1403) he hb dL_law_892 (by decide) (fun hc => ?_) (fun hc => ?_)
  · rw [if_pos hc] at h
    obtain rfl := Option.some.inj h
    exact kk _ _ hS _ hl
  · rw [if_neg hc] at h
    cases h
def zlc22 (N n : Nat) (f : zF) (p1 : Int32) (p2 : Int32) (p3 : Int32) (p4 : Int32) : Option zF :=
    ((zck n f 11 0).bind fun _ => (zbd (fX11_blind N n f 0 p1 p2 p3 p4) fun f2 x1 => ((zck n f2 12 196).bind fun _ => (zbd (fX12_blind N n f2 196 p1 p2 p3 p4) fun f4 x3 => (if x1 = x3 then some f4 else none)))))
set_option maxRecDepth 100000 in
set_option maxHeartbeats 4000000 in
theorem zlw22 (B : zB G p s m #[Value.ref b] meth c RL cL_law 7 (some .boolean)) (hG : zOK G) (hLf : l.stackTraces = false) (hX : va_X b L xs s G.2.2.2) (hbl : b < G.2.2.2.size) (hj : q + 6 ≤ L ∧ L ≤ 3072) (hcs : cells + 1 ≤ room_1.cells ∧ slots + 6 ≤ room_1.slots) (h : zlc22 N n f (xs (q + 1)) (xs (q + 2)) (xs (q + 3)) (xs (q + 4)) = some f9) (hS : zS G n f H locs) (hl : lv_has ls 7 [(0, .ref b), (1, zr G 0), (2, zr G 196), (3, zr G 215), (4, .int (Int32.ofNat q))])
    (kk : ∀ H1 locs1, zS G n f9 H1 locs1 → ∀ ls1, lv_has ls1 7 [(0, .ref b), (1, zr G 0), (2, zr G 196), (3, zr G 215), (4, .int (Int32.ofNat q))] → W p l e room_1 s m #[Value.ref b] below meth c H1 locs1 (cells + 1) (slots + 6) Q (F0 m 1403 ls1 [])) : W p l e room_1 s m #[Value.ref b] below meth c H locs cells slots Q (F0 m 897 ls []) := by
  have he := B.1
  have hb := B.2.1
  unfold zlc22 at h
  refine W.widen (Nat.le_add_right _ 1) (Nat.le_add_right _ 6) ?_
  refine z_aload_n he hb dL_law_897 rfl (lv_at hl 1 rfl) (zref_r _ _) ?_
  refine zl_arg (i := 0) (k := 1) he hb hX hbl hj hS (lv_at hl 0 rfl) (lv_at hl 4 rfl) (by decide) (by decide) dL_law_898 dL_law_899 dL_law_901 dL_law_902 dL_law_903 rfl ?_
  refine zl_arg (i := 0) (k := 2) he hb hX hbl hj hS (lv_at hl 0 rfl) (lv_at hl 4 rfl) (by decide) (by decide) dL_law_904 dL_law_905 dL_law_907 dL_law_908 dL_law_909 rfl ?_
  refine zl_arg (i := 0) (k := 3) he hb hX hbl hj hS (lv_at hl 0 rfl) (lv_at hl 4 rfl) (by decide) (by decide) dL_law_910 dL_law_911 dL_law_913 dL_law_914 dL_law_915 rfl ?_
  refine zl_arg (i := 0) (k := 4) he hb hX hbl hj hS (lv_at hl 0 rfl) (lv_at hl 4 rfl) (by decide) (by decide) dL_law_916 dL_law_917 dL_law_919 dL_law_920 dL_law_921 rfl ?_
  obtain ⟨_, hc, h⟩ := zob h
  obtain ⟨f2, x1, hx, h⟩ := zbd_i h
  refine zq_callV (ci := 11) (T := TX11) (N := 14) (rest := []) B hS (mX11_blind l G hx) zy_X11_blind zk_956 ⟨by decide, by decide⟩ hc rfl rfl hl rfl (Nat.le_of_ble_eq_true rfl) dL_law_922 hcs (fun H locs hS => ?_)
  refine z_aload_n he hb dL_law_925 rfl (lv_at hl 2 rfl) (zref_r _ _) ?_
  refine zl_arg (i := 0) (k := 1) he hb hX hbl hj hS (lv_at hl 0 rfl) (lv_at hl 4 rfl) (by decide) (by decide) dL_law_926 dL_law_927 dL_law_929 dL_law_930 dL_law_931 rfl ?_
  refine zl_arg (i := 0) (k := 2) he hb hX hbl hj hS (lv_at hl 0 rfl) (lv_at hl 4 rfl) (by decide) (by decide) dL_law_932 dL_law_933 dL_law_935 dL_law_936 dL_law_937 rfl ?_
  refine zl_arg (i := 0) (k := 3) he hb hX hbl hj hS (lv_at hl 0 rfl) (lv_at hl 4 rfl) (by decide) (by decide) dL_law_938 dL_law_939 dL_law_941 dL_law_942 dL_law_943 rfl ?_
  refine zl_arg (i := 0) (k := 4) he hb hX hbl hj hS (lv_at hl 0 rfl) (lv_at hl 4 rfl) (by decide) (by decide) dL_law_944 dL_law_945 dL_law_947 dL_law_948 dL_law_949 rfl ?_
  obtain ⟨_, hc, h⟩ := zob h
  obtain ⟨f4, x3, hx, h⟩ := zbd_i h
  refine zq_callV (ci := 12) (T := TX12) (N := 50) (rest := [_]) B hS (mX12_blind l G hx) zy_X12_blind zk_1775 ⟨by decide, by decide⟩ hc rfl rfl hl rfl (Nat.le_of_ble_eq_true rfl) dL_law_950 hcs (fun H locs hS => ?_)
  refine lv_icmp_eq (tgt := 1403) he hb dL_law_953 (by decide) (fun hc => ?_) (fun hc => ?_)
  · rw [if_pos hc] at h
    obtain rfl := Option.some.inj h
    exact kk _ _ hS _ hl
  · rw [if_neg hc] at h
    cases h
def zlc23 (N n : Nat) (f : zF) : Option zF :=
    ((zck n f 11 0).bind fun _ => ((fX11_blinded N n f 0).bind fun x1 => ((zck n f 12 196).bind fun _ => (zbd (fX12_blinded N n f 196) fun f3 x2 => (if x1 = x2 then some f3 else none)))))
set_option maxRecDepth 100000 in
set_option maxHeartbeats 4000000 in
theorem zlw23 (B : zB G p s m #[Value.ref b] meth c RL cL_law 7 (some .boolean)) (hG : zOK G) (hLf : l.stackTraces = false) (hX : va_X b L xs s G.2.2.2) (hbl : b < G.2.2.2.size) (hj : q + 6 ≤ L ∧ L ≤ 3072) (hcs : cells + 1 ≤ room_1.cells ∧ slots + 6 ≤ room_1.slots) (h : zlc23 N n f = some f9) (hS : zS G n f H locs) (hl : lv_has ls 7 [(0, .ref b), (1, zr G 0), (2, zr G 196), (3, zr G 215), (4, .int (Int32.ofNat q))])
    (kk : ∀ H1 locs1, zS G n f9 H1 locs1 → ∀ ls1, lv_has ls1 7 [(0, .ref b), (1, zr G 0), (2, zr G 196), (3, zr G 215), (4, .int (Int32.ofNat q))] → W p l e room_1 s m #[Value.ref b] below meth c H1 locs1 (cells + 1) (slots + 6) Q (F0 m 1403 ls1 [])) : W p l e room_1 s m #[Value.ref b] below meth c H locs cells slots Q (F0 m 958 ls []) := by
  have he := B.1
  have hb := B.2.1
  unfold zlc23 at h
  refine W.widen (Nat.le_add_right _ 1) (Nat.le_add_right _ 6) ?_
  refine z_aload_n he hb dL_law_958 rfl (lv_at hl 1 rfl) (zref_r _ _) ?_
  obtain ⟨_, hc, h⟩ := zob h
  obtain ⟨x1, hx, h⟩ := zob h
  refine zq_callV (ci := 11) (T := TX11) (N := 14) (rest := []) B hS (mX11_blinded l G hx) zy_X11_blinded zk_964 ⟨by decide, by decide⟩ hc rfl rfl hl rfl (Nat.le_of_ble_eq_true rfl) dL_law_959 hcs (fun H locs hS => ?_)
  refine z_aload_n he hb dL_law_962 rfl (lv_at hl 2 rfl) (zref_r _ _) ?_
  obtain ⟨_, hc, h⟩ := zob h
  obtain ⟨f3, x2, hx, h⟩ := zbd_i h
  refine zq_callV (ci := 12) (T := TX12) (N := 50) (rest := [_]) B hS (mX12_blinded l G hx) zy_X12_blinded zk_1782 ⟨by decide, by decide⟩ hc rfl rfl hl rfl (Nat.le_of_ble_eq_true rfl) dL_law_963 hcs (fun H locs hS => ?_)
  refine lv_icmp_eq (tgt := 1403) he hb dL_law_966 (by decide) (fun hc => ?_) (fun hc => ?_)
  · rw [if_pos hc] at h
    obtain rfl := Option.some.inj h
    exact kk _ _ hS _ hl
  · rw [if_neg hc] at h
    cases h
def zlc24 (N n : Nat) (f : zF) : Option zF :=
    ((zck n f 11 0).bind fun _ => (zbd (fX11_fits N n f 0) fun f2 x1 => ((zck n f2 12 196).bind fun _ => (zbd (fX12_fits N n f2 196) fun f4 x3 => (if x1 = x3 then some f4 else none)))))
set_option maxRecDepth 100000 in
set_option maxHeartbeats 4000000 in
theorem zlw24 (B : zB G p s m #[Value.ref b] meth c RL cL_law 7 (some .boolean)) (hG : zOK G) (hLf : l.stackTraces = false) (hX : va_X b L xs s G.2.2.2) (hbl : b < G.2.2.2.size) (hj : q + 6 ≤ L ∧ L ≤ 3072) (hcs : cells + 1 ≤ room_1.cells ∧ slots + 6 ≤ room_1.slots) (h : zlc24 N n f = some f9) (hS : zS G n f H locs) (hl : lv_has ls 7 [(0, .ref b), (1, zr G 0), (2, zr G 196), (3, zr G 215), (4, .int (Int32.ofNat q))])
    (kk : ∀ H1 locs1, zS G n f9 H1 locs1 → ∀ ls1, lv_has ls1 7 [(0, .ref b), (1, zr G 0), (2, zr G 196), (3, zr G 215), (4, .int (Int32.ofNat q))] → W p l e room_1 s m #[Value.ref b] below meth c H1 locs1 (cells + 1) (slots + 6) Q (F0 m 1403 ls1 [])) : W p l e room_1 s m #[Value.ref b] below meth c H locs cells slots Q (F0 m 971 ls []) := by
  have he := B.1
  have hb := B.2.1
  unfold zlc24 at h
  refine W.widen (Nat.le_add_right _ 1) (Nat.le_add_right _ 6) ?_
  refine z_aload_n he hb dL_law_971 rfl (lv_at hl 1 rfl) (zref_r _ _) ?_
  obtain ⟨_, hc, h⟩ := zob h
  obtain ⟨f2, x1, hx, h⟩ := zbd_i h
  refine zq_callV (ci := 11) (T := TX11) (N := 14) (rest := []) B hS (mX11_fits l G hx) zy_X11_fits zk_968 ⟨by decide, by decide⟩ hc rfl rfl hl rfl (Nat.le_of_ble_eq_true rfl) dL_law_972 hcs (fun H locs hS => ?_)
  refine z_aload_n he hb dL_law_975 rfl (lv_at hl 2 rfl) (zref_r _ _) ?_
  obtain ⟨_, hc, h⟩ := zob h
  obtain ⟨f4, x3, hx, h⟩ := zbd_i h
  refine zq_callV (ci := 12) (T := TX12) (N := 50) (rest := [_]) B hS (mX12_fits l G hx) zy_X12_fits zk_1813 ⟨by decide, by decide⟩ hc rfl rfl hl rfl (Nat.le_of_ble_eq_true rfl) dL_law_976 hcs (fun H locs hS => ?_)
  refine lv_icmp_eq (tgt := 1403) he hb dL_law_979 (by decide) (fun hc => ?_) (fun hc => ?_)
  · rw [if_pos hc] at h
    obtain rfl := Option.some.inj h
    exact kk _ _ hS _ hl
  · rw [if_neg hc] at h
    cases h
def zlc25 (N n : Nat) (f : zF) (p1 : Int32) : Option zF :=
    ((zck n f 11 0).bind fun _ => ((fX11_fitsAt N n f 0 p1).bind fun x1 => ((zck n f 12 196).bind fun _ => (zbd (fX12_fitsAt N n f 196 p1) fun f3 x2 => (if x1 = x2 then some f3 else none)))))
set_option maxRecDepth 100000 in
set_option maxHeartbeats 4000000 in
theorem zlw25 (B : zB G p s m #[Value.ref b] meth c RL cL_law 7 (some .boolean)) (hG : zOK G) (hLf : l.stackTraces = false) (hX : va_X b L xs s G.2.2.2) (hbl : b < G.2.2.2.size) (hj : q + 6 ≤ L ∧ L ≤ 3072) (hcs : cells + 1 ≤ room_1.cells ∧ slots + 6 ≤ room_1.slots) (h : zlc25 N n f (xs (q + 1)) = some f9) (hS : zS G n f H locs) (hl : lv_has ls 7 [(0, .ref b), (1, zr G 0), (2, zr G 196), (3, zr G 215), (4, .int (Int32.ofNat q))])
    (kk : ∀ H1 locs1, zS G n f9 H1 locs1 → ∀ ls1, lv_has ls1 7 [(0, .ref b), (1, zr G 0), (2, zr G 196), (3, zr G 215), (4, .int (Int32.ofNat q))] → W p l e room_1 s m #[Value.ref b] below meth c H1 locs1 (cells + 1) (slots + 6) Q (F0 m 1403 ls1 [])) : W p l e room_1 s m #[Value.ref b] below meth c H locs cells slots Q (F0 m 984 ls []) := by
  have he := B.1
  have hb := B.2.1
  unfold zlc25 at h
  refine W.widen (Nat.le_add_right _ 1) (Nat.le_add_right _ 6) ?_
  refine z_aload_n he hb dL_law_984 rfl (lv_at hl 1 rfl) (zref_r _ _) ?_
  refine zl_arg (i := 0) (k := 1) he hb hX hbl hj hS (lv_at hl 0 rfl) (lv_at hl 4 rfl) (by decide) (by decide) dL_law_985 dL_law_986 dL_law_988 dL_law_989 dL_law_990 rfl ?_
  obtain ⟨_, hc, h⟩ := zob h
  obtain ⟨x1, hx, h⟩ := zob h
  refine zq_callV (ci := 11) (T := TX11) (N := 14) (rest := []) B hS (mX11_fitsAt l G hx) zy_X11_fitsAt zk_1006 ⟨by decide, by decide⟩ hc rfl rfl hl rfl (Nat.le_of_ble_eq_true rfl) dL_law_991 hcs (fun H locs hS => ?_)
  refine z_aload_n he hb dL_law_994 rfl (lv_at hl 2 rfl) (zref_r _ _) ?_
  refine zl_arg (i := 0) (k := 1) he hb hX hbl hj hS (lv_at hl 0 rfl) (lv_at hl 4 rfl) (by decide) (by decide) dL_law_995 dL_law_996 dL_law_998 dL_law_999 dL_law_1000 rfl ?_
  obtain ⟨_, hc, h⟩ := zob h
  obtain ⟨f3, x2, hx, h⟩ := zbd_i h
  refine zq_callV (ci := 12) (T := TX12) (N := 50) (rest := [_]) B hS (mX12_fitsAt l G hx) zy_X12_fitsAt zk_1840 ⟨by decide, by decide⟩ hc rfl rfl hl rfl (Nat.le_of_ble_eq_true rfl) dL_law_1001 hcs (fun H locs hS => ?_)
  refine lv_icmp_eq (tgt := 1403) he hb dL_law_1004 (by decide) (fun hc => ?_) (fun hc => ?_)
  · rw [if_pos hc] at h
    obtain rfl := Option.some.inj h
    exact kk _ _ hS _ hl
  · rw [if_neg hc] at h
    cases h
def zlc26 (N n : Nat) (f : zF) : Option zF :=
    ((zck n f 11 0).bind fun _ => ((fX11_ask N n f 0).bind fun x1 => ((zck n f 12 196).bind fun _ => (zbd (fX12_ask N n f 196) fun f3 x2 => (if x1 = x2 then some f3 else none)))))
set_option maxRecDepth 100000 in
set_option maxHeartbeats 4000000 in
theorem zlw26 (B : zB G p s m #[Value.ref b] meth c RL cL_law 7 (some .boolean)) (hG : zOK G) (hLf : l.stackTraces = false) (hX : va_X b L xs s G.2.2.2) (hbl : b < G.2.2.2.size) (hj : q + 6 ≤ L ∧ L ≤ 3072) (hcs : cells + 1 ≤ room_1.cells ∧ slots + 6 ≤ room_1.slots) (h : zlc26 N n f = some f9) (hS : zS G n f H locs) (hl : lv_has ls 7 [(0, .ref b), (1, zr G 0), (2, zr G 196), (3, zr G 215), (4, .int (Int32.ofNat q))])
    (kk : ∀ H1 locs1, zS G n f9 H1 locs1 → ∀ ls1, lv_has ls1 7 [(0, .ref b), (1, zr G 0), (2, zr G 196), (3, zr G 215), (4, .int (Int32.ofNat q))] → W p l e room_1 s m #[Value.ref b] below meth c H1 locs1 (cells + 1) (slots + 6) Q (F0 m 1403 ls1 [])) : W p l e room_1 s m #[Value.ref b] below meth c H locs cells slots Q (F0 m 1009 ls []) := by
  have he := B.1
  have hb := B.2.1
  unfold zlc26 at h
  refine W.widen (Nat.le_add_right _ 1) (Nat.le_add_right _ 6) ?_
  refine z_aload_n he hb dL_law_1009 rfl (lv_at hl 1 rfl) (zref_r _ _) ?_
  obtain ⟨_, hc, h⟩ := zob h
  obtain ⟨x1, hx, h⟩ := zob h
  refine zq_callV (ci := 11) (T := TX11) (N := 14) (rest := []) B hS (mX11_ask l G hx) zy_X11_ask zk_1010 ⟨by decide, by decide⟩ hc rfl rfl hl rfl (Nat.le_of_ble_eq_true rfl) dL_law_1010 hcs (fun H locs hS => ?_)
  refine z_aload_n he hb dL_law_1013 rfl (lv_at hl 2 rfl) (zref_r _ _) ?_
  obtain ⟨_, hc, h⟩ := zob h
  obtain ⟨f3, x2, hx, h⟩ := zbd_i h
  refine zq_callV (ci := 12) (T := TX12) (N := 50) (rest := [_]) B hS (mX12_ask l G hx) zy_X12_ask zk_1844 ⟨by decide, by decide⟩ hc rfl rfl hl rfl (Nat.le_of_ble_eq_true rfl) dL_law_1014 hcs (fun H locs hS => ?_)
  refine lv_icmp_eq (tgt := 1403) he hb dL_law_1017 (by decide) (fun hc => ?_) (fun hc => ?_)
  · rw [if_pos hc] at h
    obtain rfl := Option.some.inj h
    exact kk _ _ hS _ hl
  · rw [if_neg hc] at h
    cases h
def zlc27 (N n : Nat) (f : zF) : Option zF :=
    ((zck n f 11 0).bind fun _ => ((fX11_grown N n f 0).bind fun x1 => ((zck n f 12 196).bind fun _ => (zbd (fX12_grown N n f 196) fun f3 x2 => (if x1 = x2 then some f3 else none)))))
set_option maxRecDepth 100000 in
set_option maxHeartbeats 4000000 in
theorem zlw27 (B : zB G p s m #[Value.ref b] meth c RL cL_law 7 (some .boolean)) (hG : zOK G) (hLf : l.stackTraces = false) (hX : va_X b L xs s G.2.2.2) (hbl : b < G.2.2.2.size) (hj : q + 6 ≤ L ∧ L ≤ 3072) (hcs : cells + 1 ≤ room_1.cells ∧ slots + 6 ≤ room_1.slots) (h : zlc27 N n f = some f9) (hS : zS G n f H locs) (hl : lv_has ls 7 [(0, .ref b), (1, zr G 0), (2, zr G 196), (3, zr G 215), (4, .int (Int32.ofNat q))])
    (kk : ∀ H1 locs1, zS G n f9 H1 locs1 → ∀ ls1, lv_has ls1 7 [(0, .ref b), (1, zr G 0), (2, zr G 196), (3, zr G 215), (4, .int (Int32.ofNat q))] → W p l e room_1 s m #[Value.ref b] below meth c H1 locs1 (cells + 1) (slots + 6) Q (F0 m 1403 ls1 [])) : W p l e room_1 s m #[Value.ref b] below meth c H locs cells slots Q (F0 m 1022 ls []) := by
  have he := B.1
  have hb := B.2.1
  unfold zlc27 at h
  refine W.widen (Nat.le_add_right _ 1) (Nat.le_add_right _ 6) ?_
  refine z_aload_n he hb dL_law_1022 rfl (lv_at hl 1 rfl) (zref_r _ _) ?_
  obtain ⟨_, hc, h⟩ := zob h
  obtain ⟨x1, hx, h⟩ := zob h
  refine zq_callV (ci := 11) (T := TX11) (N := 14) (rest := []) B hS (mX11_grown l G hx) zy_X11_grown zk_1014 ⟨by decide, by decide⟩ hc rfl rfl hl rfl (Nat.le_of_ble_eq_true rfl) dL_law_1023 hcs (fun H locs hS => ?_)
  refine z_aload_n he hb dL_law_1026 rfl (lv_at hl 2 rfl) (zref_r _ _) ?_
  obtain ⟨_, hc, h⟩ := zob h
  obtain ⟨f3, x2, hx, h⟩ := zbd_i h
  refine zq_callV (ci := 12) (T := TX12) (N := 50) (rest := [_]) B hS (mX12_grown l G hx) zy_X12_grown zk_1848 ⟨by decide, by decide⟩ hc rfl rfl hl rfl (Nat.le_of_ble_eq_true rfl) dL_law_1027 hcs (fun H locs hS => ?_)
  refine lv_icmp_eq (tgt := 1403) he hb dL_law_1030 (by decide) (fun hc => ?_) (fun hc => ?_)
  · rw [if_pos hc] at h
    obtain rfl := Option.some.inj h
    exact kk _ _ hS _ hl
  · rw [if_neg hc] at h
    cases h
def zlc28 (N n : Nat) (f : zF) : Option zF :=
    ((zck n f 11 0).bind fun _ => ((fX11_farthest N n f 0).bind fun x1 => ((zck n f 12 196).bind fun _ => (zbd (fX12_farthest N n f 196) fun f3 x2 => (if x1 = x2 then some f3 else none)))))
set_option maxRecDepth 100000 in
set_option maxHeartbeats 4000000 in
theorem zlw28 (B : zB G p s m #[Value.ref b] meth c RL cL_law 7 (some .boolean)) (hG : zOK G) (hLf : l.stackTraces = false) (hX : va_X b L xs s G.2.2.2) (hbl : b < G.2.2.2.size) (hj : q + 6 ≤ L ∧ L ≤ 3072) (hcs : cells + 1 ≤ room_1.cells ∧ slots + 6 ≤ room_1.slots) (h : zlc28 N n f = some f9) (hS : zS G n f H locs) (hl : lv_has ls 7 [(0, .ref b), (1, zr G 0), (2, zr G 196), (3, zr G 215), (4, .int (Int32.ofNat q))])
    (kk : ∀ H1 locs1, zS G n f9 H1 locs1 → ∀ ls1, lv_has ls1 7 [(0, .ref b), (1, zr G 0), (2, zr G 196), (3, zr G 215), (4, .int (Int32.ofNat q))] → W p l e room_1 s m #[Value.ref b] below meth c H1 locs1 (cells + 1) (slots + 6) Q (F0 m 1403 ls1 [])) : W p l e room_1 s m #[Value.ref b] below meth c H locs cells slots Q (F0 m 1035 ls []) := by
  have he := B.1
  have hb := B.2.1
  unfold zlc28 at h
  refine W.widen (Nat.le_add_right _ 1) (Nat.le_add_right _ 6) ?_
  refine z_aload_n he hb dL_law_1035 rfl (lv_at hl 1 rfl) (zref_r _ _) ?_
  obtain ⟨_, hc, h⟩ := zob h
  obtain ⟨x1, hx, h⟩ := zob h
  refine zq_callV (ci := 11) (T := TX11) (N := 14) (rest := []) B hS (mX11_farthest l G hx) zy_X11_farthest zk_1018 ⟨by decide, by decide⟩ hc rfl rfl hl rfl (Nat.le_of_ble_eq_true rfl) dL_law_1036 hcs (fun H locs hS => ?_)
  refine z_aload_n he hb dL_law_1039 rfl (lv_at hl 2 rfl) (zref_r _ _) ?_
  obtain ⟨_, hc, h⟩ := zob h
  obtain ⟨f3, x2, hx, h⟩ := zbd_i h
  refine zq_callV (ci := 12) (T := TX12) (N := 50) (rest := [_]) B hS (mX12_farthest l G hx) zy_X12_farthest zk_1857 ⟨by decide, by decide⟩ hc rfl rfl hl rfl (Nat.le_of_ble_eq_true rfl) dL_law_1040 hcs (fun H locs hS => ?_)
  refine lv_icmp_eq (tgt := 1403) he hb dL_law_1043 (by decide) (fun hc => ?_) (fun hc => ?_)
  · rw [if_pos hc] at h
    obtain rfl := Option.some.inj h
    exact kk _ _ hS _ hl
  · rw [if_neg hc] at h
    cases h
def zlc29 (N n : Nat) (f : zF) (p1 : Int32) : Option zF :=
    (zbd (fL_mean N n f 0 p1 215) fun f2 x1 => ((zck n f2 12 196).bind fun _ => (zbd (fX12_mean N n f2 196 p1) fun f4 x3 => ((zck n f4 12 196).bind fun _ => ((fX12_thrown N n f4 196).bind fun x5 => (if x5 = x1 then (if x1 = 0 then ((zlL n f4 1 215 (0 : Int32)).bind fun x6 => (if (lg_cmp x6 (x3.toInt64)) = 0 then some f4 else none)) else some f4) else none))))))
set_option maxRecDepth 100000 in
set_option maxHeartbeats 4000000 in
theorem zlw29 (B : zB G p s m #[Value.ref b] meth c RL cL_law 7 (some .boolean)) (hG : zOK G) (hLf : l.stackTraces = false) (hX : va_X b L xs s G.2.2.2) (hbl : b < G.2.2.2.size) (hj : q + 6 ≤ L ∧ L ≤ 3072) (hcs : cells + 1 ≤ room_1.cells ∧ slots + 6 ≤ room_1.slots) (h : zlc29 N n f (xs (q + 1)) = some f9) (hS : zS G n f H locs) (hl : lv_has ls 7 [(0, .ref b), (1, zr G 0), (2, zr G 196), (3, zr G 215), (4, .int (Int32.ofNat q))])
    (kk : ∀ H1 locs1, zS G n f9 H1 locs1 → ∀ ls1, lv_has ls1 7 [(0, .ref b), (1, zr G 0), (2, zr G 196), (3, zr G 215), (4, .int (Int32.ofNat q))] → W p l e room_1 s m #[Value.ref b] below meth c H1 locs1 (cells + 1) (slots + 6) Q (F0 m 1403 ls1 [])) : W p l e room_1 s m #[Value.ref b] below meth c H locs cells slots Q (F0 m 1048 ls []) := by
  have he := B.1
  have hb := B.2.1
  unfold zlc29 at h
  refine z_aload_n he hb dL_law_1048 rfl (lv_at hl 1 rfl) (zref_r _ _) ?_
  refine zl_arg (i := 0) (k := 1) he hb hX hbl hj hS (lv_at hl 0 rfl) (lv_at hl 4 rfl) (by decide) (by decide) dL_law_1049 dL_law_1050 dL_law_1052 dL_law_1053 dL_law_1054 rfl ?_
  refine z_aload_n he hb dL_law_1055 rfl (lv_at hl 3 rfl) (zref_r _ _) ?_
  obtain ⟨f2, x1, hx, h⟩ := zbd_i h
  refine zq_callW (np := 3) (rest := []) B hS (mL_mean l G hG hLf hx) zk_1285 zk_1284 zk_0 ⟨by decide +kernel, by decide +kernel, by decide +kernel⟩ zk_1283 ⟨by decide, by decide⟩ rfl hl.1 rfl (Nat.le_of_ble_eq_true rfl) dL_law_1056 hcs (fun H locs hS => ?_)
  refine lv_istore (lv' := [(5, _), (0, _), (1, _), (2, _), (3, _), (4, _)]) he hb dL_law_1059 hl (by decide) rfl (fun ls hl => ?_)
  refine z_aload_n he hb dL_law_1061 rfl (lv_at hl 3 rfl) (zref_r _ _) ?_
  refine zl_arg (i := 1) (k := 1) he hb hX hbl hj hS (lv_at hl 1 rfl) (lv_at hl 5 rfl) (by decide) (by decide) dL_law_1062 dL_law_1063 dL_law_1065 dL_law_1066 dL_law_1067 rfl ?_
  obtain ⟨_, hc, h⟩ := zob h
  obtain ⟨f4, x3, hx, h⟩ := zbd_i h
  refine zq_callV (ci := 12) (T := TX12) (N := 50) (rest := []) B hS (mX12_mean l G hx) zy_X12_mean zk_1861 ⟨by decide, by decide⟩ hc rfl rfl hl rfl (Nat.le_of_ble_eq_true rfl) dL_law_1068 hcs (fun H locs hS => ?_)
  refine lv_istore (lv' := [(6, _), (5, _), (0, _), (1, _), (2, _), (3, _), (4, _)]) he hb dL_law_1071 hl (by decide) rfl (fun ls hl => ?_)
  refine z_aload_n he hb dL_law_1073 rfl (lv_at hl 4 rfl) (zref_r _ _) ?_
  obtain ⟨_, hc, h⟩ := zob h
  obtain ⟨x5, hx, h⟩ := zob h
  refine zq_callV (ci := 12) (T := TX12) (N := 50) (rest := []) B hS (mX12_thrown l G hx) zy_X12_thrown zk_1294 ⟨by decide, by decide⟩ hc rfl rfl hl rfl (Nat.le_of_ble_eq_true rfl) dL_law_1074 hcs (fun H locs hS => ?_)
  refine lv_iload he hb dL_law_1077 (lv_at hl 1 rfl) ?_
  refine lv_icmp_eq (tgt := 1084) he hb dL_law_1079 (by decide) (fun hc => ?_) (fun hc => ?_)
  · rw [if_pos hc] at h
    refine lv_iload he hb dL_law_1084 (lv_at hl 1 rfl) ?_
    refine lv_if_ne (tgt := 1101) he hb dL_law_1086 (by decide) (fun hc => ?_) (fun hc => ?_)
    · rw [if_neg hc] at h
      refine lv_goto (tgt := 1403) he hb dL_law_1101 (by decide) ?_
      obtain rfl := Option.some.inj h
      exact kk _ _ hS _ (lv_sub hl [2, 3, 4, 5, 6] rfl)
    · rw [if_pos hc] at h
      refine z_aload_n he hb dL_law_1089 rfl (lv_at hl 5 rfl) (zref_r _ _) ?_
      refine lv_iconst (v := (0 : Int32)) he hb dL_law_1090 (by decide) ?_
      obtain ⟨x6, hx, h⟩ := zob h
      refine z_ildL B hS hx dL_law_1091 ?_
      refine lv_iload he hb dL_law_1092 (lv_at hl 0 rfl) ?_
      refine lv_i2l (v := x3.toInt64) he hb dL_law_1094 rfl ?_
      refine W.lcmp he hb dL_law_1095 ?_
      refine lv_if_eq (tgt := 1101) he hb dL_law_1096 (by decide) (fun hc => ?_) (fun hc => ?_)
      · rw [if_pos hc] at h
        refine lv_goto (tgt := 1403) he hb dL_law_1101 (by decide) ?_
        obtain rfl := Option.some.inj h
        exact kk _ _ hS _ (lv_sub hl [2, 3, 4, 5, 6] rfl)
      · rw [if_neg hc] at h
        cases h
  · rw [if_neg hc] at h
    cases h
def zlc30 (N n : Nat) (f : zF) (p1 : Int32) : Option zF :=
    ((zck n f 11 0).bind fun _ => (zbd (fX11_line N n f 0 p1) fun f2 x1 => ((zck n f2 12 196).bind fun _ => (zbd (fX12_line N n f2 196 p1) fun f4 x3 => (if x1 = x3 then some f4 else none)))))
set_option maxRecDepth 100000 in
set_option maxHeartbeats 4000000 in
theorem zlw30 (B : zB G p s m #[Value.ref b] meth c RL cL_law 7 (some .boolean)) (hG : zOK G) (hLf : l.stackTraces = false) (hX : va_X b L xs s G.2.2.2) (hbl : b < G.2.2.2.size) (hj : q + 6 ≤ L ∧ L ≤ 3072) (hcs : cells + 1 ≤ room_1.cells ∧ slots + 6 ≤ room_1.slots) (h : zlc30 N n f (xs (q + 1)) = some f9) (hS : zS G n f H locs) (hl : lv_has ls 7 [(0, .ref b), (1, zr G 0), (2, zr G 196), (3, zr G 215), (4, .int (Int32.ofNat q))])
    (kk : ∀ H1 locs1, zS G n f9 H1 locs1 → ∀ ls1, lv_has ls1 7 [(0, .ref b), (1, zr G 0), (2, zr G 196), (3, zr G 215), (4, .int (Int32.ofNat q))] → W p l e room_1 s m #[Value.ref b] below meth c H1 locs1 (cells + 1) (slots + 6) Q (F0 m 1403 ls1 [])) : W p l e room_1 s m #[Value.ref b] below meth c H locs cells slots Q (F0 m 1104 ls []) := by
  have he := B.1
  have hb := B.2.1
  unfold zlc30 at h
  refine W.widen (Nat.le_add_right _ 1) (Nat.le_add_right _ 6) ?_
  refine z_aload_n he hb dL_law_1104 rfl (lv_at hl 1 rfl) (zref_r _ _) ?_
  refine zl_arg (i := 0) (k := 1) he hb hX hbl hj hS (lv_at hl 0 rfl) (lv_at hl 4 rfl) (by decide) (by decide) dL_law_1105 dL_law_1106 dL_law_1108 dL_law_1109 dL_law_1110 rfl ?_
  obtain ⟨_, hc, h⟩ := zob h
  obtain ⟨f2, x1, hx, h⟩ := zbd_i h
  refine zq_callV (ci := 11) (T := TX11) (N := 14) (rest := []) B hS (mX11_line l G hG hx) zy_X11_line zk_1022 ⟨by decide, by decide⟩ hc rfl rfl hl rfl (Nat.le_of_ble_eq_true rfl) dL_law_1111 hcs (fun H locs hS => ?_)
  refine z_aload_n he hb dL_law_1114 rfl (lv_at hl 2 rfl) (zref_r _ _) ?_
  refine zl_arg (i := 0) (k := 1) he hb hX hbl hj hS (lv_at hl 0 rfl) (lv_at hl 4 rfl) (by decide) (by decide) dL_law_1115 dL_law_1116 dL_law_1118 dL_law_1119 dL_law_1120 rfl ?_
  obtain ⟨_, hc, h⟩ := zob h
  obtain ⟨f4, x3, hx, h⟩ := zbd_i h
  refine zq_callV (ci := 12) (T := TX12) (N := 50) (rest := [_]) B hS (mX12_line l G hx) zy_X12_line zk_1865 ⟨by decide, by decide⟩ hc rfl rfl hl rfl (Nat.le_of_ble_eq_true rfl) dL_law_1121 hcs (fun H locs hS => ?_)
  refine lv_icmp_eq (tgt := 1403) he hb dL_law_1124 (by decide) (fun hc => ?_) (fun hc => ?_)
  · rw [if_pos hc] at h
    obtain rfl := Option.some.inj h
    exact kk _ _ hS _ hl
  · rw [if_neg hc] at h
    cases h
def zlc31 (N n : Nat) (f : zF) (p1 : Int32) : Option zF :=
    ((zck n f 11 0).bind fun _ => ((fX11_byteAt N n f 0 p1).bind fun x1 => ((zck n f 12 196).bind fun _ => (zbd (fX12_byteAt N n f 196 p1) fun f3 x2 => (if x1 = x2 then some f3 else none)))))
set_option maxRecDepth 100000 in
set_option maxHeartbeats 4000000 in
theorem zlw31 (B : zB G p s m #[Value.ref b] meth c RL cL_law 7 (some .boolean)) (hG : zOK G) (hLf : l.stackTraces = false) (hX : va_X b L xs s G.2.2.2) (hbl : b < G.2.2.2.size) (hj : q + 6 ≤ L ∧ L ≤ 3072) (hcs : cells + 1 ≤ room_1.cells ∧ slots + 6 ≤ room_1.slots) (h : zlc31 N n f (xs (q + 1)) = some f9) (hS : zS G n f H locs) (hl : lv_has ls 7 [(0, .ref b), (1, zr G 0), (2, zr G 196), (3, zr G 215), (4, .int (Int32.ofNat q))])
    (kk : ∀ H1 locs1, zS G n f9 H1 locs1 → ∀ ls1, lv_has ls1 7 [(0, .ref b), (1, zr G 0), (2, zr G 196), (3, zr G 215), (4, .int (Int32.ofNat q))] → W p l e room_1 s m #[Value.ref b] below meth c H1 locs1 (cells + 1) (slots + 6) Q (F0 m 1403 ls1 [])) : W p l e room_1 s m #[Value.ref b] below meth c H locs cells slots Q (F0 m 1129 ls []) := by
  have he := B.1
  have hb := B.2.1
  unfold zlc31 at h
  refine W.widen (Nat.le_add_right _ 1) (Nat.le_add_right _ 6) ?_
  refine z_aload_n he hb dL_law_1129 rfl (lv_at hl 1 rfl) (zref_r _ _) ?_
  refine zl_arg (i := 0) (k := 1) he hb hX hbl hj hS (lv_at hl 0 rfl) (lv_at hl 4 rfl) (by decide) (by decide) dL_law_1130 dL_law_1131 dL_law_1133 dL_law_1134 dL_law_1135 rfl ?_
  obtain ⟨_, hc, h⟩ := zob h
  obtain ⟨x1, hx, h⟩ := zob h
  refine zq_callV (ci := 11) (T := TX11) (N := 14) (rest := []) B hS (mX11_byteAt l G hx) zy_X11_byteAt zk_1048 ⟨by decide, by decide⟩ hc rfl rfl hl rfl (Nat.le_of_ble_eq_true rfl) dL_law_1136 hcs (fun H locs hS => ?_)
  refine z_aload_n he hb dL_law_1139 rfl (lv_at hl 2 rfl) (zref_r _ _) ?_
  refine zl_arg (i := 0) (k := 1) he hb hX hbl hj hS (lv_at hl 0 rfl) (lv_at hl 4 rfl) (by decide) (by decide) dL_law_1140 dL_law_1141 dL_law_1143 dL_law_1144 dL_law_1145 rfl ?_
  obtain ⟨_, hc, h⟩ := zob h
  obtain ⟨f3, x2, hx, h⟩ := zbd_i h
  refine zq_callV (ci := 12) (T := TX12) (N := 50) (rest := [_]) B hS (mX12_byteAt l G hx) zy_X12_byteAt zk_1884 ⟨by decide, by decide⟩ hc rfl rfl hl rfl (Nat.le_of_ble_eq_true rfl) dL_law_1146 hcs (fun H locs hS => ?_)
  refine lv_icmp_eq (tgt := 1403) he hb dL_law_1149 (by decide) (fun hc => ?_) (fun hc => ?_)
  · rw [if_pos hc] at h
    obtain rfl := Option.some.inj h
    exact kk _ _ hS _ hl
  · rw [if_neg hc] at h
    cases h
def zlc32 (N n : Nat) (f : zF) (p1 : Int32) (p2 : Int32) : Option zF :=
    ((zck n f 11 0).bind fun _ => (zbd (fX11_drawn N n f 0 p1 p2) fun f2 x1 => ((zck n f2 12 196).bind fun _ => (zbd (fX12_drawn N n f2 196 p1 p2) fun f4 x3 => (if x1 = x3 then some f4 else none)))))
set_option maxRecDepth 100000 in
set_option maxHeartbeats 4000000 in
theorem zlw32 (B : zB G p s m #[Value.ref b] meth c RL cL_law 7 (some .boolean)) (hG : zOK G) (hLf : l.stackTraces = false) (hX : va_X b L xs s G.2.2.2) (hbl : b < G.2.2.2.size) (hj : q + 6 ≤ L ∧ L ≤ 3072) (hcs : cells + 1 ≤ room_1.cells ∧ slots + 6 ≤ room_1.slots) (h : zlc32 N n f (xs (q + 1)) (xs (q + 2)) = some f9) (hS : zS G n f H locs) (hl : lv_has ls 7 [(0, .ref b), (1, zr G 0), (2, zr G 196), (3, zr G 215), (4, .int (Int32.ofNat q))])
    (kk : ∀ H1 locs1, zS G n f9 H1 locs1 → ∀ ls1, lv_has ls1 7 [(0, .ref b), (1, zr G 0), (2, zr G 196), (3, zr G 215), (4, .int (Int32.ofNat q))] → W p l e room_1 s m #[Value.ref b] below meth c H1 locs1 (cells + 1) (slots + 6) Q (F0 m 1403 ls1 [])) : W p l e room_1 s m #[Value.ref b] below meth c H locs cells slots Q (F0 m 1154 ls []) := by
  have he := B.1
  have hb := B.2.1
  unfold zlc32 at h
  refine W.widen (Nat.le_add_right _ 1) (Nat.le_add_right _ 6) ?_
  refine z_aload_n he hb dL_law_1154 rfl (lv_at hl 1 rfl) (zref_r _ _) ?_
  refine zl_arg (i := 0) (k := 1) he hb hX hbl hj hS (lv_at hl 0 rfl) (lv_at hl 4 rfl) (by decide) (by decide) dL_law_1155 dL_law_1156 dL_law_1158 dL_law_1159 dL_law_1160 rfl ?_
  refine zl_arg (i := 0) (k := 2) he hb hX hbl hj hS (lv_at hl 0 rfl) (lv_at hl 4 rfl) (by decide) (by decide) dL_law_1161 dL_law_1162 dL_law_1164 dL_law_1165 dL_law_1166 rfl ?_
  obtain ⟨_, hc, h⟩ := zob h
  obtain ⟨f2, x1, hx, h⟩ := zbd_i h
  refine zq_callV (ci := 11) (T := TX11) (N := 14) (rest := []) B hS (mX11_drawn l G hx) zy_X11_drawn zk_1052 ⟨by decide, by decide⟩ hc rfl rfl hl rfl (Nat.le_of_ble_eq_true rfl) dL_law_1167 hcs (fun H locs hS => ?_)
  refine z_aload_n he hb dL_law_1170 rfl (lv_at hl 2 rfl) (zref_r _ _) ?_
  refine zl_arg (i := 0) (k := 1) he hb hX hbl hj hS (lv_at hl 0 rfl) (lv_at hl 4 rfl) (by decide) (by decide) dL_law_1171 dL_law_1172 dL_law_1174 dL_law_1175 dL_law_1176 rfl ?_
  refine zl_arg (i := 0) (k := 2) he hb hX hbl hj hS (lv_at hl 0 rfl) (lv_at hl 4 rfl) (by decide) (by decide) dL_law_1177 dL_law_1178 dL_law_1180 dL_law_1181 dL_law_1182 rfl ?_
  obtain ⟨_, hc, h⟩ := zob h
  obtain ⟨f4, x3, hx, h⟩ := zbd_i h
  refine zq_callV (ci := 12) (T := TX12) (N := 50) (rest := [_]) B hS (mX12_drawn l G hx) zy_X12_drawn zk_1888 ⟨by decide, by decide⟩ hc rfl rfl hl rfl (Nat.le_of_ble_eq_true rfl) dL_law_1183 hcs (fun H locs hS => ?_)
  refine lv_icmp_eq (tgt := 1403) he hb dL_law_1186 (by decide) (fun hc => ?_) (fun hc => ?_)
  · rw [if_pos hc] at h
    obtain rfl := Option.some.inj h
    exact kk _ _ hS _ hl
  · rw [if_neg hc] at h
    cases h
def zlc33 (N n : Nat) (f : zF) (p1 : Int32) (p2 : Int32) (p3 : Int32) : Option zF :=
    ((zck n f 11 0).bind fun _ => (zbd (fX11_odds N n f 0 p1 p2 p3) fun f2 x1 => ((zck n f2 12 196).bind fun _ => (zbd (fX12_odds N n f2 196 p1 p2 p3) fun f4 x3 => (if x1 = x3 then some f4 else none)))))
set_option maxRecDepth 100000 in
set_option maxHeartbeats 4000000 in
theorem zlw33 (B : zB G p s m #[Value.ref b] meth c RL cL_law 7 (some .boolean)) (hG : zOK G) (hLf : l.stackTraces = false) (hX : va_X b L xs s G.2.2.2) (hbl : b < G.2.2.2.size) (hj : q + 6 ≤ L ∧ L ≤ 3072) (hcs : cells + 1 ≤ room_1.cells ∧ slots + 6 ≤ room_1.slots) (h : zlc33 N n f (xs (q + 1)) (xs (q + 2)) (xs (q + 3)) = some f9) (hS : zS G n f H locs) (hl : lv_has ls 7 [(0, .ref b), (1, zr G 0), (2, zr G 196), (3, zr G 215), (4, .int (Int32.ofNat q))])
    (kk : ∀ H1 locs1, zS G n f9 H1 locs1 → ∀ ls1, lv_has ls1 7 [(0, .ref b), (1, zr G 0), (2, zr G 196), (3, zr G 215), (4, .int (Int32.ofNat q))] → W p l e room_1 s m #[Value.ref b] below meth c H1 locs1 (cells + 1) (slots + 6) Q (F0 m 1403 ls1 [])) : W p l e room_1 s m #[Value.ref b] below meth c H locs cells slots Q (F0 m 1191 ls []) := by
  have he := B.1
  have hb := B.2.1
  unfold zlc33 at h
  refine W.widen (Nat.le_add_right _ 1) (Nat.le_add_right _ 6) ?_
  refine z_aload_n he hb dL_law_1191 rfl (lv_at hl 1 rfl) (zref_r _ _) ?_
  refine zl_arg (i := 0) (k := 1) he hb hX hbl hj hS (lv_at hl 0 rfl) (lv_at hl 4 rfl) (by decide) (by decide) dL_law_1192 dL_law_1193 dL_law_1195 dL_law_1196 dL_law_1197 rfl ?_
  refine zl_arg (i := 0) (k := 2) he hb hX hbl hj hS (lv_at hl 0 rfl) (lv_at hl 4 rfl) (by decide) (by decide) dL_law_1198 dL_law_1199 dL_law_1201 dL_law_1202 dL_law_1203 rfl ?_
  refine zl_arg (i := 0) (k := 3) he hb hX hbl hj hS (lv_at hl 0 rfl) (lv_at hl 4 rfl) (by decide) (by decide) dL_law_1204 dL_law_1205 dL_law_1207 dL_law_1208 dL_law_1209 rfl ?_
  obtain ⟨_, hc, h⟩ := zob h
  obtain ⟨f2, x1, hx, h⟩ := zbd_i h
  refine zq_callV (ci := 11) (T := TX11) (N := 14) (rest := []) B hS (mX11_odds l G hx) zy_X11_odds zk_1068 ⟨by decide, by decide⟩ hc rfl rfl hl rfl (Nat.le_of_ble_eq_true rfl) dL_law_1210 hcs (fun H locs hS => ?_)
  refine z_aload_n he hb dL_law_1213 rfl (lv_at hl 2 rfl) (zref_r _ _) ?_
  refine zl_arg (i := 0) (k := 1) he hb hX hbl hj hS (lv_at hl 0 rfl) (lv_at hl 4 rfl) (by decide) (by decide) dL_law_1214 dL_law_1215 dL_law_1217 dL_law_1218 dL_law_1219 rfl ?_
  refine zl_arg (i := 0) (k := 2) he hb hX hbl hj hS (lv_at hl 0 rfl) (lv_at hl 4 rfl) (by decide) (by decide) dL_law_1220 dL_law_1221 dL_law_1223 dL_law_1224 dL_law_1225 rfl ?_
  refine zl_arg (i := 0) (k := 3) he hb hX hbl hj hS (lv_at hl 0 rfl) (lv_at hl 4 rfl) (by decide) (by decide) dL_law_1226 dL_law_1227 dL_law_1229 dL_law_1230 dL_law_1231 rfl ?_
  obtain ⟨_, hc, h⟩ := zob h
  obtain ⟨f4, x3, hx, h⟩ := zbd_i h
  refine zq_callV (ci := 12) (T := TX12) (N := 50) (rest := [_]) B hS (mX12_odds l G hx) zy_X12_odds zk_1905 ⟨by decide, by decide⟩ hc rfl rfl hl rfl (Nat.le_of_ble_eq_true rfl) dL_law_1232 hcs (fun H locs hS => ?_)
  refine lv_icmp_eq (tgt := 1403) he hb dL_law_1235 (by decide) (fun hc => ?_) (fun hc => ?_)
  · rw [if_pos hc] at h
    obtain rfl := Option.some.inj h
    exact kk _ _ hS _ hl
  · rw [if_neg hc] at h
    cases h
def zlc34 (N n : Nat) (f : zF) (p1 : Int32) : Option zF :=
    ((zck n f 11 0).bind fun _ => (zbd (fX11_book N n f 0 p1) fun f2 x1 => ((zck n f2 12 196).bind fun _ => (zbd (fX12_book N n f2 196 p1) fun f4 x3 => (if x1 = x3 then some f4 else none)))))
set_option maxRecDepth 100000 in
set_option maxHeartbeats 4000000 in
theorem zlw34 (B : zB G p s m #[Value.ref b] meth c RL cL_law 7 (some .boolean)) (hG : zOK G) (hLf : l.stackTraces = false) (hX : va_X b L xs s G.2.2.2) (hbl : b < G.2.2.2.size) (hj : q + 6 ≤ L ∧ L ≤ 3072) (hcs : cells + 1 ≤ room_1.cells ∧ slots + 6 ≤ room_1.slots) (h : zlc34 N n f (xs (q + 1)) = some f9) (hS : zS G n f H locs) (hl : lv_has ls 7 [(0, .ref b), (1, zr G 0), (2, zr G 196), (3, zr G 215), (4, .int (Int32.ofNat q))])
    (kk : ∀ H1 locs1, zS G n f9 H1 locs1 → ∀ ls1, lv_has ls1 7 [(0, .ref b), (1, zr G 0), (2, zr G 196), (3, zr G 215), (4, .int (Int32.ofNat q))] → W p l e room_1 s m #[Value.ref b] below meth c H1 locs1 (cells + 1) (slots + 6) Q (F0 m 1403 ls1 [])) : W p l e room_1 s m #[Value.ref b] below meth c H locs cells slots Q (F0 m 1240 ls []) := by
  have he := B.1
  have hb := B.2.1
  unfold zlc34 at h
  refine W.widen (Nat.le_add_right _ 1) (Nat.le_add_right _ 6) ?_
  refine z_aload_n he hb dL_law_1240 rfl (lv_at hl 1 rfl) (zref_r _ _) ?_
  refine zl_arg (i := 0) (k := 1) he hb hX hbl hj hS (lv_at hl 0 rfl) (lv_at hl 4 rfl) (by decide) (by decide) dL_law_1241 dL_law_1242 dL_law_1244 dL_law_1245 dL_law_1246 rfl ?_
  obtain ⟨_, hc, h⟩ := zob h
  obtain ⟨f2, x1, hx, h⟩ := zbd_i h
  refine zq_callV (ci := 11) (T := TX11) (N := 14) (rest := []) B hS (mX11_book l G hx) zy_X11_book zk_1076 ⟨by decide, by decide⟩ hc rfl rfl hl rfl (Nat.le_of_ble_eq_true rfl) dL_law_1247 hcs (fun H locs hS => ?_)
  refine z_aload_n he hb dL_law_1250 rfl (lv_at hl 2 rfl) (zref_r _ _) ?_
  refine zl_arg (i := 0) (k := 1) he hb hX hbl hj hS (lv_at hl 0 rfl) (lv_at hl 4 rfl) (by decide) (by decide) dL_law_1251 dL_law_1252 dL_law_1254 dL_law_1255 dL_law_1256 rfl ?_
  obtain ⟨_, hc, h⟩ := zob h
  obtain ⟨f4, x3, hx, h⟩ := zbd_i h
  refine zq_callV (ci := 12) (T := TX12) (N := 50) (rest := [_]) B hS (mX12_book l G hx) zy_X12_book zk_1909 ⟨by decide, by decide⟩ hc rfl rfl hl rfl (Nat.le_of_ble_eq_true rfl) dL_law_1257 hcs (fun H locs hS => ?_)
  refine lv_icmp_eq (tgt := 1403) he hb dL_law_1260 (by decide) (fun hc => ?_) (fun hc => ?_)
  · rw [if_pos hc] at h
    obtain rfl := Option.some.inj h
    exact kk _ _ hS _ hl
  · rw [if_neg hc] at h
    cases h
def zlc35 (N n : Nat) (f : zF) (p1 : Int32) : Option zF :=
    ((zck n f 11 0).bind fun _ => ((fX11_told N n f 0 p1).bind fun x1 => ((zck n f 12 196).bind fun _ => (zbd (fX12_told N n f 196 p1) fun f3 x2 => (if x1 = x2 then some f3 else none)))))
set_option maxRecDepth 100000 in
set_option maxHeartbeats 4000000 in
theorem zlw35 (B : zB G p s m #[Value.ref b] meth c RL cL_law 7 (some .boolean)) (hG : zOK G) (hLf : l.stackTraces = false) (hX : va_X b L xs s G.2.2.2) (hbl : b < G.2.2.2.size) (hj : q + 6 ≤ L ∧ L ≤ 3072) (hcs : cells + 1 ≤ room_1.cells ∧ slots + 6 ≤ room_1.slots) (h : zlc35 N n f (xs (q + 1)) = some f9) (hS : zS G n f H locs) (hl : lv_has ls 7 [(0, .ref b), (1, zr G 0), (2, zr G 196), (3, zr G 215), (4, .int (Int32.ofNat q))])
    (kk : ∀ H1 locs1, zS G n f9 H1 locs1 → ∀ ls1, lv_has ls1 7 [(0, .ref b), (1, zr G 0), (2, zr G 196), (3, zr G 215), (4, .int (Int32.ofNat q))] → W p l e room_1 s m #[Value.ref b] below meth c H1 locs1 (cells + 1) (slots + 6) Q (F0 m 1403 ls1 [])) : W p l e room_1 s m #[Value.ref b] below meth c H locs cells slots Q (F0 m 1265 ls []) := by
  have he := B.1
  have hb := B.2.1
  unfold zlc35 at h
  refine W.widen (Nat.le_add_right _ 1) (Nat.le_add_right _ 6) ?_
  refine z_aload_n he hb dL_law_1265 rfl (lv_at hl 1 rfl) (zref_r _ _) ?_
  refine zl_arg (i := 0) (k := 1) he hb hX hbl hj hS (lv_at hl 0 rfl) (lv_at hl 4 rfl) (by decide) (by decide) dL_law_1266 dL_law_1267 dL_law_1269 dL_law_1270 dL_law_1271 rfl ?_
  obtain ⟨_, hc, h⟩ := zob h
  obtain ⟨x1, hx, h⟩ := zob h
  refine zq_callV (ci := 11) (T := TX11) (N := 14) (rest := []) B hS (mX11_told l G hx) zy_X11_told zk_1132 ⟨by decide, by decide⟩ hc rfl rfl hl rfl (Nat.le_of_ble_eq_true rfl) dL_law_1272 hcs (fun H locs hS => ?_)
  refine z_aload_n he hb dL_law_1275 rfl (lv_at hl 2 rfl) (zref_r _ _) ?_
  refine zl_arg (i := 0) (k := 1) he hb hX hbl hj hS (lv_at hl 0 rfl) (lv_at hl 4 rfl) (by decide) (by decide) dL_law_1276 dL_law_1277 dL_law_1279 dL_law_1280 dL_law_1281 rfl ?_
  obtain ⟨_, hc, h⟩ := zob h
  obtain ⟨f3, x2, hx, h⟩ := zbd_i h
  refine zq_callV (ci := 12) (T := TX12) (N := 50) (rest := [_]) B hS (mX12_told l G hx) zy_X12_told zk_1921 ⟨by decide, by decide⟩ hc rfl rfl hl rfl (Nat.le_of_ble_eq_true rfl) dL_law_1282 hcs (fun H locs hS => ?_)
  refine lv_icmp_eq (tgt := 1403) he hb dL_law_1285 (by decide) (fun hc => ?_) (fun hc => ?_)
  · rw [if_pos hc] at h
    obtain rfl := Option.some.inj h
    exact kk _ _ hS _ hl
  · rw [if_neg hc] at h
    cases h
def zlc36 (N n : Nat) (f : zF) : Option zF :=
    ((zck n f 11 0).bind fun _ => (zbd (fX11_sentence N n f 0) fun f2 x1 => ((zck n f2 12 196).bind fun _ => (zbd (fX12_sentence N n f2 196) fun f4 x3 => (if x1 = x3 then some f4 else none)))))
set_option maxRecDepth 100000 in
set_option maxHeartbeats 4000000 in
theorem zlw36 (B : zB G p s m #[Value.ref b] meth c RL cL_law 7 (some .boolean)) (hG : zOK G) (hLf : l.stackTraces = false) (hX : va_X b L xs s G.2.2.2) (hbl : b < G.2.2.2.size) (hj : q + 6 ≤ L ∧ L ≤ 3072) (hcs : cells + 1 ≤ room_1.cells ∧ slots + 6 ≤ room_1.slots) (h : zlc36 N n f = some f9) (hS : zS G n f H locs) (hl : lv_has ls 7 [(0, .ref b), (1, zr G 0), (2, zr G 196), (3, zr G 215), (4, .int (Int32.ofNat q))])
    (kk : ∀ H1 locs1, zS G n f9 H1 locs1 → ∀ ls1, lv_has ls1 7 [(0, .ref b), (1, zr G 0), (2, zr G 196), (3, zr G 215), (4, .int (Int32.ofNat q))] → W p l e room_1 s m #[Value.ref b] below meth c H1 locs1 (cells + 1) (slots + 6) Q (F0 m 1403 ls1 [])) : W p l e room_1 s m #[Value.ref b] below meth c H locs cells slots Q (F0 m 1290 ls []) := by
  have he := B.1
  have hb := B.2.1
  unfold zlc36 at h
  refine W.widen (Nat.le_add_right _ 1) (Nat.le_add_right _ 6) ?_
  refine z_aload_n he hb dL_law_1290 rfl (lv_at hl 1 rfl) (zref_r _ _) ?_
  obtain ⟨_, hc, h⟩ := zob h
  obtain ⟨f2, x1, hx, h⟩ := zbd_i h
  refine zq_callV (ci := 11) (T := TX11) (N := 14) (rest := []) B hS (mX11_sentence l G hx) zy_X11_sentence zk_1136 ⟨by decide, by decide⟩ hc rfl rfl hl rfl (Nat.le_of_ble_eq_true rfl) dL_law_1291 hcs (fun H locs hS => ?_)
  refine z_aload_n he hb dL_law_1294 rfl (lv_at hl 2 rfl) (zref_r _ _) ?_
  obtain ⟨_, hc, h⟩ := zob h
  obtain ⟨f4, x3, hx, h⟩ := zbd_i h
  refine zq_callV (ci := 12) (T := TX12) (N := 50) (rest := [_]) B hS (mX12_sentence l G hx) zy_X12_sentence zk_1925 ⟨by decide, by decide⟩ hc rfl rfl hl rfl (Nat.le_of_ble_eq_true rfl) dL_law_1295 hcs (fun H locs hS => ?_)
  refine lv_icmp_eq (tgt := 1403) he hb dL_law_1298 (by decide) (fun hc => ?_) (fun hc => ?_)
  · rw [if_pos hc] at h
    obtain rfl := Option.some.inj h
    exact kk _ _ hS _ hl
  · rw [if_neg hc] at h
    cases h
def zlc37 (N n : Nat) (f : zF) (p1 : Int32) : Option zF :=
    ((zck n f 11 0).bind fun _ => ((fX11_said N n f 0 p1).bind fun x1 => ((zck n f 12 196).bind fun _ => (zbd (fX12_said N n f 196 p1) fun f3 x2 => (if x1 = x2 then some f3 else none)))))
set_option maxRecDepth 100000 in
set_option maxHeartbeats 4000000 in
theorem zlw37 (B : zB G p s m #[Value.ref b] meth c RL cL_law 7 (some .boolean)) (hG : zOK G) (hLf : l.stackTraces = false) (hX : va_X b L xs s G.2.2.2) (hbl : b < G.2.2.2.size) (hj : q + 6 ≤ L ∧ L ≤ 3072) (hcs : cells + 1 ≤ room_1.cells ∧ slots + 6 ≤ room_1.slots) (h : zlc37 N n f (xs (q + 1)) = some f9) (hS : zS G n f H locs) (hl : lv_has ls 7 [(0, .ref b), (1, zr G 0), (2, zr G 196), (3, zr G 215), (4, .int (Int32.ofNat q))])
    (kk : ∀ H1 locs1, zS G n f9 H1 locs1 → ∀ ls1, lv_has ls1 7 [(0, .ref b), (1, zr G 0), (2, zr G 196), (3, zr G 215), (4, .int (Int32.ofNat q))] → W p l e room_1 s m #[Value.ref b] below meth c H1 locs1 (cells + 1) (slots + 6) Q (F0 m 1403 ls1 [])) : W p l e room_1 s m #[Value.ref b] below meth c H locs cells slots Q (F0 m 1303 ls []) := by
  have he := B.1
  have hb := B.2.1
  unfold zlc37 at h
  refine W.widen (Nat.le_add_right _ 1) (Nat.le_add_right _ 6) ?_
  refine z_aload_n he hb dL_law_1303 rfl (lv_at hl 1 rfl) (zref_r _ _) ?_
  refine zl_arg (i := 0) (k := 1) he hb hX hbl hj hS (lv_at hl 0 rfl) (lv_at hl 4 rfl) (by decide) (by decide) dL_law_1304 dL_law_1305 dL_law_1307 dL_law_1308 dL_law_1309 rfl ?_
  obtain ⟨_, hc, h⟩ := zob h
  obtain ⟨x1, hx, h⟩ := zob h
  refine zq_callV (ci := 11) (T := TX11) (N := 14) (rest := []) B hS (mX11_said l G hx) zy_X11_said zk_1176 ⟨by decide, by decide⟩ hc rfl rfl hl rfl (Nat.le_of_ble_eq_true rfl) dL_law_1310 hcs (fun H locs hS => ?_)
  refine z_aload_n he hb dL_law_1313 rfl (lv_at hl 2 rfl) (zref_r _ _) ?_
  refine zl_arg (i := 0) (k := 1) he hb hX hbl hj hS (lv_at hl 0 rfl) (lv_at hl 4 rfl) (by decide) (by decide) dL_law_1314 dL_law_1315 dL_law_1317 dL_law_1318 dL_law_1319 rfl ?_
  obtain ⟨_, hc, h⟩ := zob h
  obtain ⟨f3, x2, hx, h⟩ := zbd_i h
  refine zq_callV (ci := 12) (T := TX12) (N := 50) (rest := [_]) B hS (mX12_said l G hx) zy_X12_said zk_1953 ⟨by decide, by decide⟩ hc rfl rfl hl rfl (Nat.le_of_ble_eq_true rfl) dL_law_1320 hcs (fun H locs hS => ?_)
  refine lv_icmp_eq (tgt := 1403) he hb dL_law_1323 (by decide) (fun hc => ?_) (fun hc => ?_)
  · rw [if_pos hc] at h
    obtain rfl := Option.some.inj h
    exact kk _ _ hS _ hl
  · rw [if_neg hc] at h
    cases h
def zlc38 (N n : Nat) (f : zF) (p1 : Int32) : Option zF :=
    ((zck n f 11 0).bind fun _ => (zbd (fX11_image N n f 0 p1) fun f2 x1 => ((zck n f2 12 196).bind fun _ => (zbd (fX12_image N n f2 196 p1) fun f4 x3 => (if x1 = x3 then some f4 else none)))))
set_option maxRecDepth 100000 in
set_option maxHeartbeats 4000000 in
theorem zlw38 (B : zB G p s m #[Value.ref b] meth c RL cL_law 7 (some .boolean)) (hG : zOK G) (hLf : l.stackTraces = false) (hX : va_X b L xs s G.2.2.2) (hbl : b < G.2.2.2.size) (hj : q + 6 ≤ L ∧ L ≤ 3072) (hcs : cells + 1 ≤ room_1.cells ∧ slots + 6 ≤ room_1.slots) (h : zlc38 N n f (xs (q + 1)) = some f9) (hS : zS G n f H locs) (hl : lv_has ls 7 [(0, .ref b), (1, zr G 0), (2, zr G 196), (3, zr G 215), (4, .int (Int32.ofNat q))])
    (kk : ∀ H1 locs1, zS G n f9 H1 locs1 → ∀ ls1, lv_has ls1 7 [(0, .ref b), (1, zr G 0), (2, zr G 196), (3, zr G 215), (4, .int (Int32.ofNat q))] → W p l e room_1 s m #[Value.ref b] below meth c H1 locs1 (cells + 1) (slots + 6) Q (F0 m 1403 ls1 [])) : W p l e room_1 s m #[Value.ref b] below meth c H locs cells slots Q (F0 m 1328 ls []) := by
  have he := B.1
  have hb := B.2.1
  unfold zlc38 at h
  refine W.widen (Nat.le_add_right _ 1) (Nat.le_add_right _ 6) ?_
  refine z_aload_n he hb dL_law_1328 rfl (lv_at hl 1 rfl) (zref_r _ _) ?_
  refine zl_arg (i := 0) (k := 1) he hb hX hbl hj hS (lv_at hl 0 rfl) (lv_at hl 4 rfl) (by decide) (by decide) dL_law_1329 dL_law_1330 dL_law_1332 dL_law_1333 dL_law_1334 rfl ?_
  obtain ⟨_, hc, h⟩ := zob h
  obtain ⟨f2, x1, hx, h⟩ := zbd_i h
  refine zq_callV (ci := 11) (T := TX11) (N := 14) (rest := []) B hS (mX11_image l G hx) zy_X11_image zk_1194 ⟨by decide, by decide⟩ hc rfl rfl hl rfl (Nat.le_of_ble_eq_true rfl) dL_law_1335 hcs (fun H locs hS => ?_)
  refine z_aload_n he hb dL_law_1338 rfl (lv_at hl 2 rfl) (zref_r _ _) ?_
  refine zl_arg (i := 0) (k := 1) he hb hX hbl hj hS (lv_at hl 0 rfl) (lv_at hl 4 rfl) (by decide) (by decide) dL_law_1339 dL_law_1340 dL_law_1342 dL_law_1343 dL_law_1344 rfl ?_
  obtain ⟨_, hc, h⟩ := zob h
  obtain ⟨f4, x3, hx, h⟩ := zbd_i h
  refine zq_callV (ci := 12) (T := TX12) (N := 50) (rest := [_]) B hS (mX12_image l G hx) zy_X12_image zk_1965 ⟨by decide, by decide⟩ hc rfl rfl hl rfl (Nat.le_of_ble_eq_true rfl) dL_law_1345 hcs (fun H locs hS => ?_)
  refine lv_icmp_eq (tgt := 1403) he hb dL_law_1348 (by decide) (fun hc => ?_) (fun hc => ?_)
  · rw [if_pos hc] at h
    obtain rfl := Option.some.inj h
    exact kk _ _ hS _ hl
  · rw [if_neg hc] at h
    cases h
def zlc39 (N n : Nat) (f : zF) (p1 : Int32) : Option zF :=
    ((zck n f 11 0).bind fun _ => (zbd (fX11_restore N n f 0 p1) fun f2 x1 => ((zck n f2 12 196).bind fun _ => (zbd (fX12_restore N n f2 196 p1) fun f4 x3 => (if x1 = x3 then some f4 else none)))))
set_option maxRecDepth 100000 in
set_option maxHeartbeats 4000000 in
theorem zlw39 (B : zB G p s m #[Value.ref b] meth c RL cL_law 7 (some .boolean)) (hG : zOK G) (hLf : l.stackTraces = false) (hX : va_X b L xs s G.2.2.2) (hbl : b < G.2.2.2.size) (hj : q + 6 ≤ L ∧ L ≤ 3072) (hcs : cells + 1 ≤ room_1.cells ∧ slots + 6 ≤ room_1.slots) (h : zlc39 N n f (xs (q + 1)) = some f9) (hS : zS G n f H locs) (hl : lv_has ls 7 [(0, .ref b), (1, zr G 0), (2, zr G 196), (3, zr G 215), (4, .int (Int32.ofNat q))])
    (kk : ∀ H1 locs1, zS G n f9 H1 locs1 → ∀ ls1, lv_has ls1 7 [(0, .ref b), (1, zr G 0), (2, zr G 196), (3, zr G 215), (4, .int (Int32.ofNat q))] → W p l e room_1 s m #[Value.ref b] below meth c H1 locs1 (cells + 1) (slots + 6) Q (F0 m 1403 ls1 [])) : W p l e room_1 s m #[Value.ref b] below meth c H locs cells slots Q (F0 m 1353 ls []) := by
  have he := B.1
  have hb := B.2.1
  unfold zlc39 at h
  refine W.widen (Nat.le_add_right _ 1) (Nat.le_add_right _ 6) ?_
  refine z_aload_n he hb dL_law_1353 rfl (lv_at hl 1 rfl) (zref_r _ _) ?_
  refine zl_arg (i := 0) (k := 1) he hb hX hbl hj hS (lv_at hl 0 rfl) (lv_at hl 4 rfl) (by decide) (by decide) dL_law_1354 dL_law_1355 dL_law_1357 dL_law_1358 dL_law_1359 rfl ?_
  obtain ⟨_, hc, h⟩ := zob h
  obtain ⟨f2, x1, hx, h⟩ := zbd_i h
  refine zq_callV (ci := 11) (T := TX11) (N := 14) (rest := []) B hS (mX11_restore l G hx) zy_X11_restore zk_1202 ⟨by decide, by decide⟩ hc rfl rfl hl rfl (Nat.le_of_ble_eq_true rfl) dL_law_1360 hcs (fun H locs hS => ?_)
  refine z_aload_n he hb dL_law_1363 rfl (lv_at hl 2 rfl) (zref_r _ _) ?_
  refine zl_arg (i := 0) (k := 1) he hb hX hbl hj hS (lv_at hl 0 rfl) (lv_at hl 4 rfl) (by decide) (by decide) dL_law_1364 dL_law_1365 dL_law_1367 dL_law_1368 dL_law_1369 rfl ?_
  obtain ⟨_, hc, h⟩ := zob h
  obtain ⟨f4, x3, hx, h⟩ := zbd_i h
  refine zq_callV (ci := 12) (T := TX12) (N := 50) (rest := [_]) B hS (mX12_restore l G hx) zy_X12_restore zk_1969 ⟨by decide, by decide⟩ hc rfl rfl hl rfl (Nat.le_of_ble_eq_true rfl) dL_law_1370 hcs (fun H locs hS => ?_)
  refine lv_icmp_eq (tgt := 1403) he hb dL_law_1373 (by decide) (fun hc => ?_) (fun hc => ?_)
  · rw [if_pos hc] at h
    obtain rfl := Option.some.inj h
    exact kk _ _ hS _ hl
  · rw [if_neg hc] at h
    cases h
def zlc40 (N n : Nat) (f : zF) (p1 : Int32) : Option zF :=
    ((zck n f 11 0).bind fun _ => ((fX11_count N n f 0 p1).bind fun x1 => ((zck n f 12 196).bind fun _ => (zbd (fX12_count N n f 196 p1) fun f3 x2 => (if x1 = x2 then some f3 else none)))))
set_option maxRecDepth 100000 in
set_option maxHeartbeats 4000000 in
theorem zlw40 (B : zB G p s m #[Value.ref b] meth c RL cL_law 7 (some .boolean)) (hG : zOK G) (hLf : l.stackTraces = false) (hX : va_X b L xs s G.2.2.2) (hbl : b < G.2.2.2.size) (hj : q + 6 ≤ L ∧ L ≤ 3072) (hcs : cells + 1 ≤ room_1.cells ∧ slots + 6 ≤ room_1.slots) (h : zlc40 N n f (xs (q + 1)) = some f9) (hS : zS G n f H locs) (hl : lv_has ls 7 [(0, .ref b), (1, zr G 0), (2, zr G 196), (3, zr G 215), (4, .int (Int32.ofNat q))])
    (kk : ∀ H1 locs1, zS G n f9 H1 locs1 → ∀ ls1, lv_has ls1 7 [(0, .ref b), (1, zr G 0), (2, zr G 196), (3, zr G 215), (4, .int (Int32.ofNat q))] → W p l e room_1 s m #[Value.ref b] below meth c H1 locs1 (cells + 1) (slots + 6) Q (F0 m 1403 ls1 [])) : W p l e room_1 s m #[Value.ref b] below meth c H locs cells slots Q (F0 m 1378 ls []) := by
  have he := B.1
  have hb := B.2.1
  unfold zlc40 at h
  refine W.widen (Nat.le_add_right _ 1) (Nat.le_add_right _ 6) ?_
  refine z_aload_n he hb dL_law_1378 rfl (lv_at hl 1 rfl) (zref_r _ _) ?_
  refine zl_arg (i := 0) (k := 1) he hb hX hbl hj hS (lv_at hl 0 rfl) (lv_at hl 4 rfl) (by decide) (by decide) dL_law_1379 dL_law_1380 dL_law_1382 dL_law_1383 dL_law_1384 rfl ?_
  obtain ⟨_, hc, h⟩ := zob h
  obtain ⟨x1, hx, h⟩ := zob h
  refine zq_callV (ci := 11) (T := TX11) (N := 14) (rest := []) B hS (mX11_count l G hx) zy_X11_count zk_1206 ⟨by decide, by decide⟩ hc rfl rfl hl rfl (Nat.le_of_ble_eq_true rfl) dL_law_1385 hcs (fun H locs hS => ?_)
  refine z_aload_n he hb dL_law_1388 rfl (lv_at hl 2 rfl) (zref_r _ _) ?_
  refine zl_arg (i := 0) (k := 1) he hb hX hbl hj hS (lv_at hl 0 rfl) (lv_at hl 4 rfl) (by decide) (by decide) dL_law_1389 dL_law_1390 dL_law_1392 dL_law_1393 dL_law_1394 rfl ?_
  obtain ⟨_, hc, h⟩ := zob h
  obtain ⟨f3, x2, hx, h⟩ := zbd_i h
  refine zq_callV (ci := 12) (T := TX12) (N := 50) (rest := [_]) B hS (mX12_count l G hx) zy_X12_count zk_1973 ⟨by decide, by decide⟩ hc rfl rfl hl rfl (Nat.le_of_ble_eq_true rfl) dL_law_1395 hcs (fun H locs hS => ?_)
  refine lv_icmp_eq (tgt := 1403) he hb dL_law_1398 (by decide) (fun hc => ?_) (fun hc => ?_)
  · rw [if_pos hc] at h
    obtain rfl := Option.some.inj h
    exact kk _ _ hS _ hl
  · rw [if_neg hc] at h
    cases h
end ZLAW
