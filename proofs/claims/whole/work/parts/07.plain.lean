/-! a method of a class of which some methods are natives' own (java.lang.Math) -/
theorem zM.ofF {l : Launch} {G : zG} {y : MethodName} {cc : ByteArray} {maxL : Nat} {ret : Option FieldType} {d n : Nat} {f f2 : zF} {av : List Value} {ro : Option Value} (hy : plainFor y = true) (hL : (lg_sl av).length ≤ maxL)
    (body : ∀ p e s m args below meth c locs ls, zB G p s m args meth c y.cls cc maxL ret → zS G n f s.heap locs → lv_has ls maxL (lv_args 0 av) → W p l e (zrm d) s m args below meth c s.heap locs 0 0 (MQ below (zQc G n f2 ro) args s 0 0 (zA G)) (F0 m 0 ls [])) :
    zM l G y cc maxL ret d n f av ro f2 := by
  unfold zM Met
  refine MetFree.of_bodySF (code := cc) (maxLocals := maxL) (ret := ret) hy ?_ ?_
  · intro args s m h hn
    obtain ⟨meth, c, h1, h2, h3, h4, h5, h6, -, -⟩ := Cond.code_spec hn (atoms_spec (ws := zws y cc maxL ret) h _ List.mem_cons_self)
    exact ⟨meth, c, h1, h2, h3, h4, h5, h6⟩
  · intro p e s m args below meth c s₁ B hml hv _
    have hh0 : s₁.heap = s.heap := by rw [B.state]; rfl
    obtain ⟨rfl, hP, hC⟩ := hv
    have hl := lv_entry av hL
    have key : W p l e (zrm d) s m av.toArray below meth c s.heap [] 0 0 (MQ below (zQc G n f2 ro) av.toArray s 0 0 (zA G)) (entryFrame m av.toArray maxL) := by
      rw [lg_entry_eq]
      generalize (lg_sl av ++ List.replicate (maxL - (lg_sl av).length) Slot.unset).toArray = ls at hl ⊢
      exact body p e s m _ below meth c [] ls ⟨B.exec, B.bytes, hml, findClass_of_methodNamed B.named, fun w hw => atoms_spec (ws := zws _ cc maxL ret) B.pre w (List.mem_cons_of_mem _ hw), hC, B.returns, B.notSynchronized⟩ hP hl
    obtain ⟨t, a1, o, b1, b2, b3⟩ := key s₁ hh0 (Stand.of_body B)
    exact ⟨t, o, a1, b1, b2, ⟨b3.1, b3.2⟩⟩
