/-! constructors: words -/
/-- a new entry -/
def zmk (f : zF) (k : Nat) (x : zE) : Option zF := some (zu f k x)
theorem zobj : zObj := ⟨zk_31, zk_32⟩
theorem zyi_X2_init : zYI yX2_init cX2_init 1 0 := ⟨zk_148, zk_147, zk_7, rfl, ⟨by decide +kernel, by decide +kernel, by decide +kernel⟩, by decide⟩
theorem zyi_X8_init : zYI yX8_init cX8_init 3 1 := ⟨zk_246, zk_245, zk_8, rfl, ⟨by decide +kernel, by decide +kernel, by decide +kernel⟩, by decide⟩
theorem zyi_X6_init : zYI yX6_init cX6_init 1 0 := ⟨zk_297, zk_296, zk_9, rfl, ⟨by decide +kernel, by decide +kernel, by decide +kernel⟩, by decide⟩
theorem zyi_X0_init : zYI yX0_init cX0_init 1 0 := ⟨zk_471, zk_470, zk_16, rfl, ⟨by decide +kernel, by decide +kernel, by decide +kernel⟩, by decide⟩
theorem zyi_X1_init : zYI yX1_init cX1_init 3 2 := ⟨zk_348, zk_347, zk_11, rfl, ⟨by decide +kernel, by decide +kernel, by decide +kernel⟩, by decide⟩
theorem zyi_X3_init : zYI yX3_init cX3_init 2 1 := ⟨zk_317, zk_316, zk_10, rfl, ⟨by decide +kernel, by decide +kernel, by decide +kernel⟩, by decide⟩
theorem zyi_X4_init : zYI yX4_init cX4_init 1 0 := ⟨zk_443, zk_442, zk_15, rfl, ⟨by decide +kernel, by decide +kernel, by decide +kernel⟩, by decide⟩
theorem zyi_X5_init : zYI yX5_init cX5_init 1 0 := ⟨zk_415, zk_414, zk_14, rfl, ⟨by decide +kernel, by decide +kernel, by decide +kernel⟩, by decide⟩
theorem zyi_X7_init : zYI yX7_init cX7_init 3 2 := ⟨zk_374, zk_373, zk_12, rfl, ⟨by decide +kernel, by decide +kernel, by decide +kernel⟩, by decide⟩
theorem zyi_X12_init : zYI yX12_init cX12_init 2 0 := ⟨zk_1314, zk_1313, zk_17, rfl, ⟨by decide +kernel, by decide +kernel, by decide +kernel⟩, by decide⟩
theorem zyi_X9_init : zYI yX9_init cX9_init 6 0 := ⟨zk_37, zk_36, zk_2, rfl, ⟨by decide +kernel, by decide +kernel, by decide +kernel⟩, by decide⟩
theorem zyi_X10_init : zYI yX10_init cX10_init 3 1 := ⟨zk_396, zk_395, zk_13, rfl, ⟨by decide +kernel, by decide +kernel, by decide +kernel⟩, by decide⟩
theorem zyi_X11_init : zYI yX11_init cX11_init 1 0 := ⟨zk_29, zk_28, zk_1, rfl, ⟨by decide +kernel, by decide +kernel, by decide +kernel⟩, by decide⟩
