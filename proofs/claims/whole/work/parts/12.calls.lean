theorem kc_m1 : Int32.ofInt (-1) = (-1) := by decide
theorem kc_0 : Int32.ofInt 0 = 0 := by decide
theorem kc_1 : Int32.ofInt 1 = 1 := by decide
theorem ki_1 : Int32.ofInt 1 = 1 := by decide
theorem k_X12_321 : CWV RX12 321 RX12 yX12_latest cX12_latest 7 (some .int) 4 := ⟨⟨u_6_233, u_6_230, u_6_232, v_65, u_1_13⟩, ⟨rfl, by decide, by decide, by decide +kernel⟩, by decide⟩
