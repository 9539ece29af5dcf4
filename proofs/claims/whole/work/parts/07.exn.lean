/-! ===== exceptions: words ===== -/
theorem ex_0 : bl_okX "ButterLeaves" 81 85 12 := by
  refine ⟨by decide +kernel, by decide +kernel, by decide +kernel, by decide +kernel, by decide +kernel⟩
theorem ex_1 : bl_okX "ButterLeaves" 140 144 13 := by
  refine ⟨by decide +kernel, by decide +kernel, by decide +kernel, by decide +kernel, by decide +kernel⟩
theorem ex_2 : bl_okX "ButterLeaves" 328 332 14 := by
  refine ⟨by decide +kernel, by decide +kernel, by decide +kernel, by decide +kernel, by decide +kernel⟩
