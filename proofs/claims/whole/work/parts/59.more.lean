/-! ===== statics, constants, Math ===== -/
section BLU
variable {G : bl_G} {l : Launch} {d : Nat} {M : bl_MR} {pc : Nat} {lv : List (Nat × Value)} {st : List Value} {σ : bl_Mem} {b : Nat × Nat} {Q : bl_Out → bl_Mem → Prop}
theorem bl_s_getstatic {idx j a : Nat} {q : String × String × List Int32} (hd : decode M.2.1 pc = .ok (.getstatic idx, 3)) (hj : bl_stat[j]? = some q) (hlk : Cond.fieldLink M.1.cls idx q.1 q.2.1 "[I" ∈ bl_gw) (hK : σ.2.2.2.1 a = 100 + j) (h : bl_WP G l d M (pc + 3) lv (.ref a :: st) σ b Q) : bl_WP G l d M pc lv st σ b Q := by
  intro p e R s m args below meth c H locs cells slots mc ms φ φ0 K0 ls S hl hv hs
  obtain ⟨hMF, hCX, hRel, hS, hX, hR, hB⟩ := id S
  have hφ : φ a = G.2.2.1 j := hRel.choose_spec.2.2.2.2 a j hK
  refine va_gets hMF.1 hMF.2.1 (hCX.2.2.2.2.2.1 j q hj).1 hS hMF.2.2.2.2.1 (hMF.2.2.2.2.2.1 _ hlk) (fun x hx => hx) hd ?_
  have kk := h p e R s m args below meth c H locs cells slots mc ms φ φ0 K0 ls S hl hv (bl_hd (show σ.2.2.2.1 a ≠ 0 by omega) hs)
  rw [List.map_cons] at kk
  simp only [bl_rv, hφ] at kk
  exact kk
theorem bl_s_ialoadR {j a : Nat} {q : String × String × List Int32} {i : Int32} (hd : decode M.2.1 pc = .ok (.iaload, 1)) (hj : bl_stat[j]? = some q) (hK : σ.2.2.2.1 a = 100 + j) (hi : vp_in i q.2.2.length) (h : bl_WP G l d M (pc + 1) lv (.int (q.2.2.getD i.toNatClampNeg 0) :: st) σ b Q) : bl_WP G l d M pc lv (.int i :: .ref a :: st) σ b Q := by
  intro p e R s m args below meth c H locs cells slots mc ms φ φ0 K0 ls S hl hv hs
  obtain ⟨hMF, hCX, hRel, hS, hX, hR, hB⟩ := id S
  have hφ : φ a = G.2.2.1 j := hRel.choose_spec.2.2.2.2 a j hK
  rw [List.map_cons, List.map_cons]
  simp only [bl_rv, hφ]
  refine va_ti hMF.1 hMF.2.1 (hCX.2.2.2.2.2.1 j q hj).2 hS hi rfl hd ?_
  exact h p e R s m args below meth c H locs cells slots mc ms φ φ0 K0 ls S hl hv (bl_hd trivial (bl_t1 (bl_t1 hs)))
theorem bl_s_lengthR {j a : Nat} {q : String × String × List Int32} (hd : decode M.2.1 pc = .ok (.arraylength, 1)) (hj : bl_stat[j]? = some q) (hK : σ.2.2.2.1 a = 100 + j) (h : bl_WP G l d M (pc + 1) lv (.int (Int32.ofNat q.2.2.length) :: st) σ b Q) : bl_WP G l d M pc lv (.ref a :: st) σ b Q := by
  intro p e R s m args below meth c H locs cells slots mc ms φ φ0 K0 ls S hl hv hs
  obtain ⟨hMF, hCX, hRel, hS, hX, hR, hB⟩ := id S
  have hφ : φ a = G.2.2.1 j := hRel.choose_spec.2.2.2.2 a j hK
  rw [List.map_cons]
  simp only [bl_rv, hφ]
  refine va_tlen hMF.1 hMF.2.1 (hCX.2.2.2.2.2.1 j q hj).2 hS rfl hd ?_
  exact h p e R s m args below meth c H locs cells slots mc ms φ φ0 K0 ls S hl hv (bl_hd trivial (bl_t1 hs))
/-- the script's ints, its length -/
theorem bl_s_ialoadX {a : Nat} {i : Int32} (hd : decode M.2.1 pc = .ok (.iaload, 1)) (hK : σ.2.2.2.1 a = 105) (hi : vp_in i G.2.2.2.2.1) (h : bl_WP G l d M (pc + 1) lv (.int (G.2.2.2.2.2 i.toNatClampNeg) :: st) σ b Q) : bl_WP G l d M pc lv (.int i :: .ref a :: st) σ b Q := by
  intro p e R s m args below meth c H locs cells slots mc ms φ φ0 K0 ls S hl hv hs
  obtain ⟨hMF, hCX, hRel, hS, hX, hR, hB⟩ := id S
  have hφ : φ a = G.2.2.1 5 := hRel.choose_spec.2.2.2.2 a 5 hK
  rw [List.map_cons, List.map_cons]
  simp only [bl_rv, hφ]
  refine va_ti hMF.1 hMF.2.1 hCX.2.2.2.2.2.2.1 hS hi rfl hd ?_
  exact h p e R s m args below meth c H locs cells slots mc ms φ φ0 K0 ls S hl hv (bl_hd trivial (bl_t1 (bl_t1 hs)))
theorem bl_s_lengthX {a : Nat} (hd : decode M.2.1 pc = .ok (.arraylength, 1)) (hK : σ.2.2.2.1 a = 105) (h : bl_WP G l d M (pc + 1) lv (.int (Int32.ofNat G.2.2.2.2.1) :: st) σ b Q) : bl_WP G l d M pc lv (.ref a :: st) σ b Q := by
  intro p e R s m args below meth c H locs cells slots mc ms φ φ0 K0 ls S hl hv hs
  obtain ⟨hMF, hCX, hRel, hS, hX, hR, hB⟩ := id S
  have hφ : φ a = G.2.2.1 5 := hRel.choose_spec.2.2.2.2 a 5 hK
  rw [List.map_cons]
  simp only [bl_rv, hφ]
  refine va_tlen hMF.1 hMF.2.1 hCX.2.2.2.2.2.2.1 hS rfl hd ?_
  exact h p e R s m args below meth c H locs cells slots mc ms φ φ0 K0 ls S hl hv (bl_hd trivial (bl_t1 hs))
/-- a String constant -/
theorem bl_s_ldcS {idx j a : Nat} {q : String × Nat × String} (hd : decode M.2.1 pc = .ok (.ldc idx, 2)) (hj : bl_strs[j]? = some q) (h1 : q.1 = M.1.cls) (h2 : q.2.1 = idx) (hK : σ.2.2.2.1 a = 110 + j) (h : bl_WP G l d M (pc + 2) lv (.ref a :: st) σ b Q) : bl_WP G l d M pc lv st σ b Q := by
  intro p e R s m args below meth c H locs cells slots mc ms φ φ0 K0 ls S hl hv hs
  obtain ⟨hMF, hCX, hRel, hS, hX, hR, hB⟩ := id S
  have hφ : φ a = G.2.2.1 (10 + j) := hRel.choose_spec.2.2.2.2 a (10 + j) (by omega)
  have hr := hCX.2.2.2.2.2.2.2.1 j q hj
  rw [h1, h2] at hr
  refine va_ldcS hMF.1 hMF.2.1 hMF.2.2.2.2.1 hr hd ?_
  have kk := h p e R s m args below meth c H locs cells slots mc ms φ φ0 K0 ls S hl hv (bl_hd (show σ.2.2.2.1 a ≠ 0 by omega) hs)
  rw [List.map_cons] at kk
  simp only [bl_rv, hφ] at kk
  exact kk
/-- Math.max, Math.min -/
theorem bl_s_maxI {idx : Nat} {x y : Int32} (hd : decode M.2.1 pc = .ok (.invokestatic idx, 3)) (w1 : Cond.methodLink M.1.cls idx Lib.Math.max.name ∈ bl_gw) (w2 : Cond.static Lib.Math.max.name ∈ bl_gw) (w3 : Cond.initialized "java/lang/Math" ∈ bl_gw) (w4 : Cond.code Lib.Math.max.name Lib.Math.max.code 2 (some .int) ∈ bl_gw) (hrs : (st.map fun v => v.category).sum ≤ 8) (h : bl_WP G l d M (pc + 3) lv (.int (if x < y then y else x) :: st) σ b Q) : bl_WP G l d M pc lv (.int y :: .int x :: st) σ b Q := by
  intro p e R s m args below meth c H locs cells slots mc ms φ φ0 K0 ls S hl hv hs
  obtain ⟨hMF, hCX, hRel, hS, hX, hR, hB⟩ := id S
  refine va_mmax hMF.1 hMF.2.1 (hMF.2.2.1.trans hl.1.symm) hMF.2.2.2.2.1 (hMF.2.2.2.2.2.1 _ w1) (hMF.2.2.2.2.2.1 _ w2) (hMF.2.2.2.2.2.1 _ w3) (hMF.2.2.2.2.2.1 _ w4) (by omega) (by rw [bl_cats]; omega) (by omega) (by omega) hd ?_
  exact h p e R s m args below meth c H locs cells slots mc ms φ φ0 K0 ls S hl hv (bl_hd trivial (bl_t1 (bl_t1 hs)))
theorem bl_s_minI {idx : Nat} {x y : Int32} (hd : decode M.2.1 pc = .ok (.invokestatic idx, 3)) (w1 : Cond.methodLink M.1.cls idx Lib.Math.min.name ∈ bl_gw) (w2 : Cond.static Lib.Math.min.name ∈ bl_gw) (w3 : Cond.initialized "java/lang/Math" ∈ bl_gw) (w4 : Cond.code Lib.Math.min.name Lib.Math.min.code 2 (some .int) ∈ bl_gw) (hrs : (st.map fun v => v.category).sum ≤ 8) (h : bl_WP G l d M (pc + 3) lv (.int (if y < x then y else x) :: st) σ b Q) : bl_WP G l d M pc lv (.int y :: .int x :: st) σ b Q := by
  intro p e R s m args below meth c H locs cells slots mc ms φ φ0 K0 ls S hl hv hs
  obtain ⟨hMF, hCX, hRel, hS, hX, hR, hB⟩ := id S
  refine va_mmin hMF.1 hMF.2.1 (hMF.2.2.1.trans hl.1.symm) hMF.2.2.2.2.1 (hMF.2.2.2.2.2.1 _ w1) (hMF.2.2.2.2.2.1 _ w2) (hMF.2.2.2.2.2.1 _ w3) (hMF.2.2.2.2.2.1 _ w4) (by omega) (by rw [bl_cats]; omega) (by omega) (by omega) hd ?_
  exact h p e R s m args below meth c H locs cells slots mc ms φ φ0 K0 ls S hl hv (bl_hd trivial (bl_t1 (bl_t1 hs)))
theorem bl_s_maxJ {idx : Nat} {x y : Int64} (hd : decode M.2.1 pc = .ok (.invokestatic idx, 3)) (w1 : Cond.methodLink M.1.cls idx Lib.MathLoose.max_long.x ∈ bl_gw) (w2 : Cond.static Lib.MathLoose.max_long.x ∈ bl_gw) (w3 : Cond.initialized "java/lang/Math" ∈ bl_gw) (w4 : Cond.code Lib.MathLoose.max_long.x Lib.MathLoose.max_long.code 4 (some .long) ∈ bl_gw) (hrs : (st.map fun v => v.category).sum ≤ 8) (h : bl_WP G l d M (pc + 3) lv (.long (if y < x then x else y) :: st) σ b Q) : bl_WP G l d M pc lv (.long y :: .long x :: st) σ b Q := by
  intro p e R s m args below meth c H locs cells slots mc ms φ φ0 K0 ls S hl hv hs
  obtain ⟨hMF, hCX, hRel, hS, hX, hR, hB⟩ := id S
  refine va_mmax_long hMF.1 hMF.2.1 (hMF.2.2.1.trans hl.1.symm) hMF.2.2.2.2.1 (hMF.2.2.2.2.2.1 _ w1) (hMF.2.2.2.2.2.1 _ w2) (hMF.2.2.2.2.2.1 _ w3) (hMF.2.2.2.2.2.1 _ w4) (by omega) (by rw [bl_cats]; omega) (by omega) (by omega) hd ?_
  exact h p e R s m args below meth c H locs cells slots mc ms φ φ0 K0 ls S hl hv (bl_hd trivial (bl_t1 (bl_t1 hs)))
theorem bl_s_minJ {idx : Nat} {x y : Int64} (hd : decode M.2.1 pc = .ok (.invokestatic idx, 3)) (w1 : Cond.methodLink M.1.cls idx Lib.MathLoose.min_long.x ∈ bl_gw) (w2 : Cond.static Lib.MathLoose.min_long.x ∈ bl_gw) (w3 : Cond.initialized "java/lang/Math" ∈ bl_gw) (w4 : Cond.code Lib.MathLoose.min_long.x Lib.MathLoose.min_long.code 4 (some .long) ∈ bl_gw) (hrs : (st.map fun v => v.category).sum ≤ 8) (h : bl_WP G l d M (pc + 3) lv (.long (if y < x then y else x) :: st) σ b Q) : bl_WP G l d M pc lv (.long y :: .long x :: st) σ b Q := by
  intro p e R s m args below meth c H locs cells slots mc ms φ φ0 K0 ls S hl hv hs
  obtain ⟨hMF, hCX, hRel, hS, hX, hR, hB⟩ := id S
  refine va_mmin_long hMF.1 hMF.2.1 (hMF.2.2.1.trans hl.1.symm) hMF.2.2.2.2.1 (hMF.2.2.2.2.2.1 _ w1) (hMF.2.2.2.2.2.1 _ w2) (hMF.2.2.2.2.2.1 _ w3) (hMF.2.2.2.2.2.1 _ w4) (by omega) (by rw [bl_cats]; omega) (by omega) (by omega) hd ?_
  exact h p e R s m args below meth c H locs cells slots mc ms φ φ0 K0 ls S hl hv (bl_hd trivial (bl_t1 (bl_t1 hs)))
end BLU
