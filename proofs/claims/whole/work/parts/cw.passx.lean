/-! ===== soonest, fewest, pass where nothing is searched ===== -/
section CLSY
variable {G : bl_G} {l : Launch} {d : Nat} {I : Nat → Nat → Int32} {J : Nat → Nat → Int64} {R : Nat → Nat → Option Nat} {K N : Nat → Nat} {S : cS} {h : Nat} {x y w : Int32} {P : pP}
theorem c_BL_soonestX (hlt : l.stackTraces = false) (hX : swE x w = 1 ∨ ¬ made (rn x)) (kx : K 100 = 11) : bl_MC G l (d + 6) mX10_soonest [.ref 100, .int x, .int w] (I, J, R, K, N) (2, 12) (fun o s' => s' = (I, J, R, K, N) ∧ ((swE x w = 1 ∧ o = .inr bl_IAE) ∨ (swE x w = 0 ∧ ∃ v, o = .inl (some (.int v)) ∧ swP P (rn x) w v))) := by
  by_cases hW : swE x w = 0
  · skip
    refine bl_MC_intro (by decide +kernel) rfl (Nat.le_of_ble_eq_true rfl) ?_
    refine bl_go oX10_soonest 80 [] rfl ?_
    refine ⟨rfl, rfl, kx, (Nat.le_of_ble_eq_true rfl), (2, 12), Nat.le_of_ble_eq_true rfl, Nat.le_of_ble_eq_true rfl, bl_MC_mono (c_BL_wayToX (d := d) hlt hX kx) (fun o3 σ3 q3 => ?_)⟩
    try dsimp only [bl_pv] at q3
    obtain ⟨rfl, f3⟩ := q3
    obtain ⟨-, rfl, f4⟩ := f3.resolve_left (fun q => by rw [hW] at q; exact absurd q.1 (by decide))
    refine bl_go oX10_soonest 80 [] rfl ?_
    refine ⟨(fun h => by cases h), ?_⟩
    try show _ ∧ _
    try dsimp only [bl_pv]
    exact ⟨rfl, Or.inr ⟨hW, _, rfl, Or.inr ⟨Or.inl f4, rfl⟩⟩⟩
  · skip
    refine bl_MC_intro (by decide +kernel) rfl (Nat.le_of_ble_eq_true rfl) ?_
    refine bl_go oX10_soonest 80 [] rfl ?_
    refine ⟨rfl, rfl, kx, (Nat.le_of_ble_eq_true rfl), (2, 12), Nat.le_of_ble_eq_true rfl, Nat.le_of_ble_eq_true rfl, ?_⟩
    refine bl_MC_mono (c_BL_wayToX (d := d) hlt hX kx) (fun o s' q => ?_)
    obtain ⟨rfl, f3⟩ := q
    obtain ⟨e, rfl⟩ := f3.resolve_right (fun q => hW q.1)
    exact Or.inl ⟨rfl, rfl, Or.inl ⟨e, rfl⟩⟩
theorem c_BL_fewestX (hlt : l.stackTraces = false) (hX : swE x w = 1 ∨ ¬ made (rn x)) (kx : K 100 = 11) : bl_MC G l (d + 6) mX10_fewest [.ref 100, .int x, .int w] (I, J, R, K, N) (2, 12) (fun o s' => s' = (I, J, R, K, N) ∧ ((swE x w = 1 ∧ o = .inr bl_IAE) ∨ (swE x w = 0 ∧ ∃ v, o = .inl (some (.int v)) ∧ swP P (rn x) w v))) := by
  by_cases hW : swE x w = 0
  · skip
    refine bl_MC_intro (by decide +kernel) rfl (Nat.le_of_ble_eq_true rfl) ?_
    refine bl_go oX10_fewest 80 [] rfl ?_
    refine ⟨rfl, rfl, kx, (Nat.le_of_ble_eq_true rfl), (2, 12), Nat.le_of_ble_eq_true rfl, Nat.le_of_ble_eq_true rfl, bl_MC_mono (c_BL_wayToX (d := d) hlt hX kx) (fun o3 σ3 q3 => ?_)⟩
    try dsimp only [bl_pv] at q3
    obtain ⟨rfl, f3⟩ := q3
    obtain ⟨-, rfl, f4⟩ := f3.resolve_left (fun q => by rw [hW] at q; exact absurd q.1 (by decide))
    refine bl_go oX10_fewest 80 [] rfl ?_
    refine ⟨(fun h => by cases h), ?_⟩
    try show _ ∧ _
    try dsimp only [bl_pv]
    exact ⟨rfl, Or.inr ⟨hW, _, rfl, Or.inr ⟨Or.inl f4, rfl⟩⟩⟩
  · skip
    refine bl_MC_intro (by decide +kernel) rfl (Nat.le_of_ble_eq_true rfl) ?_
    refine bl_go oX10_fewest 80 [] rfl ?_
    refine ⟨rfl, rfl, kx, (Nat.le_of_ble_eq_true rfl), (2, 12), Nat.le_of_ble_eq_true rfl, Nat.le_of_ble_eq_true rfl, ?_⟩
    refine bl_MC_mono (c_BL_wayToX (d := d) hlt hX kx) (fun o s' q => ?_)
    obtain ⟨rfl, f3⟩ := q
    obtain ⟨e, rfl⟩ := f3.resolve_right (fun q => hW q.1)
    exact Or.inl ⟨rfl, rfl, Or.inl ⟨e, rfl⟩⟩
theorem c_BL_passX (hlt : l.stackTraces = false) (hX : psE' x = 1 ∨ ¬ made (rn x)) (kx : K 100 = 11) : bl_MC G l (d + 6) mX10_pass [.ref 100, .int x, .int y] (I, J, R, K, N) (2, 12) (fun o s' => s' = (I, J, R, K, N) ∧ ((psE' x = 1 ∧ o = .inr bl_IAE) ∨ (psE' x = 0 ∧ ∃ v, o = .inl (some (.int v)) ∧ psP P (rn x) y v))) := by
  have hwb : wb 1 0 = true := by decide
  have hEq : swE x 0 = psE' x := by unfold swE psE'; rw [hwb, Bool.and_true]
  by_cases hW : swE x 0 = 0
  · have hE : psE' x = 0 := hEq.symm.trans hW
    refine bl_MC_intro (by decide +kernel) rfl (Nat.le_of_ble_eq_true rfl) ?_
    refine bl_go oX10_pass 80 [12] rfl ?_
    refine ⟨rfl, rfl, kx, (Nat.le_of_ble_eq_true rfl), (2, 12), Nat.le_of_ble_eq_true rfl, Nat.le_of_ble_eq_true rfl, bl_MC_mono (c_BL_wayToX (d := d) hlt (by rw [hEq]; exact hX) kx) (fun o3 σ3 q3 => ?_)⟩
    try dsimp only [bl_pv] at q3
    obtain ⟨rfl, f3⟩ := q3
    obtain ⟨-, rfl, f4⟩ := f3.resolve_left (fun q => by rw [hW] at q; exact absurd q.1 (by decide))
    refine bl_go oX10_pass 80 [12] rfl ?_
    refine ⟨fun h7 => ?_, fun h7 => ?_⟩
    · try simp (disch := omega) only [zI_n, zI_o, zI_lit, zI_neg, zI_add, zI_sub, zI_mul, zI_lt, zI_le, zI_eq, zI_clamp, zI_in, zI_div, zI_rem, lg_lt0, lg_gt0, lg_eq0, lg_le0, lg_ge0, Int.toNat_natCast, ge_iff_le, gt_iff_lt, List.length_cons, List.length_nil, bl_up2_at, bl_up2_nk, bl_up2_nx] at h7
      first
      | (exfalso; first | omega | exact h7 trivial)
      | (try dsimp only [bl_pv]
         exact absurd trivial (by omega))
    · try simp (disch := omega) only [zI_n, zI_o, zI_lit, zI_neg, zI_add, zI_sub, zI_mul, zI_lt, zI_le, zI_eq, zI_clamp, zI_in, zI_div, zI_rem, lg_lt0, lg_gt0, lg_eq0, lg_le0, lg_ge0, Int.toNat_natCast, ge_iff_le, gt_iff_lt, List.length_cons, List.length_nil, bl_up2_at, bl_up2_nk, bl_up2_nx] at h7
      first
      | (exfalso; first | omega | exact h7 trivial)
      | (refine ⟨(fun h => by cases h), ?_⟩
         try show _ ∧ _
         try dsimp only [bl_pv]
         exact ⟨rfl, Or.inr ⟨hE, _, rfl, Or.inr ⟨Or.inl f4, rfl⟩⟩⟩)
  · skip
    refine bl_MC_intro (by decide +kernel) rfl (Nat.le_of_ble_eq_true rfl) ?_
    refine bl_go oX10_pass 80 [] rfl ?_
    refine ⟨rfl, rfl, kx, (Nat.le_of_ble_eq_true rfl), (2, 12), Nat.le_of_ble_eq_true rfl, Nat.le_of_ble_eq_true rfl, ?_⟩
    refine bl_MC_mono (c_BL_wayToX (d := d) (w := 0) hlt (by rw [hEq]; exact hX) kx) (fun o s' q => ?_)
    obtain ⟨rfl, f3⟩ := q
    obtain ⟨e, rfl⟩ := f3.resolve_right (fun q => hW q.1)
    exact Or.inl ⟨rfl, rfl, Or.inl ⟨hEq.symm.trans e, rfl⟩⟩
end CLSY
