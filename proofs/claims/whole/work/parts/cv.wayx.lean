/-! ===== ButterLeaves: wayTo where nothing is searched ===== -/
section CLSX
variable {G : bl_G} {l : Launch} {d : Nat} {I : Nat → Nat → Int32} {J : Nat → Nat → Int64} {R : Nat → Nat → Option Nat} {K N : Nat → Nat} {S : cS} {h : Nat} {x y w : Int32}
theorem c_BL_wayToX (hlt : l.stackTraces = false) (hX : swE x w = 1 ∨ ¬ made (rn x)) (kx : K 100 = 11) : bl_MC G l (d + 5) mX10_wayTo [.ref 100, .int x, .int w] (I, J, R, K, N) (2, 12) (fun o s' => s' = (I, J, R, K, N) ∧ ((swE x w = 1 ∧ o = .inr bl_IAE) ∨ (swE x w = 0 ∧ o = .inl (some (.int (zI (-1)))) ∧ ¬ made (rn x)))) := by
  by_cases hx : 1 ≤ x ∧ x ≤ 1024
  · obtain ⟨n, hn2, rfl⟩ := i32_nat (b := 1024) (by omega) (Int32.le_trans (show (0 : Int32) ≤ 1 by decide) hx.1) hx.2
    have hn1 : 1 ≤ n := (nI_lek (a := 1) (by omega) (by omega)).mp hx.1
    have en : rn (nI n) = n := nI_clamp (by omega)
    by_cases hw : 0 ≤ w ∧ w ≤ 1
    · have hW : swE (nI n) w = 0 := by unfold swE; rw [inb_t hx, wb_t hw]; rfl
      have hm : ¬ made n := by
        rcases hX with e | e
        · rw [hW] at e; exact absurd e (by decide)
        · rw [en] at e; exact e
      have hfw : fwf n = zI (-1) := if_neg hm
      refine bl_MC_intro (by decide +kernel) rfl (Nat.le_of_ble_eq_true rfl) ?_
      refine bl_go oX10_wayTo 80 [21] rfl ?_
      refine ⟨rfl, (Nat.le_of_ble_eq_true rfl), (1, 6), Nat.le_of_ble_eq_true rfl, Nat.le_of_ble_eq_true rfl, bl_MC_mono (c_BL_needLeavesT (d := d + 4) hx) (fun o1 σ1 q1 => ?_)⟩
      try dsimp only [bl_pv] at q1
      obtain ⟨rfl, rfl⟩ := q1
      refine bl_go oX10_wayTo 80 [21] rfl ?_
      refine ⟨rfl, (Nat.le_of_ble_eq_true rfl), (1, 6), Nat.le_of_ble_eq_true rfl, Nat.le_of_ble_eq_true rfl, bl_MC_mono (c_BL_needWhatT (d := d + 4) hw) (fun o6 σ6 q6 => ?_)⟩
      try dsimp only [bl_pv] at q6
      obtain ⟨rfl, rfl⟩ := q6
      refine bl_go oX10_wayTo 80 [21] rfl ?_
      refine ⟨rfl, (Nat.le_of_ble_eq_true rfl), (0, 0), Nat.le_of_ble_eq_true rfl, Nat.le_of_ble_eq_true rfl, bl_MC_mono (c_Passes_fewestFor (d := d + 3) (n := n) rfl hn1 hn2) (fun o10 σ10 q10 => ?_)⟩
      try dsimp only [bl_pv] at q10
      obtain ⟨rfl, rfl⟩ := q10
      rw [hfw]
      refine bl_go oX10_wayTo 80 [21] rfl ?_
      refine ⟨fun h16 => ?_, fun h16 => ?_⟩
      · try simp (disch := omega) only [zI_n, zI_o, zI_lit, zI_neg, zI_add, zI_sub, zI_mul, zI_lt, zI_le, zI_eq, zI_clamp, zI_in, zI_div, zI_rem, lg_lt0, lg_gt0, lg_eq0, lg_le0, lg_ge0, Int.toNat_natCast, ge_iff_le, gt_iff_lt, List.length_cons, List.length_nil, bl_up2_at, bl_up2_nk, bl_up2_nx] at h16
        first
        | (exfalso; first | omega | exact h16 trivial)
        | (try dsimp only [bl_pv]
           exact absurd trivial (by omega))
      · try simp (disch := omega) only [zI_n, zI_o, zI_lit, zI_neg, zI_add, zI_sub, zI_mul, zI_lt, zI_le, zI_eq, zI_clamp, zI_in, zI_div, zI_rem, lg_lt0, lg_gt0, lg_eq0, lg_le0, lg_ge0, Int.toNat_natCast, ge_iff_le, gt_iff_lt, List.length_cons, List.length_nil, bl_up2_at, bl_up2_nk, bl_up2_nx] at h16
        first
        | (exfalso; first | omega | exact h16 trivial)
        | (refine ⟨(fun h => by cases h), ?_⟩
           try show _ ∧ _
           try dsimp only [bl_pv]
           exact ⟨rfl, Or.inr ⟨hW, rfl, by rw [en]; exact hm⟩⟩)
    · have hW : swE (nI n) w = 1 := by unfold swE; rw [Bool.eq_false_iff.mpr (wb_f hw), Bool.and_false]; rfl
      refine bl_MC_intro (by decide +kernel) rfl (Nat.le_of_ble_eq_true rfl) ?_
      refine bl_go oX10_wayTo 80 [] rfl ?_
      refine ⟨rfl, (Nat.le_of_ble_eq_true rfl), (1, 6), Nat.le_of_ble_eq_true rfl, Nat.le_of_ble_eq_true rfl, bl_MC_mono (c_BL_needLeavesT (d := d + 4) hx) (fun o1 σ1 q1 => ?_)⟩
      try dsimp only [bl_pv] at q1
      obtain ⟨rfl, rfl⟩ := q1
      refine bl_go oX10_wayTo 80 [] rfl ?_
      refine ⟨rfl, (Nat.le_of_ble_eq_true rfl), (1, 6), Nat.le_of_ble_eq_true rfl, Nat.le_of_ble_eq_true rfl, ?_⟩
      refine bl_MC_mono (c_BL_needWhatF (d := d + 4) hlt hw) (fun o s' q => ?_)
      obtain ⟨rfl, rfl⟩ := q
      exact Or.inl ⟨rfl, rfl, Or.inl ⟨hW, rfl⟩⟩
  · have hW : swE x w = 1 := by unfold swE; rw [Bool.eq_false_iff.mpr (inb_f hx), Bool.false_and]; rfl
    refine bl_MC_intro (by decide +kernel) rfl (Nat.le_of_ble_eq_true rfl) ?_
    refine bl_go oX10_wayTo 80 [] rfl ?_
    refine ⟨rfl, (Nat.le_of_ble_eq_true rfl), (1, 6), Nat.le_of_ble_eq_true rfl, Nat.le_of_ble_eq_true rfl, ?_⟩
    refine bl_MC_mono (c_BL_needLeavesF (d := d + 4) hlt hx) (fun o s' q => ?_)
    obtain ⟨rfl, rfl⟩ := q
    exact Or.inl ⟨rfl, rfl, Or.inl ⟨hW, rfl⟩⟩
end CLSX
