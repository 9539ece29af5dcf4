/-! ===== the law's beginning ===== -/
section LWB
variable {G : bl_G} {l : Launch} {Q : bl_Out → bl_Mem → Prop}
theorem lwK0_0 {a : Nat} (h : a < 900 ∨ 1000 ≤ a) : lwK0 a = 0 := by
  unfold lwK0
  rw [if_neg (by omega), if_neg (by omega), if_neg (by omega)]
theorem lwK0_4 {j : Nat} (h : j < 5) : lwK0 (940 + j) = 100 + j := by
  unfold lwK0
  rw [if_neg (by omega), if_pos (by omega)]; omega
theorem lwK0_5 {j : Nat} (h : j < 17) : lwK0 (950 + j) = 110 + j := by
  unfold lwK0
  rw [if_neg (by omega), if_neg (by omega), if_pos (by omega)]; omega
theorem pW_1 (K : Nat → Nat) : pW K ≤ 1 := by unfold pW; split <;> omega
theorem pQ_1 (K : Nat → Nat) (r : Nat) : pQ K r ≤ 1 := by unfold pQ; split <;> omega
theorem lw_begin (hlt : l.stackTraces = false) (hL : G.2.2.2.2.1 ≤ 3072) (hQ : ∀ s', Q (.inl (some (.int 1))) s') : bl_WP G l 40 mL_law 0 [(0, .ref 930)] [] lw_s0 (601024, 7293034) Q := by
  have hk0 : lw_s0.2.2.2.1 100 = 0 := lwK0_0 (a := 100) (by omega)
  refine bl_go oLw_s 60 [23] rfl ?_
  refine ⟨100, hk0, Nat.le_of_ble_eq_true rfl, Nat.le_of_ble_eq_true rfl, rfl, Nat.le_of_ble_eq_true rfl, (32, 5596), fun s' => clI s' cS0 180 ∧ cfF (bl_mk lw_s0 100 11 0) s', Nat.le_of_ble_eq_true rfl, Nat.le_of_ble_eq_true rfl, bl_MC_mono (c_BL_init (d := 37) (s := bl_mk lw_s0 100 11 0) bl_mk_Keq (fun j => bl_mk_I0) (fun j => bl_mk_R0) ⟨fun y y1 y2 => (bl_mk_Kne (by omega)).trans (lwK0_0 (a := y) (by omega)), fun y y1 y2 => (bl_mk_Kne (by omega)).trans (lwK0_0 (a := y) (by omega))⟩ (fun j hj => (bl_mk_Kne (by omega)).trans (lwK0_4 hj)) (fun j hj => (bl_mk_Kne (by omega)).trans (lwK0_5 hj))) (fun o s1 q => ?_), fun s1 q => ?_⟩
  · obtain ⟨rfl, q⟩ := q
    exact ⟨rfl, q⟩
  · obtain ⟨hC, hF⟩ := q
    have hK1 : ∀ y, 900 ≤ y → (y < 1000 ∨ 5000 ≤ y) → s1.2.2.2.1 y = lwK0 y := fun y y1 y2 => (hF y y1 y2).2.2.2.1.trans (bl_mk_Kne (by omega))
    have hk1 : s1.2.2.2.1 10000 = 0 := (hK1 10000 (by omega) (by omega)).trans (lwK0_0 (by omega))
    refine ⟨10000, hk1, Nat.le_of_ble_eq_true rfl, Nat.le_of_ble_eq_true rfl, rfl, Nat.le_of_ble_eq_true rfl, (48931, 1633337), fun s' => clI s' cS0 180 ∧ lwM s' cS0 ∧ (∀ y, 900 ≤ y → (y < 1000 ∨ 200000 ≤ y) → s'.2.2.2.1 y = lwK0 y), Nat.le_of_ble_eq_true rfl, Nat.le_of_ble_eq_true rfl, bl_MC_mono (c_Model_init (d := 38) (m := 10000) (s := bl_mk s1 10000 12 0) (by omega) bl_mk_Keq (fun j => bl_mk_I0) (fun y y1 y2 => (bl_mk_Kne (by omega)).trans ((hK1 y (by omega) (by omega)).trans (lwK0_0 (by omega))))) (fun o s2 q => ?_), fun s2 q => ?_⟩
    · obtain ⟨rfl, hS, hK, ⟨i1, i3, i15, i8⟩, hE⟩ := q
      have hC1 : clI (bl_mk s1 10000 12 0) cS0 180 := hC.out (p := fun y => y = 10000) csO_0 eqF_mk (fun y hy => by omega)
      refine ⟨rfl, hC1.out csO_0 hE (fun y hy => by omega), ⟨hS, hK, i1, funext i8, i3, i15, Nat.zero_le _, fun i hi => absurd hi (Nat.not_lt_zero _)⟩, fun y y1 y2 => ?_⟩
      exact (hE y (by omega)).2.2.2.1.trans ((bl_mk_Kne (by omega)).trans (hK1 y (by omega) (by omega)))
    · obtain ⟨hC2, hM2, hK2⟩ := q
      have hk2 : s2.2.2.2.1 920 = 0 := (hK2 920 (by omega) (by omega)).trans (by decide)
      refine ⟨920, hk2, by decide, by decide, Nat.le_of_ble_eq_true rfl, Nat.le_of_ble_eq_true rfl, ?_⟩
      refine bl_WP_bud (b' := (4000, 80000)) (Nat.le_of_ble_eq_true rfl) (Nat.le_of_ble_eq_true rfl) ?_
      refine bl_lv (lv' := lvL 0) [4, 3, 2, 1, 0] rfl ?_
      have hI : lwI (bl_mk s2 920 21 1) cS0 180 200000 := by
        refine ⟨hC2.out (p := fun y => y = 920) csO_0 eqF_mk (fun y hy => by omega), csO_0, hM2.of (fun y y1 y2 => ?_), ⟨bl_mk_Keq, bl_mk_Neq, (bl_mk_Kne (by omega)).trans ((hK2 930 (by omega) (by omega)).trans (by decide))⟩, by omega, fun y hy => (bl_mk_Kne (by omega)).trans ((hK2 y (by omega) (by omega)).trans (lwK0_0 (by omega)))⟩
        have q := eqF_mk (s := s2) (a := 920) (kd := 21) (n := 1) y (by omega)
        exact ⟨q.1, q.2.2.1, q.2.2.2.1, q.2.2.2.2⟩
      have h0 := pW_1 (bl_mk s2 920 21 1).2.2.2.1
      have h1 := pQ_1 (bl_mk s2 920 21 1).2.2.2.1 0
      have h2 := pQ_1 (bl_mk s2 920 21 1).2.2.2.1 1
      have h3 := pQ_1 (bl_mk s2 920 21 1).2.2.2.1 2
      have h4 := pQ_1 (bl_mk s2 920 21 1).2.2.2.1 3
      exact lw_loop hlt hL hQ 512 0 (bl_mk s2 920 21 1) cS0 180 200000 (4000, 80000) hI (by omega) (by omega) (show pC (bl_mk s2 920 21 1).2.2.2.1 512 ≤ 4000 by unfold pC; omega) (show pS (bl_mk s2 920 21 1).2.2.2.1 512 ≤ 80000 by unfold pS; omega)
end LWB
