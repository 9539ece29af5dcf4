/-! ===== operations that ask, 2 ===== -/
section LWO
variable {G : bl_G} {l : Launch} {s : bl_Mem} {S : cS} {h z i n : Nat} {b : Nat × Nat} {Q : bl_Out → bl_Mem → Prop}
theorem lw_13 (hlt : l.stackTraces = false) (hI : lwI s S h z) (hi : i + 6 ≤ G.2.2.2.2.1 ∧ G.2.2.2.2.1 ≤ 3072) (hb : pC s.2.2.2.1 (n + 1) ≤ b.1 ∧ pS s.2.2.2.1 (n + 1) ≤ b.2) (hk : lwC G l i n Q) : bl_WP G l 40 mL_law 1042 (lvL i) [] s b Q := by
  obtain ⟨I, J, R, K, N⟩ := s
  obtain ⟨hC, hO, hM, ⟨k20, n20, k30⟩, hz⟩ := hI
  dsimp only at k20 n20 k30 hb
  have hb0 := p_le (K := K) (K' := K) (fun _ q => q) n
  refine bl_go oLw_13 120 [2067] rfl ?_
  refine Or.inr (Or.inr ⟨k30, lw_vp (c := 1) (by omega) hi.2, Or.inr (Or.inr ⟨k30, lw_vp (c := 2) (by omega) hi.2, Or.inr (Or.inr ⟨k30, lw_vp (c := 3) (by omega) hi.2, Or.inr (Or.inr ⟨k30, lw_vp (c := 4) (by omega) hi.2, ?_⟩)⟩)⟩)⟩)
  refine ⟨rfl, Nat.le_of_ble_eq_true rfl, (2, 12), (show 2 ≤ b.1 by omega), (show 12 ≤ b.2 by omega), bl_MC_mono (bl_MC_ext (c_L_having (d := 32) hlt hC hO k20 n20 hz)) (fun o s1 q => ?_)⟩
  obtain ⟨⟨rfl, hC1, hF1, hz1, hw1⟩, hE1⟩ := q
  obtain ⟨I1, J1, R1, K1, N1⟩ := s1
  have hM1 := hM.lw hF1
  have x1 := lw_x1 hF1 k20 n20 k30
  have hm1 : mdS R1 K1 N1 10000 := hM1.1
  have hmk1 : mdK I1 10000 S.1 := hM1.2.1
  have km : K1 10000 = 12 := hm1.2.1
  have hp := p_le hE1 n
  refine bl_go oLw_13 120 [2067] rfl ?_
  refine Or.inr (Or.inr ⟨x1.2.2, lw_vp (c := 1) (by omega) hi.2, Or.inr (Or.inr ⟨x1.2.2, lw_vp (c := 2) (by omega) hi.2, Or.inr (Or.inr ⟨x1.2.2, lw_vp (c := 3) (by omega) hi.2, Or.inr (Or.inr ⟨x1.2.2, lw_vp (c := 4) (by omega) hi.2, ?_⟩)⟩)⟩)⟩)
  refine ⟨rfl, rfl, km, Nat.le_of_ble_eq_true rfl, (0, 0), Nat.zero_le _, Nat.zero_le _, bl_MC_mono (c_Model_having (d := 32) hm1 hmk1) (fun o s2 q => ?_)⟩
  obtain ⟨I2, J2, v, rfl, hG, hE2, rfl, hv⟩ := q
  have hfin := lwI.md hC1 hO x1 hz1 (fun y hy => ⟨hG.1 y (by omega) (by omega), hG.2.2 y hy⟩) (hM1.G hG)
  have hJ : J2 920 = J1 920 := hG.2.2 920 (by omega)
  refine bl_go oLw_13 120 [2067] rfl ?_
  refine ⟨rfl, rfl, km, Nat.le_of_ble_eq_true rfl, (0, 0), Nat.zero_le _, Nat.zero_le _, bl_MC_mono (c_Model_thrown (d := 39) km) (fun o s3 q => ?_)⟩
  obtain ⟨rfl, rfl⟩ := q
  have hend := fun (lv : List (Nat × Value)) (hl : lv_pick lv [2, 3, 4, 5, 6] = lvL i) => bl_lv (st := []) (M := mL_law) (pc := 2067) [2, 3, 4, 5, 6] hl (hk _ _ _ _ (b.1 - 2 - 0 - 0, b.2 - 12 - 0 - 0) hfin (show _ ≤ b.1 - 2 - 0 - 0 by have := hp.1; dsimp only; dsimp only at this; omega) (show _ ≤ b.2 - 12 - 0 - 0 by have := hp.2; dsimp only; dsimp only at this; omega))
  refine bl_go oLw_13 120 [2067] rfl ?_
  refine ⟨fun _ => ⟨fun _ => hend _ rfl, fun e => ?_⟩, fun e => absurd hE2 e⟩
  have e0 := nI_z lwk_askE e
  refine ⟨x1.1, lw_v0 x1.2.1, fun _ => hend _ rfl, fun ne => absurd ((lg_eq0 _ _).mpr ?_) ne⟩
  show J2 920 0 = _
  rw [hJ]
  exact (hw1 e0).trans (congrArg Int32.toInt64 (hv e0)).symm
theorem lw_14 (hlt : l.stackTraces = false) (hI : lwI s S h z) (hi : i + 6 ≤ G.2.2.2.2.1 ∧ G.2.2.2.2.1 ≤ 3072) (hb : pC s.2.2.2.1 (n + 1) ≤ b.1 ∧ pS s.2.2.2.1 (n + 1) ≤ b.2) (hk : lwC G l i n Q) : bl_WP G l 40 mL_law 1154 (lvL i) [] s b Q := by
  obtain ⟨I, J, R, K, N⟩ := s
  obtain ⟨hC, hO, hM, ⟨k20, n20, k30⟩, hz⟩ := hI
  dsimp only at k20 n20 k30 hb
  have hb0 := p_le (K := K) (K' := K) (fun _ q => q) n
  refine bl_go oLw_14 120 [2067] rfl ?_
  refine Or.inr (Or.inr ⟨k30, lw_vp (c := 1) (by omega) hi.2, Or.inr (Or.inr ⟨k30, lw_vp (c := 2) (by omega) hi.2, ?_⟩)⟩)
  refine ⟨rfl, Nat.le_of_ble_eq_true rfl, (2, 12), (show 2 ≤ b.1 by omega), (show 12 ≤ b.2 by omega), bl_MC_mono (bl_MC_ext (c_L_kinds (d := 32) hlt hC hO k20 n20 hz)) (fun o s1 q => ?_)⟩
  obtain ⟨⟨rfl, hC1, hF1, hz1, hw1⟩, hE1⟩ := q
  obtain ⟨I1, J1, R1, K1, N1⟩ := s1
  have hM1 := hM.lw hF1
  have x1 := lw_x1 hF1 k20 n20 k30
  have hm1 : mdS R1 K1 N1 10000 := hM1.1
  have hmk1 : mdK I1 10000 S.1 := hM1.2.1
  have km : K1 10000 = 12 := hm1.2.1
  have hp := p_le hE1 n
  refine bl_go oLw_14 120 [2067] rfl ?_
  refine Or.inr (Or.inr ⟨x1.2.2, lw_vp (c := 1) (by omega) hi.2, Or.inr (Or.inr ⟨x1.2.2, lw_vp (c := 2) (by omega) hi.2, ?_⟩)⟩)
  refine ⟨rfl, rfl, km, Nat.le_of_ble_eq_true rfl, (0, 0), Nat.zero_le _, Nat.zero_le _, bl_MC_mono (c_Model_kinds (d := 32) hm1 hmk1) (fun o s2 q => ?_)⟩
  obtain ⟨I2, J2, v, rfl, hG, hE2, rfl, hv⟩ := q
  have hfin := lwI.md hC1 hO x1 hz1 (fun y hy => ⟨hG.1 y (by omega) (by omega), hG.2.2 y hy⟩) (hM1.G hG)
  have hJ : J2 920 = J1 920 := hG.2.2 920 (by omega)
  refine bl_go oLw_14 120 [2067] rfl ?_
  refine ⟨rfl, rfl, km, Nat.le_of_ble_eq_true rfl, (0, 0), Nat.zero_le _, Nat.zero_le _, bl_MC_mono (c_Model_thrown (d := 39) km) (fun o s3 q => ?_)⟩
  obtain ⟨rfl, rfl⟩ := q
  have hend := fun (lv : List (Nat × Value)) (hl : lv_pick lv [2, 3, 4, 5, 6] = lvL i) => bl_lv (st := []) (M := mL_law) (pc := 2067) [2, 3, 4, 5, 6] hl (hk _ _ _ _ (b.1 - 2 - 0 - 0, b.2 - 12 - 0 - 0) hfin (show _ ≤ b.1 - 2 - 0 - 0 by have := hp.1; dsimp only; dsimp only at this; omega) (show _ ≤ b.2 - 12 - 0 - 0 by have := hp.2; dsimp only; dsimp only at this; omega))
  refine bl_go oLw_14 120 [2067] rfl ?_
  refine ⟨fun _ => ⟨fun _ => hend _ rfl, fun e => ?_⟩, fun e => absurd hE2 e⟩
  have e0 := nI_z lwk_askE e
  refine ⟨x1.1, lw_v0 x1.2.1, fun _ => hend _ rfl, fun ne => absurd ((lg_eq0 _ _).mpr ?_) ne⟩
  show J2 920 0 = _
  rw [hJ]
  exact (hw1 e0).trans (congrArg Int32.toInt64 (hv e0)).symm
theorem lw_15 (hlt : l.stackTraces = false) (hI : lwI s S h z) (hi : i + 6 ≤ G.2.2.2.2.1 ∧ G.2.2.2.2.1 ≤ 3072) (hb : pC s.2.2.2.1 (n + 1) ≤ b.1 ∧ pS s.2.2.2.1 (n + 1) ≤ b.2) (hk : lwC G l i n Q) : bl_WP G l 40 mL_law 1222 (lvL i) [] s b Q := by
  obtain ⟨I, J, R, K, N⟩ := s
  obtain ⟨hC, hO, hM, ⟨k20, n20, k30⟩, hz⟩ := hI
  dsimp only at k20 n20 k30 hb
  have hb0 := p_le (K := K) (K' := K) (fun _ q => q) n
  refine bl_go oLw_15 120 [2067] rfl ?_
  refine Or.inr (Or.inr ⟨k30, lw_vp (c := 1) (by omega) hi.2, Or.inr (Or.inr ⟨k30, lw_vp (c := 2) (by omega) hi.2, ?_⟩)⟩)
  refine ⟨rfl, Nat.le_of_ble_eq_true rfl, (2, 12), (show 2 ≤ b.1 by omega), (show 12 ≤ b.2 by omega), bl_MC_mono (bl_MC_ext (c_L_block (d := 32) hlt hC hO k20 n20 hz)) (fun o s1 q => ?_)⟩
  obtain ⟨⟨rfl, hC1, hF1, hz1, hw1⟩, hE1⟩ := q
  obtain ⟨I1, J1, R1, K1, N1⟩ := s1
  have hM1 := hM.lw hF1
  have x1 := lw_x1 hF1 k20 n20 k30
  have hm1 : mdS R1 K1 N1 10000 := hM1.1
  have hmk1 : mdK I1 10000 S.1 := hM1.2.1
  have km : K1 10000 = 12 := hm1.2.1
  have hp := p_le hE1 n
  refine bl_go oLw_15 120 [2067] rfl ?_
  refine Or.inr (Or.inr ⟨x1.2.2, lw_vp (c := 1) (by omega) hi.2, Or.inr (Or.inr ⟨x1.2.2, lw_vp (c := 2) (by omega) hi.2, ?_⟩)⟩)
  refine ⟨rfl, rfl, km, Nat.le_of_ble_eq_true rfl, (0, 0), Nat.zero_le _, Nat.zero_le _, bl_MC_mono (c_Model_block (d := 32) hm1 hmk1) (fun o s2 q => ?_)⟩
  obtain ⟨I2, J2, v, rfl, hG, hE2, rfl, hv⟩ := q
  have hfin := lwI.md hC1 hO x1 hz1 (fun y hy => ⟨hG.1 y (by omega) (by omega), hG.2.2 y hy⟩) (hM1.G hG)
  have hJ : J2 920 = J1 920 := hG.2.2 920 (by omega)
  refine bl_go oLw_15 120 [2067] rfl ?_
  refine ⟨rfl, rfl, km, Nat.le_of_ble_eq_true rfl, (0, 0), Nat.zero_le _, Nat.zero_le _, bl_MC_mono (c_Model_thrown (d := 39) km) (fun o s3 q => ?_)⟩
  obtain ⟨rfl, rfl⟩ := q
  have hend := fun (lv : List (Nat × Value)) (hl : lv_pick lv [2, 3, 4, 5, 6] = lvL i) => bl_lv (st := []) (M := mL_law) (pc := 2067) [2, 3, 4, 5, 6] hl (hk _ _ _ _ (b.1 - 2 - 0 - 0, b.2 - 12 - 0 - 0) hfin (show _ ≤ b.1 - 2 - 0 - 0 by have := hp.1; dsimp only; dsimp only at this; omega) (show _ ≤ b.2 - 12 - 0 - 0 by have := hp.2; dsimp only; dsimp only at this; omega))
  refine bl_go oLw_15 120 [2067] rfl ?_
  refine ⟨fun _ => ⟨fun _ => hend _ rfl, fun e => ?_⟩, fun e => absurd hE2 e⟩
  have e0 := nI_z lwk_askE e
  refine ⟨x1.1, lw_v0 x1.2.1, fun _ => hend _ rfl, fun ne => absurd ((lg_eq0 _ _).mpr ?_) ne⟩
  show J2 920 0 = _
  rw [hJ]
  exact (hw1 e0).trans (congrArg Int32.toInt64 (hv e0)).symm
theorem lw_16 (hlt : l.stackTraces = false) (hI : lwI s S h z) (hi : i + 6 ≤ G.2.2.2.2.1 ∧ G.2.2.2.2.1 ≤ 3072) (hb : pC s.2.2.2.1 (n + 1) ≤ b.1 ∧ pS s.2.2.2.1 (n + 1) ≤ b.2) (hk : lwC G l i n Q) : bl_WP G l 40 mL_law 1290 (lvL i) [] s b Q := by
  obtain ⟨I, J, R, K, N⟩ := s
  obtain ⟨hC, hO, hM, ⟨k20, n20, k30⟩, hz⟩ := hI
  dsimp only at k20 n20 k30 hb
  have hb0 := p_le (K := K) (K' := K) (fun _ q => q) n
  refine bl_go oLw_16 120 [2067] rfl ?_
  refine Or.inr (Or.inr ⟨k30, lw_vp (c := 1) (by omega) hi.2, Or.inr (Or.inr ⟨k30, lw_vp (c := 2) (by omega) hi.2, Or.inr (Or.inr ⟨k30, lw_vp (c := 3) (by omega) hi.2, ?_⟩)⟩)⟩)
  refine ⟨rfl, Nat.le_of_ble_eq_true rfl, (3, 18), (show 3 ≤ b.1 by omega), (show 18 ≤ b.2 by omega), bl_MC_mono (bl_MC_ext (c_L_joins (d := 32) hlt hC hO k20 n20 hz)) (fun o s1 q => ?_)⟩
  obtain ⟨⟨rfl, hC1, hF1, hz1, hw1⟩, hE1⟩ := q
  obtain ⟨I1, J1, R1, K1, N1⟩ := s1
  have hM1 := hM.lw hF1
  have x1 := lw_x1 hF1 k20 n20 k30
  have hm1 : mdS R1 K1 N1 10000 := hM1.1
  have hmk1 : mdK I1 10000 S.1 := hM1.2.1
  have km : K1 10000 = 12 := hm1.2.1
  have hp := p_le hE1 n
  refine bl_go oLw_16 120 [2067] rfl ?_
  refine Or.inr (Or.inr ⟨x1.2.2, lw_vp (c := 1) (by omega) hi.2, Or.inr (Or.inr ⟨x1.2.2, lw_vp (c := 2) (by omega) hi.2, Or.inr (Or.inr ⟨x1.2.2, lw_vp (c := 3) (by omega) hi.2, ?_⟩)⟩)⟩)
  refine ⟨rfl, rfl, km, Nat.le_of_ble_eq_true rfl, (0, 0), Nat.zero_le _, Nat.zero_le _, bl_MC_mono (c_Model_joins (d := 32) hm1 hmk1) (fun o s2 q => ?_)⟩
  obtain ⟨I2, J2, v, rfl, hG, hE2, rfl, hv⟩ := q
  have hfin := lwI.md hC1 hO x1 hz1 (fun y hy => ⟨hG.1 y (by omega) (by omega), hG.2.2 y hy⟩) (hM1.G hG)
  have hJ : J2 920 = J1 920 := hG.2.2 920 (by omega)
  refine bl_go oLw_16 120 [2067] rfl ?_
  refine ⟨rfl, rfl, km, Nat.le_of_ble_eq_true rfl, (0, 0), Nat.zero_le _, Nat.zero_le _, bl_MC_mono (c_Model_thrown (d := 39) km) (fun o s3 q => ?_)⟩
  obtain ⟨rfl, rfl⟩ := q
  have hend := fun (lv : List (Nat × Value)) (hl : lv_pick lv [2, 3, 4, 5, 6] = lvL i) => bl_lv (st := []) (M := mL_law) (pc := 2067) [2, 3, 4, 5, 6] hl (hk _ _ _ _ (b.1 - 3 - 0 - 0, b.2 - 18 - 0 - 0) hfin (show _ ≤ b.1 - 3 - 0 - 0 by have := hp.1; dsimp only; dsimp only at this; omega) (show _ ≤ b.2 - 18 - 0 - 0 by have := hp.2; dsimp only; dsimp only at this; omega))
  refine bl_go oLw_16 120 [2067] rfl ?_
  refine ⟨fun _ => ⟨fun _ => hend _ rfl, fun e => ?_⟩, fun e => absurd hE2 e⟩
  have e0 := nI_z lwk_askW e
  refine ⟨x1.1, lw_v0 x1.2.1, fun _ => hend _ rfl, fun ne => absurd ((lg_eq0 _ _).mpr ?_) ne⟩
  show J2 920 0 = _
  rw [hJ]
  exact (hw1 e0).trans (hv e0).symm
end LWO
