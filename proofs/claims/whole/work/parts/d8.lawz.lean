/-! ===== soonest, pass, fewest ===== -/
theorem lw_K0 {s : bl_Mem} {S : cS} {h : Nat} (hC : clI s S h) (q : s.2.2.1 100 10 = none) : s.2.2.2.1 200 = 0 := by
  rcases hC.2.2.2.1 with ⟨_, q2⟩ | ⟨q1, _⟩
  · exact q2 200 (by omega) (by omega)
  · rw [q] at q1; cases q1
theorem lw_K1 {s : bl_Mem} {S : cS} {h : Nat} (hC : clI s S h) (q : s.2.2.1 100 10 = some 200) : s.2.2.2.1 200 ≠ 0 := by
  rcases hC.2.2.2.1 with ⟨q1, _⟩ | ⟨_, q2⟩
  · rw [q] at q1; cases q1
  · rw [q2.2.1]; decide
theorem lw_01s {x w : Int32} (h : ¬ swE x w = 1) : swE x w = 0 := by
  unfold swE at h ⊢
  split
  · rfl
  · rename_i q; rw [if_neg q] at h; exact absurd rfl h
theorem lw_01p {x : Int32} (h : ¬ psE' x = 1) : psE' x = 0 := by
  unfold psE' at h ⊢
  split
  · rfl
  · rename_i q; rw [if_neg q] at h; exact absurd rfl h
section LWO
variable {G : bl_G} {l : Launch} {s : bl_Mem} {S : cS} {h z i n : Nat} {b : Nat × Nat} {Q : bl_Out → bl_Mem → Prop}
theorem lw_22T (hlt : l.stackTraces = false) (rx10 : s.2.2.1 100 10 = some 200) (hI : lwI s S h z) (hi : i + 6 ≤ G.2.2.2.2.1 ∧ G.2.2.2.2.1 ≤ 3072) (hb : pC s.2.2.2.1 (n + 1) ≤ b.1 ∧ pS s.2.2.2.1 (n + 1) ≤ b.2) (hk : lwC G l i n Q) : bl_WP G l 40 mL_law 1731 (lvL i) [] s b Q := by
  obtain ⟨I, J, R, K, N⟩ := s
  obtain ⟨hC, hO, hM, ⟨k20, n20, k30⟩, hz⟩ := hI
  dsimp only at k20 n20 k30 hb
  have hb0 := p_le (K := K) (K' := K) (fun _ q => q) n
  refine bl_go oLw_22 120 [2067] rfl ?_
  refine Or.inr (Or.inr ⟨k30, lw_vp (c := 1) (by omega) hi.2, Or.inr (Or.inr ⟨k30, lw_vp (c := 2) (by omega) hi.2, ?_⟩)⟩)
  refine ⟨rfl, Nat.le_of_ble_eq_true rfl, (2, 12), (show 2 ≤ b.1 by omega), (show 12 ≤ b.2 by omega), bl_MC_mono (bl_MC_ext (c_L_soonestT (d := 32) hlt hC hO rx10 k20 n20 hz)) (fun o s1 q => ?_)⟩
  obtain ⟨⟨v0, ⟨rfl, hC1, hF1, hz1, hw1⟩, hv0, hmk⟩, hE1⟩ := q
  obtain ⟨I1, J1, R1, K1, N1⟩ := s1
  have hM1 := hM.lw hF1
  have x1 := lw_x1 hF1 k20 n20 k30
  have hm1 : mdS R1 K1 N1 10000 := hM1.1
  have hmk1 : mdK I1 10000 S.1 := hM1.2.1
  have km : K1 10000 = 12 := hm1.2.1
  have hkg : kgC I1 10000 S.1.1 S.2.1 S.1.2.1 S.1.2.2.2.2 := ⟨hmk1.1, hO.2.1.1, hO.2.1.2, hmk1.2.2.2.1, hmk1.2.2.2.2⟩
  have hp := p_le hE1 n
  refine bl_go oLw_22 120 [2067] rfl ?_
  refine Or.inr (Or.inr ⟨x1.2.2, lw_vp (c := 1) (by omega) hi.2, Or.inr (Or.inr ⟨x1.2.2, lw_vp (c := 2) (by omega) hi.2, ?_⟩)⟩)
  refine ⟨rfl, rfl, km, Nat.le_of_ble_eq_true rfl, (0, 0), Nat.zero_le _, Nat.zero_le _, bl_MC_mono (c_Model_soonest (d := 13) hm1 hkg) (fun o s2 q => ?_)⟩
  obtain ⟨I2, v, rfl, hW, hE2, rfl, hv⟩ := q
  have hfin := lwI.md hC1 hO x1 hz1 (fun y hy => ⟨hW.1 y (by omega) (by omega) (by omega), rfl⟩) (hM1.fr (J' := J1) (fun y y1 y2 => hW.1 y (by omega) (by omega) (by omega)) (fun j hj => hW.2 j (by omega) (by omega)))
  refine bl_go oLw_22 120 [2067] rfl ?_
  refine ⟨rfl, rfl, km, Nat.le_of_ble_eq_true rfl, (0, 0), Nat.zero_le _, Nat.zero_le _, bl_MC_mono (c_Model_thrown (d := 39) km) (fun o s3 q => ?_)⟩
  obtain ⟨rfl, rfl⟩ := q
  have hend := fun (lv : List (Nat × Value)) (hl : lv_pick lv [2, 3, 4, 5, 6] = lvL i) => bl_lv (st := []) (M := mL_law) (pc := 2067) [2, 3, 4, 5, 6] hl (hk _ _ _ _ (b.1 - 2 - 0 - 0, b.2 - 12 - 0 - 0) hfin (show _ ≤ b.1 - 2 - 0 - 0 by have := hp.1; dsimp only; dsimp only at this; omega) (show _ ≤ b.2 - 12 - 0 - 0 by have := hp.2; dsimp only; dsimp only at this; omega))
  refine bl_go oLw_22 120 [2067] rfl ?_
  refine ⟨fun _ => ⟨fun _ => hend _ rfl, fun e => ?_⟩, fun e => absurd hE2 e⟩
  have e0 := nI_z lwk_swE e
  refine ⟨x1.1, lw_v0 x1.2.1, fun _ => hend _ rfl, fun ne => absurd ((lg_eq0 _ _).mpr ?_) ne⟩
  exact (hw1 e0).trans (congrArg Int32.toInt64 (swP_eq (hv0 e0) (hv e0)))
theorem lw_22N (hlt : l.stackTraces = false) (rx10 : s.2.2.1 100 10 = none) (hX : ¬ (swE (G.2.2.2.2.2 (nI i + 1).toNatClampNeg) (G.2.2.2.2.2 (nI i + 2).toNatClampNeg) = 1 ∨ ¬ made (rn (G.2.2.2.2.2 (nI i + 1).toNatClampNeg)))) (hI : lwI s S h z) (hi : i + 6 ≤ G.2.2.2.2.1 ∧ G.2.2.2.2.1 ≤ 3072) (hb : pC s.2.2.2.1 (n + 1) ≤ b.1 ∧ pS s.2.2.2.1 (n + 1) ≤ b.2) (hk : lwC G l i n Q) : bl_WP G l 40 mL_law 1731 (lvL i) [] s b Q := by
  obtain ⟨I, J, R, K, N⟩ := s
  obtain ⟨hC, hO, hM, ⟨k20, n20, k30⟩, hz⟩ := hI
  dsimp only at k20 n20 k30 hb
  have hb0 := p_leW (K := K) (K' := fun _ => 1) (fun _ _ => by decide) (lw_K0 hC rx10) (by decide) n
  refine bl_go oLw_22 120 [2067] rfl ?_
  refine Or.inr (Or.inr ⟨k30, lw_vp (c := 1) (by omega) hi.2, Or.inr (Or.inr ⟨k30, lw_vp (c := 2) (by omega) hi.2, ?_⟩)⟩)
  refine ⟨rfl, Nat.le_of_ble_eq_true rfl, (9, 38847), (show 9 ≤ b.1 by omega), (show 38847 ≤ b.2 by omega), bl_MC_mono (bl_MC_ext (c_L_soonestN (d := 32) hlt hC hO rx10 k20 n20 hz)) (fun o s1 q => ?_)⟩
  obtain ⟨⟨v0, ⟨rfl, hC1, hF1, hz1, hw1⟩, hv0, hmk⟩, hE1⟩ := q
  obtain ⟨I1, J1, R1, K1, N1⟩ := s1
  have hM1 := hM.lw hF1
  have x1 := lw_x1 hF1 k20 n20 k30
  have hm1 : mdS R1 K1 N1 10000 := hM1.1
  have hmk1 : mdK I1 10000 S.1 := hM1.2.1
  have km : K1 10000 = 12 := hm1.2.1
  have hkg : kgC I1 10000 S.1.1 S.2.1 S.1.2.1 S.1.2.2.2.2 := ⟨hmk1.1, hO.2.1.1, hO.2.1.2, hmk1.2.2.2.1, hmk1.2.2.2.2⟩
  have hp := p_leW hE1 (lw_K0 hC rx10) (lw_K1 hC1 (hmk (lw_01s (fun q => hX (Or.inl q))) (Classical.not_not.mp (fun q => hX (Or.inr q))))) n
  refine bl_go oLw_22 120 [2067] rfl ?_
  refine Or.inr (Or.inr ⟨x1.2.2, lw_vp (c := 1) (by omega) hi.2, Or.inr (Or.inr ⟨x1.2.2, lw_vp (c := 2) (by omega) hi.2, ?_⟩)⟩)
  refine ⟨rfl, rfl, km, Nat.le_of_ble_eq_true rfl, (0, 0), Nat.zero_le _, Nat.zero_le _, bl_MC_mono (c_Model_soonest (d := 13) hm1 hkg) (fun o s2 q => ?_)⟩
  obtain ⟨I2, v, rfl, hW, hE2, rfl, hv⟩ := q
  have hfin := lwI.md hC1 hO x1 hz1 (fun y hy => ⟨hW.1 y (by omega) (by omega) (by omega), rfl⟩) (hM1.fr (J' := J1) (fun y y1 y2 => hW.1 y (by omega) (by omega) (by omega)) (fun j hj => hW.2 j (by omega) (by omega)))
  refine bl_go oLw_22 120 [2067] rfl ?_
  refine ⟨rfl, rfl, km, Nat.le_of_ble_eq_true rfl, (0, 0), Nat.zero_le _, Nat.zero_le _, bl_MC_mono (c_Model_thrown (d := 39) km) (fun o s3 q => ?_)⟩
  obtain ⟨rfl, rfl⟩ := q
  have hend := fun (lv : List (Nat × Value)) (hl : lv_pick lv [2, 3, 4, 5, 6] = lvL i) => bl_lv (st := []) (M := mL_law) (pc := 2067) [2, 3, 4, 5, 6] hl (hk _ _ _ _ (b.1 - 9 - 0 - 0, b.2 - 38847 - 0 - 0) hfin (show _ ≤ b.1 - 9 - 0 - 0 by have := hp.1; dsimp only; dsimp only at this; omega) (show _ ≤ b.2 - 38847 - 0 - 0 by have := hp.2; dsimp only; dsimp only at this; omega))
  refine bl_go oLw_22 120 [2067] rfl ?_
  refine ⟨fun _ => ⟨fun _ => hend _ rfl, fun e => ?_⟩, fun e => absurd hE2 e⟩
  have e0 := nI_z lwk_swE e
  refine ⟨x1.1, lw_v0 x1.2.1, fun _ => hend _ rfl, fun ne => absurd ((lg_eq0 _ _).mpr ?_) ne⟩
  exact (hw1 e0).trans (congrArg Int32.toInt64 (swP_eq (hv0 e0) (hv e0)))
theorem lw_22X (hlt : l.stackTraces = false) (hX : swE (G.2.2.2.2.2 (nI i + 1).toNatClampNeg) (G.2.2.2.2.2 (nI i + 2).toNatClampNeg) = 1 ∨ ¬ made (rn (G.2.2.2.2.2 (nI i + 1).toNatClampNeg))) (hI : lwI s S h z) (hi : i + 6 ≤ G.2.2.2.2.1 ∧ G.2.2.2.2.1 ≤ 3072) (hb : pC s.2.2.2.1 (n + 1) ≤ b.1 ∧ pS s.2.2.2.1 (n + 1) ≤ b.2) (hk : lwC G l i n Q) : bl_WP G l 40 mL_law 1731 (lvL i) [] s b Q := by
  obtain ⟨I, J, R, K, N⟩ := s
  obtain ⟨hC, hO, hM, ⟨k20, n20, k30⟩, hz⟩ := hI
  dsimp only at k20 n20 k30 hb
  have hb0 := p_le (K := K) (K' := K) (fun _ q => q) n
  refine bl_go oLw_22 120 [2067] rfl ?_
  refine Or.inr (Or.inr ⟨k30, lw_vp (c := 1) (by omega) hi.2, Or.inr (Or.inr ⟨k30, lw_vp (c := 2) (by omega) hi.2, ?_⟩)⟩)
  refine ⟨rfl, Nat.le_of_ble_eq_true rfl, (2, 12), (show 2 ≤ b.1 by omega), (show 12 ≤ b.2 by omega), bl_MC_mono (bl_MC_ext (c_L_soonestX (d := 32) hlt hC hO hX k20 n20 hz)) (fun o s1 q => ?_)⟩
  obtain ⟨⟨v0, ⟨rfl, hC1, hF1, hz1, hw1⟩, hv0, hmk⟩, hE1⟩ := q
  obtain ⟨I1, J1, R1, K1, N1⟩ := s1
  have hM1 := hM.lw hF1
  have x1 := lw_x1 hF1 k20 n20 k30
  have hm1 : mdS R1 K1 N1 10000 := hM1.1
  have hmk1 : mdK I1 10000 S.1 := hM1.2.1
  have km : K1 10000 = 12 := hm1.2.1
  have hkg : kgC I1 10000 S.1.1 S.2.1 S.1.2.1 S.1.2.2.2.2 := ⟨hmk1.1, hO.2.1.1, hO.2.1.2, hmk1.2.2.2.1, hmk1.2.2.2.2⟩
  have hp := p_le hE1 n
  refine bl_go oLw_22 120 [2067] rfl ?_
  refine Or.inr (Or.inr ⟨x1.2.2, lw_vp (c := 1) (by omega) hi.2, Or.inr (Or.inr ⟨x1.2.2, lw_vp (c := 2) (by omega) hi.2, ?_⟩)⟩)
  refine ⟨rfl, rfl, km, Nat.le_of_ble_eq_true rfl, (0, 0), Nat.zero_le _, Nat.zero_le _, bl_MC_mono (c_Model_soonest (d := 13) hm1 hkg) (fun o s2 q => ?_)⟩
  obtain ⟨I2, v, rfl, hW, hE2, rfl, hv⟩ := q
  have hfin := lwI.md hC1 hO x1 hz1 (fun y hy => ⟨hW.1 y (by omega) (by omega) (by omega), rfl⟩) (hM1.fr (J' := J1) (fun y y1 y2 => hW.1 y (by omega) (by omega) (by omega)) (fun j hj => hW.2 j (by omega) (by omega)))
  refine bl_go oLw_22 120 [2067] rfl ?_
  refine ⟨rfl, rfl, km, Nat.le_of_ble_eq_true rfl, (0, 0), Nat.zero_le _, Nat.zero_le _, bl_MC_mono (c_Model_thrown (d := 39) km) (fun o s3 q => ?_)⟩
  obtain ⟨rfl, rfl⟩ := q
  have hend := fun (lv : List (Nat × Value)) (hl : lv_pick lv [2, 3, 4, 5, 6] = lvL i) => bl_lv (st := []) (M := mL_law) (pc := 2067) [2, 3, 4, 5, 6] hl (hk _ _ _ _ (b.1 - 2 - 0 - 0, b.2 - 12 - 0 - 0) hfin (show _ ≤ b.1 - 2 - 0 - 0 by have := hp.1; dsimp only; dsimp only at this; omega) (show _ ≤ b.2 - 12 - 0 - 0 by have := hp.2; dsimp only; dsimp only at this; omega))
  refine bl_go oLw_22 120 [2067] rfl ?_
  refine ⟨fun _ => ⟨fun _ => hend _ rfl, fun e => ?_⟩, fun e => absurd hE2 e⟩
  have e0 := nI_z lwk_swE e
  refine ⟨x1.1, lw_v0 x1.2.1, fun _ => hend _ rfl, fun ne => absurd ((lg_eq0 _ _).mpr ?_) ne⟩
  exact (hw1 e0).trans (congrArg Int32.toInt64 (swP_eq (hv0 e0) (hv e0)))
theorem lw_22 (hlt : l.stackTraces = false) (hI : lwI s S h z) (hi : i + 6 ≤ G.2.2.2.2.1 ∧ G.2.2.2.2.1 ≤ 3072) (hb : pC s.2.2.2.1 (n + 1) ≤ b.1 ∧ pS s.2.2.2.1 (n + 1) ≤ b.2) (hk : lwC G l i n Q) : bl_WP G l 40 mL_law 1731 (lvL i) [] s b Q := by
  rcases hI.1.2.2.2.1 with ⟨q, _⟩ | ⟨q, _⟩
  · by_cases hX : swE (G.2.2.2.2.2 (nI i + 1).toNatClampNeg) (G.2.2.2.2.2 (nI i + 2).toNatClampNeg) = 1 ∨ ¬ made (rn (G.2.2.2.2.2 (nI i + 1).toNatClampNeg))
    · exact lw_22X hlt hX hI hi hb hk
    · exact lw_22N hlt q hX hI hi hb hk
  · exact lw_22T hlt q hI hi hb hk
theorem lw_23T (hlt : l.stackTraces = false) (rx10 : s.2.2.1 100 10 = some 200) (hI : lwI s S h z) (hi : i + 6 ≤ G.2.2.2.2.1 ∧ G.2.2.2.2.1 ≤ 3072) (hb : pC s.2.2.2.1 (n + 1) ≤ b.1 ∧ pS s.2.2.2.1 (n + 1) ≤ b.2) (hk : lwC G l i n Q) : bl_WP G l 40 mL_law 1799 (lvL i) [] s b Q := by
  obtain ⟨I, J, R, K, N⟩ := s
  obtain ⟨hC, hO, hM, ⟨k20, n20, k30⟩, hz⟩ := hI
  dsimp only at k20 n20 k30 hb
  have hb0 := p_le (K := K) (K' := K) (fun _ q => q) n
  refine bl_go oLw_23 120 [2067] rfl ?_
  refine Or.inr (Or.inr ⟨k30, lw_vp (c := 1) (by omega) hi.2, Or.inr (Or.inr ⟨k30, lw_vp (c := 2) (by omega) hi.2, ?_⟩)⟩)
  refine ⟨rfl, Nat.le_of_ble_eq_true rfl, (2, 12), (show 2 ≤ b.1 by omega), (show 12 ≤ b.2 by omega), bl_MC_mono (bl_MC_ext (c_L_passT (d := 32) hlt hC hO rx10 k20 n20 hz)) (fun o s1 q => ?_)⟩
  obtain ⟨⟨v0, ⟨rfl, hC1, hF1, hz1, hw1⟩, hv0, hmk⟩, hE1⟩ := q
  obtain ⟨I1, J1, R1, K1, N1⟩ := s1
  have hM1 := hM.lw hF1
  have x1 := lw_x1 hF1 k20 n20 k30
  have hm1 : mdS R1 K1 N1 10000 := hM1.1
  have hmk1 : mdK I1 10000 S.1 := hM1.2.1
  have km : K1 10000 = 12 := hm1.2.1
  have hkg : kgC I1 10000 S.1.1 S.2.1 S.1.2.1 S.1.2.2.2.2 := ⟨hmk1.1, hO.2.1.1, hO.2.1.2, hmk1.2.2.2.1, hmk1.2.2.2.2⟩
  have hp := p_le hE1 n
  refine bl_go oLw_23 120 [2067] rfl ?_
  refine Or.inr (Or.inr ⟨x1.2.2, lw_vp (c := 1) (by omega) hi.2, Or.inr (Or.inr ⟨x1.2.2, lw_vp (c := 2) (by omega) hi.2, ?_⟩)⟩)
  refine ⟨rfl, rfl, km, Nat.le_of_ble_eq_true rfl, (0, 0), Nat.zero_le _, Nat.zero_le _, bl_MC_mono (c_Model_pass (d := 13) hm1 hkg) (fun o s2 q => ?_)⟩
  obtain ⟨I2, v, rfl, hW, hE2, rfl, hv⟩ := q
  have hfin := lwI.md hC1 hO x1 hz1 (fun y hy => ⟨hW.1 y (by omega) (by omega) (by omega), rfl⟩) (hM1.fr (J' := J1) (fun y y1 y2 => hW.1 y (by omega) (by omega) (by omega)) (fun j hj => hW.2 j (by omega) (by omega)))
  refine bl_go oLw_23 120 [2067] rfl ?_
  refine ⟨rfl, rfl, km, Nat.le_of_ble_eq_true rfl, (0, 0), Nat.zero_le _, Nat.zero_le _, bl_MC_mono (c_Model_thrown (d := 39) km) (fun o s3 q => ?_)⟩
  obtain ⟨rfl, rfl⟩ := q
  have hend := fun (lv : List (Nat × Value)) (hl : lv_pick lv [2, 3, 4, 5, 6] = lvL i) => bl_lv (st := []) (M := mL_law) (pc := 2067) [2, 3, 4, 5, 6] hl (hk _ _ _ _ (b.1 - 2 - 0 - 0, b.2 - 12 - 0 - 0) hfin (show _ ≤ b.1 - 2 - 0 - 0 by have := hp.1; dsimp only; dsimp only at this; omega) (show _ ≤ b.2 - 12 - 0 - 0 by have := hp.2; dsimp only; dsimp only at this; omega))
  refine bl_go oLw_23 120 [2067] rfl ?_
  refine ⟨fun _ => ⟨fun _ => hend _ rfl, fun e => ?_⟩, fun e => absurd hE2 e⟩
  have e0 := nI_z lwk_psE e
  refine ⟨x1.1, lw_v0 x1.2.1, fun _ => hend _ rfl, fun ne => absurd ((lg_eq0 _ _).mpr ?_) ne⟩
  exact (hw1 e0).trans (congrArg Int32.toInt64 (psP_eq2 (psE_r e0) (hv0 e0) (hv e0)))
theorem lw_23N (hlt : l.stackTraces = false) (rx10 : s.2.2.1 100 10 = none) (hX : ¬ (psE' (G.2.2.2.2.2 (nI i + 1).toNatClampNeg) = 1 ∨ ¬ made (rn (G.2.2.2.2.2 (nI i + 1).toNatClampNeg)))) (hI : lwI s S h z) (hi : i + 6 ≤ G.2.2.2.2.1 ∧ G.2.2.2.2.1 ≤ 3072) (hb : pC s.2.2.2.1 (n + 1) ≤ b.1 ∧ pS s.2.2.2.1 (n + 1) ≤ b.2) (hk : lwC G l i n Q) : bl_WP G l 40 mL_law 1799 (lvL i) [] s b Q := by
  obtain ⟨I, J, R, K, N⟩ := s
  obtain ⟨hC, hO, hM, ⟨k20, n20, k30⟩, hz⟩ := hI
  dsimp only at k20 n20 k30 hb
  have hb0 := p_leW (K := K) (K' := fun _ => 1) (fun _ _ => by decide) (lw_K0 hC rx10) (by decide) n
  refine bl_go oLw_23 120 [2067] rfl ?_
  refine Or.inr (Or.inr ⟨k30, lw_vp (c := 1) (by omega) hi.2, Or.inr (Or.inr ⟨k30, lw_vp (c := 2) (by omega) hi.2, ?_⟩)⟩)
  refine ⟨rfl, Nat.le_of_ble_eq_true rfl, (9, 38847), (show 9 ≤ b.1 by omega), (show 38847 ≤ b.2 by omega), bl_MC_mono (bl_MC_ext (c_L_passN (d := 32) hlt hC hO rx10 k20 n20 hz)) (fun o s1 q => ?_)⟩
  obtain ⟨⟨v0, ⟨rfl, hC1, hF1, hz1, hw1⟩, hv0, hmk⟩, hE1⟩ := q
  obtain ⟨I1, J1, R1, K1, N1⟩ := s1
  have hM1 := hM.lw hF1
  have x1 := lw_x1 hF1 k20 n20 k30
  have hm1 : mdS R1 K1 N1 10000 := hM1.1
  have hmk1 : mdK I1 10000 S.1 := hM1.2.1
  have km : K1 10000 = 12 := hm1.2.1
  have hkg : kgC I1 10000 S.1.1 S.2.1 S.1.2.1 S.1.2.2.2.2 := ⟨hmk1.1, hO.2.1.1, hO.2.1.2, hmk1.2.2.2.1, hmk1.2.2.2.2⟩
  have hp := p_leW hE1 (lw_K0 hC rx10) (lw_K1 hC1 (hmk (lw_01p (fun q => hX (Or.inl q))) (Classical.not_not.mp (fun q => hX (Or.inr q))))) n
  refine bl_go oLw_23 120 [2067] rfl ?_
  refine Or.inr (Or.inr ⟨x1.2.2, lw_vp (c := 1) (by omega) hi.2, Or.inr (Or.inr ⟨x1.2.2, lw_vp (c := 2) (by omega) hi.2, ?_⟩)⟩)
  refine ⟨rfl, rfl, km, Nat.le_of_ble_eq_true rfl, (0, 0), Nat.zero_le _, Nat.zero_le _, bl_MC_mono (c_Model_pass (d := 13) hm1 hkg) (fun o s2 q => ?_)⟩
  obtain ⟨I2, v, rfl, hW, hE2, rfl, hv⟩ := q
  have hfin := lwI.md hC1 hO x1 hz1 (fun y hy => ⟨hW.1 y (by omega) (by omega) (by omega), rfl⟩) (hM1.fr (J' := J1) (fun y y1 y2 => hW.1 y (by omega) (by omega) (by omega)) (fun j hj => hW.2 j (by omega) (by omega)))
  refine bl_go oLw_23 120 [2067] rfl ?_
  refine ⟨rfl, rfl, km, Nat.le_of_ble_eq_true rfl, (0, 0), Nat.zero_le _, Nat.zero_le _, bl_MC_mono (c_Model_thrown (d := 39) km) (fun o s3 q => ?_)⟩
  obtain ⟨rfl, rfl⟩ := q
  have hend := fun (lv : List (Nat × Value)) (hl : lv_pick lv [2, 3, 4, 5, 6] = lvL i) => bl_lv (st := []) (M := mL_law) (pc := 2067) [2, 3, 4, 5, 6] hl (hk _ _ _ _ (b.1 - 9 - 0 - 0, b.2 - 38847 - 0 - 0) hfin (show _ ≤ b.1 - 9 - 0 - 0 by have := hp.1; dsimp only; dsimp only at this; omega) (show _ ≤ b.2 - 38847 - 0 - 0 by have := hp.2; dsimp only; dsimp only at this; omega))
  refine bl_go oLw_23 120 [2067] rfl ?_
  refine ⟨fun _ => ⟨fun _ => hend _ rfl, fun e => ?_⟩, fun e => absurd hE2 e⟩
  have e0 := nI_z lwk_psE e
  refine ⟨x1.1, lw_v0 x1.2.1, fun _ => hend _ rfl, fun ne => absurd ((lg_eq0 _ _).mpr ?_) ne⟩
  exact (hw1 e0).trans (congrArg Int32.toInt64 (psP_eq2 (psE_r e0) (hv0 e0) (hv e0)))
theorem lw_23X (hlt : l.stackTraces = false) (hX : psE' (G.2.2.2.2.2 (nI i + 1).toNatClampNeg) = 1 ∨ ¬ made (rn (G.2.2.2.2.2 (nI i + 1).toNatClampNeg))) (hI : lwI s S h z) (hi : i + 6 ≤ G.2.2.2.2.1 ∧ G.2.2.2.2.1 ≤ 3072) (hb : pC s.2.2.2.1 (n + 1) ≤ b.1 ∧ pS s.2.2.2.1 (n + 1) ≤ b.2) (hk : lwC G l i n Q) : bl_WP G l 40 mL_law 1799 (lvL i) [] s b Q := by
  obtain ⟨I, J, R, K, N⟩ := s
  obtain ⟨hC, hO, hM, ⟨k20, n20, k30⟩, hz⟩ := hI
  dsimp only at k20 n20 k30 hb
  have hb0 := p_le (K := K) (K' := K) (fun _ q => q) n
  refine bl_go oLw_23 120 [2067] rfl ?_
  refine Or.inr (Or.inr ⟨k30, lw_vp (c := 1) (by omega) hi.2, Or.inr (Or.inr ⟨k30, lw_vp (c := 2) (by omega) hi.2, ?_⟩)⟩)
  refine ⟨rfl, Nat.le_of_ble_eq_true rfl, (2, 12), (show 2 ≤ b.1 by omega), (show 12 ≤ b.2 by omega), bl_MC_mono (bl_MC_ext (c_L_passX (d := 32) hlt hC hO hX k20 n20 hz)) (fun o s1 q => ?_)⟩
  obtain ⟨⟨v0, ⟨rfl, hC1, hF1, hz1, hw1⟩, hv0, hmk⟩, hE1⟩ := q
  obtain ⟨I1, J1, R1, K1, N1⟩ := s1
  have hM1 := hM.lw hF1
  have x1 := lw_x1 hF1 k20 n20 k30
  have hm1 : mdS R1 K1 N1 10000 := hM1.1
  have hmk1 : mdK I1 10000 S.1 := hM1.2.1
  have km : K1 10000 = 12 := hm1.2.1
  have hkg : kgC I1 10000 S.1.1 S.2.1 S.1.2.1 S.1.2.2.2.2 := ⟨hmk1.1, hO.2.1.1, hO.2.1.2, hmk1.2.2.2.1, hmk1.2.2.2.2⟩
  have hp := p_le hE1 n
  refine bl_go oLw_23 120 [2067] rfl ?_
  refine Or.inr (Or.inr ⟨x1.2.2, lw_vp (c := 1) (by omega) hi.2, Or.inr (Or.inr ⟨x1.2.2, lw_vp (c := 2) (by omega) hi.2, ?_⟩)⟩)
  refine ⟨rfl, rfl, km, Nat.le_of_ble_eq_true rfl, (0, 0), Nat.zero_le _, Nat.zero_le _, bl_MC_mono (c_Model_pass (d := 13) hm1 hkg) (fun o s2 q => ?_)⟩
  obtain ⟨I2, v, rfl, hW, hE2, rfl, hv⟩ := q
  have hfin := lwI.md hC1 hO x1 hz1 (fun y hy => ⟨hW.1 y (by omega) (by omega) (by omega), rfl⟩) (hM1.fr (J' := J1) (fun y y1 y2 => hW.1 y (by omega) (by omega) (by omega)) (fun j hj => hW.2 j (by omega) (by omega)))
  refine bl_go oLw_23 120 [2067] rfl ?_
  refine ⟨rfl, rfl, km, Nat.le_of_ble_eq_true rfl, (0, 0), Nat.zero_le _, Nat.zero_le _, bl_MC_mono (c_Model_thrown (d := 39) km) (fun o s3 q => ?_)⟩
  obtain ⟨rfl, rfl⟩ := q
  have hend := fun (lv : List (Nat × Value)) (hl : lv_pick lv [2, 3, 4, 5, 6] = lvL i) => bl_lv (st := []) (M := mL_law) (pc := 2067) [2, 3, 4, 5, 6] hl (hk _ _ _ _ (b.1 - 2 - 0 - 0, b.2 - 12 - 0 - 0) hfin (show _ ≤ b.1 - 2 - 0 - 0 by have := hp.1; dsimp only; dsimp only at this; omega) (show _ ≤ b.2 - 12 - 0 - 0 by have := hp.2; dsimp only; dsimp only at this; omega))
  refine bl_go oLw_23 120 [2067] rfl ?_
  refine ⟨fun _ => ⟨fun _ => hend _ rfl, fun e => ?_⟩, fun e => absurd hE2 e⟩
  have e0 := nI_z lwk_psE e
  refine ⟨x1.1, lw_v0 x1.2.1, fun _ => hend _ rfl, fun ne => absurd ((lg_eq0 _ _).mpr ?_) ne⟩
  exact (hw1 e0).trans (congrArg Int32.toInt64 (psP_eq2 (psE_r e0) (hv0 e0) (hv e0)))
theorem lw_23 (hlt : l.stackTraces = false) (hI : lwI s S h z) (hi : i + 6 ≤ G.2.2.2.2.1 ∧ G.2.2.2.2.1 ≤ 3072) (hb : pC s.2.2.2.1 (n + 1) ≤ b.1 ∧ pS s.2.2.2.1 (n + 1) ≤ b.2) (hk : lwC G l i n Q) : bl_WP G l 40 mL_law 1799 (lvL i) [] s b Q := by
  rcases hI.1.2.2.2.1 with ⟨q, _⟩ | ⟨q, _⟩
  · by_cases hX : psE' (G.2.2.2.2.2 (nI i + 1).toNatClampNeg) = 1 ∨ ¬ made (rn (G.2.2.2.2.2 (nI i + 1).toNatClampNeg))
    · exact lw_23X hlt hX hI hi hb hk
    · exact lw_23N hlt q hX hI hi hb hk
  · exact lw_23T hlt q hI hi hb hk
theorem lw_24T (hlt : l.stackTraces = false) (rx10 : s.2.2.1 100 10 = some 200) (hI : lwI s S h z) (hi : i + 6 ≤ G.2.2.2.2.1 ∧ G.2.2.2.2.1 ≤ 3072) (hb : pC s.2.2.2.1 (n + 1) ≤ b.1 ∧ pS s.2.2.2.1 (n + 1) ≤ b.2) (hk : lwC G l i n Q) : bl_WP G l 40 mL_law 1867 (lvL i) [] s b Q := by
  obtain ⟨I, J, R, K, N⟩ := s
  obtain ⟨hC, hO, hM, ⟨k20, n20, k30⟩, hz⟩ := hI
  dsimp only at k20 n20 k30 hb
  have hb0 := p_le (K := K) (K' := K) (fun _ q => q) n
  refine bl_go oLw_24 120 [2067] rfl ?_
  refine Or.inr (Or.inr ⟨k30, lw_vp (c := 1) (by omega) hi.2, Or.inr (Or.inr ⟨k30, lw_vp (c := 2) (by omega) hi.2, ?_⟩)⟩)
  refine ⟨rfl, Nat.le_of_ble_eq_true rfl, (2, 12), (show 2 ≤ b.1 by omega), (show 12 ≤ b.2 by omega), bl_MC_mono (bl_MC_ext (c_L_fewestT (d := 32) hlt hC hO rx10 k20 n20 hz)) (fun o s1 q => ?_)⟩
  obtain ⟨⟨v0, ⟨rfl, hC1, hF1, hz1, hw1⟩, hv0, hmk⟩, hE1⟩ := q
  obtain ⟨I1, J1, R1, K1, N1⟩ := s1
  have hM1 := hM.lw hF1
  have x1 := lw_x1 hF1 k20 n20 k30
  have hm1 : mdS R1 K1 N1 10000 := hM1.1
  have hmk1 : mdK I1 10000 S.1 := hM1.2.1
  have km : K1 10000 = 12 := hm1.2.1
  have hkg : kgC I1 10000 S.1.1 S.2.1 S.1.2.1 S.1.2.2.2.2 := ⟨hmk1.1, hO.2.1.1, hO.2.1.2, hmk1.2.2.2.1, hmk1.2.2.2.2⟩
  have hp := p_le hE1 n
  refine bl_go oLw_24 120 [2067] rfl ?_
  refine Or.inr (Or.inr ⟨x1.2.2, lw_vp (c := 1) (by omega) hi.2, Or.inr (Or.inr ⟨x1.2.2, lw_vp (c := 2) (by omega) hi.2, ?_⟩)⟩)
  refine ⟨rfl, rfl, km, Nat.le_of_ble_eq_true rfl, (0, 0), Nat.zero_le _, Nat.zero_le _, bl_MC_mono (c_Model_fewest (d := 13) hm1 hkg) (fun o s2 q => ?_)⟩
  obtain ⟨I2, v, rfl, hW, hE2, rfl, hv⟩ := q
  have hfin := lwI.md hC1 hO x1 hz1 (fun y hy => ⟨hW.1 y (by omega) (by omega) (by omega), rfl⟩) (hM1.fr (J' := J1) (fun y y1 y2 => hW.1 y (by omega) (by omega) (by omega)) (fun j hj => hW.2 j (by omega) (by omega)))
  refine bl_go oLw_24 120 [2067] rfl ?_
  refine ⟨rfl, rfl, km, Nat.le_of_ble_eq_true rfl, (0, 0), Nat.zero_le _, Nat.zero_le _, bl_MC_mono (c_Model_thrown (d := 39) km) (fun o s3 q => ?_)⟩
  obtain ⟨rfl, rfl⟩ := q
  have hend := fun (lv : List (Nat × Value)) (hl : lv_pick lv [2, 3, 4, 5, 6] = lvL i) => bl_lv (st := []) (M := mL_law) (pc := 2067) [2, 3, 4, 5, 6] hl (hk _ _ _ _ (b.1 - 2 - 0 - 0, b.2 - 12 - 0 - 0) hfin (show _ ≤ b.1 - 2 - 0 - 0 by have := hp.1; dsimp only; dsimp only at this; omega) (show _ ≤ b.2 - 12 - 0 - 0 by have := hp.2; dsimp only; dsimp only at this; omega))
  refine bl_go oLw_24 120 [2067] rfl ?_
  refine ⟨fun _ => ⟨fun _ => hend _ rfl, fun e => ?_⟩, fun e => absurd hE2 e⟩
  have e0 := nI_z lwk_swE e
  refine ⟨x1.1, lw_v0 x1.2.1, fun _ => hend _ rfl, fun ne => absurd ((lg_eq0 _ _).mpr ?_) ne⟩
  exact (hw1 e0).trans (congrArg Int32.toInt64 (swP_eq (hv0 e0) (hv e0)))
theorem lw_24N (hlt : l.stackTraces = false) (rx10 : s.2.2.1 100 10 = none) (hX : ¬ (swE (G.2.2.2.2.2 (nI i + 1).toNatClampNeg) (G.2.2.2.2.2 (nI i + 2).toNatClampNeg) = 1 ∨ ¬ made (rn (G.2.2.2.2.2 (nI i + 1).toNatClampNeg)))) (hI : lwI s S h z) (hi : i + 6 ≤ G.2.2.2.2.1 ∧ G.2.2.2.2.1 ≤ 3072) (hb : pC s.2.2.2.1 (n + 1) ≤ b.1 ∧ pS s.2.2.2.1 (n + 1) ≤ b.2) (hk : lwC G l i n Q) : bl_WP G l 40 mL_law 1867 (lvL i) [] s b Q := by
  obtain ⟨I, J, R, K, N⟩ := s
  obtain ⟨hC, hO, hM, ⟨k20, n20, k30⟩, hz⟩ := hI
  dsimp only at k20 n20 k30 hb
  have hb0 := p_leW (K := K) (K' := fun _ => 1) (fun _ _ => by decide) (lw_K0 hC rx10) (by decide) n
  refine bl_go oLw_24 120 [2067] rfl ?_
  refine Or.inr (Or.inr ⟨k30, lw_vp (c := 1) (by omega) hi.2, Or.inr (Or.inr ⟨k30, lw_vp (c := 2) (by omega) hi.2, ?_⟩)⟩)
  refine ⟨rfl, Nat.le_of_ble_eq_true rfl, (9, 38847), (show 9 ≤ b.1 by omega), (show 38847 ≤ b.2 by omega), bl_MC_mono (bl_MC_ext (c_L_fewestN (d := 32) hlt hC hO rx10 k20 n20 hz)) (fun o s1 q => ?_)⟩
  obtain ⟨⟨v0, ⟨rfl, hC1, hF1, hz1, hw1⟩, hv0, hmk⟩, hE1⟩ := q
  obtain ⟨I1, J1, R1, K1, N1⟩ := s1
  have hM1 := hM.lw hF1
  have x1 := lw_x1 hF1 k20 n20 k30
  have hm1 : mdS R1 K1 N1 10000 := hM1.1
  have hmk1 : mdK I1 10000 S.1 := hM1.2.1
  have km : K1 10000 = 12 := hm1.2.1
  have hkg : kgC I1 10000 S.1.1 S.2.1 S.1.2.1 S.1.2.2.2.2 := ⟨hmk1.1, hO.2.1.1, hO.2.1.2, hmk1.2.2.2.1, hmk1.2.2.2.2⟩
  have hp := p_leW hE1 (lw_K0 hC rx10) (lw_K1 hC1 (hmk (lw_01s (fun q => hX (Or.inl q))) (Classical.not_not.mp (fun q => hX (Or.inr q))))) n
  refine bl_go oLw_24 120 [2067] rfl ?_
  refine Or.inr (Or.inr ⟨x1.2.2, lw_vp (c := 1) (by omega) hi.2, Or.inr (Or.inr ⟨x1.2.2, lw_vp (c := 2) (by omega) hi.2, ?_⟩)⟩)
  refine ⟨rfl, rfl, km, Nat.le_of_ble_eq_true rfl, (0, 0), Nat.zero_le _, Nat.zero_le _, bl_MC_mono (c_Model_fewest (d := 13) hm1 hkg) (fun o s2 q => ?_)⟩
  obtain ⟨I2, v, rfl, hW, hE2, rfl, hv⟩ := q
  have hfin := lwI.md hC1 hO x1 hz1 (fun y hy => ⟨hW.1 y (by omega) (by omega) (by omega), rfl⟩) (hM1.fr (J' := J1) (fun y y1 y2 => hW.1 y (by omega) (by omega) (by omega)) (fun j hj => hW.2 j (by omega) (by omega)))
  refine bl_go oLw_24 120 [2067] rfl ?_
  refine ⟨rfl, rfl, km, Nat.le_of_ble_eq_true rfl, (0, 0), Nat.zero_le _, Nat.zero_le _, bl_MC_mono (c_Model_thrown (d := 39) km) (fun o s3 q => ?_)⟩
  obtain ⟨rfl, rfl⟩ := q
  have hend := fun (lv : List (Nat × Value)) (hl : lv_pick lv [2, 3, 4, 5, 6] = lvL i) => bl_lv (st := []) (M := mL_law) (pc := 2067) [2, 3, 4, 5, 6] hl (hk _ _ _ _ (b.1 - 9 - 0 - 0, b.2 - 38847 - 0 - 0) hfin (show _ ≤ b.1 - 9 - 0 - 0 by have := hp.1; dsimp only; dsimp only at this; omega) (show _ ≤ b.2 - 38847 - 0 - 0 by have := hp.2; dsimp only; dsimp only at this; omega))
  refine bl_go oLw_24 120 [2067] rfl ?_
  refine ⟨fun _ => ⟨fun _ => hend _ rfl, fun e => ?_⟩, fun e => absurd hE2 e⟩
  have e0 := nI_z lwk_swE e
  refine ⟨x1.1, lw_v0 x1.2.1, fun _ => hend _ rfl, fun ne => absurd ((lg_eq0 _ _).mpr ?_) ne⟩
  exact (hw1 e0).trans (congrArg Int32.toInt64 (swP_eq (hv0 e0) (hv e0)))
theorem lw_24X (hlt : l.stackTraces = false) (hX : swE (G.2.2.2.2.2 (nI i + 1).toNatClampNeg) (G.2.2.2.2.2 (nI i + 2).toNatClampNeg) = 1 ∨ ¬ made (rn (G.2.2.2.2.2 (nI i + 1).toNatClampNeg))) (hI : lwI s S h z) (hi : i + 6 ≤ G.2.2.2.2.1 ∧ G.2.2.2.2.1 ≤ 3072) (hb : pC s.2.2.2.1 (n + 1) ≤ b.1 ∧ pS s.2.2.2.1 (n + 1) ≤ b.2) (hk : lwC G l i n Q) : bl_WP G l 40 mL_law 1867 (lvL i) [] s b Q := by
  obtain ⟨I, J, R, K, N⟩ := s
  obtain ⟨hC, hO, hM, ⟨k20, n20, k30⟩, hz⟩ := hI
  dsimp only at k20 n20 k30 hb
  have hb0 := p_le (K := K) (K' := K) (fun _ q => q) n
  refine bl_go oLw_24 120 [2067] rfl ?_
  refine Or.inr (Or.inr ⟨k30, lw_vp (c := 1) (by omega) hi.2, Or.inr (Or.inr ⟨k30, lw_vp (c := 2) (by omega) hi.2, ?_⟩)⟩)
  refine ⟨rfl, Nat.le_of_ble_eq_true rfl, (2, 12), (show 2 ≤ b.1 by omega), (show 12 ≤ b.2 by omega), bl_MC_mono (bl_MC_ext (c_L_fewestX (d := 32) hlt hC hO hX k20 n20 hz)) (fun o s1 q => ?_)⟩
  obtain ⟨⟨v0, ⟨rfl, hC1, hF1, hz1, hw1⟩, hv0, hmk⟩, hE1⟩ := q
  obtain ⟨I1, J1, R1, K1, N1⟩ := s1
  have hM1 := hM.lw hF1
  have x1 := lw_x1 hF1 k20 n20 k30
  have hm1 : mdS R1 K1 N1 10000 := hM1.1
  have hmk1 : mdK I1 10000 S.1 := hM1.2.1
  have km : K1 10000 = 12 := hm1.2.1
  have hkg : kgC I1 10000 S.1.1 S.2.1 S.1.2.1 S.1.2.2.2.2 := ⟨hmk1.1, hO.2.1.1, hO.2.1.2, hmk1.2.2.2.1, hmk1.2.2.2.2⟩
  have hp := p_le hE1 n
  refine bl_go oLw_24 120 [2067] rfl ?_
  refine Or.inr (Or.inr ⟨x1.2.2, lw_vp (c := 1) (by omega) hi.2, Or.inr (Or.inr ⟨x1.2.2, lw_vp (c := 2) (by omega) hi.2, ?_⟩)⟩)
  refine ⟨rfl, rfl, km, Nat.le_of_ble_eq_true rfl, (0, 0), Nat.zero_le _, Nat.zero_le _, bl_MC_mono (c_Model_fewest (d := 13) hm1 hkg) (fun o s2 q => ?_)⟩
  obtain ⟨I2, v, rfl, hW, hE2, rfl, hv⟩ := q
  have hfin := lwI.md hC1 hO x1 hz1 (fun y hy => ⟨hW.1 y (by omega) (by omega) (by omega), rfl⟩) (hM1.fr (J' := J1) (fun y y1 y2 => hW.1 y (by omega) (by omega) (by omega)) (fun j hj => hW.2 j (by omega) (by omega)))
  refine bl_go oLw_24 120 [2067] rfl ?_
  refine ⟨rfl, rfl, km, Nat.le_of_ble_eq_true rfl, (0, 0), Nat.zero_le _, Nat.zero_le _, bl_MC_mono (c_Model_thrown (d := 39) km) (fun o s3 q => ?_)⟩
  obtain ⟨rfl, rfl⟩ := q
  have hend := fun (lv : List (Nat × Value)) (hl : lv_pick lv [2, 3, 4, 5, 6] = lvL i) => bl_lv (st := []) (M := mL_law) (pc := 2067) [2, 3, 4, 5, 6] hl (hk _ _ _ _ (b.1 - 2 - 0 - 0, b.2 - 12 - 0 - 0) hfin (show _ ≤ b.1 - 2 - 0 - 0 by have := hp.1; dsimp only; dsimp only at this; omega) (show _ ≤ b.2 - 12 - 0 - 0 by have := hp.2; dsimp only; dsimp only at this; omega))
  refine bl_go oLw_24 120 [2067] rfl ?_
  refine ⟨fun _ => ⟨fun _ => hend _ rfl, fun e => ?_⟩, fun e => absurd hE2 e⟩
  have e0 := nI_z lwk_swE e
  refine ⟨x1.1, lw_v0 x1.2.1, fun _ => hend _ rfl, fun ne => absurd ((lg_eq0 _ _).mpr ?_) ne⟩
  exact (hw1 e0).trans (congrArg Int32.toInt64 (swP_eq (hv0 e0) (hv e0)))
theorem lw_24 (hlt : l.stackTraces = false) (hI : lwI s S h z) (hi : i + 6 ≤ G.2.2.2.2.1 ∧ G.2.2.2.2.1 ≤ 3072) (hb : pC s.2.2.2.1 (n + 1) ≤ b.1 ∧ pS s.2.2.2.1 (n + 1) ≤ b.2) (hk : lwC G l i n Q) : bl_WP G l 40 mL_law 1867 (lvL i) [] s b Q := by
  rcases hI.1.2.2.2.1 with ⟨q, _⟩ | ⟨q, _⟩
  · by_cases hX : swE (G.2.2.2.2.2 (nI i + 1).toNatClampNeg) (G.2.2.2.2.2 (nI i + 2).toNatClampNeg) = 1 ∨ ¬ made (rn (G.2.2.2.2.2 (nI i + 1).toNatClampNeg))
    · exact lw_24X hlt hX hI hi hb hk
    · exact lw_24N hlt q hX hI hi hb hk
  · exact lw_24T hlt q hI hi hb hk
end LWO
