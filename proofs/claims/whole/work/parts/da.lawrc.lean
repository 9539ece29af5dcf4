/-! ===== recipe ===== -/
section LWO
variable {G : bl_G} {l : Launch} {s : bl_Mem} {S : cS} {h z i n : Nat} {b : Nat × Nat} {Q : bl_Out → bl_Mem → Prop}
theorem lw_2X (hlt : l.stackTraces = false) (hx : ¬ (0 ≤ (G.2.2.2.2.2 (nI i + 1).toNatClampNeg) ∧ (G.2.2.2.2.2 (nI i + 1).toNatClampNeg) ≤ nI S.2.2.1)) (hI : lwI s S h z) (hi : i + 6 ≤ G.2.2.2.2.1 ∧ G.2.2.2.2.1 ≤ 3072) (hb : pC s.2.2.2.1 (n + 1) ≤ b.1 ∧ pS s.2.2.2.1 (n + 1) ≤ b.2) (hk : lwC G l i n Q) : bl_WP G l 40 mL_law 305 (lvL i) [] s b Q := by
  obtain ⟨I, J, R, K, N⟩ := s
  obtain ⟨hC, hO, hM, ⟨k20, n20, k30⟩, hz⟩ := hI
  dsimp only at k20 n20 k30 hb
  have hb0 := p_le (K := K) (K' := K) (fun _ q => q) n
  refine bl_go oLw_2 120 [2067] rfl ?_
  refine Or.inr (Or.inr ⟨k30, lw_vp (c := 1) (by omega) hi.2, ?_⟩)
  refine ⟨rfl, Nat.le_of_ble_eq_true rfl, (1, 6), (show 1 ≤ b.1 by omega), (show 6 ≤ b.2 by omega), bl_MC_mono (bl_MC_ext (c_L_recipeX (d := 34) hlt hC hO hx hz)) (fun o s1 q => ?_)⟩
  obtain ⟨⟨rfl, hC1, hF1, hz1, hw1⟩, hE1⟩ := q
  have hp := p_le hE1 n
  obtain ⟨I1, J1, R1, K1, N1⟩ := s1
  have hM1 := hM.lw hF1
  have x1 := lw_x1 hF1 k20 n20 k30
  have hm1 : mdS R1 K1 N1 10000 := hM1.1
  have hmk1 : mdK I1 10000 S.1 := hM1.2.1
  have ht1 : I1 10000 1 = nI S.2.2.1 := hM1.2.2.1
  have e8 : I1 (10000 + 8) = S.2.2.2.1 := hM1.2.2.2.1
  have km : K1 10000 = 12 := hm1.2.1
  refine bl_go oLw_2 120 [2067] rfl ?_
  refine Or.inr (Or.inr ⟨x1.2.2, lw_vp (c := 1) (by omega) hi.2, ?_⟩)
  refine ⟨rfl, rfl, km, Nat.le_of_ble_eq_true rfl, (0, 0), Nat.zero_le _, Nat.zero_le _, bl_MC_mono (c_Model_recipeF (d := 33) hm1 ht1 hx) (fun o s2 q => ?_)⟩
  obtain ⟨rfl, rfl⟩ := q
  have hfin := lwI.md hC1 hO x1 hz1 (fun y hy => ⟨bl_up2_ne (by omega), rfl⟩) (hM1.G (J' := J1) (gtG.up (v := 1)))
  refine bl_go oLw_2 120 [2067] rfl ?_
  refine ⟨rfl, rfl, km, Nat.le_of_ble_eq_true rfl, (0, 0), Nat.zero_le _, Nat.zero_le _, bl_MC_mono (c_Model_thrown (d := 39) km) (fun o s3 q => ?_)⟩
  obtain ⟨rfl, rfl⟩ := q
  have hend := fun (lv : List (Nat × Value)) (hl : lv_pick lv [2, 3, 4, 5, 6] = lvL i) => bl_lv (st := []) (M := mL_law) (pc := 2067) [2, 3, 4, 5, 6] hl (hk _ _ _ _ (b.1 - 1 - 0 - 0, b.2 - 6 - 0 - 0) hfin (show _ ≤ b.1 - 1 - 0 - 0 by have := hp.1; dsimp only; dsimp only at this; omega) (show _ ≤ b.2 - 6 - 0 - 0 by have := hp.2; dsimp only; dsimp only at this; omega))
  refine bl_go oLw_2 120 [2067] rfl ?_
  exact ⟨fun _ => ⟨fun _ => hend _ rfl, fun e => absurd e (by decide)⟩, fun e => absurd (bl_up2_at) e⟩
theorem lw_2F (hlt : l.stackTraces = false) (hx : 0 ≤ (G.2.2.2.2.2 (nI i + 1).toNatClampNeg) ∧ (G.2.2.2.2.2 (nI i + 1).toNatClampNeg) ≤ nI S.2.2.1) (hc4 : S.1.2.2.1 = 4) (hI : lwI s S h z) (hi : i + 6 ≤ G.2.2.2.2.1 ∧ G.2.2.2.2.1 ≤ 3072) (hb : pC s.2.2.2.1 (n + 1) ≤ b.1 ∧ pS s.2.2.2.1 (n + 1) ≤ b.2) (hk : lwC G l i n Q) : bl_WP G l 40 mL_law 305 (lvL i) [] s b Q := by
  obtain ⟨I, J, R, K, N⟩ := s
  obtain ⟨hC, hO, hM, ⟨k20, n20, k30⟩, hz⟩ := hI
  dsimp only at k20 n20 k30 hb
  have hb0 := p_le (K := K) (K' := K) (fun _ q => q) n
  refine bl_go oLw_2 120 [2067] rfl ?_
  refine Or.inr (Or.inr ⟨k30, lw_vp (c := 1) (by omega) hi.2, ?_⟩)
  refine ⟨rfl, Nat.le_of_ble_eq_true rfl, (1, 6), (show 1 ≤ b.1 by omega), (show 6 ≤ b.2 by omega), bl_MC_mono (bl_MC_ext (c_L_recipeF (d := 34) hlt hC hO hc4 k20 n20 hz)) (fun o s1 q => ?_)⟩
  obtain ⟨q, hE1⟩ := q
  have hp := p_le hE1 n
  obtain ⟨n1, hn1, hx1, q⟩ := q.resolve_left (fun q => q.1 hx)
  obtain ⟨-, ⟨rfl, hC1, hF1, hz1, hw1⟩⟩ := q.resolve_right (fun q => by have := q.1; omega)
  obtain ⟨I1, J1, R1, K1, N1⟩ := s1
  have hM1 := hM.lw hF1
  have x1 := lw_x1 hF1 k20 n20 k30
  have hm1 : mdS R1 K1 N1 10000 := hM1.1
  have hmk1 : mdK I1 10000 S.1 := hM1.2.1
  have ht1 : I1 10000 1 = nI S.2.2.1 := hM1.2.2.1
  have e8 : I1 (10000 + 8) = S.2.2.2.1 := hM1.2.2.2.1
  have km : K1 10000 = 12 := hm1.2.1
  refine bl_go oLw_2 120 [2067] rfl ?_
  refine Or.inr (Or.inr ⟨x1.2.2, lw_vp (c := 1) (by omega) hi.2, ?_⟩)
  refine ⟨rfl, rfl, km, Nat.le_of_ble_eq_true rfl, (0, 0), Nat.zero_le _, Nat.zero_le _, bl_MC_mono (c_Model_recipe (d := 33) (r := S.1.2.2.1) hm1 ht1 hO.2.2.2.2.2.1 hn1 hx1 hO.2.2.1 hmk1.2.2.1.1) (fun o s2 q => ?_)⟩
  obtain ⟨I2, rfl, hrf, ⟨hE2, i1⟩, q⟩ := q
  obtain ⟨-, rfl, i3, i13, e16⟩ := q.resolve_right (fun q => by have := q.1; omega)
  have hfin := lwI.md hC1 hO.tp x1 hz1 (fun y hy => ⟨hrf.1 y (by omega) (by omega) (by omega) (by omega), rfl⟩) (hM1.qF hrf i1 i3 i13 e16 (Or.inl hc4))
  refine bl_go oLw_2 120 [2067] rfl ?_
  refine ⟨rfl, rfl, km, Nat.le_of_ble_eq_true rfl, (0, 0), Nat.zero_le _, Nat.zero_le _, bl_MC_mono (c_Model_thrown (d := 39) km) (fun o s3 q => ?_)⟩
  obtain ⟨rfl, rfl⟩ := q
  have hend := fun (lv : List (Nat × Value)) (hl : lv_pick lv [2, 3, 4, 5, 6] = lvL i) => bl_lv (st := []) (M := mL_law) (pc := 2067) [2, 3, 4, 5, 6] hl (hk _ _ _ _ (b.1 - 1 - 0 - 0, b.2 - 6 - 0 - 0) hfin (show _ ≤ b.1 - 1 - 0 - 0 by have := hp.1; dsimp only; dsimp only at this; omega) (show _ ≤ b.2 - 6 - 0 - 0 by have := hp.2; dsimp only; dsimp only at this; omega))
  refine bl_go oLw_2 120 [2067] rfl ?_
  refine ⟨fun _ => ⟨fun _ => hend _ rfl, fun e => ?_⟩, fun e => absurd (hE2) e⟩
  refine ⟨x1.1, lw_v0 x1.2.1, fun _ => hend _ rfl, fun ne => absurd ((lg_eq0 _ _).mpr ?_) ne⟩
  exact hw1 rfl
theorem lw_2T (hlt : l.stackTraces = false) (hx : 0 ≤ (G.2.2.2.2.2 (nI i + 1).toNatClampNeg) ∧ (G.2.2.2.2.2 (nI i + 1).toNatClampNeg) ≤ nI S.2.2.1) (hc4 : S.1.2.2.1 < 4) (hmm : mkR s S.1.2.2.1) (hI : lwI s S h z) (hi : i + 6 ≤ G.2.2.2.2.1 ∧ G.2.2.2.2.1 ≤ 3072) (hb : pC s.2.2.2.1 (n + 1) ≤ b.1 ∧ pS s.2.2.2.1 (n + 1) ≤ b.2) (hk : lwC G l i n Q) : bl_WP G l 40 mL_law 305 (lvL i) [] s b Q := by
  obtain ⟨I, J, R, K, N⟩ := s
  obtain ⟨hC, hO, hM, ⟨k20, n20, k30⟩, hz⟩ := hI
  dsimp only at k20 n20 k30 hb
  have hb0 := p_le (K := K) (K' := K) (fun _ q => q) n
  refine bl_go oLw_2 120 [2067] rfl ?_
  refine Or.inr (Or.inr ⟨k30, lw_vp (c := 1) (by omega) hi.2, ?_⟩)
  refine ⟨rfl, Nat.le_of_ble_eq_true rfl, (1, 6), (show 1 ≤ b.1 by omega), (show 6 ≤ b.2 by omega), bl_MC_mono (bl_MC_ext (c_L_recipeT (d := 34) hlt hC hO hc4 hmm k20 n20 hz)) (fun o s1 q => ?_)⟩
  obtain ⟨q, hE1⟩ := q
  obtain ⟨n1, hn1, hx1, q⟩ := q.resolve_left (fun q => q.1 hx)
  obtain ⟨-, ⟨s0, hk0, hs0⟩, q⟩ := q.resolve_left (fun q => by have := q.1; omega)
  have hp := p_le hE1 n
  clear hs0
  rcases q with ⟨f, hpk, ⟨rfl, hC1, hF1, hz1, hw1⟩⟩ | ⟨Sq, hpk, hV, ⟨rfl, hC1, hF1, hz1, hw1⟩⟩
  · obtain ⟨I1, J1, R1, K1, N1⟩ := s1
    have hM1 := hM.lw hF1
    have x1 := lw_x1 hF1 k20 n20 k30
    have hm1 : mdS R1 K1 N1 10000 := hM1.1
    have hmk1 : mdK I1 10000 S.1 := hM1.2.1
    have ht1 : I1 10000 1 = nI S.2.2.1 := hM1.2.2.1
    have e8 : I1 (10000 + 8) = S.2.2.2.1 := hM1.2.2.2.1
    have km : K1 10000 = 12 := hm1.2.1
    refine bl_go oLw_2 120 [2067] rfl ?_
    refine Or.inr (Or.inr ⟨x1.2.2, lw_vp (c := 1) (by omega) hi.2, ?_⟩)
    refine ⟨rfl, rfl, km, Nat.le_of_ble_eq_true rfl, (0, 0), Nat.zero_le _, Nat.zero_le _, bl_MC_mono (c_Model_recipe (d := 33) (r := S.1.2.2.1) hm1 ht1 hO.2.2.2.2.2.1 hn1 hx1 hO.2.2.1 hmk1.2.2.1.1) (fun o s2 q => ?_)⟩
    obtain ⟨I2, rfl, hrf, ⟨hE2, i1⟩, q⟩ := q
    rw [e8, hpk] at q
    obtain ⟨-, q⟩ := q.resolve_left (fun q => by have := q.1; omega)
    obtain ⟨f', h9, rfl, i3, i13, e16, e100⟩ := q.resolve_left (fun ⟨S', h9, _⟩ => by cases h9)
    cases h9
    have hfin := lwI.md hC1 hO.tp x1 hz1 (fun y hy => ⟨hrf.1 y (by omega) (by omega) (by omega) (by omega), rfl⟩) (hM1.qF hrf i1 i3 i13 e16 (Or.inr e100))
    refine bl_go oLw_2 120 [2067] rfl ?_
    refine ⟨rfl, rfl, km, Nat.le_of_ble_eq_true rfl, (0, 0), Nat.zero_le _, Nat.zero_le _, bl_MC_mono (c_Model_thrown (d := 39) km) (fun o s3 q => ?_)⟩
    obtain ⟨rfl, rfl⟩ := q
    have hend := fun (lv : List (Nat × Value)) (hl : lv_pick lv [2, 3, 4, 5, 6] = lvL i) => bl_lv (st := []) (M := mL_law) (pc := 2067) [2, 3, 4, 5, 6] hl (hk _ _ _ _ (b.1 - 1 - 0 - 0, b.2 - 6 - 0 - 0) hfin (show _ ≤ b.1 - 1 - 0 - 0 by have := hp.1; dsimp only; dsimp only at this; omega) (show _ ≤ b.2 - 6 - 0 - 0 by have := hp.2; dsimp only; dsimp only at this; omega))
    refine bl_go oLw_2 120 [2067] rfl ?_
    refine ⟨fun _ => ⟨fun _ => hend _ rfl, fun e => ?_⟩, fun e => absurd (hE2) e⟩
    refine ⟨x1.1, lw_v0 x1.2.1, fun _ => hend _ rfl, fun ne => absurd ((lg_eq0 _ _).mpr ?_) ne⟩
    exact hw1 rfl
  · obtain ⟨I1, J1, R1, K1, N1⟩ := s1
    have hM1 := hM.lw hF1
    have x1 := lw_x1 hF1 k20 n20 k30
    have hm1 : mdS R1 K1 N1 10000 := hM1.1
    have hmk1 : mdK I1 10000 S.1 := hM1.2.1
    have ht1 : I1 10000 1 = nI S.2.2.1 := hM1.2.2.1
    have e8 : I1 (10000 + 8) = S.2.2.2.1 := hM1.2.2.2.1
    have km : K1 10000 = 12 := hm1.2.1
    refine bl_go oLw_2 120 [2067] rfl ?_
    refine Or.inr (Or.inr ⟨x1.2.2, lw_vp (c := 1) (by omega) hi.2, ?_⟩)
    refine ⟨rfl, rfl, km, Nat.le_of_ble_eq_true rfl, (0, 0), Nat.zero_le _, Nat.zero_le _, bl_MC_mono (c_Model_recipe (d := 33) (r := S.1.2.2.1) hm1 ht1 hO.2.2.2.2.2.1 hn1 hx1 hO.2.2.1 hmk1.2.2.1.1) (fun o s2 q => ?_)⟩
    obtain ⟨I2, rfl, hrf, ⟨hE2, i1⟩, q⟩ := q
    rw [e8, hpk] at q
    obtain ⟨-, q⟩ := q.resolve_left (fun q => by have := q.1; omega)
    obtain ⟨S', h9, rfl, i3, i13, g1, g2, g3⟩ := q.resolve_right (fun ⟨S', h9, _⟩ => by cases h9)
    cases h9
    have hfin := lwI.md hC1 (hO.rp hV hc4) x1 hz1 (fun y hy => ⟨hrf.1 y (by omega) (by omega) (by omega) (by omega), rfl⟩) (hM1.qS hc4 hV hrf i1 i3 i13 g1 g2 g3)
    refine bl_go oLw_2 120 [2067] rfl ?_
    refine ⟨rfl, rfl, km, Nat.le_of_ble_eq_true rfl, (0, 0), Nat.zero_le _, Nat.zero_le _, bl_MC_mono (c_Model_thrown (d := 39) km) (fun o s3 q => ?_)⟩
    obtain ⟨rfl, rfl⟩ := q
    have hend := fun (lv : List (Nat × Value)) (hl : lv_pick lv [2, 3, 4, 5, 6] = lvL i) => bl_lv (st := []) (M := mL_law) (pc := 2067) [2, 3, 4, 5, 6] hl (hk _ _ _ _ (b.1 - 1 - 0 - 0, b.2 - 6 - 0 - 0) hfin (show _ ≤ b.1 - 1 - 0 - 0 by have := hp.1; dsimp only; dsimp only at this; omega) (show _ ≤ b.2 - 6 - 0 - 0 by have := hp.2; dsimp only; dsimp only at this; omega))
    refine bl_go oLw_2 120 [2067] rfl ?_
    refine ⟨fun _ => ⟨fun _ => hend _ rfl, fun e => ?_⟩, fun e => absurd (hE2) e⟩
    refine ⟨x1.1, lw_v0 x1.2.1, fun _ => hend _ rfl, fun ne => absurd ((lg_eq0 _ _).mpr ?_) ne⟩
    exact hw1 rfl
theorem lw_2N (hlt : l.stackTraces = false) (hx : 0 ≤ (G.2.2.2.2.2 (nI i + 1).toNatClampNeg) ∧ (G.2.2.2.2.2 (nI i + 1).toNatClampNeg) ≤ nI S.2.2.1) (hc4 : S.1.2.2.1 < 4) (hmm : frR s S.1.2.2.1) (hI : lwI s S h z) (hi : i + 6 ≤ G.2.2.2.2.1 ∧ G.2.2.2.2.1 ≤ 3072) (hb : pC s.2.2.2.1 (n + 1) ≤ b.1 ∧ pS s.2.2.2.1 (n + 1) ≤ b.2) (hk : lwC G l i n Q) : bl_WP G l 40 mL_law 305 (lvL i) [] s b Q := by
  obtain ⟨I, J, R, K, N⟩ := s
  obtain ⟨hC, hO, hM, ⟨k20, n20, k30⟩, hz⟩ := hI
  dsimp only at k20 n20 k30 hb
  have hb0 := p_leQ (K := K) (K' := fun _ => 1) (fun _ _ => by decide) hc4 (hmm.2.2 _ (Or.inl ⟨Nat.le_refl _, Nat.le_add_right _ _⟩)) (by decide) n
  refine bl_go oLw_2 120 [2067] rfl ?_
  refine Or.inr (Or.inr ⟨k30, lw_vp (c := 1) (by omega) hi.2, ?_⟩)
  refine ⟨rfl, Nat.le_of_ble_eq_true rfl, (154, 4379), (show 154 ≤ b.1 by omega), (show 4379 ≤ b.2 by omega), bl_MC_mono (bl_MC_ext (c_L_recipeN (d := 34) hlt hC hO hc4 hmm k20 n20 hz)) (fun o s1 q => ?_)⟩
  obtain ⟨q, hE1⟩ := q
  obtain ⟨n1, hn1, hx1, q⟩ := q.resolve_left (fun q => q.1 hx)
  obtain ⟨-, ⟨s0, hk0, hs0⟩, q⟩ := q.resolve_left (fun q => by have := q.1; omega)
  have hK1 : s1.2.2.2.1 (300 + 10 * S.1.2.2.1) ≠ 0 := by
    rw [show s1.2.2.2.1 = s0.2.2.2.1 from (congrArg (fun t : bl_Mem => t.2.2.2.1) hs0).trans rfl, hk0.1.1]; decide
  have hp := p_leQ hE1 hc4 (hmm.2.2 _ (Or.inl ⟨Nat.le_refl _, Nat.le_add_right _ _⟩)) hK1 n
  clear hK1 hs0
  rcases q with ⟨f, hpk, ⟨rfl, hC1, hF1, hz1, hw1⟩⟩ | ⟨Sq, hpk, hV, ⟨rfl, hC1, hF1, hz1, hw1⟩⟩
  · obtain ⟨I1, J1, R1, K1, N1⟩ := s1
    have hM1 := hM.lw hF1
    have x1 := lw_x1 hF1 k20 n20 k30
    have hm1 : mdS R1 K1 N1 10000 := hM1.1
    have hmk1 : mdK I1 10000 S.1 := hM1.2.1
    have ht1 : I1 10000 1 = nI S.2.2.1 := hM1.2.2.1
    have e8 : I1 (10000 + 8) = S.2.2.2.1 := hM1.2.2.2.1
    have km : K1 10000 = 12 := hm1.2.1
    refine bl_go oLw_2 120 [2067] rfl ?_
    refine Or.inr (Or.inr ⟨x1.2.2, lw_vp (c := 1) (by omega) hi.2, ?_⟩)
    refine ⟨rfl, rfl, km, Nat.le_of_ble_eq_true rfl, (0, 0), Nat.zero_le _, Nat.zero_le _, bl_MC_mono (c_Model_recipe (d := 33) (r := S.1.2.2.1) hm1 ht1 hO.2.2.2.2.2.1 hn1 hx1 hO.2.2.1 hmk1.2.2.1.1) (fun o s2 q => ?_)⟩
    obtain ⟨I2, rfl, hrf, ⟨hE2, i1⟩, q⟩ := q
    rw [e8, hpk] at q
    obtain ⟨-, q⟩ := q.resolve_left (fun q => by have := q.1; omega)
    obtain ⟨f', h9, rfl, i3, i13, e16, e100⟩ := q.resolve_left (fun ⟨S', h9, _⟩ => by cases h9)
    cases h9
    have hfin := lwI.md hC1 hO.tp x1 hz1 (fun y hy => ⟨hrf.1 y (by omega) (by omega) (by omega) (by omega), rfl⟩) (hM1.qF hrf i1 i3 i13 e16 (Or.inr e100))
    refine bl_go oLw_2 120 [2067] rfl ?_
    refine ⟨rfl, rfl, km, Nat.le_of_ble_eq_true rfl, (0, 0), Nat.zero_le _, Nat.zero_le _, bl_MC_mono (c_Model_thrown (d := 39) km) (fun o s3 q => ?_)⟩
    obtain ⟨rfl, rfl⟩ := q
    have hend := fun (lv : List (Nat × Value)) (hl : lv_pick lv [2, 3, 4, 5, 6] = lvL i) => bl_lv (st := []) (M := mL_law) (pc := 2067) [2, 3, 4, 5, 6] hl (hk _ _ _ _ (b.1 - 154 - 0 - 0, b.2 - 4379 - 0 - 0) hfin (show _ ≤ b.1 - 154 - 0 - 0 by have := hp.1; dsimp only; dsimp only at this; omega) (show _ ≤ b.2 - 4379 - 0 - 0 by have := hp.2; dsimp only; dsimp only at this; omega))
    refine bl_go oLw_2 120 [2067] rfl ?_
    refine ⟨fun _ => ⟨fun _ => hend _ rfl, fun e => ?_⟩, fun e => absurd (hE2) e⟩
    refine ⟨x1.1, lw_v0 x1.2.1, fun _ => hend _ rfl, fun ne => absurd ((lg_eq0 _ _).mpr ?_) ne⟩
    exact hw1 rfl
  · obtain ⟨I1, J1, R1, K1, N1⟩ := s1
    have hM1 := hM.lw hF1
    have x1 := lw_x1 hF1 k20 n20 k30
    have hm1 : mdS R1 K1 N1 10000 := hM1.1
    have hmk1 : mdK I1 10000 S.1 := hM1.2.1
    have ht1 : I1 10000 1 = nI S.2.2.1 := hM1.2.2.1
    have e8 : I1 (10000 + 8) = S.2.2.2.1 := hM1.2.2.2.1
    have km : K1 10000 = 12 := hm1.2.1
    refine bl_go oLw_2 120 [2067] rfl ?_
    refine Or.inr (Or.inr ⟨x1.2.2, lw_vp (c := 1) (by omega) hi.2, ?_⟩)
    refine ⟨rfl, rfl, km, Nat.le_of_ble_eq_true rfl, (0, 0), Nat.zero_le _, Nat.zero_le _, bl_MC_mono (c_Model_recipe (d := 33) (r := S.1.2.2.1) hm1 ht1 hO.2.2.2.2.2.1 hn1 hx1 hO.2.2.1 hmk1.2.2.1.1) (fun o s2 q => ?_)⟩
    obtain ⟨I2, rfl, hrf, ⟨hE2, i1⟩, q⟩ := q
    rw [e8, hpk] at q
    obtain ⟨-, q⟩ := q.resolve_left (fun q => by have := q.1; omega)
    obtain ⟨S', h9, rfl, i3, i13, g1, g2, g3⟩ := q.resolve_right (fun ⟨S', h9, _⟩ => by cases h9)
    cases h9
    have hfin := lwI.md hC1 (hO.rp hV hc4) x1 hz1 (fun y hy => ⟨hrf.1 y (by omega) (by omega) (by omega) (by omega), rfl⟩) (hM1.qS hc4 hV hrf i1 i3 i13 g1 g2 g3)
    refine bl_go oLw_2 120 [2067] rfl ?_
    refine ⟨rfl, rfl, km, Nat.le_of_ble_eq_true rfl, (0, 0), Nat.zero_le _, Nat.zero_le _, bl_MC_mono (c_Model_thrown (d := 39) km) (fun o s3 q => ?_)⟩
    obtain ⟨rfl, rfl⟩ := q
    have hend := fun (lv : List (Nat × Value)) (hl : lv_pick lv [2, 3, 4, 5, 6] = lvL i) => bl_lv (st := []) (M := mL_law) (pc := 2067) [2, 3, 4, 5, 6] hl (hk _ _ _ _ (b.1 - 154 - 0 - 0, b.2 - 4379 - 0 - 0) hfin (show _ ≤ b.1 - 154 - 0 - 0 by have := hp.1; dsimp only; dsimp only at this; omega) (show _ ≤ b.2 - 4379 - 0 - 0 by have := hp.2; dsimp only; dsimp only at this; omega))
    refine bl_go oLw_2 120 [2067] rfl ?_
    refine ⟨fun _ => ⟨fun _ => hend _ rfl, fun e => ?_⟩, fun e => absurd (hE2) e⟩
    refine ⟨x1.1, lw_v0 x1.2.1, fun _ => hend _ rfl, fun ne => absurd ((lg_eq0 _ _).mpr ?_) ne⟩
    exact hw1 rfl
theorem lw_2 (hlt : l.stackTraces = false) (hI : lwI s S h z) (hi : i + 6 ≤ G.2.2.2.2.1 ∧ G.2.2.2.2.1 ≤ 3072) (hb : pC s.2.2.2.1 (n + 1) ≤ b.1 ∧ pS s.2.2.2.1 (n + 1) ≤ b.2) (hk : lwC G l i n Q) : bl_WP G l 40 mL_law 305 (lvL i) [] s b Q := by
  by_cases hx : 0 ≤ (G.2.2.2.2.2 (nI i + 1).toNatClampNeg) ∧ (G.2.2.2.2.2 (nI i + 1).toNatClampNeg) ≤ nI S.2.2.1
  · by_cases hc4 : S.1.2.2.1 = 4
    · exact lw_2F hlt hx hc4 hI hi hb hk
    · have hc : S.1.2.2.1 < 4 := by have := hI.2.1.2.2.1; omega
      rcases hI.1.2.2.1 _ hc with q | q
      · exact lw_2T hlt hx hc q hI hi hb hk
      · exact lw_2N hlt hx hc q hI hi hb hk
  · exact lw_2X hlt hx hI hi hb hk
end LWO
