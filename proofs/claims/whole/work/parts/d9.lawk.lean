/-! ===== kitchen, recipe ===== -/
theorem rm_deg_24 {f g : Nat → Int32} (h : ∀ k, k < 24 → f k = g k) {i : Nat} (hi : i < 24) : rm_deg f i = rm_deg g i := by
  have hc : ∀ n x, n ≤ 24 → rm_cur f x n = rm_cur g x n := by
    intro n x
    induction n generalizing x with
    | zero => intro _; rfl
    | succ n ih =>
      intro hn
      unfold rm_cur
      rw [ih _ (by omega), h n (by omega)]
  unfold rm_deg
  rw [hc 24 _ (by omega), hc (i + 1) _ (by omega)]
section LWN
variable {I I' : Nat → Nat → Int32} {J : Nat → Nat → Int64} {R : Nat → Nat → Option Nat} {K N : Nat → Nat} {S : cS} {fp : Int32}
theorem lwM.uF (h : lwM (I, J, R, K, N) S) (hF : kiF I I' 10000) (i1 : I' 10000 1 = 0) (i3 : I' 10000 3 = fp) (e10 : I' (10000 + 10) = I (10000 + 10)) (e12 : I' (10000 + 12) = I (10000 + 12)) (i14 : I' 10000 14 = I 10000 14) (i15 : I' 10000 15 = I 10000 15) : lwM (I', J, R, K, N) (S.1, S.2.1, 0, S.2.2.2.1, fp, S.2.2.2.2.2) := by
  obtain ⟨a1, ⟨k1, k2, k3, k4, k5⟩, a3, a4, a5, a6, a8, a7⟩ := h
  obtain ⟨f1, f2⟩ := hF
  refine ⟨a1, ⟨k1.same e10 e12, k2, ⟨(f2 13 (by omega) (by omega) (by omega)).trans k3.1, k3.2.1, fun r hr => ?_⟩, i14.trans k4, k5⟩, i1, (f1 10008 (by omega) (by omega) (by omega) (by omega) (by omega)).trans a4, i3, i15.trans a6, a8, fun i hi => ?_⟩
  · show I' (10000 + 16) r = _ ∧ _ ∧ _ ∧ ∀ j, _ → I' (10000 + 100 + r) (2 * j) = _ ∧ I' (10000 + 100 + r) (2 * j + 1) = _
    rw [f1 (10000 + 16) (by omega) (by omega) (by omega) (by omega) (by omega), f1 (10000 + 100 + r) (by omega) (by omega) (by omega) (by omega) (by omega)]
    exact k3.2.2 r hr
  · show I' (10110 + i) 0 = _ ∧ I' (10110 + i) 1 = _
    rw [f1 (10110 + i) (by omega) (by omega) (by omega) (by omega) (by omega)]; exact a7 i hi
theorem lwM.uS {Sk : kst} {tf g : Nat → Nat} (h : lwM (I, J, R, K, N) S) (hF : kiF I I' 10000) (hk : kAll Sk tf g) (i1 : I' 10000 1 = 0) (i3 : I' 10000 3 = zI (-1)) (e10 : ∀ k, k < 9 → I' (10000 + 10) k = Sk.1 k) (e12 : ∀ k, k < 24 → I' (10000 + 12) k = Sk.2 k) (i14 : I' 10000 14 = 12 * Sk.1 8) (i15 : I' 10000 15 = 0) : lwM (I', J, R, K, N) (ktS S tf g) := by
  obtain ⟨a1, ⟨k1, k2, k3, k4, k5⟩, a3, a4, a5, a6, a8, a7⟩ := h
  obtain ⟨f1, f2⟩ := hF
  obtain ⟨b1, b2, b3, b4, b5⟩ := hk
  refine ⟨a1, ⟨⟨fun k hk => (e10 k hk).trans (b1 k hk), fun h hh => (rm_deg_24 e12 hh).trans (b5 h hh)⟩, b2, ⟨(f2 13 (by omega) (by omega) (by omega)).trans k3.1, k3.2.1, fun r hr => ?_⟩, ?_, show 12 * tf 8 < 288 by omega⟩, i1, (f1 10008 (by omega) (by omega) (by omega) (by omega) (by omega)).trans a4, i3, i15, Nat.zero_le _, fun i hi => absurd hi (Nat.not_lt_zero _)⟩
  · show I' (10000 + 16) r = _ ∧ _ ∧ _ ∧ ∀ j, _ → I' (10000 + 100 + r) (2 * j) = _ ∧ I' (10000 + 100 + r) (2 * j + 1) = _
    rw [f1 (10000 + 16) (by omega) (by omega) (by omega) (by omega) (by omega), f1 (10000 + 100 + r) (by omega) (by omega) (by omega) (by omega) (by omega)]
    exact k3.2.2 r hr
  · show I' 10000 14 = nI (12 * tf 8)
    rw [i14, b1 8 (by omega)]
    exact (Int32.ofNat_mul 12 (tf 8)).symm
theorem lwM.qF (h : lwM (I, J, R, K, N) S) (hF : rcF I I' 10000 S.1.2.2.1) (i1 : I' 10000 1 = 0) (i3 : I' 10000 3 = fp) (i13 : I' 10000 13 = I 10000 13) (e16 : I' (10000 + 16) = I (10000 + 16)) (e100 : S.1.2.2.1 = 4 ∨ I' (10000 + 100 + S.1.2.2.1) = I (10000 + 100 + S.1.2.2.1)) : lwM (I', J, R, K, N) (tpC S fp) := by
  obtain ⟨a1, ⟨k1, k2, k3, k4, k5⟩, a3, a4, a5, a6, a8, a7⟩ := h
  obtain ⟨f1, f2⟩ := hF
  have hc4 := k3.2.1
  refine ⟨a1, ⟨k1.same (f1 _ (by omega) (by omega) (by omega) (by omega)) (f1 _ (by omega) (by omega) (by omega) (by omega)), k2, ⟨i13.trans k3.1, k3.2.1, fun r hr => ?_⟩, (f2 14 (by omega) (by omega) (by omega)).trans k4, k5⟩, i1, (f1 10008 (by omega) (by omega) (by omega) (by omega)).trans a4, i3, (f2 15 (by omega) (by omega) (by omega)).trans a6, a8, fun i hi => ?_⟩
  · have hr' : r < S.1.2.2.1 := hr
    show I' (10000 + 16) r = _ ∧ _ ∧ _ ∧ ∀ j, _ → I' (10000 + 100 + r) (2 * j) = _ ∧ I' (10000 + 100 + r) (2 * j + 1) = _
    rw [e16, f1 (10000 + 100 + r) (by omega) (by omega) (by omega) (by omega)]
    exact k3.2.2 r hr
  · show I' (10110 + i) 0 = _ ∧ I' (10110 + i) 1 = _
    rw [f1 (10110 + i) (by omega) (by omega) (by omega) (by omega)]; exact a7 i hi
theorem lwM.qS {Sq : sq} (h : lwM (I, J, R, K, N) S) (hc4 : S.1.2.2.1 < 4) (hV : sqV Sq) (hF : rcF I I' 10000 S.1.2.2.1) (i1 : I' 10000 1 = 0) (i3 : I' 10000 3 = zI (-1)) (i13 : I' 10000 13 = nI (S.1.2.2.1 + 1)) (g1 : I' (10000 + 16) S.1.2.2.1 = nI Sq.1) (g2 : ∀ x, x ≠ S.1.2.2.1 → I' (10000 + 16) x = I (10000 + 16) x) (g3 : ∀ j, j < Sq.1 → I' (10000 + 100 + S.1.2.2.1) (2 * j) = nI (Sq.2.1 j) ∧ I' (10000 + 100 + S.1.2.2.1) (2 * j + 1) = nI (Sq.2.2 j)) : lwM (I', J, R, K, N) (rpS S Sq) := by
  obtain ⟨a1, ⟨k1, k2, k3, k4, k5⟩, a3, a4, a5, a6, a8, a7⟩ := h
  obtain ⟨f1, f2⟩ := hF
  refine ⟨a1, ⟨k1.same (f1 _ (by omega) (by omega) (by omega) (by omega)) (f1 _ (by omega) (by omega) (by omega) (by omega)), k2, ⟨i13, hc4, fun r hr => ?_⟩, (f2 14 (by omega) (by omega) (by omega)).trans k4, k5⟩, i1, (f1 10008 (by omega) (by omega) (by omega) (by omega)).trans a4, i3, (f2 15 (by omega) (by omega) (by omega)).trans a6, a8, fun i hi => ?_⟩
  · have hr' : r < S.1.2.2.1 + 1 := hr
    by_cases e : r = S.1.2.2.1
    · have e1 : (rpS S Sq).1.2.2.2.1 r = Sq := if_pos e
      rw [e1, e]
      exact ⟨g1, hV.1, hV.2, g3⟩
    · have e1 : (rpS S Sq).1.2.2.2.1 r = S.1.2.2.2.1 r := if_neg e
      rw [e1]
      show I' (10000 + 16) r = _ ∧ _ ∧ _ ∧ ∀ j, _ → I' (10000 + 100 + r) (2 * j) = _ ∧ I' (10000 + 100 + r) (2 * j + 1) = _
      rw [g2 r e, f1 (10000 + 100 + r) (by omega) (by omega) (by omega) (by omega)]
      exact k3.2.2 r (by omega)
  · show I' (10110 + i) 0 = _ ∧ I' (10110 + i) 1 = _
    rw [f1 (10110 + i) (by omega) (by omega) (by omega) (by omega)]; exact a7 i hi
end LWN
section LWO
variable {G : bl_G} {l : Launch} {s : bl_Mem} {S : cS} {h z i n : Nat} {b : Nat × Nat} {Q : bl_Out → bl_Mem → Prop}
theorem lw_1 (hlt : l.stackTraces = false) (hI : lwI s S h z) (hi : i + 6 ≤ G.2.2.2.2.1 ∧ G.2.2.2.2.1 ≤ 3072) (hb : pC s.2.2.2.1 (n + 1) ≤ b.1 ∧ pS s.2.2.2.1 (n + 1) ≤ b.2) (hk : lwC G l i n Q) : bl_WP G l 40 mL_law 249 (lvL i) [] s b Q := by
  obtain ⟨I, J, R, K, N⟩ := s
  obtain ⟨hC, hO, hM, ⟨k20, n20, k30⟩, hz⟩ := hI
  dsimp only at k20 n20 k30 hb
  have hb0 := p_le (K := K) (K' := K) (fun _ q => q) n
  refine bl_go oLw_1 120 [2067] rfl ?_
  refine Or.inr (Or.inr ⟨k30, lw_vp (c := 1) (by omega) hi.2, ?_⟩)
  refine ⟨rfl, Nat.le_of_ble_eq_true rfl, (1, 6), (show 1 ≤ b.1 by omega), (show 6 ≤ b.2 by omega), bl_MC_mono (bl_MC_ext (c_L_kitchen (d := 33) hlt hC hO k20 n20 hz)) (fun o s1 q => ?_)⟩
  obtain ⟨q, hE1⟩ := q
  have hp := p_le hE1 n
  rcases q with ⟨hx, ⟨rfl, hC1, hF1, hz1, hw1⟩⟩ | ⟨n1, hn1, hx, ⟨f, hpk, ⟨rfl, hC1, hF1, hz1, hw1⟩⟩ | ⟨Sk, tf, g, hpk, hka, ⟨rfl, hC1, hF1, hz1, hw1⟩⟩⟩
  · obtain ⟨I1, J1, R1, K1, N1⟩ := s1
    have hM1 := hM.lw hF1
    have x1 := lw_x1 hF1 k20 n20 k30
    have hm1 : mdS R1 K1 N1 10000 := hM1.1
    have hmk1 : mdK I1 10000 S.1 := hM1.2.1
    have ht1 : I1 10000 1 = nI S.2.2.1 := hM1.2.2.1
    have e8 : I1 (10000 + 8) = S.2.2.2.1 := hM1.2.2.2.1
    have km : K1 10000 = 12 := hm1.2.1
    refine bl_go oLw_1 120 [2067] rfl ?_
    refine Or.inr (Or.inr ⟨x1.2.2, lw_vp (c := 1) (by omega) hi.2, ?_⟩)
    refine ⟨rfl, rfl, km, Nat.le_of_ble_eq_true rfl, (0, 0), Nat.zero_le _, Nat.zero_le _, bl_MC_mono (c_Model_kitchenF (d := 33) hm1 ht1 hx) (fun o s2 q => ?_)⟩
    obtain ⟨rfl, rfl⟩ := q
    have hfin := lwI.md hC1 hO x1 hz1 (fun y hy => ⟨bl_up2_ne (by omega), rfl⟩) (hM1.G (J' := J1) (gtG.up (v := 1)))
    refine bl_go oLw_1 120 [2067] rfl ?_
    refine ⟨rfl, rfl, km, Nat.le_of_ble_eq_true rfl, (0, 0), Nat.zero_le _, Nat.zero_le _, bl_MC_mono (c_Model_thrown (d := 39) km) (fun o s3 q => ?_)⟩
    obtain ⟨rfl, rfl⟩ := q
    have hend := fun (lv : List (Nat × Value)) (hl : lv_pick lv [2, 3, 4, 5, 6] = lvL i) => bl_lv (st := []) (M := mL_law) (pc := 2067) [2, 3, 4, 5, 6] hl (hk _ _ _ _ (b.1 - 1 - 0 - 0, b.2 - 6 - 0 - 0) hfin (show _ ≤ b.1 - 1 - 0 - 0 by have := hp.1; dsimp only; dsimp only at this; omega) (show _ ≤ b.2 - 6 - 0 - 0 by have := hp.2; dsimp only; dsimp only at this; omega))
    refine bl_go oLw_1 120 [2067] rfl ?_
    exact ⟨fun _ => ⟨fun _ => hend _ rfl, fun e => absurd e (by decide)⟩, fun e => absurd (bl_up2_at) e⟩
  · obtain ⟨I1, J1, R1, K1, N1⟩ := s1
    have hM1 := hM.lw hF1
    have x1 := lw_x1 hF1 k20 n20 k30
    have hm1 : mdS R1 K1 N1 10000 := hM1.1
    have hmk1 : mdK I1 10000 S.1 := hM1.2.1
    have ht1 : I1 10000 1 = nI S.2.2.1 := hM1.2.2.1
    have e8 : I1 (10000 + 8) = S.2.2.2.1 := hM1.2.2.2.1
    have km : K1 10000 = 12 := hm1.2.1
    refine bl_go oLw_1 120 [2067] rfl ?_
    refine Or.inr (Or.inr ⟨x1.2.2, lw_vp (c := 1) (by omega) hi.2, ?_⟩)
    refine ⟨rfl, rfl, km, Nat.le_of_ble_eq_true rfl, (0, 0), Nat.zero_le _, Nat.zero_le _, bl_MC_mono (c_Model_kitchen (d := 33) hm1 ht1 hO.2.2.2.2.2.1 hn1 hx) (fun o s2 q => ?_)⟩
    obtain ⟨I2, rfl, hkf, hE2, i1, q⟩ := q
    rw [e8, hpk] at q
    obtain ⟨f', h9, rfl, i3, e10, e12, i14, i15⟩ := q.resolve_left (fun ⟨S', h9, _⟩ => by cases h9)
    cases h9
    have hfin := lwI.md hC1 hO.tp x1 hz1 (fun y hy => ⟨hkf.1 y (by omega) (by omega) (by omega) (by omega) (by omega), rfl⟩) (hM1.uF hkf i1 i3 e10 e12 i14 i15)
    refine bl_go oLw_1 120 [2067] rfl ?_
    refine ⟨rfl, rfl, km, Nat.le_of_ble_eq_true rfl, (0, 0), Nat.zero_le _, Nat.zero_le _, bl_MC_mono (c_Model_thrown (d := 39) km) (fun o s3 q => ?_)⟩
    obtain ⟨rfl, rfl⟩ := q
    have hend := fun (lv : List (Nat × Value)) (hl : lv_pick lv [2, 3, 4, 5, 6] = lvL i) => bl_lv (st := []) (M := mL_law) (pc := 2067) [2, 3, 4, 5, 6] hl (hk _ _ _ _ (b.1 - 1 - 0 - 0, b.2 - 6 - 0 - 0) hfin (show _ ≤ b.1 - 1 - 0 - 0 by have := hp.1; dsimp only; dsimp only at this; omega) (show _ ≤ b.2 - 6 - 0 - 0 by have := hp.2; dsimp only; dsimp only at this; omega))
    refine bl_go oLw_1 120 [2067] rfl ?_
    refine ⟨fun _ => ⟨fun _ => hend _ rfl, fun e => ?_⟩, fun e => absurd (hE2) e⟩
    refine ⟨x1.1, lw_v0 x1.2.1, fun _ => hend _ rfl, fun ne => absurd ((lg_eq0 _ _).mpr ?_) ne⟩
    exact hw1 rfl
  · obtain ⟨I1, J1, R1, K1, N1⟩ := s1
    have hM1 := hM.lw hF1
    have x1 := lw_x1 hF1 k20 n20 k30
    have hm1 : mdS R1 K1 N1 10000 := hM1.1
    have hmk1 : mdK I1 10000 S.1 := hM1.2.1
    have ht1 : I1 10000 1 = nI S.2.2.1 := hM1.2.2.1
    have e8 : I1 (10000 + 8) = S.2.2.2.1 := hM1.2.2.2.1
    have km : K1 10000 = 12 := hm1.2.1
    refine bl_go oLw_1 120 [2067] rfl ?_
    refine Or.inr (Or.inr ⟨x1.2.2, lw_vp (c := 1) (by omega) hi.2, ?_⟩)
    refine ⟨rfl, rfl, km, Nat.le_of_ble_eq_true rfl, (0, 0), Nat.zero_le _, Nat.zero_le _, bl_MC_mono (c_Model_kitchen (d := 33) hm1 ht1 hO.2.2.2.2.2.1 hn1 hx) (fun o s2 q => ?_)⟩
    obtain ⟨I2, rfl, hkf, hE2, i1, q⟩ := q
    rw [e8, hpk] at q
    obtain ⟨S', h9, rfl, i3, e10, e12, i14, i15⟩ := q.resolve_right (fun ⟨S', h9, _⟩ => by cases h9)
    cases h9
    have hfin := lwI.md hC1 (hO.kt hka) x1 hz1 (fun y hy => ⟨hkf.1 y (by omega) (by omega) (by omega) (by omega) (by omega), rfl⟩) (hM1.uS hkf hka i1 i3 e10 e12 i14 i15)
    refine bl_go oLw_1 120 [2067] rfl ?_
    refine ⟨rfl, rfl, km, Nat.le_of_ble_eq_true rfl, (0, 0), Nat.zero_le _, Nat.zero_le _, bl_MC_mono (c_Model_thrown (d := 39) km) (fun o s3 q => ?_)⟩
    obtain ⟨rfl, rfl⟩ := q
    have hend := fun (lv : List (Nat × Value)) (hl : lv_pick lv [2, 3, 4, 5, 6] = lvL i) => bl_lv (st := []) (M := mL_law) (pc := 2067) [2, 3, 4, 5, 6] hl (hk _ _ _ _ (b.1 - 1 - 0 - 0, b.2 - 6 - 0 - 0) hfin (show _ ≤ b.1 - 1 - 0 - 0 by have := hp.1; dsimp only; dsimp only at this; omega) (show _ ≤ b.2 - 6 - 0 - 0 by have := hp.2; dsimp only; dsimp only at this; omega))
    refine bl_go oLw_1 120 [2067] rfl ?_
    refine ⟨fun _ => ⟨fun _ => hend _ rfl, fun e => ?_⟩, fun e => absurd (hE2) e⟩
    refine ⟨x1.1, lw_v0 x1.2.1, fun _ => hend _ rfl, fun ne => absurd ((lg_eq0 _ _).mpr ?_) ne⟩
    exact hw1 rfl
end LWO
