/-! ===== feed, fault, turnOf, image, restore, count ===== -/
section LWP
variable {I I' : Nat → Nat → Int32} {J : Nat → Nat → Int64} {R : Nat → Nat → Option Nat} {K N : Nat → Nat} {S : cS}
theorem lwM.fed {v1 v2 v3 v4 v5 : Int32} (h : lwM (I, J, R, K, N) S) (f1 : ∀ x, x ≠ 10000 → x ≠ 10000 + 8 → I' x = I x) (f2 : ∀ j, j ≠ 0 → j ≠ 1 → I' 10000 j = I 10000 j) (i1 : I' 10000 1 = nI (S.2.2.1 + 20)) (i8 : ∀ j, I' (10000 + 8) j = if S.2.2.1 ≤ j ∧ j < S.2.2.1 + 20 then fd20 v1 v2 v3 v4 v5 (j - S.2.2.1) else I (10000 + 8) j) : lwM (I', J, R, K, N) (fdS S v1 v2 v3 v4 v5) := by
  obtain ⟨a1, a2, a3, a4, a5, a6, a8, a7⟩ := h
  refine ⟨a1, ⟨a2.1.same (f1 _ (by omega) (by omega)) (f1 _ (by omega) (by omega)), a2.2.1, ⟨(f2 13 (by omega) (by omega)).trans a2.2.2.1.1, a2.2.2.1.2.1, fun r hr => ?_⟩, (f2 14 (by omega) (by omega)).trans a2.2.2.2.1, a2.2.2.2.2⟩, i1, ?_, (f2 3 (by omega) (by omega)).trans a5, (f2 15 (by omega) (by omega)).trans a6, a8, fun i hi => ?_⟩
  · show I' (10000 + 16) r = _ ∧ _ ∧ _ ∧ ∀ j, _ → I' (10000 + 100 + r) (2 * j) = _ ∧ I' (10000 + 100 + r) (2 * j + 1) = _
    rw [f1 (10000 + 16) (by omega) (by omega), f1 (10000 + 100 + r) (by omega) (by omega)]
    exact a2.2.2.1.2.2 r hr
  · show I' 10008 = (fdS S v1 v2 v3 v4 v5).2.2.2.1
    have e8 : I (10000 + 8) = S.2.2.2.1 := a4
    funext j
    have q := i8 j
    rw [e8] at q
    exact q
  · show I' (10110 + i) 0 = _ ∧ I' (10110 + i) 1 = _
    rw [f1 (10110 + i) (by omega) (by omega)]; exact a7 i hi
theorem lwM.img (h : lwM (I, J, R, K, N) S) (hk : S.2.2.2.2.2.1 < 3) (f1 : ∀ y, y ≠ 10000 → y ≠ 10000 + 110 + S.2.2.2.2.2.1 → I' y = I y) (f2 : ∀ j, j ≠ 0 → j ≠ 15 → I' 10000 j = I 10000 j) (i15 : I' 10000 15 = nI (S.2.2.2.2.2.1 + 1)) (g0 : I' (10000 + 110 + S.2.2.2.2.2.1) 0 = I 10000 13) (g1 : I' (10000 + 110 + S.2.2.2.2.2.1) 1 = I 10000 14) : lwM (I', J, R, K, N) (imS S) := by
  obtain ⟨a1, a2, a3, a4, a5, a6, a8, a7⟩ := h
  refine ⟨a1, a2.same (fun x q1 q2 => f1 x (by omega) (by omega)) (fun r hr => f1 _ (by omega) (by omega)) (f2 13 (by omega) (by omega)) (f2 14 (by omega) (by omega)), (f2 1 (by omega) (by omega)).trans a3, (f1 10008 (by omega) (by omega)).trans a4, (f2 3 (by omega) (by omega)).trans a5, i15, hk, fun i hi => ?_⟩
  have hi' : i < S.2.2.2.2.2.1 + 1 := hi
  by_cases e : i = S.2.2.2.2.2.1
  · have e1 : (imS S).2.2.2.2.2.2 i = (S.1.2.2.1, S.1.2.2.2.2) := if_pos e
    rw [e1, e]
    exact ⟨g0.trans a2.2.2.1.1, g1.trans a2.2.2.2.1⟩
  · have e1 : (imS S).2.2.2.2.2.2 i = S.2.2.2.2.2.2 i := if_neg e
    rw [e1]
    show I' (10110 + i) 0 = _ ∧ I' (10110 + i) 1 = _
    rw [f1 (10110 + i) (by omega) (by omega)]; exact a7 i (by omega)
theorem lwM.rst {i : Nat} (h : lwM (I, J, R, K, N) S) (hO : csO S) (hi : S.2.2.2.2.2.1 = i + 1) (f1 : ∀ y, y ≠ 10000 → I' y = I y) (f2 : ∀ j, j ≠ 0 → j ≠ 13 → j ≠ 14 → j ≠ 15 → I' 10000 j = I 10000 j) (i15 : I' 10000 15 = nI i) (g0 : I' 10000 13 = I (10000 + 110 + i) 0) (g1 : I' 10000 14 = I (10000 + 110 + i) 1) : lwM (I', J, R, K, N) (reS S i) := by
  obtain ⟨a1, a2, a3, a4, a5, a6, a8, a7⟩ := h
  have b7 := a7 i (by omega)
  have hO8 := hO.2.2.2.2.2.2.2.1 i (by omega)
  refine ⟨a1, ⟨a2.1.same (f1 _ (by omega)) (f1 _ (by omega)), a2.2.1, ⟨g0.trans b7.1, Nat.le_trans hO8.1 a2.2.2.1.2.1, fun r hr => ?_⟩, g1.trans b7.2, hO8.2⟩, (f2 1 (by omega) (by omega) (by omega) (by omega)).trans a3, (f1 10008 (by omega)).trans a4, (f2 3 (by omega) (by omega) (by omega) (by omega)).trans a5, i15, show i ≤ 3 by omega, fun j hj => ?_⟩
  · have hr' : r < (S.2.2.2.2.2.2 i).1 := hr
    show I' (10000 + 16) r = _ ∧ _ ∧ _ ∧ ∀ j, _ → I' (10000 + 100 + r) (2 * j) = _ ∧ I' (10000 + 100 + r) (2 * j + 1) = _
    rw [f1 (10000 + 16) (by omega), f1 (10000 + 100 + r) (by omega)]
    exact a2.2.2.1.2.2 r (by omega)
  · have hj' : j < i := hj
    show I' (10110 + j) 0 = _ ∧ I' (10110 + j) 1 = _
    rw [f1 (10110 + j) (by omega)]; exact a7 j (by omega)
end LWP
section LWO
variable {G : bl_G} {l : Launch} {s : bl_Mem} {S : cS} {h z i n : Nat} {b : Nat × Nat} {Q : bl_Out → bl_Mem → Prop}
theorem lw_3 (hlt : l.stackTraces = false) (hI : lwI s S h z) (hi : i + 6 ≤ G.2.2.2.2.1 ∧ G.2.2.2.2.1 ≤ 3072) (hb : pC s.2.2.2.1 (n + 1) ≤ b.1 ∧ pS s.2.2.2.1 (n + 1) ≤ b.2) (hk : lwC G l i n Q) : bl_WP G l 40 mL_law 361 (lvL i) [] s b Q := by
  obtain ⟨I, J, R, K, N⟩ := s
  obtain ⟨hC, hO, hM, ⟨k20, n20, k30⟩, hz⟩ := hI
  dsimp only at k20 n20 k30 hb
  have hb0 := p_le (K := K) (K' := K) (fun _ q => q) n
  have kx : K 100 = 11 := hC.1.1.1
  refine bl_go oLw_3 120 [2067] rfl ?_
  refine ⟨rfl, rfl, kx, Nat.le_of_ble_eq_true rfl, (0, 0), Nat.zero_le _, Nat.zero_le _, bl_MC_mono (c_BL_fault (d := 39) hC) (fun o s1 q => ?_)⟩
  obtain ⟨rfl, rfl⟩ := q
  have hM1 := hM
  have hm1 : mdS R K N 10000 := hM1.1
  have hmk1 : mdK I 10000 S.1 := hM1.2.1
  have ht1 : I 10000 1 = nI S.2.2.1 := hM1.2.2.1
  have hk1 : I 10000 15 = nI S.2.2.2.2.2.1 := hM1.2.2.2.2.2.1
  have km : K 10000 = 12 := hm1.2.1
  refine bl_go oLw_3 120 [2067] rfl ?_
  refine ⟨rfl, rfl, km, Nat.le_of_ble_eq_true rfl, (0, 0), Nat.zero_le _, Nat.zero_le _, bl_MC_mono (c_Model_fault (d := 39) km) (fun o s2 q => ?_)⟩
  obtain ⟨rfl, rfl⟩ := q
  have hfin := lwI.md hC hO ⟨k20, n20, k30⟩ hz (fun y hy => ⟨bl_up2_ne (by omega), rfl⟩) (hM.G (J' := J) (gtG.up (v := 0)))
  have hend := hk _ _ _ _ (b.1 - 0 - 0, b.2 - 0 - 0) hfin (show _ ≤ b.1 - 0 - 0 by dsimp only; omega) (show _ ≤ b.2 - 0 - 0 by dsimp only; omega)
  refine bl_go oLw_3 120 [2067] rfl ?_
  exact ⟨fun _ => hend, fun e => absurd (hM1.2.2.2.2.1.symm) e⟩
theorem lw_29 (hlt : l.stackTraces = false) (hI : lwI s S h z) (hi : i + 6 ≤ G.2.2.2.2.1 ∧ G.2.2.2.2.1 ≤ 3072) (hb : pC s.2.2.2.1 (n + 1) ≤ b.1 ∧ pS s.2.2.2.1 (n + 1) ≤ b.2) (hk : lwC G l i n Q) : bl_WP G l 40 mL_law 2042 (lvL i) [] s b Q := by
  obtain ⟨I, J, R, K, N⟩ := s
  obtain ⟨hC, hO, hM, ⟨k20, n20, k30⟩, hz⟩ := hI
  dsimp only at k20 n20 k30 hb
  have hb0 := p_le (K := K) (K' := K) (fun _ q => q) n
  have kx : K 100 = 11 := hC.1.1.1
  refine bl_go oLw_29 120 [2067] rfl ?_
  refine Or.inr (Or.inr ⟨k30, lw_vp (c := 1) (by omega) hi.2, ?_⟩)
  refine ⟨rfl, rfl, kx, Nat.le_of_ble_eq_true rfl, (0, 0), Nat.zero_le _, Nat.zero_le _, bl_MC_mono (c_BL_count (d := 39) hC) (fun o s1 q => ?_)⟩
  obtain ⟨rfl, rfl⟩ := q
  have hM1 := hM
  have hm1 : mdS R K N 10000 := hM1.1
  have hmk1 : mdK I 10000 S.1 := hM1.2.1
  have ht1 : I 10000 1 = nI S.2.2.1 := hM1.2.2.1
  have hk1 : I 10000 15 = nI S.2.2.2.2.2.1 := hM1.2.2.2.2.2.1
  have km : K 10000 = 12 := hm1.2.1
  refine bl_go oLw_29 120 [2067] rfl ?_
  refine Or.inr (Or.inr ⟨k30, lw_vp (c := 1) (by omega) hi.2, ?_⟩)
  refine ⟨rfl, rfl, km, Nat.le_of_ble_eq_true rfl, (0, 0), Nat.zero_le _, Nat.zero_le _, bl_MC_mono (c_Model_count (d := 39) km) (fun o s2 q => ?_)⟩
  obtain ⟨rfl, rfl⟩ := q
  have hfin := lwI.md hC hO ⟨k20, n20, k30⟩ hz (fun y hy => ⟨bl_up2_ne (by omega), rfl⟩) (hM.G (J' := J) (gtG.up (v := 0)))
  have hend := hk _ _ _ _ (b.1 - 0 - 0, b.2 - 0 - 0) hfin (show _ ≤ b.1 - 0 - 0 by dsimp only; omega) (show _ ≤ b.2 - 0 - 0 by dsimp only; omega)
  refine bl_go oLw_29 120 [2067] rfl ?_
  exact ⟨fun _ => hend, fun e => absurd (by rw [hk1, ht1]) e⟩
theorem lw_26 (hlt : l.stackTraces = false) (hI : lwI s S h z) (hi : i + 6 ≤ G.2.2.2.2.1 ∧ G.2.2.2.2.1 ≤ 3072) (hb : pC s.2.2.2.1 (n + 1) ≤ b.1 ∧ pS s.2.2.2.1 (n + 1) ≤ b.2) (hk : lwC G l i n Q) : bl_WP G l 40 mL_law 1991 (lvL i) [] s b Q := by
  obtain ⟨I, J, R, K, N⟩ := s
  obtain ⟨hC, hO, hM, ⟨k20, n20, k30⟩, hz⟩ := hI
  dsimp only at k20 n20 k30 hb
  have hb0 := p_le (K := K) (K' := K) (fun _ q => q) n
  have kx : K 100 = 11 := hC.1.1.1
  refine bl_go oLw_26 120 [2067] rfl ?_
  refine Or.inr (Or.inr ⟨k30, lw_vp (c := 1) (by omega) hi.2, ?_⟩)
  refine ⟨rfl, rfl, kx, Nat.le_of_ble_eq_true rfl, (0, 0), Nat.zero_le _, Nat.zero_le _, bl_MC_mono (c_BL_turnOf (d := 8) hC hO) (fun o s1 q => ?_)⟩
  obtain ⟨I1, rfl, f1, f2, rfl⟩ := q
  have hM1 := hM.cf f2
  have hz1 : exF (I1, J, R, K, N) z := hz
  have hm1 : mdS R K N 10000 := hM1.1
  have hmk1 : mdK I1 10000 S.1 := hM1.2.1
  have ht1 : I1 10000 1 = nI S.2.2.1 := hM1.2.2.1
  have hk1 : I1 10000 15 = nI S.2.2.2.2.2.1 := hM1.2.2.2.2.2.1
  have km : K 10000 = 12 := hm1.2.1
  refine bl_go oLw_26 120 [2067] rfl ?_
  refine Or.inr (Or.inr ⟨k30, lw_vp (c := 1) (by omega) hi.2, ?_⟩)
  refine ⟨rfl, rfl, km, Nat.le_of_ble_eq_true rfl, (0, 0), Nat.zero_le _, Nat.zero_le _, bl_MC_mono (c_Model_turnOf (d := 25) hm1 hmk1 hO.2.2.2.1) (fun o s2 q => ?_)⟩
  obtain ⟨I2, rfl, g1, g2, hE2, rfl⟩ := q
  have hfin := lwI.md f1 hO ⟨k20, n20, k30⟩ hz1 (fun y hy => ⟨g1 y (by omega) (by omega), rfl⟩) (hM1.fr (J' := J) (fun y y1 y2 => g1 y (by omega) (by omega)) (fun j hj => g2 j (by omega) (by omega)))
  have hend := hk _ _ _ _ (b.1 - 0 - 0, b.2 - 0 - 0) hfin (show _ ≤ b.1 - 0 - 0 by dsimp only; omega) (show _ ≤ b.2 - 0 - 0 by dsimp only; omega)
  refine bl_go oLw_26 120 [2067] rfl ?_
  exact ⟨fun _ => hend, fun e => absurd (rfl) e⟩
theorem lw_0 (hlt : l.stackTraces = false) (hI : lwI s S h z) (hi : i + 6 ≤ G.2.2.2.2.1 ∧ G.2.2.2.2.1 ≤ 3072) (hb : pC s.2.2.2.1 (n + 1) ≤ b.1 ∧ pS s.2.2.2.1 (n + 1) ≤ b.2) (hk : lwC G l i n Q) : bl_WP G l 40 mL_law 176 (lvL i) [] s b Q := by
  obtain ⟨I, J, R, K, N⟩ := s
  obtain ⟨hC, hO, hM, ⟨k20, n20, k30⟩, hz⟩ := hI
  dsimp only at k20 n20 k30 hb
  have hb0 := p_le (K := K) (K' := K) (fun _ q => q) n
  have kx : K 100 = 11 := hC.1.1.1
  refine bl_go oLw_0 120 [2067] rfl ?_
  refine Or.inr (Or.inr ⟨k30, lw_vp (c := 1) (by omega) hi.2, Or.inr (Or.inr ⟨k30, lw_vp (c := 2) (by omega) hi.2, Or.inr (Or.inr ⟨k30, lw_vp (c := 3) (by omega) hi.2, Or.inr (Or.inr ⟨k30, lw_vp (c := 4) (by omega) hi.2, Or.inr (Or.inr ⟨k30, lw_vp (c := 5) (by omega) hi.2, ?_⟩)⟩)⟩)⟩)⟩)
  refine ⟨rfl, rfl, kx, Nat.le_of_ble_eq_true rfl, (0, 0), Nat.zero_le _, Nat.zero_le _, bl_MC_mono (c_BL_feed (d := 37) hC hO) (fun o s1 q => ?_)⟩
  rcases q with ⟨ht, rfl, rfl⟩ | ⟨ht, rfl, q⟩
  · skip
    have hM1 := hM
    have hm1 : mdS R K N 10000 := hM1.1
    have hmk1 : mdK I 10000 S.1 := hM1.2.1
    have ht1 : I 10000 1 = nI S.2.2.1 := hM1.2.2.1
    have hk1 : I 10000 15 = nI S.2.2.2.2.2.1 := hM1.2.2.2.2.2.1
    have km : K 10000 = 12 := hm1.2.1
    refine bl_go oLw_0 120 [2067] rfl ?_
    refine Or.inr (Or.inr ⟨k30, lw_vp (c := 1) (by omega) hi.2, Or.inr (Or.inr ⟨k30, lw_vp (c := 2) (by omega) hi.2, Or.inr (Or.inr ⟨k30, lw_vp (c := 3) (by omega) hi.2, Or.inr (Or.inr ⟨k30, lw_vp (c := 4) (by omega) hi.2, Or.inr (Or.inr ⟨k30, lw_vp (c := 5) (by omega) hi.2, ?_⟩)⟩)⟩)⟩)⟩)
    refine ⟨rfl, rfl, km, Nat.le_of_ble_eq_true rfl, (0, 0), Nat.zero_le _, Nat.zero_le _, bl_MC_mono (c_Model_feed (d := 39) hm1 ht1 hO.2.2.2.2.2.1) (fun o s2 q => ?_)⟩
    obtain ⟨-, rfl, rfl⟩ := q.resolve_right (fun q => by have := q.1; omega)
    have hfin := lwI.md hC hO ⟨k20, n20, k30⟩ hz (fun y hy => ⟨bl_up2_ne (by omega), rfl⟩) (hM.G (J' := J) (gtG.up (v := 0)))
    have hend := hk _ _ _ _ (b.1 - 0 - 0, b.2 - 0 - 0) hfin (show _ ≤ b.1 - 0 - 0 by dsimp only; omega) (show _ ≤ b.2 - 0 - 0 by dsimp only; omega)
    refine bl_go oLw_0 120 [2067] rfl ?_
    exact ⟨fun _ => hend, fun e => absurd (rfl) e⟩
  · skip
    obtain ⟨I1, rfl, f1, f2⟩ := q
    have hM1 := hM.cf f2
    have hz1 : exF (I1, J, R, K, N) z := hz
    have hm1 : mdS R K N 10000 := hM1.1
    have hmk1 : mdK I1 10000 S.1 := hM1.2.1
    have ht1 : I1 10000 1 = nI S.2.2.1 := hM1.2.2.1
    have hk1 : I1 10000 15 = nI S.2.2.2.2.2.1 := hM1.2.2.2.2.2.1
    have km : K 10000 = 12 := hm1.2.1
    refine bl_go oLw_0 120 [2067] rfl ?_
    refine Or.inr (Or.inr ⟨k30, lw_vp (c := 1) (by omega) hi.2, Or.inr (Or.inr ⟨k30, lw_vp (c := 2) (by omega) hi.2, Or.inr (Or.inr ⟨k30, lw_vp (c := 3) (by omega) hi.2, Or.inr (Or.inr ⟨k30, lw_vp (c := 4) (by omega) hi.2, Or.inr (Or.inr ⟨k30, lw_vp (c := 5) (by omega) hi.2, ?_⟩)⟩)⟩)⟩)⟩)
    refine ⟨rfl, rfl, km, Nat.le_of_ble_eq_true rfl, (0, 0), Nat.zero_le _, Nat.zero_le _, bl_MC_mono (c_Model_feed (d := 39) hm1 ht1 hO.2.2.2.2.2.1) (fun o s2 q => ?_)⟩
    obtain ⟨-, rfl, I2, rfl, g1, g2, hE2, i1, i8⟩ := q.resolve_left (fun q => by have := q.1; omega)
    have hfin := lwI.md f1 (hO.fd ht) ⟨k20, n20, k30⟩ hz1 (fun y hy => ⟨g1 y (by omega) (by omega), rfl⟩) (hM1.fed g1 g2 i1 i8)
    have hend := hk _ _ _ _ (b.1 - 0 - 0, b.2 - 0 - 0) hfin (show _ ≤ b.1 - 0 - 0 by dsimp only; omega) (show _ ≤ b.2 - 0 - 0 by dsimp only; omega)
    refine bl_go oLw_0 120 [2067] rfl ?_
    exact ⟨fun _ => hend, fun e => absurd (rfl) e⟩
theorem lw_27 (hlt : l.stackTraces = false) (hI : lwI s S h z) (hi : i + 6 ≤ G.2.2.2.2.1 ∧ G.2.2.2.2.1 ≤ 3072) (hb : pC s.2.2.2.1 (n + 1) ≤ b.1 ∧ pS s.2.2.2.1 (n + 1) ≤ b.2) (hk : lwC G l i n Q) : bl_WP G l 40 mL_law 2016 (lvL i) [] s b Q := by
  obtain ⟨I, J, R, K, N⟩ := s
  obtain ⟨hC, hO, hM, ⟨k20, n20, k30⟩, hz⟩ := hI
  dsimp only at k20 n20 k30 hb
  have hb0 := p_le (K := K) (K' := K) (fun _ q => q) n
  have kx : K 100 = 11 := hC.1.1.1
  refine bl_go oLw_27 120 [2067] rfl ?_
  refine ⟨rfl, rfl, kx, Nat.le_of_ble_eq_true rfl, (0, 0), Nat.zero_le _, Nat.zero_le _, bl_MC_mono (c_BL_image (d := 39) hC hO) (fun o s1 q => ?_)⟩
  rcases q with ⟨ht, rfl, rfl⟩ | ⟨ht, rfl, q⟩
  · skip
    have hM1 := hM
    have hm1 : mdS R K N 10000 := hM1.1
    have hmk1 : mdK I 10000 S.1 := hM1.2.1
    have ht1 : I 10000 1 = nI S.2.2.1 := hM1.2.2.1
    have hk1 : I 10000 15 = nI S.2.2.2.2.2.1 := hM1.2.2.2.2.2.1
    have km : K 10000 = 12 := hm1.2.1
    refine bl_go oLw_27 120 [2067] rfl ?_
    refine ⟨rfl, rfl, km, Nat.le_of_ble_eq_true rfl, (0, 0), Nat.zero_le _, Nat.zero_le _, bl_MC_mono (c_Model_image (d := 39) hm1 hk1 hO.2.2.2.2.2.2.1) (fun o s2 q => ?_)⟩
    obtain ⟨-, rfl, rfl⟩ := q.resolve_right (fun q => by have := q.1; omega)
    have hfin := lwI.md hC hO ⟨k20, n20, k30⟩ hz (fun y hy => ⟨bl_up2_ne (by omega), rfl⟩) (hM.G (J' := J) (gtG.up (v := 0)))
    have hend := hk _ _ _ _ (b.1 - 0 - 0, b.2 - 0 - 0) hfin (show _ ≤ b.1 - 0 - 0 by dsimp only; omega) (show _ ≤ b.2 - 0 - 0 by dsimp only; omega)
    refine bl_go oLw_27 120 [2067] rfl ?_
    exact ⟨fun _ => hend, fun e => absurd (rfl) e⟩
  · skip
    obtain ⟨I1, rfl, f1, f2⟩ := q
    have hM1 := hM.cf f2
    have hz1 : exF (I1, J, R, K, N) z := hz
    have hm1 : mdS R K N 10000 := hM1.1
    have hmk1 : mdK I1 10000 S.1 := hM1.2.1
    have ht1 : I1 10000 1 = nI S.2.2.1 := hM1.2.2.1
    have hk1 : I1 10000 15 = nI S.2.2.2.2.2.1 := hM1.2.2.2.2.2.1
    have km : K 10000 = 12 := hm1.2.1
    refine bl_go oLw_27 120 [2067] rfl ?_
    refine ⟨rfl, rfl, km, Nat.le_of_ble_eq_true rfl, (0, 0), Nat.zero_le _, Nat.zero_le _, bl_MC_mono (c_Model_image (d := 39) hm1 hk1 hO.2.2.2.2.2.2.1) (fun o s2 q => ?_)⟩
    obtain ⟨-, rfl, I2, rfl, g1, g2, hE2, i15, i0, i1⟩ := q.resolve_left (fun q => by have := q.1; omega)
    have hfin := lwI.md f1 (hO.im ht) ⟨k20, n20, k30⟩ hz1 (fun y hy => ⟨g1 y (by omega) (by omega), rfl⟩) (hM1.img ht g1 g2 i15 i0 i1)
    have hend := hk _ _ _ _ (b.1 - 0 - 0, b.2 - 0 - 0) hfin (show _ ≤ b.1 - 0 - 0 by dsimp only; omega) (show _ ≤ b.2 - 0 - 0 by dsimp only; omega)
    refine bl_go oLw_27 120 [2067] rfl ?_
    exact ⟨fun _ => hend, fun e => absurd (rfl) e⟩
theorem lw_28 (hlt : l.stackTraces = false) (hI : lwI s S h z) (hi : i + 6 ≤ G.2.2.2.2.1 ∧ G.2.2.2.2.1 ≤ 3072) (hb : pC s.2.2.2.1 (n + 1) ≤ b.1 ∧ pS s.2.2.2.1 (n + 1) ≤ b.2) (hk : lwC G l i n Q) : bl_WP G l 40 mL_law 2029 (lvL i) [] s b Q := by
  obtain ⟨I, J, R, K, N⟩ := s
  obtain ⟨hC, hO, hM, ⟨k20, n20, k30⟩, hz⟩ := hI
  dsimp only at k20 n20 k30 hb
  have hb0 := p_le (K := K) (K' := K) (fun _ q => q) n
  have kx : K 100 = 11 := hC.1.1.1
  refine bl_go oLw_28 120 [2067] rfl ?_
  refine ⟨rfl, rfl, kx, Nat.le_of_ble_eq_true rfl, (0, 0), Nat.zero_le _, Nat.zero_le _, bl_MC_mono (c_BL_restore (d := 38) hC hO) (fun o s1 q => ?_)⟩
  rcases q with ⟨ht, rfl, rfl⟩ | ⟨j, ht, rfl, q⟩
  · skip
    have hM1 := hM
    have hm1 : mdS R K N 10000 := hM1.1
    have hmk1 : mdK I 10000 S.1 := hM1.2.1
    have ht1 : I 10000 1 = nI S.2.2.1 := hM1.2.2.1
    have hk1 : I 10000 15 = nI S.2.2.2.2.2.1 := hM1.2.2.2.2.2.1
    have km : K 10000 = 12 := hm1.2.1
    refine bl_go oLw_28 120 [2067] rfl ?_
    refine ⟨rfl, rfl, km, Nat.le_of_ble_eq_true rfl, (0, 0), Nat.zero_le _, Nat.zero_le _, bl_MC_mono (c_Model_restore (d := 39) hm1 hk1 hO.2.2.2.2.2.2.1) (fun o s2 q => ?_)⟩
    obtain ⟨-, rfl, rfl⟩ := q.resolve_right (fun ⟨j, q, _⟩ => by omega)
    have hfin := lwI.md hC hO ⟨k20, n20, k30⟩ hz (fun y hy => ⟨bl_up2_ne (by omega), rfl⟩) (hM.G (J' := J) (gtG.up (v := 0)))
    have hend := hk _ _ _ _ (b.1 - 0 - 0, b.2 - 0 - 0) hfin (show _ ≤ b.1 - 0 - 0 by dsimp only; omega) (show _ ≤ b.2 - 0 - 0 by dsimp only; omega)
    refine bl_go oLw_28 120 [2067] rfl ?_
    exact ⟨fun _ => hend, fun e => absurd (rfl) e⟩
  · skip
    obtain ⟨I1, rfl, f1, f2⟩ := q
    have hM1 := hM.cf f2
    have hz1 : exF (I1, J, R, K, N) z := hz
    have hm1 : mdS R K N 10000 := hM1.1
    have hmk1 : mdK I1 10000 S.1 := hM1.2.1
    have ht1 : I1 10000 1 = nI S.2.2.1 := hM1.2.2.1
    have hk1 : I1 10000 15 = nI S.2.2.2.2.2.1 := hM1.2.2.2.2.2.1
    have km : K 10000 = 12 := hm1.2.1
    refine bl_go oLw_28 120 [2067] rfl ?_
    refine ⟨rfl, rfl, km, Nat.le_of_ble_eq_true rfl, (0, 0), Nat.zero_le _, Nat.zero_le _, bl_MC_mono (c_Model_restore (d := 39) hm1 hk1 hO.2.2.2.2.2.2.1) (fun o s2 q => ?_)⟩
    obtain ⟨j', ht', rfl, I2, rfl, g1, g2, hE2, i15, i0, i1⟩ := q.resolve_left (fun q => by have := q.1; omega)
    have ej : j' = j := by omega
    subst ej
    have hfin := lwI.md f1 (hO.re ht) ⟨k20, n20, k30⟩ hz1 (fun y hy => ⟨g1 y (by omega), rfl⟩) (hM1.rst hO ht g1 g2 i15 i0 i1)
    have hend := hk _ _ _ _ (b.1 - 0 - 0, b.2 - 0 - 0) hfin (show _ ≤ b.1 - 0 - 0 by dsimp only; omega) (show _ ≤ b.2 - 0 - 0 by dsimp only; omega)
    refine bl_go oLw_28 120 [2067] rfl ?_
    exact ⟨fun _ => hend, fun e => absurd (rfl) e⟩
end LWO
