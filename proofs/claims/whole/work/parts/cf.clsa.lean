/-! ===== ButterLeaves: latest, bench, turnOf ===== -/
theorem rnO.late {I : Nat → Nat → Int32} {J : Nat → Nat → Int64} {A : aS} {r : Nat} {v : Int32} (h : rnO I J A r) (hr : r < 4) (hv : ltP A r v) : rnO (bl_up2 (bl_up2 I (400 + 10 * r) 6 v) (400 + 10 * r) 9 1) J A r := by
  obtain ⟨a1, a2, a3⟩ := h
  have e7 : ∀ j, j ≠ 6 → j ≠ 9 → bl_up2 (bl_up2 I (400 + 10 * r) 6 v) (400 + 10 * r) 9 1 (400 + 10 * r) j = I (400 + 10 * r) j := fun j j1 j2 => by rw [bl_up2_nk j2, bl_up2_nk j1]
  have ey : ∀ y, y ≠ 400 + 10 * r → bl_up2 (bl_up2 I (400 + 10 * r) 6 v) (400 + 10 * r) 9 1 y = I y := fun y hy => by rw [bl_up2_ne hy, bl_up2_ne hy]
  refine ⟨?_, ?_, Or.inr ⟨bl_up2_at, ?_⟩⟩
  · rw [e7 7 (by omega) (by omega), e7 3 (by omega) (by omega)]
    rcases a1 with a | ⟨a, b, c⟩
    · exact Or.inl a
    · exact Or.inr ⟨a, b, fun k hk => (c k hk).nm (fun y hy => ⟨ey y (by unfold slN at hy; omega), rfl⟩)⟩
  · rw [e7 8 (by omega) (by omega), e7 7 (by omega) (by omega), e7 4 (by omega) (by omega), e7 5 (by omega) (by omega), ey (400 + 10 * r + 2) (by omega), ey (400 + 10 * r + 3) (by omega)]
    exact a2
  · rw [bl_up2_nk (by omega), bl_up2_at]; exact hv
section CLSA
variable {G : bl_G} {l : Launch} {d : Nat} {I I' : Nat → Nat → Int32} {J J' : Nat → Nat → Int64} {R : Nat → Nat → Option Nat} {K N : Nat → Nat} {S : cS} {h : Nat} {x y w a b c e : Int32}
theorem bTot_80 (hO : csO S) : bTot S.1.2.2.1 S.1.2.2.2.1 ≤ 80 := by
  have hc := hO.2.2.1
  have hsz : ∀ r, (bdD S.1.2.2.1 S.1.2.2.2.1).2.1 r ≤ 20 := fun r => by
    have a := (bkD_K (hO.2.2.2.1 r)).1
    have b := (hO.2.2.2.1 r).1
    show (bkD (S.1.2.2.2.1 r)).1 ≤ 20
    omega
  have hTs : ∀ r, smf (bdD S.1.2.2.1 S.1.2.2.2.1).2.1 r ≤ 20 * r := by
    intro r
    induction r with
    | zero => exact Nat.le_refl _
    | succ r ih =>
      have h1 : smf (bdD S.1.2.2.1 S.1.2.2.2.1).2.1 (r + 1) = smf (bdD S.1.2.2.1 S.1.2.2.2.1).2.1 r + (bdD S.1.2.2.1 S.1.2.2.2.1).2.1 r := rfl
      have h2 := hsz r
      omega
  have := hTs S.1.2.2.1
  unfold bTot
  omega
theorem clI.bench (hI : clI (I, J, R, K, N) S h) (hO : csO S) (hF : fdF I I' 150) (h18 : I' 150 18 = 1) (hB : bnR I' 150 S.1.2.2.1 S.1.2.2.2.1) : clI (I', J, R, K, N) S h := by
  obtain ⟨a1, a2, a3, a4, a5, a6, a7, a8, a9, a10⟩ := hI
  have hh := a2.1
  have hs : ∀ y, ¬ (150 ≤ y ∧ y ≤ 162) → I' y = I y := fun y hy => hF y (by omega)
  refine ⟨a1, a2, a3, a4, ?_, kiC.nm a6 (hs _ (by omega)) (hs _ (by omega)), ?_, fun r hr => ?_, Or.inr ⟨h18, hB⟩, fun hw => (a10 hw).nm (fun y h1 h2 => hs y (by omega))⟩
  · unfold clT; dsimp only; rw [hs 110 (by omega), hs 111 (by omega)]; exact a5
  · unfold clN; dsimp only; rw [hs 100 (by omega), hs 170 (by omega), hs 171 (by omega)]; exact a7
  · obtain ⟨c1, c2, c3⟩ := a8 r hr
    have hc4 := hO.2.2.1
    have hD := aD_20 hO r
    exact ⟨c1, c2.nm (hs _ (by omega)) (hs _ (by omega)) (hs _ (by omega)), c3.nm (fun y hy => ⟨hs y (by have := rnN_rng hy (by omega); omega), rfl⟩) (by omega)⟩
/-- the bench is known behind find -/
theorem c_BL_find (hI : clI (I, J, R, K, N) S h) (hO : csO S) (hx : x = nI S.1.2.2.1) : bl_MC G l (d + 30) mX0_find [.ref 150, .ref 120, .int x] (I, J, R, K, N) (0, 0) (fun o s' => o = .inl none ∧ ∃ I', s' = (I', J, R, K, N) ∧ clI s' S h ∧ cfF (I, J, R, K, N) s' ∧ bnR I' 150 S.1.2.2.1 S.1.2.2.2.1 ∧ I' 100 = I 100) := by
  obtain ⟨⟨kx, ⟨rx_0, rx_1, rx_2, rx_3, rx_4, rx_5, rx_6, rx_7⟩, ⟨kxr, nxr⟩, ⟨kxn, nxn⟩, kxb, ⟨kxi, nxi⟩, ⟨kxj, nxj⟩⟩, hTp, hUn, hBn, hK1, hK2, hSt, hStr⟩ := hI.1
  have hb := hI.2.2.2.2.2.2.2.2.1
  have hc4 := hO.2.2.1
  dsimp only at kx kxr nxr
  rcases hb with e | ⟨e, e2⟩
  · refine bl_MC_mono (c_Bench_find (d := d) (n := S.1.2.2.1) (rcs := S.1.2.2.2.1) (pn := fun r => 300 + 10 * r) (show bnS R K N 150 from hBn) ⟨kxr, nxr⟩ (fun r hr => ?_) hO.2.2.2.1 hc4 hx e) (fun o s' q => ?_)
    · obtain ⟨⟨m1, m2, m3, m4⟩, hrc, hro⟩ := hI.2.2.2.2.2.2.2.1 r hr
      exact ⟨m3, m1, hrc, Or.inr (by omega)⟩
    · obtain ⟨rfl, I1, rfl, f1, f2, f3⟩ := q
      exact ⟨rfl, I1, rfl, hI.bench hO f1 f2 f3, fun y y1 y2 => ⟨f1 y (by omega), rfl, rfl, rfl, rfl⟩, f3, f1 100 (by omega)⟩
  · refine bl_MC_mono (c_Bench_findKnown (d := d + 30) (show K 150 = 1 from hBn.2.1) e) (fun o s' q => ?_)
    obtain ⟨rfl, rfl⟩ := q
    exact ⟨rfl, I, rfl, hI, cfF.refl, e2, rfl⟩
theorem c_BL_bench (hlt : l.stackTraces = false) (hI : clI (I, J, R, K, N) S h) (hO : csO S) : bl_MC G l (d + 31) mX10_bench [.ref 100, .int w] (I, J, R, K, N) (1, 6) (fun o s' => ∃ I', s' = (I', J, R, K, N) ∧ clI s' S h ∧ cfF (I, J, R, K, N) s' ∧ xO xLi (bhE w) (.int (bhV S.1.2.2.1 S.1.2.2.2.1 w)) o) := by
  obtain ⟨⟨kx, ⟨rx_0, rx_1, rx_2, rx_3, rx_4, rx_5, rx_6, rx_7⟩, ⟨kxr, nxr⟩, ⟨kxn, nxn⟩, kxb, ⟨kxi, nxi⟩, ⟨kxj, nxj⟩⟩, hTp, hUn, hBn, hK1, hK2, hSt, hStr⟩ := hI.1
  have hn := hI.2.2.2.2.2.2.1.1
  have kxo := hBn.2.1
  dsimp only at kx rx_5 rx_1 kxr hn kxo
  by_cases hw : 0 ≤ w ∧ w ≤ 2
  · have hW : bhE w = 0 := by unfold bhE; rw [if_pos (wb_t hw)]
    obtain ⟨v, hv, rfl⟩ := i32_nat (b := 2) (by omega) hw.1 hw.2
    refine bl_MC_intro (by decide +kernel) rfl (Nat.le_of_ble_eq_true rfl) ?_
    refine bl_go oX10_bench 80 [] rfl ?_
    refine ⟨rfl, (Nat.le_of_ble_eq_true rfl), (1, 6), Nat.le_of_ble_eq_true rfl, Nat.le_of_ble_eq_true rfl, bl_MC_mono (c_BL_needWhatT (d := d + 30) hw) (fun o2 σ2 q2 => ?_)⟩
    try dsimp only [bl_pv] at q2
    obtain ⟨rfl, rfl⟩ := q2
    refine bl_go oX10_bench 80 [] rfl ?_
    refine ⟨kx, _, bl_vs rx_5, kx, _, bl_vs rx_1, kx, rfl, rfl, kxo, (Nat.le_of_ble_eq_true rfl), (0, 0), Nat.le_of_ble_eq_true rfl, Nat.le_of_ble_eq_true rfl, bl_MC_mono (c_BL_find (d := d) hI hO hn) (fun o17 σ17 q17 => ?_)⟩
    try dsimp only [bl_pv] at q17
    obtain ⟨rfl, I1, rfl, f1, f2, f3, f4⟩ := q17
    have hT := f3.1
    have hTb := bTot_80 hO
    refine bl_go oX10_bench 80 [] rfl ?_
    refine ⟨kx, _, bl_vs rx_5, kxo, fun h29 => ?_, fun h29 => ?_⟩
    · try simp (disch := omega) only [bl_pv, cl0, cl1, cl2, cl3, cl4, cl5, cl6, cl7, cl8, cl9, bl_up2_at, bl_up2_nk, bl_up2_nx] at h29
      first
      | (exfalso; first | omega | exact h29 trivial)
      | (refine ⟨fun h35 => ?_, fun h35 => ?_⟩
         · try simp (disch := omega) only [zI_n, zI_o, zI_lit, zI_neg, zI_add, zI_sub, zI_mul, zI_lt, zI_le, zI_eq, zI_clamp, zI_in, zI_div, zI_rem, lg_lt0, lg_gt0, lg_eq0, lg_le0, lg_ge0, Int.toNat_natCast, ge_iff_le, gt_iff_lt, List.length_cons, List.length_nil, bl_up2_at, bl_up2_nk, bl_up2_nx] at h35
           first
           | (exfalso; first | omega | exact h35 trivial)
           | (refine ⟨fun h48 => ?_, fun h48 => ?_⟩
              · try simp (disch := omega) only [zI_n, zI_o, zI_lit, zI_neg, zI_add, zI_sub, zI_mul, zI_lt, zI_le, zI_eq, zI_clamp, zI_in, zI_div, zI_rem, lg_lt0, lg_gt0, lg_eq0, lg_le0, lg_ge0, Int.toNat_natCast, ge_iff_le, gt_iff_lt, List.length_cons, List.length_nil, bl_up2_at, bl_up2_nk, bl_up2_nx] at h48
                first
                | (exfalso; first | omega | exact h48 trivial)
                | (refine ⟨kx, _, bl_vs rx_5, rfl, rfl, kxo, (Nat.le_of_ble_eq_true rfl), (0, 0), Nat.le_of_ble_eq_true rfl, Nat.le_of_ble_eq_true rfl, bl_MC_mono (c_Bench_idleUnits (d := d + 30) kxo) (fun o65 σ65 q65 => ?_)⟩
                   try dsimp only [bl_pv] at q65
                   obtain ⟨rfl, rfl⟩ := q65
                   refine bl_go oX10_bench 80 [] rfl ?_
                   refine ⟨(fun h => by cases h), ?_⟩
                   try show _ ∧ _
                   try dsimp only [bl_pv]
                   rw [hT, show (12 : Int32) = nI 12 from rfl, nI_lek (by omega) (by omega)] at h29
                   refine ⟨I1, rfl, f1, f2, Or.inl ⟨hW, ?_⟩⟩
                   unfold bhV; rw [if_neg (by omega)]
                   first
                   | (have e0 : v = 1 := by omega
                      subst e0
                      rw [if_neg (by decide), if_pos (show nI 1 = 1 from rfl), hT])
                   | (have e0 : v = 2 := by omega
                      subst e0
                      rw [if_neg (by decide), if_neg (by decide), (f3.2 h29).1.2.1, (f3.2 h29).2]))
              · try simp (disch := omega) only [zI_n, zI_o, zI_lit, zI_neg, zI_add, zI_sub, zI_mul, zI_lt, zI_le, zI_eq, zI_clamp, zI_in, zI_div, zI_rem, lg_lt0, lg_gt0, lg_eq0, lg_le0, lg_ge0, Int.toNat_natCast, ge_iff_le, gt_iff_lt, List.length_cons, List.length_nil, bl_up2_at, bl_up2_nk, bl_up2_nx] at h48
                first
                | (exfalso; first | omega | exact h48 trivial)
                | (refine ⟨kx, _, bl_vs rx_5, kxo, (fun h => by cases h), ?_⟩
                   try show _ ∧ _
                   try dsimp only [bl_pv]
                   rw [hT, show (12 : Int32) = nI 12 from rfl, nI_lek (by omega) (by omega)] at h29
                   refine ⟨I1, rfl, f1, f2, Or.inl ⟨hW, ?_⟩⟩
                   unfold bhV; rw [if_neg (by omega)]
                   first
                   | (have e0 : v = 1 := by omega
                      subst e0
                      rw [if_neg (by decide), if_pos (show nI 1 = 1 from rfl), hT])
                   | (have e0 : v = 2 := by omega
                      subst e0
                      rw [if_neg (by decide), if_neg (by decide), (f3.2 h29).1.2.1, (f3.2 h29).2])))
         · try simp (disch := omega) only [zI_n, zI_o, zI_lit, zI_neg, zI_add, zI_sub, zI_mul, zI_lt, zI_le, zI_eq, zI_clamp, zI_in, zI_div, zI_rem, lg_lt0, lg_gt0, lg_eq0, lg_le0, lg_ge0, Int.toNat_natCast, ge_iff_le, gt_iff_lt, List.length_cons, List.length_nil, bl_up2_at, bl_up2_nk, bl_up2_nx] at h35
           first
           | (exfalso; first | omega | exact h35 trivial)
           | (refine ⟨kx, _, bl_vs rx_5, kxo, (fun h => by cases h), ?_⟩
              try show _ ∧ _
              try dsimp only [bl_pv]
              rw [hT, show (12 : Int32) = nI 12 from rfl, nI_lek (by omega) (by omega)] at h29
              have e0 : v = 0 := by omega
              subst e0
              refine ⟨I1, rfl, f1, f2, Or.inl ⟨hW, ?_⟩⟩
              unfold bhV; rw [if_neg (by omega), if_pos (show nI 0 = 0 from rfl), (f3.2 h29).1.1]))
    · try simp (disch := omega) only [bl_pv, cl0, cl1, cl2, cl3, cl4, cl5, cl6, cl7, cl8, cl9, bl_up2_at, bl_up2_nk, bl_up2_nx] at h29
      first
      | (exfalso; first | omega | exact h29 trivial)
      | (refine ⟨(fun h => by cases h), ?_⟩
         try show _ ∧ _
         try dsimp only [bl_pv]
         rw [hT, show (12 : Int32) = nI 12 from rfl, nI_lek (by omega) (by omega)] at h29
         refine ⟨I1, rfl, f1, f2, Or.inl ⟨hW, ?_⟩⟩
         unfold bhV; rw [if_pos (by omega)]; rfl)
  · have hW : bhE w = 1 := by unfold bhE; rw [if_neg (wb_f hw)]
    refine bl_MC_intro (by decide +kernel) rfl (Nat.le_of_ble_eq_true rfl) ?_
    refine bl_go oX10_bench 80 [] rfl ?_
    refine ⟨rfl, (Nat.le_of_ble_eq_true rfl), (1, 6), Nat.le_of_ble_eq_true rfl, Nat.le_of_ble_eq_true rfl, ?_⟩
    refine bl_MC_mono (c_BL_needWhatF (d := d + 30) hlt hw) (fun o s' q => ?_)
    obtain ⟨rfl, rfl⟩ := q
    exact Or.inl ⟨rfl, I, rfl, hI, cfF.refl, Or.inr ⟨0, bl_IAE, hW, rfl, rfl⟩⟩
theorem c_BL_turnOf (hI : clI (I, J, R, K, N) S h) (hO : csO S) : bl_MC G l (d + 31) mX10_turnOf [.ref 100, .int x] (I, J, R, K, N) (0, 0) (fun o s' => ∃ I', s' = (I', J, R, K, N) ∧ clI s' S h ∧ cfF (I, J, R, K, N) s' ∧ o = .inl (some (.int (toV S.1.2.2.1 S.1.2.2.2.1 x)))) := by
  obtain ⟨⟨kx, ⟨rx_0, rx_1, rx_2, rx_3, rx_4, rx_5, rx_6, rx_7⟩, ⟨kxr, nxr⟩, ⟨kxn, nxn⟩, kxb, ⟨kxi, nxi⟩, ⟨kxj, nxj⟩⟩, hTp, hUn, hBn, hK1, hK2, hSt, hStr⟩ := hI.1
  have hn := hI.2.2.2.2.2.2.1.1
  obtain ⟨-, kxo, ⟨-, -, -, -, -, -, -, -, -, -, rxo_10, rxo_11⟩, ⟨-, -, -, -, -, -, -, -, -, -, kxop, kxoq⟩, hbN⟩ := hBn
  have nxop := hbN.2.2.2.2.2.2.2.2.2.2.1
  have nxoq := hbN.2.2.2.2.2.2.2.2.2.2.2
  dsimp only at kx rx_5 rx_1 kxr hn kxo rxo_10 rxo_11 kxop kxoq nxop nxoq
  refine bl_MC_intro (by decide +kernel) rfl (Nat.le_of_ble_eq_true rfl) ?_
  have L42 : ∀ I1, clI (I1, J, R, K, N) S h → cfF (I, J, R, K, N) (I1, J, R, K, N) → toV S.1.2.2.1 S.1.2.2.2.1 x = zI (-1) → bl_WP G l (d + 31) mX10_turnOf 42 [(0, .ref 100), (1, .int x)] [] (I1, J, R, K, N) (0, 0) (fun o s' => ∃ I', s' = (I', J, R, K, N) ∧ clI s' S h ∧ cfF (I, J, R, K, N) s' ∧ o = .inl (some (.int (toV S.1.2.2.1 S.1.2.2.2.1 x)))) := by
    intro I1 f1 f2 e
    refine bl_go oX10_turnOf 80 [42, 44] rfl ?_
    refine ⟨(fun h => by cases h), ?_⟩
    try show _ ∧ _
    try dsimp only [bl_pv]
    exact ⟨I1, rfl, f1, f2, by rw [e]; rfl⟩
  have L44 : ∀ I1, clI (I1, J, R, K, N) S h → cfF (I, J, R, K, N) (I1, J, R, K, N) → bnR I1 150 S.1.2.2.1 S.1.2.2.2.1 → bTot S.1.2.2.1 S.1.2.2.2.1 ≤ 12 → rb (bTot S.1.2.2.1 S.1.2.2.2.1) x = true → bl_WP G l (d + 31) mX10_turnOf 44 [(0, .ref 100), (1, .int x)] [] (I1, J, R, K, N) (0, 0) (fun o s' => ∃ I', s' = (I', J, R, K, N) ∧ clI s' S h ∧ cfF (I, J, R, K, N) s' ∧ o = .inl (some (.int (toV S.1.2.2.1 S.1.2.2.2.1 x)))) := by
    intro I1 f1 f2 f3 e hb
    obtain ⟨k, hk, rfl, ek⟩ := rb_n (by omega) hb
    have eck : (nI k).toNatClampNeg = k := nI_clamp (by omega)
    obtain ⟨g1, g2⟩ := (f3.2 e).1.2.2 k hk
    refine bl_go oX10_turnOf 80 [42, 44] rfl ?_
    refine ⟨kx, _, bl_vs rx_5, kxo, _, bl_vs rxo_10, Or.inl ⟨kxop, (by (try dsimp only [bl_pv]); rw [nxop]; exact vp_in_nI (by omega) (by omega)), kx, _, bl_vs rx_5, kxo, _, bl_vs rxo_11, Or.inl ⟨kxoq, (by (try dsimp only [bl_pv]); rw [nxoq]; exact vp_in_nI (by omega) (by omega)), (fun h => by cases h), ?_⟩⟩⟩
    try show _ ∧ _
    try dsimp only [bl_pv]
    refine ⟨I1, rfl, f1, f2, ?_⟩
    unfold toV; rw [if_neg (by omega), if_pos hb, ek, eck, g1, g2]
  refine bl_go oX10_turnOf 80 [42, 44] rfl ?_
  refine ⟨kx, _, bl_vs rx_5, kx, _, bl_vs rx_1, kx, rfl, rfl, kxo, (Nat.le_of_ble_eq_true rfl), (0, 0), Nat.le_of_ble_eq_true rfl, Nat.le_of_ble_eq_true rfl, bl_MC_mono (c_BL_find (d := d) hI hO hn) (fun o12 σ12 q12 => ?_)⟩
  try dsimp only [bl_pv] at q12
  obtain ⟨rfl, I1, rfl, f1, f2, f3, f4⟩ := q12
  have hT := f3.1
  have hTb := bTot_80 hO
  refine bl_go oX10_turnOf 80 [42, 44] rfl ?_
  refine ⟨kx, _, bl_vs rx_5, kxo, fun h24 => ?_, fun h24 => ?_⟩
  · try simp (disch := omega) only [bl_pv, cl0, cl1, cl2, cl3, cl4, cl5, cl6, cl7, cl8, cl9, bl_up2_at, bl_up2_nk, bl_up2_nx] at h24
    rw [hT, show (12 : Int32) = nI 12 from rfl, nI_ltk (by omega) (by omega)] at h24
    try dsimp only [bl_pv]
    refine L42 I1 f1 f2 ?_
    unfold toV
    first
    | rw [if_pos (by omega)]
    | (rw [if_neg (by omega), if_neg (by rw [rb_lt (by omega)]; exact fun q => absurd h28 (Int32.not_lt.mpr q.1))])
    | (rw [if_neg (by omega), if_neg (by rw [rb_lt (by omega)]; exact fun q => absurd (hT ▸ q.2) h39)])
  · try simp (disch := omega) only [bl_pv, cl0, cl1, cl2, cl3, cl4, cl5, cl6, cl7, cl8, cl9, bl_up2_at, bl_up2_nk, bl_up2_nx] at h24
    rw [hT, show (12 : Int32) = nI 12 from rfl, nI_ltk (by omega) (by omega)] at h24
    refine ⟨fun h28 => ?_, fun h28 => ?_⟩
    · try simp (disch := omega) only [bl_pv, cl0, cl1, cl2, cl3, cl4, cl5, cl6, cl7, cl8, cl9, bl_up2_at, bl_up2_nk, bl_up2_nx] at h28
      try dsimp only [bl_pv]
      refine L42 I1 f1 f2 ?_
      unfold toV
      first
      | rw [if_pos (by omega)]
      | (rw [if_neg (by omega), if_neg (by rw [rb_lt (by omega)]; exact fun q => absurd h28 (Int32.not_lt.mpr q.1))])
      | (rw [if_neg (by omega), if_neg (by rw [rb_lt (by omega)]; exact fun q => absurd (hT ▸ q.2) h39)])
    · try simp (disch := omega) only [bl_pv, cl0, cl1, cl2, cl3, cl4, cl5, cl6, cl7, cl8, cl9, bl_up2_at, bl_up2_nk, bl_up2_nx] at h28
      refine ⟨kx, _, bl_vs rx_5, kxo, fun h39 => ?_, fun h39 => ?_⟩
      · try simp (disch := omega) only [bl_pv, cl0, cl1, cl2, cl3, cl4, cl5, cl6, cl7, cl8, cl9, bl_up2_at, bl_up2_nk, bl_up2_nx] at h39
        try dsimp only [bl_pv]
        exact L44 I1 f1 f2 f3 (by omega) ((rb_lt (by omega)).mpr ⟨Int32.not_lt.mp h28, hT ▸ h39⟩)
      · try simp (disch := omega) only [bl_pv, cl0, cl1, cl2, cl3, cl4, cl5, cl6, cl7, cl8, cl9, bl_up2_at, bl_up2_nk, bl_up2_nx] at h39
        try dsimp only [bl_pv]
        refine L42 I1 f1 f2 ?_
        unfold toV
        first
        | rw [if_pos (by omega)]
        | (rw [if_neg (by omega), if_neg (by rw [rb_lt (by omega)]; exact fun q => absurd h28 (Int32.not_lt.mpr q.1))])
        | (rw [if_neg (by omega), if_neg (by rw [rb_lt (by omega)]; exact fun q => absurd (hT ▸ q.2) h39)])

theorem c_BL_latest (hlt : l.stackTraces = false) (hI : clI (I, J, R, K, N) S h) (hO : csO S) : bl_MC G l (d + 5) mX10_latest [.ref 100, .int x] (I, J, R, K, N) (2, 12) (fun o s' => ∃ I' J' R' v, s' = (I', J', R', K, N) ∧ clI s' S h ∧ cfF (I, J, R, K, N) s' ∧ xO xLn (ltE S.1 x) (.int v) o ∧ (ltE S.1 x = 0 → ltP S.1 (rn x) v)) := by
  obtain ⟨⟨kx, ⟨rx_0, rx_1, rx_2, rx_3, rx_4, rx_5, rx_6, rx_7⟩, ⟨kxr, nxr⟩, ⟨kxn, nxn⟩, kxb, ⟨kxi, nxi⟩, ⟨kxj, nxj⟩⟩, hTp, hUn, hBn, hK1, hK2, hSt, hStr⟩ := hI.1
  have hc := hO.2.2.1
  dsimp only at kx
  by_cases hz : rb S.1.2.2.1 x = true
  · have hW : ltE S.1 x = 0 := by unfold ltE; rw [if_pos hz]
    obtain ⟨r, hr, rfl, er⟩ := rb_n (by omega) hz
    obtain ⟨⟨m1, m2, m3, m4⟩, hrc0, hro0⟩ := hI.2.2.2.2.2.2.2.1 r hr
    have hD := aD_20 hO r
    have krq := m2.2.1
    have krp := m1.1
    obtain ⟨hhs, hh⟩ := hI.house
    have kxh := hhs.2.1
    have rx_8 := hI.2.1.2.1
    dsimp only at krq krp rx_3 kxb rx_8
    refine bl_MC_intro (by decide +kernel) rfl (Nat.le_of_ble_eq_true rfl) ?_
    have L55 : ∀ I1 J1 R1, clI (I1, J1, R1, K, N) S h → cfF (I, J, R, K, N) (I1, J1, R1, K, N) → ltP S.1 r (I1 (400 + 10 * r) 6) → bl_WP G l (d + 5) mX10_latest 55 [(3, .ref (400 + 10 * r)), (2, .ref (300 + 10 * r)), (0, .ref 100), (1, .int (nI r))] [] (I1, J1, R1, K, N) (0, 0) (fun o s' => ∃ I' J' R' v, s' = (I', J', R', K, N) ∧ clI s' S h ∧ cfF (I, J, R, K, N) s' ∧ xO xLn (ltE S.1 (nI r)) (.int v) o ∧ (ltE S.1 (nI r) = 0 → ltP S.1 (rn (nI r)) v)) := by
      intro I1 J1 R1 f1 f2 f3
      refine bl_go oX10_latest 80 [55] rfl ?_
      refine ⟨krq, (fun h => by cases h), ?_⟩
      try show _ ∧ _
      try dsimp only [bl_pv]
      exact ⟨I1, J1, R1, _, rfl, f1, f2, Or.inl ⟨hW, rfl⟩, fun _ => by rw [er]; exact f3⟩
    have LP : ∀ I1 J1 R1 v, clI (I1, J1, R1, K, N) S h → cfF (I, J, R, K, N) (I1, J1, R1, K, N) → ltP S.1 r v → bl_WP G l (d + 5) mX10_latest 55 [(3, .ref (400 + 10 * r)), (2, .ref (300 + 10 * r)), (0, .ref 100), (1, .int (nI r))] [] (bl_up2 (bl_up2 I1 (400 + 10 * r) 6 v) (400 + 10 * r) 9 1, J1, R1, K, N) (0, 0) (fun o s' => ∃ I' J' R' v, s' = (I', J', R', K, N) ∧ clI s' S h ∧ cfF (I, J, R, K, N) s' ∧ xO xLn (ltE S.1 (nI r)) (.int v) o ∧ (ltE S.1 (nI r) = 0 → ltP S.1 (rn (nI r)) v)) := by
      intro I1 J1 R1 v f1 f2 f3
      have hs : ∀ y, y ≠ 400 + 10 * r → bl_up2 (bl_up2 I1 (400 + 10 * r) 6 v) (400 + 10 * r) 9 1 y = I1 y := fun y hy => by rw [bl_up2_ne hy, bl_up2_ne hy]
      refine L55 _ J1 R1 (f1.run hO (by omega) (fun y hy => ⟨hs y (fun e => hy (Or.inl e)), rfl⟩) (fun _ => (f1.2.2.2.2.2.2.2.1 r hr).2.2.late (by omega) f3)) (f2.trans (fun y y1 y2 => ⟨hs y (by omega), rfl, rfl, rfl, rfl⟩)) ?_
      rw [bl_up2_nk (by omega), bl_up2_at]; exact f3
    refine bl_go oX10_latest 80 [55] rfl ?_
    refine ⟨rfl, rfl, kx, (Nat.le_of_ble_eq_true rfl), (1, 6), Nat.le_of_ble_eq_true rfl, Nat.le_of_ble_eq_true rfl, bl_MC_mono (c_BL_recipeOfT (d := d + 4) (r := r) hI hr hc rfl) (fun o2 σ2 q2 => ?_)⟩
    try dsimp only [bl_pv] at q2
    obtain ⟨rfl, rfl⟩ := q2
    refine bl_go oX10_latest 80 [55] rfl ?_
    refine ⟨rfl, rfl, kx, (Nat.le_of_ble_eq_true rfl), (1, 6), Nat.le_of_ble_eq_true rfl, Nat.le_of_ble_eq_true rfl, bl_MC_mono (c_BL_runOfT (d := d) (r := r) hI hO hr rfl) (fun o8 σ8 q8 => ?_)⟩
    try dsimp only [bl_pv] at q8
    obtain ⟨rfl, I1, J1, rfl, f1, f2, f3⟩ := q8
    obtain ⟨-, hrc1, hro1⟩ := f1.2.2.2.2.2.2.2.1 r hr
    dsimp only at hro1 hrc1
    obtain ⟨-, g1, g2⟩ := hro1.1.resolve_left (fun e => by rw [f3] at e; exact absurd e (by decide))
    have hkc := f1.2.2.2.2.2.1
    dsimp only at hkc
    refine bl_go oX10_latest 80 [55] rfl ?_
    refine ⟨krq, fun h16 => ?_, fun h16 => ?_⟩
    · try simp (disch := omega) only [bl_pv, cl0, cl1, cl2, cl3, cl4, cl5, cl6, cl7, cl8, cl9, bl_up2_at, bl_up2_nk, bl_up2_nx] at h16
      try dsimp only [bl_pv]
      first
      | (have kk := b1
         refine LP I2 J1 _ v (f1.butter b2) (f2.trans (fun y y1 y2 => ⟨b2 y (by omega), rfl, up130 (by omega), rfl, rfl⟩)) (Or.inr ⟨by omega, b1⟩))
      | (have kk := h28
         refine LP I1 J1 R _ f1 f2 ?_
         exact Or.inl ⟨by omega, rfl⟩)
      | (refine L55 I1 J1 R f1 f2 ?_
         rcases hro1.2.2 with e | ⟨e, e2⟩
         · exact absurd e h16
         · exact e2)
    · try simp (disch := omega) only [bl_pv, cl0, cl1, cl2, cl3, cl4, cl5, cl6, cl7, cl8, cl9, bl_up2_at, bl_up2_nk, bl_up2_nx] at h16
      refine ⟨krq, krp, fun h28 => ?_, fun h28 => ?_⟩
      · try simp (disch := omega) only [bl_pv, cl0, cl1, cl2, cl3, cl4, cl5, cl6, cl7, cl8, cl9, bl_up2_at, bl_up2_nk, bl_up2_nx] at h28
        rw [g1, hrc1.1, nI_lek (by omega) (by omega)] at h28
        refine ⟨kx, _, bl_vs rx_3, kx, _, bl_vs rx_8, rfl, rfl, kxb, (Nat.le_of_ble_eq_true rfl), (0, 0), Nat.le_of_ble_eq_true rfl, Nat.le_of_ble_eq_true rfl, bl_MC_mono (c_Butter_latestStart (d := d + 1) (rc := S.1.2.2.2.1 r) kxb hhs hkc m1 hrc1 (by omega) (by omega)) (fun o44 σ44 q44 => ?_)⟩
        try dsimp only [bl_pv] at q44
        obtain ⟨⟨v, rfl, b1⟩, I2, rfl, b2⟩ := q44
        refine bl_go oX10_latest 80 [55] rfl ?_
        refine ⟨krq, Or.inr (Or.inr ⟨rfl, rfl, _, rfl⟩), (fun h => by cases h), krq, Or.inr (Or.inr ⟨rfl, rfl, _, rfl⟩), (fun _ => by first | exact Or.inl rfl | exact Or.inr rfl), ?_⟩
        try dsimp only [bl_pv]
        first
        | (have kk := b1
           refine LP I2 J1 _ v (f1.butter b2) (f2.trans (fun y y1 y2 => ⟨b2 y (by omega), rfl, up130 (by omega), rfl, rfl⟩)) (Or.inr ⟨by omega, b1⟩))
        | (have kk := h28
           refine LP I1 J1 R _ f1 f2 ?_
           exact Or.inl ⟨by omega, rfl⟩)
        | (refine L55 I1 J1 R f1 f2 ?_
           rcases hro1.2.2 with e | ⟨e, e2⟩
           · exact absurd e h16
           · exact e2)
      · try simp (disch := omega) only [bl_pv, cl0, cl1, cl2, cl3, cl4, cl5, cl6, cl7, cl8, cl9, bl_up2_at, bl_up2_nk, bl_up2_nx] at h28
        rw [g1, hrc1.1, nI_lek (by omega) (by omega)] at h28
        refine ⟨krq, Or.inr (Or.inr ⟨rfl, rfl, _, rfl⟩), (fun h => by cases h), krq, Or.inr (Or.inr ⟨rfl, rfl, _, rfl⟩), (fun _ => by first | exact Or.inl rfl | exact Or.inr rfl), ?_⟩
        try dsimp only [bl_pv]
        first
        | (have kk := b1
           refine LP I2 J1 _ v (f1.butter b2) (f2.trans (fun y y1 y2 => ⟨b2 y (by omega), rfl, up130 (by omega), rfl, rfl⟩)) (Or.inr ⟨by omega, b1⟩))
        | (have kk := h28
           refine LP I1 J1 R _ f1 f2 ?_
           exact Or.inl ⟨by omega, rfl⟩)
        | (refine L55 I1 J1 R f1 f2 ?_
           rcases hro1.2.2 with e | ⟨e, e2⟩
           · exact absurd e h16
           · exact e2)
  · have hW : ltE S.1 x = 1 := by unfold ltE; rw [if_neg hz]
    refine bl_MC_intro (by decide +kernel) rfl (Nat.le_of_ble_eq_true rfl) ?_
    refine bl_go oX10_latest 80 [] rfl ?_
    refine ⟨rfl, rfl, kx, (Nat.le_of_ble_eq_true rfl), (1, 6), Nat.le_of_ble_eq_true rfl, Nat.le_of_ble_eq_true rfl, ?_⟩
    refine bl_MC_mono (c_BL_recipeOfF (d := d + 4) hlt hI hc hz) (fun o s' q => ?_)
    obtain ⟨rfl, rfl⟩ := q
    exact Or.inl ⟨rfl, I, J, R, 0, rfl, hI, cfF.refl, Or.inr ⟨0, bl_NSE, hW, rfl, rfl⟩, fun e => by rw [hW] at e; exact absurd e (by decide)⟩
end CLSA
