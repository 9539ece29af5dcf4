/-! ===== Model: kindHere, stepHere ===== -/
section MODEL4
variable {G : bl_G} {l : Launch} {d m : Nat} {I : Nat → Nat → Int32} {J : Nat → Nat → Int64} {R : Nat → Nat → Option Nat} {K N : Nat → Nat} {ft fa : Int32} {n i : Nat}
theorem c_Model_kindHere (hm : mdS R K N m) (hn : n ≤ 400) (hi : i ≤ n) : bl_MC G l (d + 4) mX11_kindHere [.ref m] (mpI I m (nI n) (nI i) 0 fa, J, R, K, N) (0, 0) (fun o σ' => o = .inl (some (.int (ckd (I (m + 8)) (skB (I (m + 8)) n i) (skW (I (m + 8)) n (skB (I (m + 8)) n i))))) ∧ σ' = (mpI I m (nI n) (nI (skB (I (m + 8)) n i)) 0 fa, J, R, K, N)) := by
  have km := hm.2.1
  have hp : skB (I (m + 8)) n i ≤ n := skB_le hi
  have hid := skB_id (B := I (m + 8)) hn hi
  have w0 := c_Model_isWord (d := d) (G := G) (l := l) (J := J) (I := I) (fa := fa) (i := i) (j := 0) (a := 19) (b := 12) (c := 1) (e := 2) (f := 0) (g := 0) hm hn hi (by decide) (by decide) (by decide +kernel) rfl rfl rfl rfl rfl rfl (by decide)
  have w1 := c_Model_isWord (d := d) (G := G) (l := l) (J := J) (I := I) (fa := fa) (i := (skB (I (m + 8)) n i)) (j := 1) (a := 23) (b := 5) (c := 9) (e := 7) (f := 8) (g := 20) hm hn hp (by decide) (by decide) (by decide +kernel) rfl rfl rfl rfl rfl rfl (by decide)
  rw [hid] at w1
  have w2 := c_Model_isWord (d := d) (G := G) (l := l) (J := J) (I := I) (fa := fa) (i := (skB (I (m + 8)) n i)) (j := 2) (a := 2) (b := 15) (c := 24) (e := 0) (f := 0) (g := 0) hm hn hp (by decide) (by decide) (by decide +kernel) rfl rfl rfl rfl rfl rfl (by decide)
  rw [hid] at w2
  have w3 := c_Model_isWord (d := d) (G := G) (l := l) (J := J) (I := I) (fa := fa) (i := (skB (I (m + 8)) n i)) (j := 3) (a := 12) (b := 15) (c := 23) (e := 0) (f := 0) (g := 0) hm hn hp (by decide) (by decide) (by decide +kernel) rfl rfl rfl rfl rfl rfl (by decide)
  rw [hid] at w3
  have w4 := c_Model_isWord (d := d) (G := G) (l := l) (J := J) (I := I) (fa := fa) (i := (skB (I (m + 8)) n i)) (j := 4) (a := 8) (b := 9) (c := 7) (e := 8) (f := 0) (g := 0) hm hn hp (by decide) (by decide) (by decide +kernel) rfl rfl rfl rfl rfl rfl (by decide)
  rw [hid] at w4
  have w5 := c_Model_isWord (d := d) (G := G) (l := l) (J := J) (I := I) (fa := fa) (i := (skB (I (m + 8)) n i)) (j := 5) (a := 18) (b := 21) (c := 2) (e := 0) (f := 0) (g := 0) hm hn hp (by decide) (by decide) (by decide +kernel) rfl rfl rfl rfl rfl rfl (by decide)
  rw [hid] at w5
  have w6 := c_Model_isWord (d := d) (G := G) (l := l) (J := J) (I := I) (fa := fa) (i := (skB (I (m + 8)) n i)) (j := 6) (a := 19) (b := 20) (c := 1) (e := 18) (f := 20) (g := 0) hm hn hp (by decide) (by decide) (by decide +kernel) rfl rfl rfl rfl rfl rfl (by decide)
  rw [hid] at w6
  have w7 := c_Model_isWord (d := d) (G := G) (l := l) (J := J) (I := I) (fa := fa) (i := (skB (I (m + 8)) n i)) (j := 7) (a := 18) (b := 15) (c := 15) (e := 13) (f := 0) (g := 0) hm hn hp (by decide) (by decide) (by decide +kernel) rfl rfl rfl rfl rfl rfl (by decide)
  rw [hid] at w7
  generalize skB (I (m + 8)) n i = p at *
  generalize skW (I (m + 8)) n p = e at *
  refine bl_MC_intro (by decide +kernel) rfl (Nat.le_of_ble_eq_true rfl) ?_
  have L130 : ¬ wis (I (m + 8)) p e (byw 0) → ¬ wis (I (m + 8)) p e (byw 1) → ¬ wis (I (m + 8)) p e (byw 2) → ¬ wis (I (m + 8)) p e (byw 3) → ¬ wis (I (m + 8)) p e (byw 4) → ¬ wis (I (m + 8)) p e (byw 5) → ¬ wis (I (m + 8)) p e (byw 6) → bl_WP G l (d + 4) mX11_kindHere 130 [(0, .ref m)] [] (mpI I m (nI n) (nI p) 0 fa, J, R, K, N) (0, 0) (fun o σ' => o = .inl (some (.int (ckd (I (m + 8)) p e))) ∧ σ' = (mpI I m (nI n) (nI p) 0 fa, J, R, K, N)) := by
    intro y0 y1 y2 y3 y4 y5 y6
    refine bl_go oX11_kindHere 80 [17, 37, 54, 72, 92, 110, 130] rfl ?_
    refine ⟨rfl, rfl, km, (Nat.le_of_ble_eq_true rfl), (0, 0), Nat.le_of_ble_eq_true rfl, Nat.le_of_ble_eq_true rfl, bl_MC_mono (w7) (fun o141 σ141 q141 => ?_)⟩
    obtain ⟨hz, rfl⟩ := q141
    rcases hz with ⟨y7, rfl⟩ | ⟨y7, rfl⟩
    · refine bl_go oX11_kindHere 80 [17, 37, 54, 72, 92, 110, 130] rfl ?_
      refine ⟨fun h144 => ?_, fun h144 => ?_⟩
      · try simp (disch := omega) only [zI_n, zI_o, zI_lit, zI_neg, zI_add, zI_sub, zI_mul, zI_lt, zI_le, zI_eq, zI_clamp, zI_in, zI_div, zI_rem, lg_lt0, lg_gt0, lg_eq0, lg_le0, lg_ge0, Int.toNat_natCast, ge_iff_le, gt_iff_lt, List.length_cons, List.length_nil, bl_up2_at, bl_up2_nk, bl_up2_nx] at h144
        first
        | (exfalso; first | omega | exact h144 trivial)
        | (refine ⟨(fun h => by cases h), ?_⟩
           try show _ ∧ _
           try dsimp only [bl_pv]
           rw [ckd_eq]
           first
           | (rw [if_neg (wisb_f y0), if_neg (wisb_f y1), if_neg (wisb_f y2), if_neg (wisb_f y3), if_neg (wisb_f y4), if_neg (wisb_f y5), if_neg (wisb_f y6), if_pos (wisb_t y7)]; exact ⟨rfl, rfl⟩)
           | (rw [if_neg (wisb_f y0), if_neg (wisb_f y1), if_neg (wisb_f y2), if_neg (wisb_f y3), if_neg (wisb_f y4), if_neg (wisb_f y5), if_neg (wisb_f y6), if_neg (wisb_f y7)]; exact ⟨rfl, rfl⟩))
      · try simp (disch := omega) only [zI_n, zI_o, zI_lit, zI_neg, zI_add, zI_sub, zI_mul, zI_lt, zI_le, zI_eq, zI_clamp, zI_in, zI_div, zI_rem, lg_lt0, lg_gt0, lg_eq0, lg_le0, lg_ge0, Int.toNat_natCast, ge_iff_le, gt_iff_lt, List.length_cons, List.length_nil, bl_up2_at, bl_up2_nk, bl_up2_nx] at h144
        first
        | (exfalso; first | omega | exact h144 trivial)
        | (refine ⟨(fun h => by cases h), ?_⟩
           try show _ ∧ _
           try dsimp only [bl_pv]
           rw [ckd_eq]
           first
           | (rw [if_neg (wisb_f y0), if_neg (wisb_f y1), if_neg (wisb_f y2), if_neg (wisb_f y3), if_neg (wisb_f y4), if_neg (wisb_f y5), if_neg (wisb_f y6), if_pos (wisb_t y7)]; exact ⟨rfl, rfl⟩)
           | (rw [if_neg (wisb_f y0), if_neg (wisb_f y1), if_neg (wisb_f y2), if_neg (wisb_f y3), if_neg (wisb_f y4), if_neg (wisb_f y5), if_neg (wisb_f y6), if_neg (wisb_f y7)]; exact ⟨rfl, rfl⟩))
    · refine bl_go oX11_kindHere 80 [17, 37, 54, 72, 92, 110, 130] rfl ?_
      refine ⟨fun h144 => ?_, fun h144 => ?_⟩
      · try simp (disch := omega) only [zI_n, zI_o, zI_lit, zI_neg, zI_add, zI_sub, zI_mul, zI_lt, zI_le, zI_eq, zI_clamp, zI_in, zI_div, zI_rem, lg_lt0, lg_gt0, lg_eq0, lg_le0, lg_ge0, Int.toNat_natCast, ge_iff_le, gt_iff_lt, List.length_cons, List.length_nil, bl_up2_at, bl_up2_nk, bl_up2_nx] at h144
        first
        | (exfalso; first | omega | exact h144 trivial)
        | (refine ⟨(fun h => by cases h), ?_⟩
           try show _ ∧ _
           try dsimp only [bl_pv]
           rw [ckd_eq]
           first
           | (rw [if_neg (wisb_f y0), if_neg (wisb_f y1), if_neg (wisb_f y2), if_neg (wisb_f y3), if_neg (wisb_f y4), if_neg (wisb_f y5), if_neg (wisb_f y6), if_pos (wisb_t y7)]; exact ⟨rfl, rfl⟩)
           | (rw [if_neg (wisb_f y0), if_neg (wisb_f y1), if_neg (wisb_f y2), if_neg (wisb_f y3), if_neg (wisb_f y4), if_neg (wisb_f y5), if_neg (wisb_f y6), if_neg (wisb_f y7)]; exact ⟨rfl, rfl⟩))
      · try simp (disch := omega) only [zI_n, zI_o, zI_lit, zI_neg, zI_add, zI_sub, zI_mul, zI_lt, zI_le, zI_eq, zI_clamp, zI_in, zI_div, zI_rem, lg_lt0, lg_gt0, lg_eq0, lg_le0, lg_ge0, Int.toNat_natCast, ge_iff_le, gt_iff_lt, List.length_cons, List.length_nil, bl_up2_at, bl_up2_nk, bl_up2_nx] at h144
        first
        | (exfalso; first | omega | exact h144 trivial)
        | (refine ⟨(fun h => by cases h), ?_⟩
           try show _ ∧ _
           try dsimp only [bl_pv]
           rw [ckd_eq]
           first
           | (rw [if_neg (wisb_f y0), if_neg (wisb_f y1), if_neg (wisb_f y2), if_neg (wisb_f y3), if_neg (wisb_f y4), if_neg (wisb_f y5), if_neg (wisb_f y6), if_pos (wisb_t y7)]; exact ⟨rfl, rfl⟩)
           | (rw [if_neg (wisb_f y0), if_neg (wisb_f y1), if_neg (wisb_f y2), if_neg (wisb_f y3), if_neg (wisb_f y4), if_neg (wisb_f y5), if_neg (wisb_f y6), if_neg (wisb_f y7)]; exact ⟨rfl, rfl⟩))
  have L110 : ¬ wis (I (m + 8)) p e (byw 0) → ¬ wis (I (m + 8)) p e (byw 1) → ¬ wis (I (m + 8)) p e (byw 2) → ¬ wis (I (m + 8)) p e (byw 3) → ¬ wis (I (m + 8)) p e (byw 4) → ¬ wis (I (m + 8)) p e (byw 5) → bl_WP G l (d + 4) mX11_kindHere 110 [(0, .ref m)] [] (mpI I m (nI n) (nI p) 0 fa, J, R, K, N) (0, 0) (fun o σ' => o = .inl (some (.int (ckd (I (m + 8)) p e))) ∧ σ' = (mpI I m (nI n) (nI p) 0 fa, J, R, K, N)) := by
    intro y0 y1 y2 y3 y4 y5
    refine bl_go oX11_kindHere 80 [17, 37, 54, 72, 92, 110, 130] rfl ?_
    refine ⟨rfl, rfl, km, (Nat.le_of_ble_eq_true rfl), (0, 0), Nat.le_of_ble_eq_true rfl, Nat.le_of_ble_eq_true rfl, bl_MC_mono (w6) (fun o121 σ121 q121 => ?_)⟩
    obtain ⟨hz, rfl⟩ := q121
    rcases hz with ⟨y6, rfl⟩ | ⟨y6, rfl⟩
    · refine bl_go oX11_kindHere 80 [17, 37, 54, 72, 92, 110, 130] rfl ?_
      refine ⟨fun h124 => ?_, fun h124 => ?_⟩
      · try simp (disch := omega) only [zI_n, zI_o, zI_lit, zI_neg, zI_add, zI_sub, zI_mul, zI_lt, zI_le, zI_eq, zI_clamp, zI_in, zI_div, zI_rem, lg_lt0, lg_gt0, lg_eq0, lg_le0, lg_ge0, Int.toNat_natCast, ge_iff_le, gt_iff_lt, List.length_cons, List.length_nil, bl_up2_at, bl_up2_nk, bl_up2_nx] at h124
        first
        | (exfalso; first | omega | exact h124 trivial)
        | (try dsimp only [bl_pv]
           exact L130 y0 y1 y2 y3 y4 y5 y6)
      · try simp (disch := omega) only [zI_n, zI_o, zI_lit, zI_neg, zI_add, zI_sub, zI_mul, zI_lt, zI_le, zI_eq, zI_clamp, zI_in, zI_div, zI_rem, lg_lt0, lg_gt0, lg_eq0, lg_le0, lg_ge0, Int.toNat_natCast, ge_iff_le, gt_iff_lt, List.length_cons, List.length_nil, bl_up2_at, bl_up2_nk, bl_up2_nx] at h124
        first
        | (exfalso; first | omega | exact h124 trivial)
        | (refine ⟨(fun h => by cases h), ?_⟩
           try show _ ∧ _
           try dsimp only [bl_pv]
           rw [ckd_eq, if_neg (wisb_f y0), if_neg (wisb_f y1), if_neg (wisb_f y2), if_neg (wisb_f y3), if_neg (wisb_f y4), if_neg (wisb_f y5), if_pos (wisb_t y6)]; exact ⟨rfl, rfl⟩)
    · refine bl_go oX11_kindHere 80 [17, 37, 54, 72, 92, 110, 130] rfl ?_
      refine ⟨fun h124 => ?_, fun h124 => ?_⟩
      · try simp (disch := omega) only [zI_n, zI_o, zI_lit, zI_neg, zI_add, zI_sub, zI_mul, zI_lt, zI_le, zI_eq, zI_clamp, zI_in, zI_div, zI_rem, lg_lt0, lg_gt0, lg_eq0, lg_le0, lg_ge0, Int.toNat_natCast, ge_iff_le, gt_iff_lt, List.length_cons, List.length_nil, bl_up2_at, bl_up2_nk, bl_up2_nx] at h124
        first
        | (exfalso; first | omega | exact h124 trivial)
        | (try dsimp only [bl_pv]
           exact L130 y0 y1 y2 y3 y4 y5 y6)
      · try simp (disch := omega) only [zI_n, zI_o, zI_lit, zI_neg, zI_add, zI_sub, zI_mul, zI_lt, zI_le, zI_eq, zI_clamp, zI_in, zI_div, zI_rem, lg_lt0, lg_gt0, lg_eq0, lg_le0, lg_ge0, Int.toNat_natCast, ge_iff_le, gt_iff_lt, List.length_cons, List.length_nil, bl_up2_at, bl_up2_nk, bl_up2_nx] at h124
        first
        | (exfalso; first | omega | exact h124 trivial)
        | (refine ⟨(fun h => by cases h), ?_⟩
           try show _ ∧ _
           try dsimp only [bl_pv]
           rw [ckd_eq, if_neg (wisb_f y0), if_neg (wisb_f y1), if_neg (wisb_f y2), if_neg (wisb_f y3), if_neg (wisb_f y4), if_neg (wisb_f y5), if_pos (wisb_t y6)]; exact ⟨rfl, rfl⟩)
  have L92 : ¬ wis (I (m + 8)) p e (byw 0) → ¬ wis (I (m + 8)) p e (byw 1) → ¬ wis (I (m + 8)) p e (byw 2) → ¬ wis (I (m + 8)) p e (byw 3) → ¬ wis (I (m + 8)) p e (byw 4) → bl_WP G l (d + 4) mX11_kindHere 92 [(0, .ref m)] [] (mpI I m (nI n) (nI p) 0 fa, J, R, K, N) (0, 0) (fun o σ' => o = .inl (some (.int (ckd (I (m + 8)) p e))) ∧ σ' = (mpI I m (nI n) (nI p) 0 fa, J, R, K, N)) := by
    intro y0 y1 y2 y3 y4
    refine bl_go oX11_kindHere 80 [17, 37, 54, 72, 92, 110, 130] rfl ?_
    refine ⟨rfl, rfl, km, (Nat.le_of_ble_eq_true rfl), (0, 0), Nat.le_of_ble_eq_true rfl, Nat.le_of_ble_eq_true rfl, bl_MC_mono (w5) (fun o101 σ101 q101 => ?_)⟩
    obtain ⟨hz, rfl⟩ := q101
    rcases hz with ⟨y5, rfl⟩ | ⟨y5, rfl⟩
    · refine bl_go oX11_kindHere 80 [17, 37, 54, 72, 92, 110, 130] rfl ?_
      refine ⟨fun h104 => ?_, fun h104 => ?_⟩
      · try simp (disch := omega) only [zI_n, zI_o, zI_lit, zI_neg, zI_add, zI_sub, zI_mul, zI_lt, zI_le, zI_eq, zI_clamp, zI_in, zI_div, zI_rem, lg_lt0, lg_gt0, lg_eq0, lg_le0, lg_ge0, Int.toNat_natCast, ge_iff_le, gt_iff_lt, List.length_cons, List.length_nil, bl_up2_at, bl_up2_nk, bl_up2_nx] at h104
        first
        | (exfalso; first | omega | exact h104 trivial)
        | (try dsimp only [bl_pv]
           exact L110 y0 y1 y2 y3 y4 y5)
      · try simp (disch := omega) only [zI_n, zI_o, zI_lit, zI_neg, zI_add, zI_sub, zI_mul, zI_lt, zI_le, zI_eq, zI_clamp, zI_in, zI_div, zI_rem, lg_lt0, lg_gt0, lg_eq0, lg_le0, lg_ge0, Int.toNat_natCast, ge_iff_le, gt_iff_lt, List.length_cons, List.length_nil, bl_up2_at, bl_up2_nk, bl_up2_nx] at h104
        first
        | (exfalso; first | omega | exact h104 trivial)
        | (refine ⟨(fun h => by cases h), ?_⟩
           try show _ ∧ _
           try dsimp only [bl_pv]
           rw [ckd_eq, if_neg (wisb_f y0), if_neg (wisb_f y1), if_neg (wisb_f y2), if_neg (wisb_f y3), if_neg (wisb_f y4), if_pos (wisb_t y5)]; exact ⟨rfl, rfl⟩)
    · refine bl_go oX11_kindHere 80 [17, 37, 54, 72, 92, 110, 130] rfl ?_
      refine ⟨fun h104 => ?_, fun h104 => ?_⟩
      · try simp (disch := omega) only [zI_n, zI_o, zI_lit, zI_neg, zI_add, zI_sub, zI_mul, zI_lt, zI_le, zI_eq, zI_clamp, zI_in, zI_div, zI_rem, lg_lt0, lg_gt0, lg_eq0, lg_le0, lg_ge0, Int.toNat_natCast, ge_iff_le, gt_iff_lt, List.length_cons, List.length_nil, bl_up2_at, bl_up2_nk, bl_up2_nx] at h104
        first
        | (exfalso; first | omega | exact h104 trivial)
        | (try dsimp only [bl_pv]
           exact L110 y0 y1 y2 y3 y4 y5)
      · try simp (disch := omega) only [zI_n, zI_o, zI_lit, zI_neg, zI_add, zI_sub, zI_mul, zI_lt, zI_le, zI_eq, zI_clamp, zI_in, zI_div, zI_rem, lg_lt0, lg_gt0, lg_eq0, lg_le0, lg_ge0, Int.toNat_natCast, ge_iff_le, gt_iff_lt, List.length_cons, List.length_nil, bl_up2_at, bl_up2_nk, bl_up2_nx] at h104
        first
        | (exfalso; first | omega | exact h104 trivial)
        | (refine ⟨(fun h => by cases h), ?_⟩
           try show _ ∧ _
           try dsimp only [bl_pv]
           rw [ckd_eq, if_neg (wisb_f y0), if_neg (wisb_f y1), if_neg (wisb_f y2), if_neg (wisb_f y3), if_neg (wisb_f y4), if_pos (wisb_t y5)]; exact ⟨rfl, rfl⟩)
  have L72 : ¬ wis (I (m + 8)) p e (byw 0) → ¬ wis (I (m + 8)) p e (byw 1) → ¬ wis (I (m + 8)) p e (byw 2) → ¬ wis (I (m + 8)) p e (byw 3) → bl_WP G l (d + 4) mX11_kindHere 72 [(0, .ref m)] [] (mpI I m (nI n) (nI p) 0 fa, J, R, K, N) (0, 0) (fun o σ' => o = .inl (some (.int (ckd (I (m + 8)) p e))) ∧ σ' = (mpI I m (nI n) (nI p) 0 fa, J, R, K, N)) := by
    intro y0 y1 y2 y3
    refine bl_go oX11_kindHere 80 [17, 37, 54, 72, 92, 110, 130] rfl ?_
    refine ⟨rfl, rfl, km, (Nat.le_of_ble_eq_true rfl), (0, 0), Nat.le_of_ble_eq_true rfl, Nat.le_of_ble_eq_true rfl, bl_MC_mono (w4) (fun o83 σ83 q83 => ?_)⟩
    obtain ⟨hz, rfl⟩ := q83
    rcases hz with ⟨y4, rfl⟩ | ⟨y4, rfl⟩
    · refine bl_go oX11_kindHere 80 [17, 37, 54, 72, 92, 110, 130] rfl ?_
      refine ⟨fun h86 => ?_, fun h86 => ?_⟩
      · try simp (disch := omega) only [zI_n, zI_o, zI_lit, zI_neg, zI_add, zI_sub, zI_mul, zI_lt, zI_le, zI_eq, zI_clamp, zI_in, zI_div, zI_rem, lg_lt0, lg_gt0, lg_eq0, lg_le0, lg_ge0, Int.toNat_natCast, ge_iff_le, gt_iff_lt, List.length_cons, List.length_nil, bl_up2_at, bl_up2_nk, bl_up2_nx] at h86
        first
        | (exfalso; first | omega | exact h86 trivial)
        | (try dsimp only [bl_pv]
           exact L92 y0 y1 y2 y3 y4)
      · try simp (disch := omega) only [zI_n, zI_o, zI_lit, zI_neg, zI_add, zI_sub, zI_mul, zI_lt, zI_le, zI_eq, zI_clamp, zI_in, zI_div, zI_rem, lg_lt0, lg_gt0, lg_eq0, lg_le0, lg_ge0, Int.toNat_natCast, ge_iff_le, gt_iff_lt, List.length_cons, List.length_nil, bl_up2_at, bl_up2_nk, bl_up2_nx] at h86
        first
        | (exfalso; first | omega | exact h86 trivial)
        | (refine ⟨(fun h => by cases h), ?_⟩
           try show _ ∧ _
           try dsimp only [bl_pv]
           rw [ckd_eq, if_neg (wisb_f y0), if_neg (wisb_f y1), if_neg (wisb_f y2), if_neg (wisb_f y3), if_pos (wisb_t y4)]; exact ⟨rfl, rfl⟩)
    · refine bl_go oX11_kindHere 80 [17, 37, 54, 72, 92, 110, 130] rfl ?_
      refine ⟨fun h86 => ?_, fun h86 => ?_⟩
      · try simp (disch := omega) only [zI_n, zI_o, zI_lit, zI_neg, zI_add, zI_sub, zI_mul, zI_lt, zI_le, zI_eq, zI_clamp, zI_in, zI_div, zI_rem, lg_lt0, lg_gt0, lg_eq0, lg_le0, lg_ge0, Int.toNat_natCast, ge_iff_le, gt_iff_lt, List.length_cons, List.length_nil, bl_up2_at, bl_up2_nk, bl_up2_nx] at h86
        first
        | (exfalso; first | omega | exact h86 trivial)
        | (try dsimp only [bl_pv]
           exact L92 y0 y1 y2 y3 y4)
      · try simp (disch := omega) only [zI_n, zI_o, zI_lit, zI_neg, zI_add, zI_sub, zI_mul, zI_lt, zI_le, zI_eq, zI_clamp, zI_in, zI_div, zI_rem, lg_lt0, lg_gt0, lg_eq0, lg_le0, lg_ge0, Int.toNat_natCast, ge_iff_le, gt_iff_lt, List.length_cons, List.length_nil, bl_up2_at, bl_up2_nk, bl_up2_nx] at h86
        first
        | (exfalso; first | omega | exact h86 trivial)
        | (refine ⟨(fun h => by cases h), ?_⟩
           try show _ ∧ _
           try dsimp only [bl_pv]
           rw [ckd_eq, if_neg (wisb_f y0), if_neg (wisb_f y1), if_neg (wisb_f y2), if_neg (wisb_f y3), if_pos (wisb_t y4)]; exact ⟨rfl, rfl⟩)
  have L54 : ¬ wis (I (m + 8)) p e (byw 0) → ¬ wis (I (m + 8)) p e (byw 1) → ¬ wis (I (m + 8)) p e (byw 2) → bl_WP G l (d + 4) mX11_kindHere 54 [(0, .ref m)] [] (mpI I m (nI n) (nI p) 0 fa, J, R, K, N) (0, 0) (fun o σ' => o = .inl (some (.int (ckd (I (m + 8)) p e))) ∧ σ' = (mpI I m (nI n) (nI p) 0 fa, J, R, K, N)) := by
    intro y0 y1 y2
    refine bl_go oX11_kindHere 80 [17, 37, 54, 72, 92, 110, 130] rfl ?_
    refine ⟨rfl, rfl, km, (Nat.le_of_ble_eq_true rfl), (0, 0), Nat.le_of_ble_eq_true rfl, Nat.le_of_ble_eq_true rfl, bl_MC_mono (w3) (fun o64 σ64 q64 => ?_)⟩
    obtain ⟨hz, rfl⟩ := q64
    rcases hz with ⟨y3, rfl⟩ | ⟨y3, rfl⟩
    · refine bl_go oX11_kindHere 80 [17, 37, 54, 72, 92, 110, 130] rfl ?_
      refine ⟨fun h67 => ?_, fun h67 => ?_⟩
      · try simp (disch := omega) only [zI_n, zI_o, zI_lit, zI_neg, zI_add, zI_sub, zI_mul, zI_lt, zI_le, zI_eq, zI_clamp, zI_in, zI_div, zI_rem, lg_lt0, lg_gt0, lg_eq0, lg_le0, lg_ge0, Int.toNat_natCast, ge_iff_le, gt_iff_lt, List.length_cons, List.length_nil, bl_up2_at, bl_up2_nk, bl_up2_nx] at h67
        first
        | (exfalso; first | omega | exact h67 trivial)
        | (try dsimp only [bl_pv]
           exact L72 y0 y1 y2 y3)
      · try simp (disch := omega) only [zI_n, zI_o, zI_lit, zI_neg, zI_add, zI_sub, zI_mul, zI_lt, zI_le, zI_eq, zI_clamp, zI_in, zI_div, zI_rem, lg_lt0, lg_gt0, lg_eq0, lg_le0, lg_ge0, Int.toNat_natCast, ge_iff_le, gt_iff_lt, List.length_cons, List.length_nil, bl_up2_at, bl_up2_nk, bl_up2_nx] at h67
        first
        | (exfalso; first | omega | exact h67 trivial)
        | (refine ⟨(fun h => by cases h), ?_⟩
           try show _ ∧ _
           try dsimp only [bl_pv]
           rw [ckd_eq, if_neg (wisb_f y0), if_neg (wisb_f y1), if_neg (wisb_f y2), if_pos (wisb_t y3)]; exact ⟨rfl, rfl⟩)
    · refine bl_go oX11_kindHere 80 [17, 37, 54, 72, 92, 110, 130] rfl ?_
      refine ⟨fun h67 => ?_, fun h67 => ?_⟩
      · try simp (disch := omega) only [zI_n, zI_o, zI_lit, zI_neg, zI_add, zI_sub, zI_mul, zI_lt, zI_le, zI_eq, zI_clamp, zI_in, zI_div, zI_rem, lg_lt0, lg_gt0, lg_eq0, lg_le0, lg_ge0, Int.toNat_natCast, ge_iff_le, gt_iff_lt, List.length_cons, List.length_nil, bl_up2_at, bl_up2_nk, bl_up2_nx] at h67
        first
        | (exfalso; first | omega | exact h67 trivial)
        | (try dsimp only [bl_pv]
           exact L72 y0 y1 y2 y3)
      · try simp (disch := omega) only [zI_n, zI_o, zI_lit, zI_neg, zI_add, zI_sub, zI_mul, zI_lt, zI_le, zI_eq, zI_clamp, zI_in, zI_div, zI_rem, lg_lt0, lg_gt0, lg_eq0, lg_le0, lg_ge0, Int.toNat_natCast, ge_iff_le, gt_iff_lt, List.length_cons, List.length_nil, bl_up2_at, bl_up2_nk, bl_up2_nx] at h67
        first
        | (exfalso; first | omega | exact h67 trivial)
        | (refine ⟨(fun h => by cases h), ?_⟩
           try show _ ∧ _
           try dsimp only [bl_pv]
           rw [ckd_eq, if_neg (wisb_f y0), if_neg (wisb_f y1), if_neg (wisb_f y2), if_pos (wisb_t y3)]; exact ⟨rfl, rfl⟩)
  have L37 : ¬ wis (I (m + 8)) p e (byw 0) → ¬ wis (I (m + 8)) p e (byw 1) → bl_WP G l (d + 4) mX11_kindHere 37 [(0, .ref m)] [] (mpI I m (nI n) (nI p) 0 fa, J, R, K, N) (0, 0) (fun o σ' => o = .inl (some (.int (ckd (I (m + 8)) p e))) ∧ σ' = (mpI I m (nI n) (nI p) 0 fa, J, R, K, N)) := by
    intro y0 y1
    refine bl_go oX11_kindHere 80 [17, 37, 54, 72, 92, 110, 130] rfl ?_
    refine ⟨rfl, rfl, km, (Nat.le_of_ble_eq_true rfl), (0, 0), Nat.le_of_ble_eq_true rfl, Nat.le_of_ble_eq_true rfl, bl_MC_mono (w2) (fun o46 σ46 q46 => ?_)⟩
    obtain ⟨hz, rfl⟩ := q46
    rcases hz with ⟨y2, rfl⟩ | ⟨y2, rfl⟩
    · refine bl_go oX11_kindHere 80 [17, 37, 54, 72, 92, 110, 130] rfl ?_
      refine ⟨fun h49 => ?_, fun h49 => ?_⟩
      · try simp (disch := omega) only [zI_n, zI_o, zI_lit, zI_neg, zI_add, zI_sub, zI_mul, zI_lt, zI_le, zI_eq, zI_clamp, zI_in, zI_div, zI_rem, lg_lt0, lg_gt0, lg_eq0, lg_le0, lg_ge0, Int.toNat_natCast, ge_iff_le, gt_iff_lt, List.length_cons, List.length_nil, bl_up2_at, bl_up2_nk, bl_up2_nx] at h49
        first
        | (exfalso; first | omega | exact h49 trivial)
        | (try dsimp only [bl_pv]
           exact L54 y0 y1 y2)
      · try simp (disch := omega) only [zI_n, zI_o, zI_lit, zI_neg, zI_add, zI_sub, zI_mul, zI_lt, zI_le, zI_eq, zI_clamp, zI_in, zI_div, zI_rem, lg_lt0, lg_gt0, lg_eq0, lg_le0, lg_ge0, Int.toNat_natCast, ge_iff_le, gt_iff_lt, List.length_cons, List.length_nil, bl_up2_at, bl_up2_nk, bl_up2_nx] at h49
        first
        | (exfalso; first | omega | exact h49 trivial)
        | (refine ⟨(fun h => by cases h), ?_⟩
           try show _ ∧ _
           try dsimp only [bl_pv]
           rw [ckd_eq, if_neg (wisb_f y0), if_neg (wisb_f y1), if_pos (wisb_t y2)]; exact ⟨rfl, rfl⟩)
    · refine bl_go oX11_kindHere 80 [17, 37, 54, 72, 92, 110, 130] rfl ?_
      refine ⟨fun h49 => ?_, fun h49 => ?_⟩
      · try simp (disch := omega) only [zI_n, zI_o, zI_lit, zI_neg, zI_add, zI_sub, zI_mul, zI_lt, zI_le, zI_eq, zI_clamp, zI_in, zI_div, zI_rem, lg_lt0, lg_gt0, lg_eq0, lg_le0, lg_ge0, Int.toNat_natCast, ge_iff_le, gt_iff_lt, List.length_cons, List.length_nil, bl_up2_at, bl_up2_nk, bl_up2_nx] at h49
        first
        | (exfalso; first | omega | exact h49 trivial)
        | (try dsimp only [bl_pv]
           exact L54 y0 y1 y2)
      · try simp (disch := omega) only [zI_n, zI_o, zI_lit, zI_neg, zI_add, zI_sub, zI_mul, zI_lt, zI_le, zI_eq, zI_clamp, zI_in, zI_div, zI_rem, lg_lt0, lg_gt0, lg_eq0, lg_le0, lg_ge0, Int.toNat_natCast, ge_iff_le, gt_iff_lt, List.length_cons, List.length_nil, bl_up2_at, bl_up2_nk, bl_up2_nx] at h49
        first
        | (exfalso; first | omega | exact h49 trivial)
        | (refine ⟨(fun h => by cases h), ?_⟩
           try show _ ∧ _
           try dsimp only [bl_pv]
           rw [ckd_eq, if_neg (wisb_f y0), if_neg (wisb_f y1), if_pos (wisb_t y2)]; exact ⟨rfl, rfl⟩)
  have L17 : ¬ wis (I (m + 8)) p e (byw 0) → bl_WP G l (d + 4) mX11_kindHere 17 [(0, .ref m)] [] (mpI I m (nI n) (nI p) 0 fa, J, R, K, N) (0, 0) (fun o σ' => o = .inl (some (.int (ckd (I (m + 8)) p e))) ∧ σ' = (mpI I m (nI n) (nI p) 0 fa, J, R, K, N)) := by
    intro y0
    refine bl_go oX11_kindHere 80 [17, 37, 54, 72, 92, 110, 130] rfl ?_
    refine ⟨rfl, rfl, km, (Nat.le_of_ble_eq_true rfl), (0, 0), Nat.le_of_ble_eq_true rfl, Nat.le_of_ble_eq_true rfl, bl_MC_mono (w1) (fun o29 σ29 q29 => ?_)⟩
    obtain ⟨hz, rfl⟩ := q29
    rcases hz with ⟨y1, rfl⟩ | ⟨y1, rfl⟩
    · refine bl_go oX11_kindHere 80 [17, 37, 54, 72, 92, 110, 130] rfl ?_
      refine ⟨fun h32 => ?_, fun h32 => ?_⟩
      · try simp (disch := omega) only [zI_n, zI_o, zI_lit, zI_neg, zI_add, zI_sub, zI_mul, zI_lt, zI_le, zI_eq, zI_clamp, zI_in, zI_div, zI_rem, lg_lt0, lg_gt0, lg_eq0, lg_le0, lg_ge0, Int.toNat_natCast, ge_iff_le, gt_iff_lt, List.length_cons, List.length_nil, bl_up2_at, bl_up2_nk, bl_up2_nx] at h32
        first
        | (exfalso; first | omega | exact h32 trivial)
        | (try dsimp only [bl_pv]
           exact L37 y0 y1)
      · try simp (disch := omega) only [zI_n, zI_o, zI_lit, zI_neg, zI_add, zI_sub, zI_mul, zI_lt, zI_le, zI_eq, zI_clamp, zI_in, zI_div, zI_rem, lg_lt0, lg_gt0, lg_eq0, lg_le0, lg_ge0, Int.toNat_natCast, ge_iff_le, gt_iff_lt, List.length_cons, List.length_nil, bl_up2_at, bl_up2_nk, bl_up2_nx] at h32
        first
        | (exfalso; first | omega | exact h32 trivial)
        | (refine ⟨(fun h => by cases h), ?_⟩
           try show _ ∧ _
           try dsimp only [bl_pv]
           rw [ckd_eq, if_neg (wisb_f y0), if_pos (wisb_t y1)]; exact ⟨rfl, rfl⟩)
    · refine bl_go oX11_kindHere 80 [17, 37, 54, 72, 92, 110, 130] rfl ?_
      refine ⟨fun h32 => ?_, fun h32 => ?_⟩
      · try simp (disch := omega) only [zI_n, zI_o, zI_lit, zI_neg, zI_add, zI_sub, zI_mul, zI_lt, zI_le, zI_eq, zI_clamp, zI_in, zI_div, zI_rem, lg_lt0, lg_gt0, lg_eq0, lg_le0, lg_ge0, Int.toNat_natCast, ge_iff_le, gt_iff_lt, List.length_cons, List.length_nil, bl_up2_at, bl_up2_nk, bl_up2_nx] at h32
        first
        | (exfalso; first | omega | exact h32 trivial)
        | (try dsimp only [bl_pv]
           exact L37 y0 y1)
      · try simp (disch := omega) only [zI_n, zI_o, zI_lit, zI_neg, zI_add, zI_sub, zI_mul, zI_lt, zI_le, zI_eq, zI_clamp, zI_in, zI_div, zI_rem, lg_lt0, lg_gt0, lg_eq0, lg_le0, lg_ge0, Int.toNat_natCast, ge_iff_le, gt_iff_lt, List.length_cons, List.length_nil, bl_up2_at, bl_up2_nk, bl_up2_nx] at h32
        first
        | (exfalso; first | omega | exact h32 trivial)
        | (refine ⟨(fun h => by cases h), ?_⟩
           try show _ ∧ _
           try dsimp only [bl_pv]
           rw [ckd_eq, if_neg (wisb_f y0), if_pos (wisb_t y1)]; exact ⟨rfl, rfl⟩)
  refine bl_go oX11_kindHere 80 [17, 37, 54, 72, 92, 110, 130] rfl ?_
  refine ⟨rfl, rfl, km, (Nat.le_of_ble_eq_true rfl), (0, 0), Nat.le_of_ble_eq_true rfl, Nat.le_of_ble_eq_true rfl, bl_MC_mono (w0) (fun o9 σ9 q9 => ?_)⟩
  obtain ⟨hz, rfl⟩ := q9
  rcases hz with ⟨y0, rfl⟩ | ⟨y0, rfl⟩
  · refine bl_go oX11_kindHere 80 [17, 37, 54, 72, 92, 110, 130] rfl ?_
    refine ⟨fun h12 => ?_, fun h12 => ?_⟩
    · try simp (disch := omega) only [zI_n, zI_o, zI_lit, zI_neg, zI_add, zI_sub, zI_mul, zI_lt, zI_le, zI_eq, zI_clamp, zI_in, zI_div, zI_rem, lg_lt0, lg_gt0, lg_eq0, lg_le0, lg_ge0, Int.toNat_natCast, ge_iff_le, gt_iff_lt, List.length_cons, List.length_nil, bl_up2_at, bl_up2_nk, bl_up2_nx] at h12
      first
      | (exfalso; first | omega | exact h12 trivial)
      | (try dsimp only [bl_pv]
         exact L17 y0)
    · try simp (disch := omega) only [zI_n, zI_o, zI_lit, zI_neg, zI_add, zI_sub, zI_mul, zI_lt, zI_le, zI_eq, zI_clamp, zI_in, zI_div, zI_rem, lg_lt0, lg_gt0, lg_eq0, lg_le0, lg_ge0, Int.toNat_natCast, ge_iff_le, gt_iff_lt, List.length_cons, List.length_nil, bl_up2_at, bl_up2_nk, bl_up2_nx] at h12
      first
      | (exfalso; first | omega | exact h12 trivial)
      | (refine ⟨(fun h => by cases h), ?_⟩
         try show _ ∧ _
         try dsimp only [bl_pv]
         rw [ckd_eq, if_pos (wisb_t y0)]; exact ⟨rfl, rfl⟩)
  · refine bl_go oX11_kindHere 80 [17, 37, 54, 72, 92, 110, 130] rfl ?_
    refine ⟨fun h12 => ?_, fun h12 => ?_⟩
    · try simp (disch := omega) only [zI_n, zI_o, zI_lit, zI_neg, zI_add, zI_sub, zI_mul, zI_lt, zI_le, zI_eq, zI_clamp, zI_in, zI_div, zI_rem, lg_lt0, lg_gt0, lg_eq0, lg_le0, lg_ge0, Int.toNat_natCast, ge_iff_le, gt_iff_lt, List.length_cons, List.length_nil, bl_up2_at, bl_up2_nk, bl_up2_nx] at h12
      first
      | (exfalso; first | omega | exact h12 trivial)
      | (try dsimp only [bl_pv]
         exact L17 y0)
    · try simp (disch := omega) only [zI_n, zI_o, zI_lit, zI_neg, zI_add, zI_sub, zI_mul, zI_lt, zI_le, zI_eq, zI_clamp, zI_in, zI_div, zI_rem, lg_lt0, lg_gt0, lg_eq0, lg_le0, lg_ge0, Int.toNat_natCast, ge_iff_le, gt_iff_lt, List.length_cons, List.length_nil, bl_up2_at, bl_up2_nk, bl_up2_nx] at h12
      first
      | (exfalso; first | omega | exact h12 trivial)
      | (refine ⟨(fun h => by cases h), ?_⟩
         try show _ ∧ _
         try dsimp only [bl_pv]
         rw [ckd_eq, if_pos (wisb_t y0)]; exact ⟨rfl, rfl⟩)
theorem c_Model_stepHere (hm : mdS R K N m) (hn : n ≤ 400) (hi : i ≤ n) : bl_MC G l (d + 4) mX11_stepHere [.ref m] (mpI I m (nI n) (nI i) 0 fa, J, R, K, N) (0, 0) (fun o σ' => o = .inl (some (.int (skd (I (m + 8)) (skB (I (m + 8)) n i) (skW (I (m + 8)) n (skB (I (m + 8)) n i))))) ∧ σ' = (mpI I m (nI n) (nI (skB (I (m + 8)) n i)) 0 fa, J, R, K, N)) := by
  have km := hm.2.1
  have hp : skB (I (m + 8)) n i ≤ n := skB_le hi
  have hid := skB_id (B := I (m + 8)) hn hi
  have w9 := c_Model_isWord (d := d) (G := G) (l := l) (J := J) (I := I) (fa := fa) (i := i) (j := 9) (a := 18) (b := 15) (c := 12) (e := 12) (f := 0) (g := 0) hm hn hi (by decide) (by decide) (by decide +kernel) rfl rfl rfl rfl rfl rfl (by decide)
  have w10 := c_Model_isWord (d := d) (G := G) (l := l) (J := J) (I := I) (fa := fa) (i := (skB (I (m + 8)) n i)) (j := 10) (a := 6) (b := 15) (c := 12) (e := 4) (f := 0) (g := 0) hm hn hp (by decide) (by decide) (by decide +kernel) rfl rfl rfl rfl rfl rfl (by decide)
  rw [hid] at w10
  have w11 := c_Model_isWord (d := d) (G := G) (l := l) (J := J) (I := I) (fa := fa) (i := (skB (I (m + 8)) n i)) (j := 11) (a := 2) (b := 15) (c := 15) (e := 11) (f := 0) (g := 0) hm hn hp (by decide) (by decide) (by decide +kernel) rfl rfl rfl rfl rfl rfl (by decide)
  rw [hid] at w11
  have w12 := c_Model_isWord (d := d) (G := G) (l := l) (J := J) (I := I) (fa := fa) (i := (skB (I (m + 8)) n i)) (j := 12) (a := 20) (b := 21) (c := 3) (e := 11) (f := 0) (g := 0) hm hn hp (by decide) (by decide) (by decide +kernel) rfl rfl rfl rfl rfl rfl (by decide)
  rw [hid] at w12
  have w13 := c_Model_isWord (d := d) (G := G) (l := l) (J := J) (I := I) (fa := fa) (i := (skB (I (m + 8)) n i)) (j := 13) (a := 3) (b := 21) (c := 20) (e := 0) (f := 0) (g := 0) hm hn hp (by decide) (by decide) (by decide +kernel) rfl rfl rfl rfl rfl rfl (by decide)
  rw [hid] at w13
  have w14 := c_Model_isWord (d := d) (G := G) (l := l) (J := J) (I := I) (fa := fa) (i := (skB (I (m + 8)) n i)) (j := 14) (a := 20) (b := 21) (c := 18) (e := 14) (f := 0) (g := 0) hm hn hp (by decide) (by decide) (by decide +kernel) rfl rfl rfl rfl rfl rfl (by decide)
  rw [hid] at w14
  have w15 := c_Model_isWord (d := d) (G := G) (l := l) (J := J) (I := I) (fa := fa) (i := (skB (I (m + 8)) n i)) (j := 15) (a := 18) (b := 5) (c := 19) (e := 20) (f := 0) (g := 0) hm hn hp (by decide) (by decide) (by decide +kernel) rfl rfl rfl rfl rfl rfl (by decide)
  rw [hid] at w15
  have w16 := c_Model_isWord (d := d) (G := G) (l := l) (J := J) (I := I) (fa := fa) (i := (skB (I (m + 8)) n i)) (j := 16) (a := 19) (b := 20) (c := 1) (e := 14) (f := 4) (g := 0) hm hn hp (by decide) (by decide) (by decide +kernel) rfl rfl rfl rfl rfl rfl (by decide)
  rw [hid] at w16
  generalize skB (I (m + 8)) n i = p at *
  generalize skW (I (m + 8)) n p = e at *
  refine bl_MC_intro (by decide +kernel) rfl (Nat.le_of_ble_eq_true rfl) ?_
  have L128 : ¬ wis (I (m + 8)) p e (byw 9) → ¬ wis (I (m + 8)) p e (byw 10) → ¬ wis (I (m + 8)) p e (byw 11) → ¬ wis (I (m + 8)) p e (byw 12) → ¬ wis (I (m + 8)) p e (byw 13) → ¬ wis (I (m + 8)) p e (byw 14) → ¬ wis (I (m + 8)) p e (byw 15) → bl_WP G l (d + 4) mX11_stepHere 128 [(0, .ref m)] [] (mpI I m (nI n) (nI p) 0 fa, J, R, K, N) (0, 0) (fun o σ' => o = .inl (some (.int (skd (I (m + 8)) p e))) ∧ σ' = (mpI I m (nI n) (nI p) 0 fa, J, R, K, N)) := by
    intro y9 y10 y11 y12 y13 y14 y15
    refine bl_go oX11_stepHere 80 [19, 37, 55, 73, 90, 109, 128] rfl ?_
    refine ⟨rfl, rfl, km, (Nat.le_of_ble_eq_true rfl), (0, 0), Nat.le_of_ble_eq_true rfl, Nat.le_of_ble_eq_true rfl, bl_MC_mono (w16) (fun o138 σ138 q138 => ?_)⟩
    obtain ⟨hz, rfl⟩ := q138
    rcases hz with ⟨y16, rfl⟩ | ⟨y16, rfl⟩
    · refine bl_go oX11_stepHere 80 [19, 37, 55, 73, 90, 109, 128] rfl ?_
      refine ⟨fun h141 => ?_, fun h141 => ?_⟩
      · try simp (disch := omega) only [zI_n, zI_o, zI_lit, zI_neg, zI_add, zI_sub, zI_mul, zI_lt, zI_le, zI_eq, zI_clamp, zI_in, zI_div, zI_rem, lg_lt0, lg_gt0, lg_eq0, lg_le0, lg_ge0, Int.toNat_natCast, ge_iff_le, gt_iff_lt, List.length_cons, List.length_nil, bl_up2_at, bl_up2_nk, bl_up2_nx] at h141
        first
        | (exfalso; first | omega | exact h141 trivial)
        | (refine ⟨(fun h => by cases h), ?_⟩
           try show _ ∧ _
           try dsimp only [bl_pv]
           rw [skd_eq]
           first
           | (rw [if_neg (wisb_f y9), if_neg (wisb_f y10), if_neg (wisb_f y11), if_neg (wisb_f y12), if_neg (wisb_f y13), if_neg (wisb_f y14), if_neg (wisb_f y15), if_pos (wisb_t y16)]; exact ⟨rfl, rfl⟩)
           | (rw [if_neg (wisb_f y9), if_neg (wisb_f y10), if_neg (wisb_f y11), if_neg (wisb_f y12), if_neg (wisb_f y13), if_neg (wisb_f y14), if_neg (wisb_f y15), if_neg (wisb_f y16)]; exact ⟨rfl, rfl⟩))
      · try simp (disch := omega) only [zI_n, zI_o, zI_lit, zI_neg, zI_add, zI_sub, zI_mul, zI_lt, zI_le, zI_eq, zI_clamp, zI_in, zI_div, zI_rem, lg_lt0, lg_gt0, lg_eq0, lg_le0, lg_ge0, Int.toNat_natCast, ge_iff_le, gt_iff_lt, List.length_cons, List.length_nil, bl_up2_at, bl_up2_nk, bl_up2_nx] at h141
        first
        | (exfalso; first | omega | exact h141 trivial)
        | (refine ⟨(fun h => by cases h), ?_⟩
           try show _ ∧ _
           try dsimp only [bl_pv]
           rw [skd_eq]
           first
           | (rw [if_neg (wisb_f y9), if_neg (wisb_f y10), if_neg (wisb_f y11), if_neg (wisb_f y12), if_neg (wisb_f y13), if_neg (wisb_f y14), if_neg (wisb_f y15), if_pos (wisb_t y16)]; exact ⟨rfl, rfl⟩)
           | (rw [if_neg (wisb_f y9), if_neg (wisb_f y10), if_neg (wisb_f y11), if_neg (wisb_f y12), if_neg (wisb_f y13), if_neg (wisb_f y14), if_neg (wisb_f y15), if_neg (wisb_f y16)]; exact ⟨rfl, rfl⟩))
    · refine bl_go oX11_stepHere 80 [19, 37, 55, 73, 90, 109, 128] rfl ?_
      refine ⟨fun h141 => ?_, fun h141 => ?_⟩
      · try simp (disch := omega) only [zI_n, zI_o, zI_lit, zI_neg, zI_add, zI_sub, zI_mul, zI_lt, zI_le, zI_eq, zI_clamp, zI_in, zI_div, zI_rem, lg_lt0, lg_gt0, lg_eq0, lg_le0, lg_ge0, Int.toNat_natCast, ge_iff_le, gt_iff_lt, List.length_cons, List.length_nil, bl_up2_at, bl_up2_nk, bl_up2_nx] at h141
        first
        | (exfalso; first | omega | exact h141 trivial)
        | (refine ⟨(fun h => by cases h), ?_⟩
           try show _ ∧ _
           try dsimp only [bl_pv]
           rw [skd_eq]
           first
           | (rw [if_neg (wisb_f y9), if_neg (wisb_f y10), if_neg (wisb_f y11), if_neg (wisb_f y12), if_neg (wisb_f y13), if_neg (wisb_f y14), if_neg (wisb_f y15), if_pos (wisb_t y16)]; exact ⟨rfl, rfl⟩)
           | (rw [if_neg (wisb_f y9), if_neg (wisb_f y10), if_neg (wisb_f y11), if_neg (wisb_f y12), if_neg (wisb_f y13), if_neg (wisb_f y14), if_neg (wisb_f y15), if_neg (wisb_f y16)]; exact ⟨rfl, rfl⟩))
      · try simp (disch := omega) only [zI_n, zI_o, zI_lit, zI_neg, zI_add, zI_sub, zI_mul, zI_lt, zI_le, zI_eq, zI_clamp, zI_in, zI_div, zI_rem, lg_lt0, lg_gt0, lg_eq0, lg_le0, lg_ge0, Int.toNat_natCast, ge_iff_le, gt_iff_lt, List.length_cons, List.length_nil, bl_up2_at, bl_up2_nk, bl_up2_nx] at h141
        first
        | (exfalso; first | omega | exact h141 trivial)
        | (refine ⟨(fun h => by cases h), ?_⟩
           try show _ ∧ _
           try dsimp only [bl_pv]
           rw [skd_eq]
           first
           | (rw [if_neg (wisb_f y9), if_neg (wisb_f y10), if_neg (wisb_f y11), if_neg (wisb_f y12), if_neg (wisb_f y13), if_neg (wisb_f y14), if_neg (wisb_f y15), if_pos (wisb_t y16)]; exact ⟨rfl, rfl⟩)
           | (rw [if_neg (wisb_f y9), if_neg (wisb_f y10), if_neg (wisb_f y11), if_neg (wisb_f y12), if_neg (wisb_f y13), if_neg (wisb_f y14), if_neg (wisb_f y15), if_neg (wisb_f y16)]; exact ⟨rfl, rfl⟩))
  have L109 : ¬ wis (I (m + 8)) p e (byw 9) → ¬ wis (I (m + 8)) p e (byw 10) → ¬ wis (I (m + 8)) p e (byw 11) → ¬ wis (I (m + 8)) p e (byw 12) → ¬ wis (I (m + 8)) p e (byw 13) → ¬ wis (I (m + 8)) p e (byw 14) → bl_WP G l (d + 4) mX11_stepHere 109 [(0, .ref m)] [] (mpI I m (nI n) (nI p) 0 fa, J, R, K, N) (0, 0) (fun o σ' => o = .inl (some (.int (skd (I (m + 8)) p e))) ∧ σ' = (mpI I m (nI n) (nI p) 0 fa, J, R, K, N)) := by
    intro y9 y10 y11 y12 y13 y14
    refine bl_go oX11_stepHere 80 [19, 37, 55, 73, 90, 109, 128] rfl ?_
    refine ⟨rfl, rfl, km, (Nat.le_of_ble_eq_true rfl), (0, 0), Nat.le_of_ble_eq_true rfl, Nat.le_of_ble_eq_true rfl, bl_MC_mono (w15) (fun o119 σ119 q119 => ?_)⟩
    obtain ⟨hz, rfl⟩ := q119
    rcases hz with ⟨y15, rfl⟩ | ⟨y15, rfl⟩
    · refine bl_go oX11_stepHere 80 [19, 37, 55, 73, 90, 109, 128] rfl ?_
      refine ⟨fun h122 => ?_, fun h122 => ?_⟩
      · try simp (disch := omega) only [zI_n, zI_o, zI_lit, zI_neg, zI_add, zI_sub, zI_mul, zI_lt, zI_le, zI_eq, zI_clamp, zI_in, zI_div, zI_rem, lg_lt0, lg_gt0, lg_eq0, lg_le0, lg_ge0, Int.toNat_natCast, ge_iff_le, gt_iff_lt, List.length_cons, List.length_nil, bl_up2_at, bl_up2_nk, bl_up2_nx] at h122
        first
        | (exfalso; first | omega | exact h122 trivial)
        | (try dsimp only [bl_pv]
           exact L128 y9 y10 y11 y12 y13 y14 y15)
      · try simp (disch := omega) only [zI_n, zI_o, zI_lit, zI_neg, zI_add, zI_sub, zI_mul, zI_lt, zI_le, zI_eq, zI_clamp, zI_in, zI_div, zI_rem, lg_lt0, lg_gt0, lg_eq0, lg_le0, lg_ge0, Int.toNat_natCast, ge_iff_le, gt_iff_lt, List.length_cons, List.length_nil, bl_up2_at, bl_up2_nk, bl_up2_nx] at h122
        first
        | (exfalso; first | omega | exact h122 trivial)
        | (refine ⟨(fun h => by cases h), ?_⟩
           try show _ ∧ _
           try dsimp only [bl_pv]
           rw [skd_eq, if_neg (wisb_f y9), if_neg (wisb_f y10), if_neg (wisb_f y11), if_neg (wisb_f y12), if_neg (wisb_f y13), if_neg (wisb_f y14), if_pos (wisb_t y15)]; exact ⟨rfl, rfl⟩)
    · refine bl_go oX11_stepHere 80 [19, 37, 55, 73, 90, 109, 128] rfl ?_
      refine ⟨fun h122 => ?_, fun h122 => ?_⟩
      · try simp (disch := omega) only [zI_n, zI_o, zI_lit, zI_neg, zI_add, zI_sub, zI_mul, zI_lt, zI_le, zI_eq, zI_clamp, zI_in, zI_div, zI_rem, lg_lt0, lg_gt0, lg_eq0, lg_le0, lg_ge0, Int.toNat_natCast, ge_iff_le, gt_iff_lt, List.length_cons, List.length_nil, bl_up2_at, bl_up2_nk, bl_up2_nx] at h122
        first
        | (exfalso; first | omega | exact h122 trivial)
        | (try dsimp only [bl_pv]
           exact L128 y9 y10 y11 y12 y13 y14 y15)
      · try simp (disch := omega) only [zI_n, zI_o, zI_lit, zI_neg, zI_add, zI_sub, zI_mul, zI_lt, zI_le, zI_eq, zI_clamp, zI_in, zI_div, zI_rem, lg_lt0, lg_gt0, lg_eq0, lg_le0, lg_ge0, Int.toNat_natCast, ge_iff_le, gt_iff_lt, List.length_cons, List.length_nil, bl_up2_at, bl_up2_nk, bl_up2_nx] at h122
        first
        | (exfalso; first | omega | exact h122 trivial)
        | (refine ⟨(fun h => by cases h), ?_⟩
           try show _ ∧ _
           try dsimp only [bl_pv]
           rw [skd_eq, if_neg (wisb_f y9), if_neg (wisb_f y10), if_neg (wisb_f y11), if_neg (wisb_f y12), if_neg (wisb_f y13), if_neg (wisb_f y14), if_pos (wisb_t y15)]; exact ⟨rfl, rfl⟩)
  have L90 : ¬ wis (I (m + 8)) p e (byw 9) → ¬ wis (I (m + 8)) p e (byw 10) → ¬ wis (I (m + 8)) p e (byw 11) → ¬ wis (I (m + 8)) p e (byw 12) → ¬ wis (I (m + 8)) p e (byw 13) → bl_WP G l (d + 4) mX11_stepHere 90 [(0, .ref m)] [] (mpI I m (nI n) (nI p) 0 fa, J, R, K, N) (0, 0) (fun o σ' => o = .inl (some (.int (skd (I (m + 8)) p e))) ∧ σ' = (mpI I m (nI n) (nI p) 0 fa, J, R, K, N)) := by
    intro y9 y10 y11 y12 y13
    refine bl_go oX11_stepHere 80 [19, 37, 55, 73, 90, 109, 128] rfl ?_
    refine ⟨rfl, rfl, km, (Nat.le_of_ble_eq_true rfl), (0, 0), Nat.le_of_ble_eq_true rfl, Nat.le_of_ble_eq_true rfl, bl_MC_mono (w14) (fun o101 σ101 q101 => ?_)⟩
    obtain ⟨hz, rfl⟩ := q101
    rcases hz with ⟨y14, rfl⟩ | ⟨y14, rfl⟩
    · refine bl_go oX11_stepHere 80 [19, 37, 55, 73, 90, 109, 128] rfl ?_
      refine ⟨fun h104 => ?_, fun h104 => ?_⟩
      · try simp (disch := omega) only [zI_n, zI_o, zI_lit, zI_neg, zI_add, zI_sub, zI_mul, zI_lt, zI_le, zI_eq, zI_clamp, zI_in, zI_div, zI_rem, lg_lt0, lg_gt0, lg_eq0, lg_le0, lg_ge0, Int.toNat_natCast, ge_iff_le, gt_iff_lt, List.length_cons, List.length_nil, bl_up2_at, bl_up2_nk, bl_up2_nx] at h104
        first
        | (exfalso; first | omega | exact h104 trivial)
        | (try dsimp only [bl_pv]
           exact L109 y9 y10 y11 y12 y13 y14)
      · try simp (disch := omega) only [zI_n, zI_o, zI_lit, zI_neg, zI_add, zI_sub, zI_mul, zI_lt, zI_le, zI_eq, zI_clamp, zI_in, zI_div, zI_rem, lg_lt0, lg_gt0, lg_eq0, lg_le0, lg_ge0, Int.toNat_natCast, ge_iff_le, gt_iff_lt, List.length_cons, List.length_nil, bl_up2_at, bl_up2_nk, bl_up2_nx] at h104
        first
        | (exfalso; first | omega | exact h104 trivial)
        | (refine ⟨(fun h => by cases h), ?_⟩
           try show _ ∧ _
           try dsimp only [bl_pv]
           rw [skd_eq, if_neg (wisb_f y9), if_neg (wisb_f y10), if_neg (wisb_f y11), if_neg (wisb_f y12), if_neg (wisb_f y13), if_pos (wisb_t y14)]; exact ⟨rfl, rfl⟩)
    · refine bl_go oX11_stepHere 80 [19, 37, 55, 73, 90, 109, 128] rfl ?_
      refine ⟨fun h104 => ?_, fun h104 => ?_⟩
      · try simp (disch := omega) only [zI_n, zI_o, zI_lit, zI_neg, zI_add, zI_sub, zI_mul, zI_lt, zI_le, zI_eq, zI_clamp, zI_in, zI_div, zI_rem, lg_lt0, lg_gt0, lg_eq0, lg_le0, lg_ge0, Int.toNat_natCast, ge_iff_le, gt_iff_lt, List.length_cons, List.length_nil, bl_up2_at, bl_up2_nk, bl_up2_nx] at h104
        first
        | (exfalso; first | omega | exact h104 trivial)
        | (try dsimp only [bl_pv]
           exact L109 y9 y10 y11 y12 y13 y14)
      · try simp (disch := omega) only [zI_n, zI_o, zI_lit, zI_neg, zI_add, zI_sub, zI_mul, zI_lt, zI_le, zI_eq, zI_clamp, zI_in, zI_div, zI_rem, lg_lt0, lg_gt0, lg_eq0, lg_le0, lg_ge0, Int.toNat_natCast, ge_iff_le, gt_iff_lt, List.length_cons, List.length_nil, bl_up2_at, bl_up2_nk, bl_up2_nx] at h104
        first
        | (exfalso; first | omega | exact h104 trivial)
        | (refine ⟨(fun h => by cases h), ?_⟩
           try show _ ∧ _
           try dsimp only [bl_pv]
           rw [skd_eq, if_neg (wisb_f y9), if_neg (wisb_f y10), if_neg (wisb_f y11), if_neg (wisb_f y12), if_neg (wisb_f y13), if_pos (wisb_t y14)]; exact ⟨rfl, rfl⟩)
  have L73 : ¬ wis (I (m + 8)) p e (byw 9) → ¬ wis (I (m + 8)) p e (byw 10) → ¬ wis (I (m + 8)) p e (byw 11) → ¬ wis (I (m + 8)) p e (byw 12) → bl_WP G l (d + 4) mX11_stepHere 73 [(0, .ref m)] [] (mpI I m (nI n) (nI p) 0 fa, J, R, K, N) (0, 0) (fun o σ' => o = .inl (some (.int (skd (I (m + 8)) p e))) ∧ σ' = (mpI I m (nI n) (nI p) 0 fa, J, R, K, N)) := by
    intro y9 y10 y11 y12
    refine bl_go oX11_stepHere 80 [19, 37, 55, 73, 90, 109, 128] rfl ?_
    refine ⟨rfl, rfl, km, (Nat.le_of_ble_eq_true rfl), (0, 0), Nat.le_of_ble_eq_true rfl, Nat.le_of_ble_eq_true rfl, bl_MC_mono (w13) (fun o82 σ82 q82 => ?_)⟩
    obtain ⟨hz, rfl⟩ := q82
    rcases hz with ⟨y13, rfl⟩ | ⟨y13, rfl⟩
    · refine bl_go oX11_stepHere 80 [19, 37, 55, 73, 90, 109, 128] rfl ?_
      refine ⟨fun h85 => ?_, fun h85 => ?_⟩
      · try simp (disch := omega) only [zI_n, zI_o, zI_lit, zI_neg, zI_add, zI_sub, zI_mul, zI_lt, zI_le, zI_eq, zI_clamp, zI_in, zI_div, zI_rem, lg_lt0, lg_gt0, lg_eq0, lg_le0, lg_ge0, Int.toNat_natCast, ge_iff_le, gt_iff_lt, List.length_cons, List.length_nil, bl_up2_at, bl_up2_nk, bl_up2_nx] at h85
        first
        | (exfalso; first | omega | exact h85 trivial)
        | (try dsimp only [bl_pv]
           exact L90 y9 y10 y11 y12 y13)
      · try simp (disch := omega) only [zI_n, zI_o, zI_lit, zI_neg, zI_add, zI_sub, zI_mul, zI_lt, zI_le, zI_eq, zI_clamp, zI_in, zI_div, zI_rem, lg_lt0, lg_gt0, lg_eq0, lg_le0, lg_ge0, Int.toNat_natCast, ge_iff_le, gt_iff_lt, List.length_cons, List.length_nil, bl_up2_at, bl_up2_nk, bl_up2_nx] at h85
        first
        | (exfalso; first | omega | exact h85 trivial)
        | (refine ⟨(fun h => by cases h), ?_⟩
           try show _ ∧ _
           try dsimp only [bl_pv]
           rw [skd_eq, if_neg (wisb_f y9), if_neg (wisb_f y10), if_neg (wisb_f y11), if_neg (wisb_f y12), if_pos (wisb_t y13)]; exact ⟨rfl, rfl⟩)
    · refine bl_go oX11_stepHere 80 [19, 37, 55, 73, 90, 109, 128] rfl ?_
      refine ⟨fun h85 => ?_, fun h85 => ?_⟩
      · try simp (disch := omega) only [zI_n, zI_o, zI_lit, zI_neg, zI_add, zI_sub, zI_mul, zI_lt, zI_le, zI_eq, zI_clamp, zI_in, zI_div, zI_rem, lg_lt0, lg_gt0, lg_eq0, lg_le0, lg_ge0, Int.toNat_natCast, ge_iff_le, gt_iff_lt, List.length_cons, List.length_nil, bl_up2_at, bl_up2_nk, bl_up2_nx] at h85
        first
        | (exfalso; first | omega | exact h85 trivial)
        | (try dsimp only [bl_pv]
           exact L90 y9 y10 y11 y12 y13)
      · try simp (disch := omega) only [zI_n, zI_o, zI_lit, zI_neg, zI_add, zI_sub, zI_mul, zI_lt, zI_le, zI_eq, zI_clamp, zI_in, zI_div, zI_rem, lg_lt0, lg_gt0, lg_eq0, lg_le0, lg_ge0, Int.toNat_natCast, ge_iff_le, gt_iff_lt, List.length_cons, List.length_nil, bl_up2_at, bl_up2_nk, bl_up2_nx] at h85
        first
        | (exfalso; first | omega | exact h85 trivial)
        | (refine ⟨(fun h => by cases h), ?_⟩
           try show _ ∧ _
           try dsimp only [bl_pv]
           rw [skd_eq, if_neg (wisb_f y9), if_neg (wisb_f y10), if_neg (wisb_f y11), if_neg (wisb_f y12), if_pos (wisb_t y13)]; exact ⟨rfl, rfl⟩)
  have L55 : ¬ wis (I (m + 8)) p e (byw 9) → ¬ wis (I (m + 8)) p e (byw 10) → ¬ wis (I (m + 8)) p e (byw 11) → bl_WP G l (d + 4) mX11_stepHere 55 [(0, .ref m)] [] (mpI I m (nI n) (nI p) 0 fa, J, R, K, N) (0, 0) (fun o σ' => o = .inl (some (.int (skd (I (m + 8)) p e))) ∧ σ' = (mpI I m (nI n) (nI p) 0 fa, J, R, K, N)) := by
    intro y9 y10 y11
    refine bl_go oX11_stepHere 80 [19, 37, 55, 73, 90, 109, 128] rfl ?_
    refine ⟨rfl, rfl, km, (Nat.le_of_ble_eq_true rfl), (0, 0), Nat.le_of_ble_eq_true rfl, Nat.le_of_ble_eq_true rfl, bl_MC_mono (w12) (fun o65 σ65 q65 => ?_)⟩
    obtain ⟨hz, rfl⟩ := q65
    rcases hz with ⟨y12, rfl⟩ | ⟨y12, rfl⟩
    · refine bl_go oX11_stepHere 80 [19, 37, 55, 73, 90, 109, 128] rfl ?_
      refine ⟨fun h68 => ?_, fun h68 => ?_⟩
      · try simp (disch := omega) only [zI_n, zI_o, zI_lit, zI_neg, zI_add, zI_sub, zI_mul, zI_lt, zI_le, zI_eq, zI_clamp, zI_in, zI_div, zI_rem, lg_lt0, lg_gt0, lg_eq0, lg_le0, lg_ge0, Int.toNat_natCast, ge_iff_le, gt_iff_lt, List.length_cons, List.length_nil, bl_up2_at, bl_up2_nk, bl_up2_nx] at h68
        first
        | (exfalso; first | omega | exact h68 trivial)
        | (try dsimp only [bl_pv]
           exact L73 y9 y10 y11 y12)
      · try simp (disch := omega) only [zI_n, zI_o, zI_lit, zI_neg, zI_add, zI_sub, zI_mul, zI_lt, zI_le, zI_eq, zI_clamp, zI_in, zI_div, zI_rem, lg_lt0, lg_gt0, lg_eq0, lg_le0, lg_ge0, Int.toNat_natCast, ge_iff_le, gt_iff_lt, List.length_cons, List.length_nil, bl_up2_at, bl_up2_nk, bl_up2_nx] at h68
        first
        | (exfalso; first | omega | exact h68 trivial)
        | (refine ⟨(fun h => by cases h), ?_⟩
           try show _ ∧ _
           try dsimp only [bl_pv]
           rw [skd_eq, if_neg (wisb_f y9), if_neg (wisb_f y10), if_neg (wisb_f y11), if_pos (wisb_t y12)]; exact ⟨rfl, rfl⟩)
    · refine bl_go oX11_stepHere 80 [19, 37, 55, 73, 90, 109, 128] rfl ?_
      refine ⟨fun h68 => ?_, fun h68 => ?_⟩
      · try simp (disch := omega) only [zI_n, zI_o, zI_lit, zI_neg, zI_add, zI_sub, zI_mul, zI_lt, zI_le, zI_eq, zI_clamp, zI_in, zI_div, zI_rem, lg_lt0, lg_gt0, lg_eq0, lg_le0, lg_ge0, Int.toNat_natCast, ge_iff_le, gt_iff_lt, List.length_cons, List.length_nil, bl_up2_at, bl_up2_nk, bl_up2_nx] at h68
        first
        | (exfalso; first | omega | exact h68 trivial)
        | (try dsimp only [bl_pv]
           exact L73 y9 y10 y11 y12)
      · try simp (disch := omega) only [zI_n, zI_o, zI_lit, zI_neg, zI_add, zI_sub, zI_mul, zI_lt, zI_le, zI_eq, zI_clamp, zI_in, zI_div, zI_rem, lg_lt0, lg_gt0, lg_eq0, lg_le0, lg_ge0, Int.toNat_natCast, ge_iff_le, gt_iff_lt, List.length_cons, List.length_nil, bl_up2_at, bl_up2_nk, bl_up2_nx] at h68
        first
        | (exfalso; first | omega | exact h68 trivial)
        | (refine ⟨(fun h => by cases h), ?_⟩
           try show _ ∧ _
           try dsimp only [bl_pv]
           rw [skd_eq, if_neg (wisb_f y9), if_neg (wisb_f y10), if_neg (wisb_f y11), if_pos (wisb_t y12)]; exact ⟨rfl, rfl⟩)
  have L37 : ¬ wis (I (m + 8)) p e (byw 9) → ¬ wis (I (m + 8)) p e (byw 10) → bl_WP G l (d + 4) mX11_stepHere 37 [(0, .ref m)] [] (mpI I m (nI n) (nI p) 0 fa, J, R, K, N) (0, 0) (fun o σ' => o = .inl (some (.int (skd (I (m + 8)) p e))) ∧ σ' = (mpI I m (nI n) (nI p) 0 fa, J, R, K, N)) := by
    intro y9 y10
    refine bl_go oX11_stepHere 80 [19, 37, 55, 73, 90, 109, 128] rfl ?_
    refine ⟨rfl, rfl, km, (Nat.le_of_ble_eq_true rfl), (0, 0), Nat.le_of_ble_eq_true rfl, Nat.le_of_ble_eq_true rfl, bl_MC_mono (w11) (fun o47 σ47 q47 => ?_)⟩
    obtain ⟨hz, rfl⟩ := q47
    rcases hz with ⟨y11, rfl⟩ | ⟨y11, rfl⟩
    · refine bl_go oX11_stepHere 80 [19, 37, 55, 73, 90, 109, 128] rfl ?_
      refine ⟨fun h50 => ?_, fun h50 => ?_⟩
      · try simp (disch := omega) only [zI_n, zI_o, zI_lit, zI_neg, zI_add, zI_sub, zI_mul, zI_lt, zI_le, zI_eq, zI_clamp, zI_in, zI_div, zI_rem, lg_lt0, lg_gt0, lg_eq0, lg_le0, lg_ge0, Int.toNat_natCast, ge_iff_le, gt_iff_lt, List.length_cons, List.length_nil, bl_up2_at, bl_up2_nk, bl_up2_nx] at h50
        first
        | (exfalso; first | omega | exact h50 trivial)
        | (try dsimp only [bl_pv]
           exact L55 y9 y10 y11)
      · try simp (disch := omega) only [zI_n, zI_o, zI_lit, zI_neg, zI_add, zI_sub, zI_mul, zI_lt, zI_le, zI_eq, zI_clamp, zI_in, zI_div, zI_rem, lg_lt0, lg_gt0, lg_eq0, lg_le0, lg_ge0, Int.toNat_natCast, ge_iff_le, gt_iff_lt, List.length_cons, List.length_nil, bl_up2_at, bl_up2_nk, bl_up2_nx] at h50
        first
        | (exfalso; first | omega | exact h50 trivial)
        | (refine ⟨(fun h => by cases h), ?_⟩
           try show _ ∧ _
           try dsimp only [bl_pv]
           rw [skd_eq, if_neg (wisb_f y9), if_neg (wisb_f y10), if_pos (wisb_t y11)]; exact ⟨rfl, rfl⟩)
    · refine bl_go oX11_stepHere 80 [19, 37, 55, 73, 90, 109, 128] rfl ?_
      refine ⟨fun h50 => ?_, fun h50 => ?_⟩
      · try simp (disch := omega) only [zI_n, zI_o, zI_lit, zI_neg, zI_add, zI_sub, zI_mul, zI_lt, zI_le, zI_eq, zI_clamp, zI_in, zI_div, zI_rem, lg_lt0, lg_gt0, lg_eq0, lg_le0, lg_ge0, Int.toNat_natCast, ge_iff_le, gt_iff_lt, List.length_cons, List.length_nil, bl_up2_at, bl_up2_nk, bl_up2_nx] at h50
        first
        | (exfalso; first | omega | exact h50 trivial)
        | (try dsimp only [bl_pv]
           exact L55 y9 y10 y11)
      · try simp (disch := omega) only [zI_n, zI_o, zI_lit, zI_neg, zI_add, zI_sub, zI_mul, zI_lt, zI_le, zI_eq, zI_clamp, zI_in, zI_div, zI_rem, lg_lt0, lg_gt0, lg_eq0, lg_le0, lg_ge0, Int.toNat_natCast, ge_iff_le, gt_iff_lt, List.length_cons, List.length_nil, bl_up2_at, bl_up2_nk, bl_up2_nx] at h50
        first
        | (exfalso; first | omega | exact h50 trivial)
        | (refine ⟨(fun h => by cases h), ?_⟩
           try show _ ∧ _
           try dsimp only [bl_pv]
           rw [skd_eq, if_neg (wisb_f y9), if_neg (wisb_f y10), if_pos (wisb_t y11)]; exact ⟨rfl, rfl⟩)
  have L19 : ¬ wis (I (m + 8)) p e (byw 9) → bl_WP G l (d + 4) mX11_stepHere 19 [(0, .ref m)] [] (mpI I m (nI n) (nI p) 0 fa, J, R, K, N) (0, 0) (fun o σ' => o = .inl (some (.int (skd (I (m + 8)) p e))) ∧ σ' = (mpI I m (nI n) (nI p) 0 fa, J, R, K, N)) := by
    intro y9
    refine bl_go oX11_stepHere 80 [19, 37, 55, 73, 90, 109, 128] rfl ?_
    refine ⟨rfl, rfl, km, (Nat.le_of_ble_eq_true rfl), (0, 0), Nat.le_of_ble_eq_true rfl, Nat.le_of_ble_eq_true rfl, bl_MC_mono (w10) (fun o29 σ29 q29 => ?_)⟩
    obtain ⟨hz, rfl⟩ := q29
    rcases hz with ⟨y10, rfl⟩ | ⟨y10, rfl⟩
    · refine bl_go oX11_stepHere 80 [19, 37, 55, 73, 90, 109, 128] rfl ?_
      refine ⟨fun h32 => ?_, fun h32 => ?_⟩
      · try simp (disch := omega) only [zI_n, zI_o, zI_lit, zI_neg, zI_add, zI_sub, zI_mul, zI_lt, zI_le, zI_eq, zI_clamp, zI_in, zI_div, zI_rem, lg_lt0, lg_gt0, lg_eq0, lg_le0, lg_ge0, Int.toNat_natCast, ge_iff_le, gt_iff_lt, List.length_cons, List.length_nil, bl_up2_at, bl_up2_nk, bl_up2_nx] at h32
        first
        | (exfalso; first | omega | exact h32 trivial)
        | (try dsimp only [bl_pv]
           exact L37 y9 y10)
      · try simp (disch := omega) only [zI_n, zI_o, zI_lit, zI_neg, zI_add, zI_sub, zI_mul, zI_lt, zI_le, zI_eq, zI_clamp, zI_in, zI_div, zI_rem, lg_lt0, lg_gt0, lg_eq0, lg_le0, lg_ge0, Int.toNat_natCast, ge_iff_le, gt_iff_lt, List.length_cons, List.length_nil, bl_up2_at, bl_up2_nk, bl_up2_nx] at h32
        first
        | (exfalso; first | omega | exact h32 trivial)
        | (refine ⟨(fun h => by cases h), ?_⟩
           try show _ ∧ _
           try dsimp only [bl_pv]
           rw [skd_eq, if_neg (wisb_f y9), if_pos (wisb_t y10)]; exact ⟨rfl, rfl⟩)
    · refine bl_go oX11_stepHere 80 [19, 37, 55, 73, 90, 109, 128] rfl ?_
      refine ⟨fun h32 => ?_, fun h32 => ?_⟩
      · try simp (disch := omega) only [zI_n, zI_o, zI_lit, zI_neg, zI_add, zI_sub, zI_mul, zI_lt, zI_le, zI_eq, zI_clamp, zI_in, zI_div, zI_rem, lg_lt0, lg_gt0, lg_eq0, lg_le0, lg_ge0, Int.toNat_natCast, ge_iff_le, gt_iff_lt, List.length_cons, List.length_nil, bl_up2_at, bl_up2_nk, bl_up2_nx] at h32
        first
        | (exfalso; first | omega | exact h32 trivial)
        | (try dsimp only [bl_pv]
           exact L37 y9 y10)
      · try simp (disch := omega) only [zI_n, zI_o, zI_lit, zI_neg, zI_add, zI_sub, zI_mul, zI_lt, zI_le, zI_eq, zI_clamp, zI_in, zI_div, zI_rem, lg_lt0, lg_gt0, lg_eq0, lg_le0, lg_ge0, Int.toNat_natCast, ge_iff_le, gt_iff_lt, List.length_cons, List.length_nil, bl_up2_at, bl_up2_nk, bl_up2_nx] at h32
        first
        | (exfalso; first | omega | exact h32 trivial)
        | (refine ⟨(fun h => by cases h), ?_⟩
           try show _ ∧ _
           try dsimp only [bl_pv]
           rw [skd_eq, if_neg (wisb_f y9), if_pos (wisb_t y10)]; exact ⟨rfl, rfl⟩)
  refine bl_go oX11_stepHere 80 [19, 37, 55, 73, 90, 109, 128] rfl ?_
  refine ⟨rfl, rfl, km, (Nat.le_of_ble_eq_true rfl), (0, 0), Nat.le_of_ble_eq_true rfl, Nat.le_of_ble_eq_true rfl, bl_MC_mono (w9) (fun o11 σ11 q11 => ?_)⟩
  obtain ⟨hz, rfl⟩ := q11
  rcases hz with ⟨y9, rfl⟩ | ⟨y9, rfl⟩
  · refine bl_go oX11_stepHere 80 [19, 37, 55, 73, 90, 109, 128] rfl ?_
    refine ⟨fun h14 => ?_, fun h14 => ?_⟩
    · try simp (disch := omega) only [zI_n, zI_o, zI_lit, zI_neg, zI_add, zI_sub, zI_mul, zI_lt, zI_le, zI_eq, zI_clamp, zI_in, zI_div, zI_rem, lg_lt0, lg_gt0, lg_eq0, lg_le0, lg_ge0, Int.toNat_natCast, ge_iff_le, gt_iff_lt, List.length_cons, List.length_nil, bl_up2_at, bl_up2_nk, bl_up2_nx] at h14
      first
      | (exfalso; first | omega | exact h14 trivial)
      | (try dsimp only [bl_pv]
         exact L19 y9)
    · try simp (disch := omega) only [zI_n, zI_o, zI_lit, zI_neg, zI_add, zI_sub, zI_mul, zI_lt, zI_le, zI_eq, zI_clamp, zI_in, zI_div, zI_rem, lg_lt0, lg_gt0, lg_eq0, lg_le0, lg_ge0, Int.toNat_natCast, ge_iff_le, gt_iff_lt, List.length_cons, List.length_nil, bl_up2_at, bl_up2_nk, bl_up2_nx] at h14
      first
      | (exfalso; first | omega | exact h14 trivial)
      | (refine ⟨(fun h => by cases h), ?_⟩
         try show _ ∧ _
         try dsimp only [bl_pv]
         rw [skd_eq, if_pos (wisb_t y9)]; exact ⟨rfl, rfl⟩)
  · refine bl_go oX11_stepHere 80 [19, 37, 55, 73, 90, 109, 128] rfl ?_
    refine ⟨fun h14 => ?_, fun h14 => ?_⟩
    · try simp (disch := omega) only [zI_n, zI_o, zI_lit, zI_neg, zI_add, zI_sub, zI_mul, zI_lt, zI_le, zI_eq, zI_clamp, zI_in, zI_div, zI_rem, lg_lt0, lg_gt0, lg_eq0, lg_le0, lg_ge0, Int.toNat_natCast, ge_iff_le, gt_iff_lt, List.length_cons, List.length_nil, bl_up2_at, bl_up2_nk, bl_up2_nx] at h14
      first
      | (exfalso; first | omega | exact h14 trivial)
      | (try dsimp only [bl_pv]
         exact L19 y9)
    · try simp (disch := omega) only [zI_n, zI_o, zI_lit, zI_neg, zI_add, zI_sub, zI_mul, zI_lt, zI_le, zI_eq, zI_clamp, zI_in, zI_div, zI_rem, lg_lt0, lg_gt0, lg_eq0, lg_le0, lg_ge0, Int.toNat_natCast, ge_iff_le, gt_iff_lt, List.length_cons, List.length_nil, bl_up2_at, bl_up2_nk, bl_up2_nx] at h14
      first
      | (exfalso; first | omega | exact h14 trivial)
      | (refine ⟨(fun h => by cases h), ?_⟩
         try show _ ∧ _
         try dsimp only [bl_pv]
         rw [skd_eq, if_pos (wisb_t y9)]; exact ⟨rfl, rfl⟩)
end MODEL4
