/-! ===== Model: numbers, signs, words ===== -/
section MODEL2
variable {G : bl_G} {l : Launch} {d m : Nat} {I : Nat → Nat → Int32} {J : Nat → Nat → Int64} {R : Nat → Nat → Option Nat} {K N : Nat → Nat} {ft fa : Int32} {n i : Nat}
theorem c_Model_numberF {sz at' x y : Int32} (km : K m = 12) (hf : ft ≠ 0) : bl_MC G l d mX11_number [.ref m, .int x, .int y] (mpI I m sz at' ft fa, J, R, K, N) (0, 0) (fun o σ' => o = .inl (some (.int 0)) ∧ σ' = (mpI I m sz at' ft fa, J, R, K, N)) := by
  refine bl_MC_intro (by decide +kernel) rfl (Nat.le_of_ble_eq_true rfl) ?_
  refine bl_go oX11_number 80 [] rfl ?_
  refine ⟨km, fun h4 => ?_, fun h4 => ?_⟩
  · try simp (disch := omega) only [bl_pv, cl0, cl1, cl2, cl3, cl4, cl5, cl6, cl7, cl8, cl9, bl_up2_at, bl_up2_nk, bl_up2_nx] at h4
    exact absurd (mp5.symm.trans h4) hf
  · try simp (disch := omega) only [bl_pv, cl0, cl1, cl2, cl3, cl4, cl5, cl6, cl7, cl8, cl9, bl_up2_at, bl_up2_nk, bl_up2_nx] at h4
    refine ⟨(fun h => by cases h), ?_⟩
    try show _ ∧ _
    try dsimp only [bl_pv]
    exact ⟨rfl, rfl⟩
theorem c_Model_number {lo hi : Nat} {x y : Int32} (hm : mdS R K N m) (hn : n ≤ 400) (hi' : i ≤ n) (hx : x = nI lo) (hy : y = nI hi) (hlo : lo ≤ hi) (hhi : hi ≤ 9999) : bl_MC G l (d + 2) mX11_number [.ref m, .int x, .int y] (mpI I m (nI n) (nI i) 0 fa, J, R, K, N) (0, 0) (fun o σ' => (∃ v e, pnum (I (m + 8)) n lo hi i = .inl (v, e) ∧ o = .inl (some (.int (nI v))) ∧ σ' = (mpI I m (nI n) (nI e) 0 fa, J, R, K, N)) ∨ (∃ k p e, pnum (I (m + 8)) n lo hi i = .inr (k, p) ∧ (k = 1 ∨ k = 2) ∧ e ≤ n ∧ o = .inl (some (.int 0)) ∧ σ' = (mpI I m (nI n) (nI e) (nI k) (nI p), J, R, K, N))) := by
  have km := hm.2.1
  have hp : skB (I (m + 8)) n i ≤ n := skB_le hi'
  unfold pnum
  have hBl := c_Model_blanks (d := d) (G := G) (l := l) (J := J) (I := I) (ft := 0) (fa := fa) hm hn hi'
  generalize hpe : skB (I (m + 8)) n i = p at *
  subst hx hy
  refine bl_MC_intro (by decide +kernel) rfl (Nat.le_of_ble_eq_true rfl) ?_
  have hsat : min (nmv (I (m + 8)) p (skD (I (m + 8)) n p - p)) 100000 ≤ 100000 := Nat.min_le_right _ _
  have L106a : skD (I (m + 8)) n p = p → ∀ z, z = nI 0 → bl_WP G l (d + 2) mX11_number 106 [(4, .int z), (3, .int (nI p)), (0, .ref m), (1, .int (nI lo)), (2, .int (nI hi))] [] (mpI I m (nI n) (nI p) (nI 1) (nI p), J, R, K, N) (0, 0) (fun o σ' => (∃ v e, (if skD (I (m + 8)) n p = p then .inr (1, p) else if lo ≤ nmv (I (m + 8)) p (skD (I (m + 8)) n p - p) ∧ nmv (I (m + 8)) p (skD (I (m + 8)) n p - p) ≤ hi then .inl (nmv (I (m + 8)) p (skD (I (m + 8)) n p - p), skD (I (m + 8)) n p) else .inr (2, p) : pr (Nat × Nat)) = .inl (v, e) ∧ o = .inl (some (.int (nI v))) ∧ σ' = (mpI I m (nI n) (nI e) 0 fa, J, R, K, N)) ∨ (∃ k q e, (if skD (I (m + 8)) n p = p then .inr (1, p) else if lo ≤ nmv (I (m + 8)) p (skD (I (m + 8)) n p - p) ∧ nmv (I (m + 8)) p (skD (I (m + 8)) n p - p) ≤ hi then .inl (nmv (I (m + 8)) p (skD (I (m + 8)) n p - p), skD (I (m + 8)) n p) else .inr (2, p) : pr (Nat × Nat)) = .inr (k, q) ∧ (k = 1 ∨ k = 2) ∧ e ≤ n ∧ o = .inl (some (.int 0)) ∧ σ' = (mpI I m (nI n) (nI e) (nI k) (nI q), J, R, K, N))) := by
    intro he z hz
    subst hz
    have hz1 : (nI 1 : Int32) ≠ 0 := by decide
    refine bl_go oX11_number 80 [44, 77, 93, 106] rfl ?_
    refine ⟨rfl, (Nat.le_of_ble_eq_true rfl), (0, 0), Nat.le_of_ble_eq_true rfl, Nat.le_of_ble_eq_true rfl, bl_MC_mono (c_Model_inN (d := d + 1) (a := 0) (b := lo) (c := hi) rfl rfl rfl (by omega) (by omega) (by omega)) (fun o110 σ110 q110 => ?_)⟩
    try dsimp only [bl_pv] at q110
    obtain ⟨hz, rfl⟩ := q110
    have hz' : ∃ w, o110 = .inl (some (.int w)) := by
      rcases hz with ⟨_, _, h⟩ | ⟨_, h⟩
      · exact ⟨_, h⟩
      · exact ⟨_, h⟩
    obtain ⟨w, rfl⟩ := hz'
    refine bl_go oX11_number 80 [44, 77, 93, 106] rfl ?_
    refine ⟨fun h113 => ?_, fun h113 => ?_⟩
    · try simp (disch := omega) only [zI_n, zI_o, zI_lit, zI_neg, zI_add, zI_sub, zI_mul, zI_lt, zI_le, zI_eq, zI_clamp, zI_in, zI_div, zI_rem, lg_lt0, lg_gt0, lg_eq0, lg_le0, lg_ge0, Int.toNat_natCast, ge_iff_le, gt_iff_lt, List.length_cons, List.length_nil, bl_up2_at, bl_up2_nk, bl_up2_nx] at h113
      first
      | (exfalso; first | omega | exact h113 trivial)
      | (refine ⟨km, fun h126 => ?_, fun h126 => ?_⟩
         · try simp (disch := omega) only [bl_pv, cl0, cl1, cl2, cl3, cl4, cl5, cl6, cl7, cl8, cl9, bl_up2_at, bl_up2_nk, bl_up2_nx] at h126
           first
           | (exfalso; first | omega | exact h126 trivial)
           | (refine ⟨(fun h => by cases h), ?_⟩
              try show _ ∧ _
              try dsimp only [bl_pv]
              exact Or.inr ⟨1, p, p, by rw [if_pos he], Or.inl rfl, hp, rfl, rfl⟩)
         · try simp (disch := omega) only [bl_pv, cl0, cl1, cl2, cl3, cl4, cl5, cl6, cl7, cl8, cl9, bl_up2_at, bl_up2_nk, bl_up2_nx] at h126
           exact absurd (mp5.symm.trans h126) hz1)
    · try simp (disch := omega) only [zI_n, zI_o, zI_lit, zI_neg, zI_add, zI_sub, zI_mul, zI_lt, zI_le, zI_eq, zI_clamp, zI_in, zI_div, zI_rem, lg_lt0, lg_gt0, lg_eq0, lg_le0, lg_ge0, Int.toNat_natCast, ge_iff_le, gt_iff_lt, List.length_cons, List.length_nil, bl_up2_at, bl_up2_nk, bl_up2_nx] at h113
      first
      | (exfalso; first | omega | exact h113 trivial)
      | (refine ⟨rfl, rfl, km, (Nat.le_of_ble_eq_true rfl), (0, 0), Nat.le_of_ble_eq_true rfl, Nat.le_of_ble_eq_true rfl, bl_MC_mono (c_Model_wrong0 (d := d + 1) km) (fun o119 σ119 q119 => ?_)⟩
         try dsimp only [bl_pv] at q119
         obtain ⟨rfl, hq⟩ := q119
         rcases hq with ⟨h, _⟩ | ⟨_, rfl⟩
         · exact absurd h hz1
         refine bl_go oX11_number 80 [44, 77, 93, 106] rfl ?_
         refine ⟨km, fun h126 => ?_, fun h126 => ?_⟩
         · try simp (disch := omega) only [bl_pv, cl0, cl1, cl2, cl3, cl4, cl5, cl6, cl7, cl8, cl9, bl_up2_at, bl_up2_nk, bl_up2_nx] at h126
           first
           | (exfalso; first | omega | exact h126 trivial)
           | (refine ⟨(fun h => by cases h), ?_⟩
              try show _ ∧ _
              try dsimp only [bl_pv]
              exact Or.inr ⟨1, p, p, by rw [if_pos he], Or.inl rfl, hp, rfl, rfl⟩)
         · try simp (disch := omega) only [bl_pv, cl0, cl1, cl2, cl3, cl4, cl5, cl6, cl7, cl8, cl9, bl_up2_at, bl_up2_nk, bl_up2_nx] at h126
           exact absurd (mp5.symm.trans h126) hz1)
  have L106b : skD (I (m + 8)) n p ≠ p → ∀ z e, e = skD (I (m + 8)) n p → z = nI (min (nmv (I (m + 8)) p (e - p)) 100000) → bl_WP G l (d + 2) mX11_number 106 [(4, .int z), (3, .int (nI p)), (0, .ref m), (1, .int (nI lo)), (2, .int (nI hi))] [] (mpI I m (nI n) (nI e) 0 fa, J, R, K, N) (0, 0) (fun o σ' => (∃ v e, (if skD (I (m + 8)) n p = p then .inr (1, p) else if lo ≤ nmv (I (m + 8)) p (skD (I (m + 8)) n p - p) ∧ nmv (I (m + 8)) p (skD (I (m + 8)) n p - p) ≤ hi then .inl (nmv (I (m + 8)) p (skD (I (m + 8)) n p - p), skD (I (m + 8)) n p) else .inr (2, p) : pr (Nat × Nat)) = .inl (v, e) ∧ o = .inl (some (.int (nI v))) ∧ σ' = (mpI I m (nI n) (nI e) 0 fa, J, R, K, N)) ∨ (∃ k q e, (if skD (I (m + 8)) n p = p then .inr (1, p) else if lo ≤ nmv (I (m + 8)) p (skD (I (m + 8)) n p - p) ∧ nmv (I (m + 8)) p (skD (I (m + 8)) n p - p) ≤ hi then .inl (nmv (I (m + 8)) p (skD (I (m + 8)) n p - p), skD (I (m + 8)) n p) else .inr (2, p) : pr (Nat × Nat)) = .inr (k, q) ∧ (k = 1 ∨ k = 2) ∧ e ≤ n ∧ o = .inl (some (.int 0)) ∧ σ' = (mpI I m (nI n) (nI e) (nI k) (nI q), J, R, K, N))) := by
    intro he z e hee hz
    subst hee hz
    have hle : skD (I (m + 8)) n p ≤ n := skD_le hp
    refine bl_go oX11_number 80 [44, 77, 93, 106] rfl ?_
    refine ⟨rfl, (Nat.le_of_ble_eq_true rfl), (0, 0), Nat.le_of_ble_eq_true rfl, Nat.le_of_ble_eq_true rfl, bl_MC_mono (c_Model_inN (d := d + 1) (b := lo) (c := hi) rfl rfl rfl (by omega) (by omega) (by omega)) (fun o110 σ110 q110 => ?_)⟩
    obtain ⟨hz, rfl⟩ := q110
    rcases hz with ⟨h1, h2, rfl⟩ | ⟨h1, rfl⟩
    · refine bl_go oX11_number 80 [44, 77, 93, 106] rfl ?_
      refine ⟨fun h113 => ?_, fun h113 => ?_⟩
      · try simp (disch := omega) only [zI_n, zI_o, zI_lit, zI_neg, zI_add, zI_sub, zI_mul, zI_lt, zI_le, zI_eq, zI_clamp, zI_in, zI_div, zI_rem, lg_lt0, lg_gt0, lg_eq0, lg_le0, lg_ge0, Int.toNat_natCast, ge_iff_le, gt_iff_lt, List.length_cons, List.length_nil, bl_up2_at, bl_up2_nk, bl_up2_nx] at h113
        first
        | (exfalso; first | omega | exact h113 trivial)
        | (refine ⟨km, fun h126 => ?_, fun h126 => ?_⟩
           · try simp (disch := omega) only [bl_pv, cl0, cl1, cl2, cl3, cl4, cl5, cl6, cl7, cl8, cl9, bl_up2_at, bl_up2_nk, bl_up2_nx] at h126
             first
             | exact absurd mp5 h126
             | (refine ⟨(fun h => by cases h), ?_⟩
                show _ ∨ _
                exact Or.inr ⟨2, p, _, by rw [if_neg he, if_neg (by omega)], Or.inr rfl, hle, rfl, rfl⟩)
           · try simp (disch := omega) only [bl_pv, cl0, cl1, cl2, cl3, cl4, cl5, cl6, cl7, cl8, cl9, bl_up2_at, bl_up2_nk, bl_up2_nx] at h126
             first
             | exact absurd (mp5.symm.trans h126) (by decide)
             | (refine ⟨(fun h => by cases h), ?_⟩
                show _ ∨ _
                refine Or.inl ⟨_, _, by rw [if_neg he, if_pos (by omega)], ?_, rfl⟩
                rw [show min (nmv (I (m + 8)) p (skD (I (m + 8)) n p - p)) 100000 = nmv (I (m + 8)) p (skD (I (m + 8)) n p - p) by omega]))
      · try simp (disch := omega) only [zI_n, zI_o, zI_lit, zI_neg, zI_add, zI_sub, zI_mul, zI_lt, zI_le, zI_eq, zI_clamp, zI_in, zI_div, zI_rem, lg_lt0, lg_gt0, lg_eq0, lg_le0, lg_ge0, Int.toNat_natCast, ge_iff_le, gt_iff_lt, List.length_cons, List.length_nil, bl_up2_at, bl_up2_nk, bl_up2_nx] at h113
        first
        | (exfalso; first | omega | exact h113 trivial)
        | (refine ⟨rfl, rfl, km, (Nat.le_of_ble_eq_true rfl), (0, 0), Nat.le_of_ble_eq_true rfl, Nat.le_of_ble_eq_true rfl, bl_MC_mono (c_Model_wrong0 (d := d + 1) km) (fun o119 σ119 q119 => ?_)⟩
           try dsimp only [bl_pv] at q119
           obtain ⟨rfl, hq⟩ := q119
           rcases hq with ⟨_, rfl⟩ | ⟨h, _⟩
           rotate_left
           · exact absurd rfl h
           refine bl_go oX11_number 80 [44, 77, 93, 106] rfl ?_
           refine ⟨km, fun h126 => ?_, fun h126 => ?_⟩
           · try simp (disch := omega) only [bl_pv, cl0, cl1, cl2, cl3, cl4, cl5, cl6, cl7, cl8, cl9, bl_up2_at, bl_up2_nk, bl_up2_nx] at h126
             first
             | exact absurd mp5 h126
             | (refine ⟨(fun h => by cases h), ?_⟩
                show _ ∨ _
                exact Or.inr ⟨2, p, _, by rw [if_neg he, if_neg (by omega)], Or.inr rfl, hle, rfl, rfl⟩)
           · try simp (disch := omega) only [bl_pv, cl0, cl1, cl2, cl3, cl4, cl5, cl6, cl7, cl8, cl9, bl_up2_at, bl_up2_nk, bl_up2_nx] at h126
             first
             | exact absurd (mp5.symm.trans h126) (by decide)
             | (refine ⟨(fun h => by cases h), ?_⟩
                show _ ∨ _
                refine Or.inl ⟨_, _, by rw [if_neg he, if_pos (by omega)], ?_, rfl⟩
                rw [show min (nmv (I (m + 8)) p (skD (I (m + 8)) n p - p)) 100000 = nmv (I (m + 8)) p (skD (I (m + 8)) n p - p) by omega]))
    · refine bl_go oX11_number 80 [44, 77, 93, 106] rfl ?_
      refine ⟨fun h113 => ?_, fun h113 => ?_⟩
      · try simp (disch := omega) only [zI_n, zI_o, zI_lit, zI_neg, zI_add, zI_sub, zI_mul, zI_lt, zI_le, zI_eq, zI_clamp, zI_in, zI_div, zI_rem, lg_lt0, lg_gt0, lg_eq0, lg_le0, lg_ge0, Int.toNat_natCast, ge_iff_le, gt_iff_lt, List.length_cons, List.length_nil, bl_up2_at, bl_up2_nk, bl_up2_nx] at h113
        first
        | (exfalso; first | omega | exact h113 trivial)
        | (refine ⟨km, fun h126 => ?_, fun h126 => ?_⟩
           · try simp (disch := omega) only [bl_pv, cl0, cl1, cl2, cl3, cl4, cl5, cl6, cl7, cl8, cl9, bl_up2_at, bl_up2_nk, bl_up2_nx] at h126
             first
             | exact absurd mp5 h126
             | (refine ⟨(fun h => by cases h), ?_⟩
                show _ ∨ _
                exact Or.inr ⟨2, p, _, by rw [if_neg he, if_neg (by omega)], Or.inr rfl, hle, rfl, rfl⟩)
           · try simp (disch := omega) only [bl_pv, cl0, cl1, cl2, cl3, cl4, cl5, cl6, cl7, cl8, cl9, bl_up2_at, bl_up2_nk, bl_up2_nx] at h126
             first
             | exact absurd (mp5.symm.trans h126) (by decide)
             | (refine ⟨(fun h => by cases h), ?_⟩
                show _ ∨ _
                refine Or.inl ⟨_, _, by rw [if_neg he, if_pos (by omega)], ?_, rfl⟩
                rw [show min (nmv (I (m + 8)) p (skD (I (m + 8)) n p - p)) 100000 = nmv (I (m + 8)) p (skD (I (m + 8)) n p - p) by omega]))
      · try simp (disch := omega) only [zI_n, zI_o, zI_lit, zI_neg, zI_add, zI_sub, zI_mul, zI_lt, zI_le, zI_eq, zI_clamp, zI_in, zI_div, zI_rem, lg_lt0, lg_gt0, lg_eq0, lg_le0, lg_ge0, Int.toNat_natCast, ge_iff_le, gt_iff_lt, List.length_cons, List.length_nil, bl_up2_at, bl_up2_nk, bl_up2_nx] at h113
        first
        | (exfalso; first | omega | exact h113 trivial)
        | (refine ⟨rfl, rfl, km, (Nat.le_of_ble_eq_true rfl), (0, 0), Nat.le_of_ble_eq_true rfl, Nat.le_of_ble_eq_true rfl, bl_MC_mono (c_Model_wrong0 (d := d + 1) km) (fun o119 σ119 q119 => ?_)⟩
           try dsimp only [bl_pv] at q119
           obtain ⟨rfl, hq⟩ := q119
           rcases hq with ⟨_, rfl⟩ | ⟨h, _⟩
           rotate_left
           · exact absurd rfl h
           refine bl_go oX11_number 80 [44, 77, 93, 106] rfl ?_
           refine ⟨km, fun h126 => ?_, fun h126 => ?_⟩
           · try simp (disch := omega) only [bl_pv, cl0, cl1, cl2, cl3, cl4, cl5, cl6, cl7, cl8, cl9, bl_up2_at, bl_up2_nk, bl_up2_nx] at h126
             first
             | exact absurd mp5 h126
             | (refine ⟨(fun h => by cases h), ?_⟩
                show _ ∨ _
                exact Or.inr ⟨2, p, _, by rw [if_neg he, if_neg (by omega)], Or.inr rfl, hle, rfl, rfl⟩)
           · try simp (disch := omega) only [bl_pv, cl0, cl1, cl2, cl3, cl4, cl5, cl6, cl7, cl8, cl9, bl_up2_at, bl_up2_nk, bl_up2_nx] at h126
             first
             | exact absurd (mp5.symm.trans h126) (by decide)
             | (refine ⟨(fun h => by cases h), ?_⟩
                show _ ∨ _
                refine Or.inl ⟨_, _, by rw [if_neg he, if_pos (by omega)], ?_, rfl⟩
                rw [show min (nmv (I (m + 8)) p (skD (I (m + 8)) n p - p)) 100000 = nmv (I (m + 8)) p (skD (I (m + 8)) n p - p) by omega]))
  have L44 : ∀ f j, j + f = n + 1 → j ≤ n → p ≤ j → (p < n ∧ zI 48 ≤ I (m + 8) p ∧ I (m + 8) p ≤ zI 57) → ∀ z w, w = nI j → z = nI (min (nmv (I (m + 8)) p (j - p)) 100000) → skD (I (m + 8)) n j = skD (I (m + 8)) n p → bl_WP G l (d + 2) mX11_number 44 [(4, .int z), (3, .int (nI p)), (0, .ref m), (1, .int (nI lo)), (2, .int (nI hi))] [] (mpI I m (nI n) w 0 fa, J, R, K, N) (0, 0) (fun o σ' => (∃ v e, (if skD (I (m + 8)) n p = p then .inr (1, p) else if lo ≤ nmv (I (m + 8)) p (skD (I (m + 8)) n p - p) ∧ nmv (I (m + 8)) p (skD (I (m + 8)) n p - p) ≤ hi then .inl (nmv (I (m + 8)) p (skD (I (m + 8)) n p - p), skD (I (m + 8)) n p) else .inr (2, p) : pr (Nat × Nat)) = .inl (v, e) ∧ o = .inl (some (.int (nI v))) ∧ σ' = (mpI I m (nI n) (nI e) 0 fa, J, R, K, N)) ∨ (∃ k q e, (if skD (I (m + 8)) n p = p then .inr (1, p) else if lo ≤ nmv (I (m + 8)) p (skD (I (m + 8)) n p - p) ∧ nmv (I (m + 8)) p (skD (I (m + 8)) n p - p) ≤ hi then .inl (nmv (I (m + 8)) p (skD (I (m + 8)) n p - p), skD (I (m + 8)) n p) else .inr (2, p) : pr (Nat × Nat)) = .inr (k, q) ∧ (k = 1 ∨ k = 2) ∧ e ≤ n ∧ o = .inl (some (.int 0)) ∧ σ' = (mpI I m (nI n) (nI e) (nI k) (nI q), J, R, K, N))) := by
    intro f
    induction f with
    | zero => intro j hj hjn; omega
    | succ f ih =>
      intro j hj hjn hpj hdp z w hw hz hs; subst hw
      have hdb := dg_B (B := I (m + 8)) (n := n) (k := j)
      by_cases hjd : j < n ∧ zI 48 ≤ I (m + 8) j ∧ I (m + 8) j ≤ zI 57
      · have eb : bt (I (m + 8)) n j = I (m + 8) j := if_neg (by omega)
        have q1 : (48 : Int) ≤ (I (m + 8) j).toInt := Int32.le_iff_toInt_le.mp hjd.2.1
        have q2 : (I (m + 8) j).toInt ≤ 57 := Int32.le_iff_toInt_le.mp hjd.2.2
        have eI : I (m + 8) j = zI ((I (m + 8) j).toInt) := (Int32.ofInt_toInt _).symm
        have hm1 : min (nmv (I (m + 8)) p (j - p)) 100000 ≤ 100000 := Nat.min_le_right _ _
        have en : nmv (I (m + 8)) p (j + 1 - p) = 10 * nmv (I (m + 8)) p (j - p) + ((I (m + 8) j).toInt - 48).toNat := by
          rw [show j + 1 - p = (j - p) + 1 by omega]
          show 10 * nmv (I (m + 8)) p (j - p) + ((I (m + 8) (p + (j - p))).toInt - 48).toNat = _
          rw [show p + (j - p) = j by omega]
        have L93 : ∀ z, z = nI (min (nmv (I (m + 8)) p (j + 1 - p)) 100000) → bl_WP G l (d + 2) mX11_number 93 [(4, .int z), (3, .int (nI p)), (0, .ref m), (1, .int (nI lo)), (2, .int (nI hi))] [] (mpI I m (nI n) (nI j) 0 fa, J, R, K, N) (0, 0) (fun o σ' => (∃ v e, (if skD (I (m + 8)) n p = p then .inr (1, p) else if lo ≤ nmv (I (m + 8)) p (skD (I (m + 8)) n p - p) ∧ nmv (I (m + 8)) p (skD (I (m + 8)) n p - p) ≤ hi then .inl (nmv (I (m + 8)) p (skD (I (m + 8)) n p - p), skD (I (m + 8)) n p) else .inr (2, p) : pr (Nat × Nat)) = .inl (v, e) ∧ o = .inl (some (.int (nI v))) ∧ σ' = (mpI I m (nI n) (nI e) 0 fa, J, R, K, N)) ∨ (∃ k q e, (if skD (I (m + 8)) n p = p then .inr (1, p) else if lo ≤ nmv (I (m + 8)) p (skD (I (m + 8)) n p - p) ∧ nmv (I (m + 8)) p (skD (I (m + 8)) n p - p) ≤ hi then .inl (nmv (I (m + 8)) p (skD (I (m + 8)) n p - p), skD (I (m + 8)) n p) else .inr (2, p) : pr (Nat × Nat)) = .inr (k, q) ∧ (k = 1 ∨ k = 2) ∧ e ≤ n ∧ o = .inl (some (.int 0)) ∧ σ' = (mpI I m (nI n) (nI e) (nI k) (nI q), J, R, K, N))) := by
          intro z hz
          refine bl_go oX11_number 80 [44, 77, 93, 106] rfl ?_
          refine ⟨rfl, km, km, Or.inr (Or.inr ⟨rfl, rfl, _, rfl⟩), (fun h => by cases h), ?_⟩
          try dsimp only [bl_pv]
          rw [mp4, mpu4]
          exact ih (j + 1) (by omega) (by omega) (by omega) hdp _ _ (nI_1 j) hz ((skD_t hjd hn).symm.trans hs)
        have L77 : ∀ z, z = nI (10 * min (nmv (I (m + 8)) p (j - p)) 100000 + ((I (m + 8) j).toInt - 48).toNat) → bl_WP G l (d + 2) mX11_number 77 [(4, .int z), (3, .int (nI p)), (0, .ref m), (1, .int (nI lo)), (2, .int (nI hi))] [] (mpI I m (nI n) (nI j) 0 fa, J, R, K, N) (0, 0) (fun o σ' => (∃ v e, (if skD (I (m + 8)) n p = p then .inr (1, p) else if lo ≤ nmv (I (m + 8)) p (skD (I (m + 8)) n p - p) ∧ nmv (I (m + 8)) p (skD (I (m + 8)) n p - p) ≤ hi then .inl (nmv (I (m + 8)) p (skD (I (m + 8)) n p - p), skD (I (m + 8)) n p) else .inr (2, p) : pr (Nat × Nat)) = .inl (v, e) ∧ o = .inl (some (.int (nI v))) ∧ σ' = (mpI I m (nI n) (nI e) 0 fa, J, R, K, N)) ∨ (∃ k q e, (if skD (I (m + 8)) n p = p then .inr (1, p) else if lo ≤ nmv (I (m + 8)) p (skD (I (m + 8)) n p - p) ∧ nmv (I (m + 8)) p (skD (I (m + 8)) n p - p) ≤ hi then .inl (nmv (I (m + 8)) p (skD (I (m + 8)) n p - p), skD (I (m + 8)) n p) else .inr (2, p) : pr (Nat × Nat)) = .inr (k, q) ∧ (k = 1 ∨ k = 2) ∧ e ≤ n ∧ o = .inl (some (.int 0)) ∧ σ' = (mpI I m (nI n) (nI e) (nI k) (nI q), J, R, K, N))) := by
          intro z hz
          subst hz
          have hsat := nmv_sat 100000 (nmv (I (m + 8)) p (j - p)) ((I (m + 8) j).toInt - 48).toNat (by decide)
          rw [← en] at hsat
          refine bl_go oX11_number 80 [44, 77, 93, 106] rfl ?_
          refine ⟨fun h81 => ?_, fun h81 => ?_⟩
          · try simp (disch := omega) only [zI_n, zI_o, zI_lit, zI_neg, zI_add, zI_sub, zI_mul, zI_lt, zI_le, zI_eq, zI_clamp, zI_in, zI_div, zI_rem, lg_lt0, lg_gt0, lg_eq0, lg_le0, lg_ge0, Int.toNat_natCast, ge_iff_le, gt_iff_lt, List.length_cons, List.length_nil, bl_up2_at, bl_up2_nk, bl_up2_nx] at h81
            first
            | (exfalso; first | omega | exact h81 trivial)
            | (try dsimp only [bl_pv]
               refine L93 _ ?_
               rw [← hsat]
               first
               | (rw [show min (10 * min (nmv (I (m + 8)) p (j - p)) 100000 + ((I (m + 8) j).toInt - 48).toNat) 100000 = 10 * min (nmv (I (m + 8)) p (j - p)) 100000 + ((I (m + 8) j).toInt - 48).toNat by omega])
               | (rw [show min (10 * min (nmv (I (m + 8)) p (j - p)) 100000 + ((I (m + 8) j).toInt - 48).toNat) 100000 = 100000 by omega]; rfl))
          · try simp (disch := omega) only [zI_n, zI_o, zI_lit, zI_neg, zI_add, zI_sub, zI_mul, zI_lt, zI_le, zI_eq, zI_clamp, zI_in, zI_div, zI_rem, lg_lt0, lg_gt0, lg_eq0, lg_le0, lg_ge0, Int.toNat_natCast, ge_iff_le, gt_iff_lt, List.length_cons, List.length_nil, bl_up2_at, bl_up2_nk, bl_up2_nx] at h81
            first
            | (exfalso; first | omega | exact h81 trivial)
            | (try dsimp only [bl_pv]
               refine L93 _ ?_
               rw [← hsat]
               first
               | (rw [show min (10 * min (nmv (I (m + 8)) p (j - p)) 100000 + ((I (m + 8) j).toInt - 48).toNat) 100000 = 10 * min (nmv (I (m + 8)) p (j - p)) 100000 + ((I (m + 8) j).toInt - 48).toNat by omega])
               | (rw [show min (10 * min (nmv (I (m + 8)) p (j - p)) 100000 + ((I (m + 8) j).toInt - 48).toNat) 100000 = 100000 by omega]; rfl))
        refine bl_go oX11_number 80 [44, 77, 93, 106] rfl ?_
        refine ⟨km, rfl, rfl, km, (Nat.le_of_ble_eq_true rfl), (0, 0), Nat.le_of_ble_eq_true rfl, Nat.le_of_ble_eq_true rfl, bl_MC_mono (c_Model_byteAt (d := d + 1) (k := j) hm hn mp4 (by omega)) (fun o49 σ49 q49 => ?_)⟩
        try dsimp only [bl_pv] at q49
        obtain ⟨rfl, rfl⟩ := q49
        refine bl_go oX11_number 80 [44, 77, 93, 106] rfl ?_
        refine ⟨rfl, (Nat.le_of_ble_eq_true rfl), (0, 0), Nat.le_of_ble_eq_true rfl, Nat.le_of_ble_eq_true rfl, bl_MC_mono (c_Model_isDigit (d := d + 1)) (fun o52 σ52 q52 => ?_)⟩
        try dsimp only [bl_pv] at q52
        obtain ⟨hz2, rfl⟩ := q52
        have hz' : o52 = .inl (some (.int 1)) := by
          rcases hz2 with ⟨_, _, h⟩ | ⟨h, _⟩
          · exact h
          · exact absurd (hdb.mpr hjd) h
        subst hz'
        refine bl_go oX11_number 80 [44, 77, 93, 106] rfl ?_
        refine ⟨fun h55 => ?_, fun h55 => ?_⟩
        · try simp (disch := omega) only [bl_pv, cl0, cl1, cl2, cl3, cl4, cl5, cl6, cl7, cl8, cl9, bl_up2_at, bl_up2_nk, bl_up2_nx] at h55
          exact absurd h55 (by decide)
        · try simp (disch := omega) only [bl_pv, cl0, cl1, cl2, cl3, cl4, cl5, cl6, cl7, cl8, cl9, bl_up2_at, bl_up2_nk, bl_up2_nx] at h55
          refine ⟨km, rfl, rfl, km, (Nat.le_of_ble_eq_true rfl), (0, 0), Nat.le_of_ble_eq_true rfl, Nat.le_of_ble_eq_true rfl, bl_MC_mono (c_Model_byteAt (d := d + 1) (k := j) hm hn mp4 (by omega)) (fun o68 σ68 q68 => ?_)⟩
          try dsimp only [bl_pv] at q68
          obtain ⟨rfl, rfl⟩ := q68
          refine bl_go oX11_number 80 [44, 77, 93, 106] rfl ?_
          try dsimp only [bl_pv]
          refine L77 _ ?_
          rw [hz, eb, eI]
          generalize min (nmv (I (m + 8)) p (j - p)) 100000 = a at *
          rw [← eI]
          generalize (I (m + 8) j).toInt = b at *
          rw [eI]
          simp (disch := omega) only [zI_n, zI_o, zI_lit, zI_neg, zI_add, zI_sub, zI_mul, zI_lt, zI_le, zI_eq, zI_clamp, zI_in, zI_div, zI_rem, lg_lt0, lg_gt0, lg_eq0, lg_le0, lg_ge0, Int.toNat_natCast, ge_iff_le, gt_iff_lt, List.length_cons, List.length_nil, bl_up2_at, bl_up2_nk, bl_up2_nx]
          congr 1
          omega
      · skip
        refine bl_go oX11_number 80 [44, 77, 93, 106] rfl ?_
        refine ⟨km, rfl, rfl, km, (Nat.le_of_ble_eq_true rfl), (0, 0), Nat.le_of_ble_eq_true rfl, Nat.le_of_ble_eq_true rfl, bl_MC_mono (c_Model_byteAt (d := d + 1) (k := j) hm hn mp4 (by omega)) (fun o49 σ49 q49 => ?_)⟩
        try dsimp only [bl_pv] at q49
        obtain ⟨rfl, rfl⟩ := q49
        refine bl_go oX11_number 80 [44, 77, 93, 106] rfl ?_
        refine ⟨rfl, (Nat.le_of_ble_eq_true rfl), (0, 0), Nat.le_of_ble_eq_true rfl, Nat.le_of_ble_eq_true rfl, bl_MC_mono (c_Model_isDigit (d := d + 1)) (fun o52 σ52 q52 => ?_)⟩
        try dsimp only [bl_pv] at q52
        obtain ⟨hz2, rfl⟩ := q52
        have hz' : o52 = .inl (some (.int 0)) := by
          rcases hz2 with ⟨h1, h2, _⟩ | ⟨_, h⟩
          · exact absurd (hdb.mp ⟨h1, h2⟩) hjd
          · exact h
        subst hz'
        refine bl_go oX11_number 80 [44, 77, 93, 106] rfl ?_
        refine ⟨fun h55 => ?_, fun h55 => ?_⟩
        · try simp (disch := omega) only [bl_pv, cl0, cl1, cl2, cl3, cl4, cl5, cl6, cl7, cl8, cl9, bl_up2_at, bl_up2_nk, bl_up2_nx] at h55
          try dsimp only [bl_pv]
          have e1 : skD (I (m + 8)) n p = j := by rw [← hs]; exact skD_f hjd
          exact L106b (fun e => hjd (by rw [show j = p by omega]; exact hdp)) _ j e1.symm hz
        · try simp (disch := omega) only [bl_pv, cl0, cl1, cl2, cl3, cl4, cl5, cl6, cl7, cl8, cl9, bl_up2_at, bl_up2_nk, bl_up2_nx] at h55
          exact absurd trivial h55
  by_cases hdp : p < n ∧ zI 48 ≤ I (m + 8) p ∧ I (m + 8) p ≤ zI 57
  · have hdb := dg_B (B := I (m + 8)) (n := n) (k := p)
    refine bl_go oX11_number 80 [44, 77, 93, 106] rfl ?_
    refine ⟨km, fun h4 => ?_, fun h4 => ?_⟩
    · try simp (disch := omega) only [bl_pv, cl0, cl1, cl2, cl3, cl4, cl5, cl6, cl7, cl8, cl9, bl_up2_at, bl_up2_nk, bl_up2_nx] at h4
      first
      | (exfalso; first | omega | exact h4 trivial)
      | (refine ⟨rfl, rfl, km, (Nat.le_of_ble_eq_true rfl), (0, 0), Nat.le_of_ble_eq_true rfl, Nat.le_of_ble_eq_true rfl, bl_MC_mono (hBl) (fun o10 σ10 q10 => ?_)⟩
         try dsimp only [bl_pv] at q10
         obtain ⟨rfl, rfl⟩ := q10
         refine bl_go oX11_number 80 [44, 77, 93, 106] rfl ?_
         refine ⟨km, km, rfl, rfl, km, (Nat.le_of_ble_eq_true rfl), (0, 0), Nat.le_of_ble_eq_true rfl, Nat.le_of_ble_eq_true rfl, bl_MC_mono (c_Model_byteAt (d := d + 1) (k := p) hm hn mp4 (by omega)) (fun o26 σ26 q26 => ?_)⟩
         try dsimp only [bl_pv] at q26
         obtain ⟨rfl, rfl⟩ := q26
         refine bl_go oX11_number 80 [44, 77, 93, 106] rfl ?_
         refine ⟨rfl, (Nat.le_of_ble_eq_true rfl), (0, 0), Nat.le_of_ble_eq_true rfl, Nat.le_of_ble_eq_true rfl, bl_MC_mono (c_Model_isDigit (d := d + 1)) (fun o29 σ29 q29 => ?_)⟩
         try dsimp only [bl_pv] at q29
         obtain ⟨hz2, rfl⟩ := q29
         have hz' : o29 = .inl (some (.int 1)) := by
           rcases hz2 with ⟨_, _, h⟩ | ⟨h, _⟩
           · exact h
           · exact absurd (hdb.mpr hdp) h
         subst hz'
         refine bl_go oX11_number 80 [44, 77, 93, 106] rfl ?_
         refine ⟨fun h32 => ?_, fun h32 => ?_⟩
         · try simp (disch := omega) only [bl_pv, cl0, cl1, cl2, cl3, cl4, cl5, cl6, cl7, cl8, cl9, bl_up2_at, bl_up2_nk, bl_up2_nx] at h32
           first
           | (exfalso; first | omega | exact h32 trivial)
           | (try dsimp only [bl_pv]
              rw [mp4]
              refine L44 (n + 1 - p) p (by omega) hp (Nat.le_refl _) hdp _ _ rfl ?_ rfl
              rw [Nat.sub_self]; rfl)
         · try simp (disch := omega) only [bl_pv, cl0, cl1, cl2, cl3, cl4, cl5, cl6, cl7, cl8, cl9, bl_up2_at, bl_up2_nk, bl_up2_nx] at h32
           exact absurd h32 (by decide))
    · try simp (disch := omega) only [bl_pv, cl0, cl1, cl2, cl3, cl4, cl5, cl6, cl7, cl8, cl9, bl_up2_at, bl_up2_nk, bl_up2_nx] at h4
      exact absurd mp5 h4
  · have hdb := dg_B (B := I (m + 8)) (n := n) (k := p)
    have hsp : skD (I (m + 8)) n p = p := skD_f hdp
    refine bl_go oX11_number 80 [44, 77, 93, 106] rfl ?_
    refine ⟨km, fun h4 => ?_, fun h4 => ?_⟩
    · try simp (disch := omega) only [bl_pv, cl0, cl1, cl2, cl3, cl4, cl5, cl6, cl7, cl8, cl9, bl_up2_at, bl_up2_nk, bl_up2_nx] at h4
      first
      | (exfalso; first | omega | exact h4 trivial)
      | (refine ⟨rfl, rfl, km, (Nat.le_of_ble_eq_true rfl), (0, 0), Nat.le_of_ble_eq_true rfl, Nat.le_of_ble_eq_true rfl, bl_MC_mono (hBl) (fun o10 σ10 q10 => ?_)⟩
         try dsimp only [bl_pv] at q10
         obtain ⟨rfl, rfl⟩ := q10
         refine bl_go oX11_number 80 [44, 77, 93, 106] rfl ?_
         refine ⟨km, km, rfl, rfl, km, (Nat.le_of_ble_eq_true rfl), (0, 0), Nat.le_of_ble_eq_true rfl, Nat.le_of_ble_eq_true rfl, bl_MC_mono (c_Model_byteAt (d := d + 1) (k := p) hm hn mp4 (by omega)) (fun o26 σ26 q26 => ?_)⟩
         try dsimp only [bl_pv] at q26
         obtain ⟨rfl, rfl⟩ := q26
         refine bl_go oX11_number 80 [44, 77, 93, 106] rfl ?_
         refine ⟨rfl, (Nat.le_of_ble_eq_true rfl), (0, 0), Nat.le_of_ble_eq_true rfl, Nat.le_of_ble_eq_true rfl, bl_MC_mono (c_Model_isDigit (d := d + 1)) (fun o29 σ29 q29 => ?_)⟩
         try dsimp only [bl_pv] at q29
         obtain ⟨hz2, rfl⟩ := q29
         have hz' : o29 = .inl (some (.int 0)) := by
           rcases hz2 with ⟨h1, h2, _⟩ | ⟨_, h⟩
           · exact absurd (hdb.mp ⟨h1, h2⟩) hdp
           · exact h
         subst hz'
         refine bl_go oX11_number 80 [44, 77, 93, 106] rfl ?_
         refine ⟨fun h32 => ?_, fun h32 => ?_⟩
         · try simp (disch := omega) only [bl_pv, cl0, cl1, cl2, cl3, cl4, cl5, cl6, cl7, cl8, cl9, bl_up2_at, bl_up2_nk, bl_up2_nx] at h32
           exact absurd trivial h32
         · try simp (disch := omega) only [bl_pv, cl0, cl1, cl2, cl3, cl4, cl5, cl6, cl7, cl8, cl9, bl_up2_at, bl_up2_nk, bl_up2_nx] at h32
           first
           | (exfalso; first | omega | exact h32 trivial)
           | (refine ⟨km, rfl, rfl, km, (Nat.le_of_ble_eq_true rfl), (0, 0), Nat.le_of_ble_eq_true rfl, Nat.le_of_ble_eq_true rfl, bl_MC_mono (c_Model_wrong0 (d := d + 1) km) (fun o41 σ41 q41 => ?_)⟩
              try dsimp only [bl_pv] at q41
              obtain ⟨rfl, hq⟩ := q41
              rcases hq with ⟨_, rfl⟩ | ⟨h, _⟩
              rotate_left
              · exact absurd rfl h
              try dsimp only [bl_pv]
              skip
              rw [mp4]
              refine bl_go oX11_number 80 [77, 93, 106] rfl ?_
              refine ⟨km, rfl, rfl, km, (Nat.le_of_ble_eq_true rfl), (0, 0), Nat.le_of_ble_eq_true rfl, Nat.le_of_ble_eq_true rfl, bl_MC_mono (c_Model_byteAt (d := d + 1) (k := p) hm hn mp4 (by omega)) (fun o49 σ49 q49 => ?_)⟩
              obtain ⟨rfl, rfl⟩ := q49
              refine bl_go oX11_number 80 [77, 93, 106] rfl ?_
              refine ⟨rfl, (Nat.le_of_ble_eq_true rfl), (0, 0), Nat.le_of_ble_eq_true rfl, Nat.le_of_ble_eq_true rfl, bl_MC_mono (c_Model_isDigit (d := d + 1)) (fun o52 σ52 q52 => ?_)⟩
              obtain ⟨hz2, rfl⟩ := q52
              have hz' : o52 = .inl (some (.int 0)) := by
                rcases hz2 with ⟨h1, h2, _⟩ | ⟨_, h⟩
                · exact absurd (hdb.mp ⟨h1, h2⟩) hdp
                · exact h
              subst hz'
              refine bl_go oX11_number 80 [77, 93, 106] rfl ?_
              refine ⟨fun h55 => ?_, fun h55 => ?_⟩
              · exact L106a hsp _ rfl
              · exact absurd rfl h55))
    · try simp (disch := omega) only [bl_pv, cl0, cl1, cl2, cl3, cl4, cl5, cl6, cl7, cl8, cl9, bl_up2_at, bl_up2_nk, bl_up2_nx] at h4
      exact absurd mp5 h4
end MODEL2
