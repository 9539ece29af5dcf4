/-! ===== Model: warms, goesThrough ===== -/
section MODEL22
variable {G : bl_G} {l : Launch} {d m : Nat} {I : Nat → Nat → Int32} {J : Nat → Nat → Int64} {R : Nat → Nat → Option Nat} {K N : Nat → Nat} {tf : Nat → Nat} {dg : Nat → Int32}
theorem c_Model_warms {k v u : Nat} {w x y : Int32} (hm : mdS R K N m) (hC : mkC I m tf dg) (hx : x = nI k) (hy : y = nI v) (hk : k ≤ 7) (hv : v ≤ 36) (hu : u < 2000) (hIu : I m 27 = nI u) (hIw : I m 28 = w) : bl_MC G l (d + 2) mX11_warms [.ref m, .int x, .int y] (I, J, R, K, N) (0, 0) (fun o σ' => o = .inl (some (.int (bI (tkr tf dg k w u (st_un k v))))) ∧ ∃ I', σ' = (I', J, R, K, N) ∧ (∀ y, y ≠ m → I' y = I y) ∧ (∀ j, j ≠ 27 → j ≠ 28 → I' m j = I m j) ∧ I' m 27 = nI (u + st_un k v) ∧ I' m 28 = tkw tf dg k w u (st_un k v)) := by
  have km := hm.2.1
  obtain ⟨rm_10, km10, nm10⟩ := hm.f10
  have e6 := hC.1 6 (by omega)
  have e7 := hC.1 7 (by omega)
  have hs36 : st_un k v ≤ 36 := st_un_le hv
  subst hx hy
  refine bl_MC_intro (by decide +kernel) rfl (Nat.le_of_ble_eq_true rfl) ?_
  have L5 : ∀ i, i ≤ st_un k v → ∀ x z I1, x = nI i → z = bI (wl tf dg k w u i).2 → (∀ y, y ≠ m → I1 y = I y) → (∀ j, j ≠ 27 → j ≠ 28 → I1 m j = I m j) → I1 m 27 = nI (u + i) → I1 m 28 = (wl tf dg k w u i).1 → bl_WP G l (d + 2) mX11_warms 5 [(4, .int x), (3, .int z), (0, .ref m), (1, .int (nI k)), (2, .int (nI v))] [] (I1, J, R, K, N) (0, 0) (fun o σ' => o = .inl (some (.int (bI (tkr tf dg k w u (st_un k v))))) ∧ ∃ I', σ' = (I', J, R, K, N) ∧ (∀ y, y ≠ m → I' y = I y) ∧ (∀ j, j ≠ 27 → j ≠ 28 → I' m j = I m j) ∧ I' m 27 = nI (u + st_un k v) ∧ I' m 28 = tkw tf dg k w u (st_un k v)) := by
    refine bl_for (st_un k v) ?_ (fun i hi ih => ?_)
    · intro x z I1 hx hz f1 f2 f3 f4; subst hx hz
      have L105 : ∀ I2 : Nat → Nat → Int32, (∀ y, y ≠ m → I2 y = I y) → (∀ j, j ≠ 27 → j ≠ 28 → I2 m j = I m j) → I2 m 27 = nI (u + st_un k v) → I2 m 28 = tkw tf dg k w u (st_un k v) → bl_WP G l (d + 2) mX11_warms 105 [(4, .int (nI (st_un k v))), (3, .int (bI (wl tf dg k w u (st_un k v)).2)), (0, .ref m), (1, .int (nI k)), (2, .int (nI v))] [] (I2, J, R, K, N) (0, 0) (fun o σ' => o = .inl (some (.int (bI (tkr tf dg k w u (st_un k v))))) ∧ ∃ I', σ' = (I', J, R, K, N) ∧ (∀ y, y ≠ m → I' y = I y) ∧ (∀ j, j ≠ 27 → j ≠ 28 → I' m j = I m j) ∧ I' m 27 = nI (u + st_un k v) ∧ I' m 28 = tkw tf dg k w u (st_un k v)) := by
        intro I2 g1 g2 g3 g4
        have e6' : I2 (m + 10) 6 = nI (tf 6) := by rw [g1 _ (by omega)]; exact e6
        refine bl_go oX11_warms 80 [5, 105] rfl ?_
        refine ⟨fun h106 => ?_, fun h106 => ?_⟩
        · try simp (disch := omega) only [bl_pv, cl0, cl1, cl2, cl3, cl4, cl5, cl6, cl7, cl8, cl9, bl_up2_at, bl_up2_nk, bl_up2_nx] at h106
          refine ⟨(fun _ => by first | exact Or.inl rfl | exact Or.inr rfl), ?_⟩
          try show _ ∧ _
          try dsimp only [bl_pv]
          refine ⟨?_, I2, rfl, g1, g2, g3, g4⟩
          unfold tkr
          first
          | (have hq := h123
             rw [e6', g4] at hq
             have hb := bI_0.mp h106
             rw [hb, Bool.false_or]
             first
             | (rw [decide_eq_false (Int32.not_lt.mpr hq)]; rfl)
             | (rw [decide_eq_true (Int32.not_le.mp hq)]; rfl))
          | (have hb : (wl tf dg k w u (st_un k v)).2 = true := by
               cases hh : (wl tf dg k w u (st_un k v)).2
               · rw [hh] at h106; exact absurd (show bI false = 0 from rfl) h106
               · rfl
             rw [hb]; rfl)
        · try simp (disch := omega) only [bl_pv, cl0, cl1, cl2, cl3, cl4, cl5, cl6, cl7, cl8, cl9, bl_up2_at, bl_up2_nk, bl_up2_nx] at h106
          refine ⟨km, km, _, bl_vs rm_10, Or.inl ⟨km10, (by first | exact (by rw [nm10]; exact vp_in_nI (by omega) (by omega)) | ((try dsimp only [bl_pv]); show vp_in _ (N _); rw [nm10]; simp (disch := omega) only [zI_n, zI_o, zI_lit, zI_neg, zI_add, zI_sub, zI_mul, zI_lt, zI_le, zI_eq, zI_clamp, zI_in, zI_div, zI_rem, lg_lt0, lg_gt0, lg_eq0, lg_le0, lg_ge0, Int.toNat_natCast, ge_iff_le, gt_iff_lt, List.length_cons, List.length_nil, bl_up2_at, bl_up2_nk, bl_up2_nx] <;> omega)), fun h123 => ?_, fun h123 => ?_⟩⟩
          · try simp (disch := omega) only [bl_pv, cl0, cl1, cl2, cl3, cl4, cl5, cl6, cl7, cl8, cl9, bl_up2_at, bl_up2_nk, bl_up2_nx] at h123
            refine ⟨(fun _ => by first | exact Or.inl rfl | exact Or.inr rfl), ?_⟩
            try show _ ∧ _
            try dsimp only [bl_pv]
            refine ⟨?_, I2, rfl, g1, g2, g3, g4⟩
            unfold tkr
            first
            | (have hq := h123
               rw [e6', g4] at hq
               have hb := bI_0.mp h106
               rw [hb, Bool.false_or]
               first
               | (rw [decide_eq_false (Int32.not_lt.mpr hq)]; rfl)
               | (rw [decide_eq_true (Int32.not_le.mp hq)]; rfl))
            | (have hb : (wl tf dg k w u (st_un k v)).2 = true := by
                 cases hh : (wl tf dg k w u (st_un k v)).2
                 · rw [hh] at h106; exact absurd (show bI false = 0 from rfl) h106
                 · rfl
               rw [hb]; rfl)
          · try simp (disch := omega) only [bl_pv, cl0, cl1, cl2, cl3, cl4, cl5, cl6, cl7, cl8, cl9, bl_up2_at, bl_up2_nk, bl_up2_nx] at h123
            refine ⟨(fun _ => by first | exact Or.inl rfl | exact Or.inr rfl), ?_⟩
            try show _ ∧ _
            try dsimp only [bl_pv]
            refine ⟨?_, I2, rfl, g1, g2, g3, g4⟩
            unfold tkr
            first
            | (have hq := h123
               rw [e6', g4] at hq
               have hb := bI_0.mp h106
               rw [hb, Bool.false_or]
               first
               | (rw [decide_eq_false (Int32.not_lt.mpr hq)]; rfl)
               | (rw [decide_eq_true (Int32.not_le.mp hq)]; rfl))
            | (have hb : (wl tf dg k w u (st_un k v)).2 = true := by
                 cases hh : (wl tf dg k w u (st_un k v)).2
                 · rw [hh] at h106; exact absurd (show bI false = 0 from rfl) h106
                 · rfl
               rw [hb]; rfl)
      have e7' : I1 (m + 10) 7 = nI (tf 7) := by rw [f1 _ (by omega)]; exact e7
      refine bl_go oX11_warms 80 [5, 105] rfl ?_
      refine ⟨rfl, (Nat.le_of_ble_eq_true rfl), (0, 0), Nat.le_of_ble_eq_true rfl, Nat.le_of_ble_eq_true rfl, bl_MC_mono (c_Model_units (d := d + 1) (k := k) (v := v) rfl rfl hk) (fun o9 σ9 q9 => ?_)⟩
      try dsimp only [bl_pv] at q9
      obtain ⟨rfl, rfl⟩ := q9
      refine bl_go oX11_warms 80 [5, 105] rfl ?_
      refine ⟨fun h12 => ?_, fun h12 => ?_⟩
      · try simp (disch := omega) only [zI_n, zI_o, zI_lit, zI_neg, zI_add, zI_sub, zI_mul, zI_lt, zI_le, zI_eq, zI_clamp, zI_in, zI_div, zI_rem, lg_lt0, lg_gt0, lg_eq0, lg_le0, lg_ge0, Int.toNat_natCast, ge_iff_le, gt_iff_lt, List.length_cons, List.length_nil, bl_up2_at, bl_up2_nk, bl_up2_nx] at h12
        refine ⟨fun h86 => ?_, fun h86 => ?_⟩
        · try simp (disch := omega) only [zI_n, zI_o, zI_lit, zI_neg, zI_add, zI_sub, zI_mul, zI_lt, zI_le, zI_eq, zI_clamp, zI_in, zI_div, zI_rem, lg_lt0, lg_gt0, lg_eq0, lg_le0, lg_ge0, Int.toNat_natCast, ge_iff_le, gt_iff_lt, List.length_cons, List.length_nil, bl_up2_at, bl_up2_nk, bl_up2_nx] at h86
          try dsimp only [bl_pv]
          first
          | (refine L105 _ f1 f2 f3 ?_
             unfold tkw; rw [if_neg (by omega)]; exact f4)
          | (refine L105 _ (fun y hy => ?_) (fun j j1 j2 => ?_) ?_ ?_
             · rw [bl_up2_ne hy]; exact f1 y hy
             · rw [bl_up2_nk j2]; exact f2 j j1 j2
             · rw [bl_up2_nk (by omega)]; exact f3
             · rw [bl_up2_at]; unfold tkw; rw [if_pos (by omega), f4, ← e7']; rfl)
        · try simp (disch := omega) only [zI_n, zI_o, zI_lit, zI_neg, zI_add, zI_sub, zI_mul, zI_lt, zI_le, zI_eq, zI_clamp, zI_in, zI_div, zI_rem, lg_lt0, lg_gt0, lg_eq0, lg_le0, lg_ge0, Int.toNat_natCast, ge_iff_le, gt_iff_lt, List.length_cons, List.length_nil, bl_up2_at, bl_up2_nk, bl_up2_nx] at h86
          refine ⟨rfl, km, km, _, bl_vs rm_10, Or.inl ⟨km10, (by first | exact (by rw [nm10]; exact vp_in_nI (by omega) (by omega)) | ((try dsimp only [bl_pv]); show vp_in _ (N _); rw [nm10]; simp (disch := omega) only [zI_n, zI_o, zI_lit, zI_neg, zI_add, zI_sub, zI_mul, zI_lt, zI_le, zI_eq, zI_clamp, zI_in, zI_div, zI_rem, lg_lt0, lg_gt0, lg_eq0, lg_le0, lg_ge0, Int.toNat_natCast, ge_iff_le, gt_iff_lt, List.length_cons, List.length_nil, bl_up2_at, bl_up2_nk, bl_up2_nx] <;> omega)), km, Or.inr (Or.inr ⟨rfl, rfl, _, rfl⟩), (fun h => by cases h), ?_⟩⟩
          try dsimp only [bl_pv]
          first
          | (refine L105 _ f1 f2 f3 ?_
             unfold tkw; rw [if_neg (by omega)]; exact f4)
          | (refine L105 _ (fun y hy => ?_) (fun j j1 j2 => ?_) ?_ ?_
             · rw [bl_up2_ne hy]; exact f1 y hy
             · rw [bl_up2_nk j2]; exact f2 j j1 j2
             · rw [bl_up2_nk (by omega)]; exact f3
             · rw [bl_up2_at]; unfold tkw; rw [if_pos (by omega), f4, ← e7']; rfl)
      · try simp (disch := omega) only [zI_n, zI_o, zI_lit, zI_neg, zI_add, zI_sub, zI_mul, zI_lt, zI_le, zI_eq, zI_clamp, zI_in, zI_div, zI_rem, lg_lt0, lg_gt0, lg_eq0, lg_le0, lg_ge0, Int.toNat_natCast, ge_iff_le, gt_iff_lt, List.length_cons, List.length_nil, bl_up2_at, bl_up2_nk, bl_up2_nx] at h12
        exfalso; omega
    · intro x z I1 hx hz f1 f2 f3 f4; subst hx hz
      have hC1 : mkC I1 m tf dg := hC.same (f1 _ (by omega)) (f1 _ (by omega))
      have e6' := hC1.1 6 (by omega)
      refine bl_go oX11_warms 80 [5, 105] rfl ?_
      refine ⟨rfl, (Nat.le_of_ble_eq_true rfl), (0, 0), Nat.le_of_ble_eq_true rfl, Nat.le_of_ble_eq_true rfl, bl_MC_mono (c_Model_units (d := d + 1) (k := k) (v := v) rfl rfl hk) (fun o9 σ9 q9 => ?_)⟩
      try dsimp only [bl_pv] at q9
      obtain ⟨rfl, rfl⟩ := q9
      refine bl_go oX11_warms 80 [5, 105] rfl ?_
      refine ⟨fun h12 => ?_, fun h12 => ?_⟩
      · try simp (disch := omega) only [zI_n, zI_o, zI_lit, zI_neg, zI_add, zI_sub, zI_mul, zI_lt, zI_le, zI_eq, zI_clamp, zI_in, zI_div, zI_rem, lg_lt0, lg_gt0, lg_eq0, lg_le0, lg_ge0, Int.toNat_natCast, ge_iff_le, gt_iff_lt, List.length_cons, List.length_nil, bl_up2_at, bl_up2_nk, bl_up2_nx] at h12
        exfalso; omega
      · try simp (disch := omega) only [zI_n, zI_o, zI_lit, zI_neg, zI_add, zI_sub, zI_mul, zI_lt, zI_le, zI_eq, zI_clamp, zI_in, zI_div, zI_rem, lg_lt0, lg_gt0, lg_eq0, lg_le0, lg_ge0, Int.toNat_natCast, ge_iff_le, gt_iff_lt, List.length_cons, List.length_nil, bl_up2_at, bl_up2_nk, bl_up2_nx] at h12
        refine ⟨km, km, fun h28 => ?_, fun h28 => ?_⟩
        · try simp (disch := omega) only [zI_n, zI_o, zI_lit, zI_neg, zI_add, zI_sub, zI_mul, zI_lt, zI_le, zI_eq, zI_clamp, zI_in, zI_div, zI_rem, lg_lt0, lg_gt0, lg_eq0, lg_le0, lg_ge0, Int.toNat_natCast, ge_iff_le, gt_iff_lt, List.length_cons, List.length_nil, bl_up2_at, bl_up2_nk, bl_up2_nx] at h28
          refine ⟨rfl, rfl, km, (Nat.le_of_ble_eq_true rfl), (0, 0), Nat.le_of_ble_eq_true rfl, Nat.le_of_ble_eq_true rfl, bl_MC_mono (c_Model_unitBy (d := d) (k := k) (u := u + i) hm hC1 f3 (by omega) (by first | exact Or.inl ⟨by omega, rfl⟩ | exact Or.inr ⟨by omega, rfl⟩)) (fun o36 σ36 q36 => ?_)⟩
          try dsimp only [bl_pv] at q36
          obtain ⟨rfl, rfl⟩ := q36
          refine bl_go oX11_warms 80 [5, 105] rfl ?_
          refine ⟨km, Or.inr (Or.inr ⟨rfl, rfl, _, rfl⟩), (fun h => by cases h), rfl, km, km, Or.inr (Or.inr ⟨rfl, rfl, _, rfl⟩), (fun h => by cases h), fun h53 => ?_, fun h53 => ?_⟩
          · try simp (disch := omega) only [bl_pv, cl0, cl1, cl2, cl3, cl4, cl5, cl6, cl7, cl8, cl9, bl_up2_at, bl_up2_nk, bl_up2_nx] at h53
            try dsimp only [bl_pv]
            refine ih _ _ _ (nI_1 _) ?_ (fun y hy => ?_) (fun j j1 j2 => ?_) ?_ ?_
            · show _ = bI ((wl tf dg k w u i).2 || decide (10 * nI (tf 6) < wu tf dg k (wl tf dg k w u i).1 (u + i)))
              first
              | (have hq := h70
                 rw [e6', f4] at hq
                 have hb := bI_0.mp h53
                 rw [hb, Bool.false_or]
                 first
                 | (rw [decide_eq_false (Int32.not_lt.mpr hq)]; rfl)
                 | (rw [decide_eq_true (Int32.not_le.mp hq)]; rfl))
              | (have hb : (wl tf dg k w u i).2 = true := by
                   cases hh : (wl tf dg k w u i).2
                   · rw [hh] at h53; exact absurd (show bI false = 0 from rfl) h53
                   · rfl
                 rw [hb]; rfl)
            · rw [bl_up2_ne hy, bl_up2_ne hy]; exact f1 y hy
            · rw [bl_up2_nk j1, bl_up2_nk j2]; exact f2 j j1 j2
            · rw [bl_up2_at, bl_up2_nk (by omega), f3, nI_1, Nat.add_assoc]
            · rw [bl_up2_nk (by omega), bl_up2_at, f4]; rfl
          · try simp (disch := omega) only [bl_pv, cl0, cl1, cl2, cl3, cl4, cl5, cl6, cl7, cl8, cl9, bl_up2_at, bl_up2_nk, bl_up2_nx] at h53
            refine ⟨km, km, _, bl_vs rm_10, Or.inl ⟨km10, (by first | exact (by rw [nm10]; exact vp_in_nI (by omega) (by omega)) | ((try dsimp only [bl_pv]); show vp_in _ (N _); rw [nm10]; simp (disch := omega) only [zI_n, zI_o, zI_lit, zI_neg, zI_add, zI_sub, zI_mul, zI_lt, zI_le, zI_eq, zI_clamp, zI_in, zI_div, zI_rem, lg_lt0, lg_gt0, lg_eq0, lg_le0, lg_ge0, Int.toNat_natCast, ge_iff_le, gt_iff_lt, List.length_cons, List.length_nil, bl_up2_at, bl_up2_nk, bl_up2_nx] <;> omega)), fun h70 => ?_, fun h70 => ?_⟩⟩
            · try simp (disch := omega) only [bl_pv, cl0, cl1, cl2, cl3, cl4, cl5, cl6, cl7, cl8, cl9, bl_up2_at, bl_up2_nk, bl_up2_nx] at h70
              try dsimp only [bl_pv]
              refine ih _ _ _ (nI_1 _) ?_ (fun y hy => ?_) (fun j j1 j2 => ?_) ?_ ?_
              · show _ = bI ((wl tf dg k w u i).2 || decide (10 * nI (tf 6) < wu tf dg k (wl tf dg k w u i).1 (u + i)))
                first
                | (have hq := h70
                   rw [e6', f4] at hq
                   have hb := bI_0.mp h53
                   rw [hb, Bool.false_or]
                   first
                   | (rw [decide_eq_false (Int32.not_lt.mpr hq)]; rfl)
                   | (rw [decide_eq_true (Int32.not_le.mp hq)]; rfl))
                | (have hb : (wl tf dg k w u i).2 = true := by
                     cases hh : (wl tf dg k w u i).2
                     · rw [hh] at h53; exact absurd (show bI false = 0 from rfl) h53
                     · rfl
                   rw [hb]; rfl)
              · rw [bl_up2_ne hy, bl_up2_ne hy]; exact f1 y hy
              · rw [bl_up2_nk j1, bl_up2_nk j2]; exact f2 j j1 j2
              · rw [bl_up2_at, bl_up2_nk (by omega), f3, nI_1, Nat.add_assoc]
              · rw [bl_up2_nk (by omega), bl_up2_at, f4]; rfl
            · try simp (disch := omega) only [bl_pv, cl0, cl1, cl2, cl3, cl4, cl5, cl6, cl7, cl8, cl9, bl_up2_at, bl_up2_nk, bl_up2_nx] at h70
              try dsimp only [bl_pv]
              refine ih _ _ _ (nI_1 _) ?_ (fun y hy => ?_) (fun j j1 j2 => ?_) ?_ ?_
              · show _ = bI ((wl tf dg k w u i).2 || decide (10 * nI (tf 6) < wu tf dg k (wl tf dg k w u i).1 (u + i)))
                first
                | (have hq := h70
                   rw [e6', f4] at hq
                   have hb := bI_0.mp h53
                   rw [hb, Bool.false_or]
                   first
                   | (rw [decide_eq_false (Int32.not_lt.mpr hq)]; rfl)
                   | (rw [decide_eq_true (Int32.not_le.mp hq)]; rfl))
                | (have hb : (wl tf dg k w u i).2 = true := by
                     cases hh : (wl tf dg k w u i).2
                     · rw [hh] at h53; exact absurd (show bI false = 0 from rfl) h53
                     · rfl
                   rw [hb]; rfl)
              · rw [bl_up2_ne hy, bl_up2_ne hy]; exact f1 y hy
              · rw [bl_up2_nk j1, bl_up2_nk j2]; exact f2 j j1 j2
              · rw [bl_up2_at, bl_up2_nk (by omega), f3, nI_1, Nat.add_assoc]
              · rw [bl_up2_nk (by omega), bl_up2_at, f4]; rfl
        · try simp (disch := omega) only [zI_n, zI_o, zI_lit, zI_neg, zI_add, zI_sub, zI_mul, zI_lt, zI_le, zI_eq, zI_clamp, zI_in, zI_div, zI_rem, lg_lt0, lg_gt0, lg_eq0, lg_le0, lg_ge0, Int.toNat_natCast, ge_iff_le, gt_iff_lt, List.length_cons, List.length_nil, bl_up2_at, bl_up2_nk, bl_up2_nx] at h28
          refine ⟨rfl, rfl, km, (Nat.le_of_ble_eq_true rfl), (0, 0), Nat.le_of_ble_eq_true rfl, Nat.le_of_ble_eq_true rfl, bl_MC_mono (c_Model_unitBy (d := d) (k := k) (u := u + i) hm hC1 f3 (by omega) (by first | exact Or.inl ⟨by omega, rfl⟩ | exact Or.inr ⟨by omega, rfl⟩)) (fun o36 σ36 q36 => ?_)⟩
          try dsimp only [bl_pv] at q36
          obtain ⟨rfl, rfl⟩ := q36
          refine bl_go oX11_warms 80 [5, 105] rfl ?_
          refine ⟨km, Or.inr (Or.inr ⟨rfl, rfl, _, rfl⟩), (fun h => by cases h), rfl, km, km, Or.inr (Or.inr ⟨rfl, rfl, _, rfl⟩), (fun h => by cases h), fun h53 => ?_, fun h53 => ?_⟩
          · try simp (disch := omega) only [bl_pv, cl0, cl1, cl2, cl3, cl4, cl5, cl6, cl7, cl8, cl9, bl_up2_at, bl_up2_nk, bl_up2_nx] at h53
            try dsimp only [bl_pv]
            refine ih _ _ _ (nI_1 _) ?_ (fun y hy => ?_) (fun j j1 j2 => ?_) ?_ ?_
            · show _ = bI ((wl tf dg k w u i).2 || decide (10 * nI (tf 6) < wu tf dg k (wl tf dg k w u i).1 (u + i)))
              first
              | (have hq := h70
                 rw [e6', f4] at hq
                 have hb := bI_0.mp h53
                 rw [hb, Bool.false_or]
                 first
                 | (rw [decide_eq_false (Int32.not_lt.mpr hq)]; rfl)
                 | (rw [decide_eq_true (Int32.not_le.mp hq)]; rfl))
              | (have hb : (wl tf dg k w u i).2 = true := by
                   cases hh : (wl tf dg k w u i).2
                   · rw [hh] at h53; exact absurd (show bI false = 0 from rfl) h53
                   · rfl
                 rw [hb]; rfl)
            · rw [bl_up2_ne hy, bl_up2_ne hy]; exact f1 y hy
            · rw [bl_up2_nk j1, bl_up2_nk j2]; exact f2 j j1 j2
            · rw [bl_up2_at, bl_up2_nk (by omega), f3, nI_1, Nat.add_assoc]
            · rw [bl_up2_nk (by omega), bl_up2_at, f4]; rfl
          · try simp (disch := omega) only [bl_pv, cl0, cl1, cl2, cl3, cl4, cl5, cl6, cl7, cl8, cl9, bl_up2_at, bl_up2_nk, bl_up2_nx] at h53
            refine ⟨km, km, _, bl_vs rm_10, Or.inl ⟨km10, (by first | exact (by rw [nm10]; exact vp_in_nI (by omega) (by omega)) | ((try dsimp only [bl_pv]); show vp_in _ (N _); rw [nm10]; simp (disch := omega) only [zI_n, zI_o, zI_lit, zI_neg, zI_add, zI_sub, zI_mul, zI_lt, zI_le, zI_eq, zI_clamp, zI_in, zI_div, zI_rem, lg_lt0, lg_gt0, lg_eq0, lg_le0, lg_ge0, Int.toNat_natCast, ge_iff_le, gt_iff_lt, List.length_cons, List.length_nil, bl_up2_at, bl_up2_nk, bl_up2_nx] <;> omega)), fun h70 => ?_, fun h70 => ?_⟩⟩
            · try simp (disch := omega) only [bl_pv, cl0, cl1, cl2, cl3, cl4, cl5, cl6, cl7, cl8, cl9, bl_up2_at, bl_up2_nk, bl_up2_nx] at h70
              try dsimp only [bl_pv]
              refine ih _ _ _ (nI_1 _) ?_ (fun y hy => ?_) (fun j j1 j2 => ?_) ?_ ?_
              · show _ = bI ((wl tf dg k w u i).2 || decide (10 * nI (tf 6) < wu tf dg k (wl tf dg k w u i).1 (u + i)))
                first
                | (have hq := h70
                   rw [e6', f4] at hq
                   have hb := bI_0.mp h53
                   rw [hb, Bool.false_or]
                   first
                   | (rw [decide_eq_false (Int32.not_lt.mpr hq)]; rfl)
                   | (rw [decide_eq_true (Int32.not_le.mp hq)]; rfl))
                | (have hb : (wl tf dg k w u i).2 = true := by
                     cases hh : (wl tf dg k w u i).2
                     · rw [hh] at h53; exact absurd (show bI false = 0 from rfl) h53
                     · rfl
                   rw [hb]; rfl)
              · rw [bl_up2_ne hy, bl_up2_ne hy]; exact f1 y hy
              · rw [bl_up2_nk j1, bl_up2_nk j2]; exact f2 j j1 j2
              · rw [bl_up2_at, bl_up2_nk (by omega), f3, nI_1, Nat.add_assoc]
              · rw [bl_up2_nk (by omega), bl_up2_at, f4]; rfl
            · try simp (disch := omega) only [bl_pv, cl0, cl1, cl2, cl3, cl4, cl5, cl6, cl7, cl8, cl9, bl_up2_at, bl_up2_nk, bl_up2_nx] at h70
              try dsimp only [bl_pv]
              refine ih _ _ _ (nI_1 _) ?_ (fun y hy => ?_) (fun j j1 j2 => ?_) ?_ ?_
              · show _ = bI ((wl tf dg k w u i).2 || decide (10 * nI (tf 6) < wu tf dg k (wl tf dg k w u i).1 (u + i)))
                first
                | (have hq := h70
                   rw [e6', f4] at hq
                   have hb := bI_0.mp h53
                   rw [hb, Bool.false_or]
                   first
                   | (rw [decide_eq_false (Int32.not_lt.mpr hq)]; rfl)
                   | (rw [decide_eq_true (Int32.not_le.mp hq)]; rfl))
                | (have hb : (wl tf dg k w u i).2 = true := by
                     cases hh : (wl tf dg k w u i).2
                     · rw [hh] at h53; exact absurd (show bI false = 0 from rfl) h53
                     · rfl
                   rw [hb]; rfl)
              · rw [bl_up2_ne hy, bl_up2_ne hy]; exact f1 y hy
              · rw [bl_up2_nk j1, bl_up2_nk j2]; exact f2 j j1 j2
              · rw [bl_up2_at, bl_up2_nk (by omega), f3, nI_1, Nat.add_assoc]
              · rw [bl_up2_nk (by omega), bl_up2_at, f4]; rfl
  refine bl_go oX11_warms 80 [5, 105] rfl ?_
  try dsimp only [bl_pv]
  refine L5 0 (by omega) _ _ _ rfl rfl (fun _ _ => rfl) (fun _ _ _ => rfl) hIu hIw
/-- the model's state behind i steps -/
def gtS (I : Nat → Nat → Int32) (J : Nat → Nat → Int64) (m : Nat) (tf : Nat → Nat) (dg : Nat → Int32) (rc : sq) (u0 i : Nat) : Prop := msl I J m (sl_at (sl_first (tf 0) (tf 1) (tf 2)) rc i) ∧ I m 23 = nI i ∧ I m 25 = fst1 (fwB tf dg rc u0) i ∧ I m 26 = fst1 (fwR tf dg rc u0) i ∧ I m 27 = nI (fwU rc u0 i) ∧ I m 28 = fwW tf dg rc u0 i
theorem slOk_first {tf : Nat → Nat} (h : tfO tf) : slOk (sl_first (tf 0) (tf 1) (tf 2)) := by
  obtain ⟨h1, h2, h3, h4⟩ := h
  exact ⟨⟨show 0 < tf 0 by omega, show tf 0 ≤ 48 by omega⟩, show 0 < tf 1 by omega, show tf 1 ≤ 48 by omega⟩
theorem slOk_at {S0 : sl} {rc : sq} {D : Nat} (h : slOk S0) (hO : sqO rc) (hD : isDone S0 rc D) : ∀ i, i ≤ D → slOk (sl_at S0 rc i)
  | 0, _ => h
  | i + 1, hi => slOk_step (slOk_at h hO hD i (by omega)) (hO i (by have := hD.1; omega)) (hD.2.1 i (by omega))
theorem isDone_ex (S0 : sl) (rc : sq) : ∃ n, isDone S0 rc n := by
  have h : ∀ f k, k + f = rc.1 → (∀ j, j < k → sl_can (rc.2.1 j) (rc.2.2 j) (sl_at S0 rc j).1.1) → ∃ n, isDone S0 rc n := by
    intro f
    induction f with
    | zero => intro k hk hc; exact ⟨k, by omega, hc, fun h => absurd h (by omega)⟩
    | succ f ih =>
      intro k hk hc
      by_cases hq : sl_can (rc.2.1 k) (rc.2.2 k) (sl_at S0 rc k).1.1
      · refine ih (k + 1) (by omega) (fun j hj => ?_)
        by_cases e : j = k
        · subst e; exact hq
        · exact hc j (by omega)
      · exact ⟨k, by omega, hc, fun _ => hq⟩
  exact h rc.1 0 (by omega) (fun j hj => absurd hj (by omega))
/-- the recipe's rows in the model -/
def mrC (I : Nat → Nat → Int32) (m r : Nat) (rc : sq) : Prop := I (m + 16) r = nI rc.1 ∧ rc.1 ≤ 20 ∧ sqO rc ∧ ∀ j, j < rc.1 → I (m + 100 + r) (2 * j) = nI (rc.2.1 j) ∧ I (m + 100 + r) (2 * j + 1) = nI (rc.2.2 j)
theorem c_Model_goesThrough {r s u0 D : Nat} {rc : sq} {x y z : Int32} (hm : mdS R K N m) (hC : mkC I m tf dg) (hO : tfO tf) (hr : r < 4) (hrc : mrC I m r rc) (hD : isDone (sl_first (tf 0) (tf 1) (tf 2)) rc D) (hs : s ≤ 20) (hu : u0 < 288) (hx : x = nI r) (hy : y = nI s) (hz : z = nI u0) : bl_MC G l (d + 4) mX11_goesThrough [.ref m, .int x, .int y, .int z] (I, J, R, K, N) (0, 0) (fun o σ' => o = .inl none ∧ ∃ I' J', σ' = (I', J', R, K, N) ∧ gtF I I' J J' m ∧ gtS I' J' m tf dg rc u0 (min D s) ∧ I' m 24 = if D < rc.1 ∧ D < s then nI D else zI (-1)) := by
  have km := hm.2.1
  obtain ⟨rm_10, km10, nm10⟩ := hm.f10
  obtain ⟨rm_16, km16, nm16⟩ := hm.f16
  obtain ⟨rm_18, km18, nm18⟩ := hm.f18
  obtain ⟨rms, kms, nms⟩ := hm.g18 r hr
  have ecr : (nI r).toNatClampNeg = r := nI_clamp (by omega)
  obtain ⟨hc1, hc20, hcO, hcs⟩ := hrc
  have hDr := hD.1
  have hu36 : ∀ k, k < rc.1 → rc.2.2 k ≤ 36 := fun k hk => (hcO k hk).2.1
  subst hx hy hz
  refine bl_MC_intro (by decide +kernel) rfl (Nat.le_of_ble_eq_true rfl) ?_
  have L8s : ∀ i, i ≤ 21 → D < rc.1 ∧ D < s → ∀ z I1 J1, z = nI i → gtF I I1 J J1 m → gtS I1 J1 m tf dg rc u0 (min D s) → I1 m 24 = nI D → bl_WP G l (d + 4) mX11_goesThrough 8 [(4, .int z), (0, .ref m), (1, .int (nI r)), (2, .int (nI s)), (3, .int (nI u0))] [] (I1, J1, R, K, N) (0, 0) (fun o σ' => o = .inl none ∧ ∃ I' J', σ' = (I', J', R, K, N) ∧ gtF I I' J J' m ∧ gtS I' J' m tf dg rc u0 (min D s) ∧ I' m 24 = if D < rc.1 ∧ D < s then nI D else zI (-1)) := by
    intro i hi hDs z I1 J1 hz f1 f2 f3; subst hz
    have e16 : I1 (m + 16) r = nI rc.1 := by rw [f1.1 _ (by omega) (by omega)]; exact hc1
    refine bl_go oX11_goesThrough 80 [8, 116, 141] rfl ?_
    refine ⟨km, _, bl_vs rm_16, Or.inl ⟨km16, (by first | exact (by rw [nm16]; exact vp_in_nI (by omega) (by omega)) | ((try dsimp only [bl_pv]); show vp_in _ (N _); rw [nm16]; simp (disch := omega) only [e16, f3, zI_n, zI_o, zI_lit, zI_neg, zI_add, zI_sub, zI_mul, zI_lt, zI_le, zI_eq, zI_clamp, zI_in, zI_div, zI_rem, lg_lt0, lg_gt0, lg_eq0, lg_le0, lg_ge0, Int.toNat_natCast, ge_iff_le, gt_iff_lt, List.length_cons, List.length_nil, bl_up2_at, bl_up2_nk, bl_up2_nx] <;> omega)), fun h16 => ?_, fun h16 => ?_⟩⟩
    · try simp (disch := omega) only [e16, f3, zI_n, zI_o, zI_lit, zI_neg, zI_add, zI_sub, zI_mul, zI_lt, zI_le, zI_eq, zI_clamp, zI_in, zI_div, zI_rem, lg_lt0, lg_gt0, lg_eq0, lg_le0, lg_ge0, Int.toNat_natCast, ge_iff_le, gt_iff_lt, List.length_cons, List.length_nil, bl_up2_at, bl_up2_nk, bl_up2_nx] at h16
      first
      | (exfalso; first | omega | exact h16 trivial)
      | (try show _ ∧ _
         try dsimp only [bl_pv]
         exact ⟨rfl, I1, J1, rfl, f1, f2, by rw [if_pos hDs]; exact f3⟩)
    · try simp (disch := omega) only [e16, f3, zI_n, zI_o, zI_lit, zI_neg, zI_add, zI_sub, zI_mul, zI_lt, zI_le, zI_eq, zI_clamp, zI_in, zI_div, zI_rem, lg_lt0, lg_gt0, lg_eq0, lg_le0, lg_ge0, Int.toNat_natCast, ge_iff_le, gt_iff_lt, List.length_cons, List.length_nil, bl_up2_at, bl_up2_nk, bl_up2_nx] at h16
      first
      | (exfalso; first | omega | exact h16 trivial)
      | (refine ⟨fun h22 => ?_, fun h22 => ?_⟩
         · try simp (disch := omega) only [e16, f3, zI_n, zI_o, zI_lit, zI_neg, zI_add, zI_sub, zI_mul, zI_lt, zI_le, zI_eq, zI_clamp, zI_in, zI_div, zI_rem, lg_lt0, lg_gt0, lg_eq0, lg_le0, lg_ge0, Int.toNat_natCast, ge_iff_le, gt_iff_lt, List.length_cons, List.length_nil, bl_up2_at, bl_up2_nk, bl_up2_nx] at h22
           first
           | (exfalso; first | omega | exact h22 trivial)
           | (try show _ ∧ _
              try dsimp only [bl_pv]
              exact ⟨rfl, I1, J1, rfl, f1, f2, by rw [if_pos hDs]; exact f3⟩)
         · try simp (disch := omega) only [e16, f3, zI_n, zI_o, zI_lit, zI_neg, zI_add, zI_sub, zI_mul, zI_lt, zI_le, zI_eq, zI_clamp, zI_in, zI_div, zI_rem, lg_lt0, lg_gt0, lg_eq0, lg_le0, lg_ge0, Int.toNat_natCast, ge_iff_le, gt_iff_lt, List.length_cons, List.length_nil, bl_up2_at, bl_up2_nk, bl_up2_nx] at h22
           first
           | (exfalso; first | omega | exact h22 trivial)
           | (refine ⟨km, fun h30 => ?_, fun h30 => ?_⟩
              · try simp (disch := omega) only [e16, f3, zI_n, zI_o, zI_lit, zI_neg, zI_add, zI_sub, zI_mul, zI_lt, zI_le, zI_eq, zI_clamp, zI_in, zI_div, zI_rem, lg_lt0, lg_gt0, lg_eq0, lg_le0, lg_ge0, Int.toNat_natCast, ge_iff_le, gt_iff_lt, List.length_cons, List.length_nil, bl_up2_at, bl_up2_nk, bl_up2_nx] at h30
                first
                | (exfalso; first | omega | exact h30 trivial)
                | (try show _ ∧ _
                   try dsimp only [bl_pv]
                   exact ⟨rfl, I1, J1, rfl, f1, f2, by rw [if_pos hDs]; exact f3⟩)
              · try simp (disch := omega) only [e16, f3, zI_n, zI_o, zI_lit, zI_neg, zI_add, zI_sub, zI_mul, zI_lt, zI_le, zI_eq, zI_clamp, zI_in, zI_div, zI_rem, lg_lt0, lg_gt0, lg_eq0, lg_le0, lg_ge0, Int.toNat_natCast, ge_iff_le, gt_iff_lt, List.length_cons, List.length_nil, bl_up2_at, bl_up2_nk, bl_up2_nx] at h30
                exfalso; omega))
  have L8 : ∀ i, i ≤ min D s → ∀ z I1 J1, z = nI i → gtF I I1 J J1 m → gtS I1 J1 m tf dg rc u0 i → I1 m 24 = zI (-1) → bl_WP G l (d + 4) mX11_goesThrough 8 [(4, .int z), (0, .ref m), (1, .int (nI r)), (2, .int (nI s)), (3, .int (nI u0))] [] (I1, J1, R, K, N) (0, 0) (fun o σ' => o = .inl none ∧ ∃ I' J', σ' = (I', J', R, K, N) ∧ gtF I I' J J' m ∧ gtS I' J' m tf dg rc u0 (min D s) ∧ I' m 24 = if D < rc.1 ∧ D < s then nI D else zI (-1)) := by
    refine bl_for (min D s) ?_ (fun i hi ih => ?_)
    · intro z I1 J1 hz f1 f2 f3
      have e16 : I1 (m + 16) r = nI rc.1 := by rw [f1.1 _ (by omega) (by omega)]; exact hc1
      by_cases hDs : D < rc.1 ∧ D < s
      · have hmn : min D s = D := by omega
        have hno := hD.2.2 hDs.1
        have hok := slOk_at (slOk_first hO) hcO hD D (Nat.le_refl _)
        obtain ⟨hs1, hs2⟩ := hcs D hDs.1
        rw [hmn] at f2 hz
        subst hz
        have i1 : I1 (m + 100 + r) (2 * nI D).toNatClampNeg = nI (rc.2.1 D) := by rw [cl2_ (by omega), f1.1 _ (by omega) (by omega)]; exact hs1
        have i2 : I1 (m + 100 + r) (2 * nI D + 1).toNatClampNeg = nI (rc.2.2 D) := by rw [cl2_1 (by omega), f1.1 _ (by omega) (by omega)]; exact hs2
        refine bl_go oX11_goesThrough 80 [8, 116, 141] rfl ?_
        refine ⟨km, _, bl_vs rm_16, Or.inl ⟨km16, (by first | exact (by rw [nm16]; exact vp_in_nI (by omega) (by omega)) | ((try dsimp only [bl_pv]); show vp_in _ (N _); rw [nm16]; simp (disch := omega) only [e16, f3, zI_n, zI_o, zI_lit, zI_neg, zI_add, zI_sub, zI_mul, zI_lt, zI_le, zI_eq, zI_clamp, zI_in, zI_div, zI_rem, lg_lt0, lg_gt0, lg_eq0, lg_le0, lg_ge0, Int.toNat_natCast, ge_iff_le, gt_iff_lt, List.length_cons, List.length_nil, bl_up2_at, bl_up2_nk, bl_up2_nx] <;> omega)), fun h16 => ?_, fun h16 => ?_⟩⟩
        · try simp (disch := omega) only [e16, f3, zI_n, zI_o, zI_lit, zI_neg, zI_add, zI_sub, zI_mul, zI_lt, zI_le, zI_eq, zI_clamp, zI_in, zI_div, zI_rem, lg_lt0, lg_gt0, lg_eq0, lg_le0, lg_ge0, Int.toNat_natCast, ge_iff_le, gt_iff_lt, List.length_cons, List.length_nil, bl_up2_at, bl_up2_nk, bl_up2_nx] at h16
          exfalso; omega
        · try simp (disch := omega) only [e16, f3, zI_n, zI_o, zI_lit, zI_neg, zI_add, zI_sub, zI_mul, zI_lt, zI_le, zI_eq, zI_clamp, zI_in, zI_div, zI_rem, lg_lt0, lg_gt0, lg_eq0, lg_le0, lg_ge0, Int.toNat_natCast, ge_iff_le, gt_iff_lt, List.length_cons, List.length_nil, bl_up2_at, bl_up2_nk, bl_up2_nx] at h16
          first
          | (exfalso; first | omega | exact h16 trivial)
          | (refine ⟨fun h22 => ?_, fun h22 => ?_⟩
             · try simp (disch := omega) only [e16, f3, zI_n, zI_o, zI_lit, zI_neg, zI_add, zI_sub, zI_mul, zI_lt, zI_le, zI_eq, zI_clamp, zI_in, zI_div, zI_rem, lg_lt0, lg_gt0, lg_eq0, lg_le0, lg_ge0, Int.toNat_natCast, ge_iff_le, gt_iff_lt, List.length_cons, List.length_nil, bl_up2_at, bl_up2_nk, bl_up2_nx] at h22
               exfalso; omega
             · try simp (disch := omega) only [e16, f3, zI_n, zI_o, zI_lit, zI_neg, zI_add, zI_sub, zI_mul, zI_lt, zI_le, zI_eq, zI_clamp, zI_in, zI_div, zI_rem, lg_lt0, lg_gt0, lg_eq0, lg_le0, lg_ge0, Int.toNat_natCast, ge_iff_le, gt_iff_lt, List.length_cons, List.length_nil, bl_up2_at, bl_up2_nk, bl_up2_nx] at h22
               first
               | (exfalso; first | omega | exact h22 trivial)
               | (refine ⟨km, fun h30 => ?_, fun h30 => ?_⟩
                  · try simp (disch := omega) only [e16, f3, zI_n, zI_o, zI_lit, zI_neg, zI_add, zI_sub, zI_mul, zI_lt, zI_le, zI_eq, zI_clamp, zI_in, zI_div, zI_rem, lg_lt0, lg_gt0, lg_eq0, lg_le0, lg_ge0, Int.toNat_natCast, ge_iff_le, gt_iff_lt, List.length_cons, List.length_nil, bl_up2_at, bl_up2_nk, bl_up2_nx] at h30
                    (first | exact absurd rfl h30 | exact absurd trivial h30 | exact absurd h30 (by decide))
                  · try simp (disch := omega) only [e16, f3, zI_n, zI_o, zI_lit, zI_neg, zI_add, zI_sub, zI_mul, zI_lt, zI_le, zI_eq, zI_clamp, zI_in, zI_div, zI_rem, lg_lt0, lg_gt0, lg_eq0, lg_le0, lg_ge0, Int.toNat_natCast, ge_iff_le, gt_iff_lt, List.length_cons, List.length_nil, bl_up2_at, bl_up2_nk, bl_up2_nx] at h30
                    first
                    | (exfalso; first | omega | exact h30 trivial)
                    | (refine ⟨km, _, bl_vs rm_18, bl_ka km18, (by first | exact (by rw [nm18]; exact vp_in_nI (by omega) (by omega)) | ((try dsimp only [bl_pv]); show vp_in _ (N _); rw [nm18]; simp (disch := omega) only [e16, f3, zI_n, zI_o, zI_lit, zI_neg, zI_add, zI_sub, zI_mul, zI_lt, zI_le, zI_eq, zI_clamp, zI_in, zI_div, zI_rem, lg_lt0, lg_gt0, lg_eq0, lg_le0, lg_ge0, Int.toNat_natCast, ge_iff_le, gt_iff_lt, List.length_cons, List.length_nil, bl_up2_at, bl_up2_nk, bl_up2_nx] <;> omega)), _, bl_vs (by dsimp only; rw [ecr]; exact rms), Or.inl ⟨kms, (by first | exact (by rw [nms]; exact vp_in_nI (by omega) (by omega)) | ((try dsimp only [bl_pv]); show vp_in _ (N _); rw [nms]; simp (disch := omega) only [e16, f3, zI_n, zI_o, zI_lit, zI_neg, zI_add, zI_sub, zI_mul, zI_lt, zI_le, zI_eq, zI_clamp, zI_in, zI_div, zI_rem, lg_lt0, lg_gt0, lg_eq0, lg_le0, lg_ge0, Int.toNat_natCast, ge_iff_le, gt_iff_lt, List.length_cons, List.length_nil, bl_up2_at, bl_up2_nk, bl_up2_nx] <;> omega)), km, _, bl_vs rm_18, bl_ka km18, (by first | exact (by rw [nm18]; exact vp_in_nI (by omega) (by omega)) | ((try dsimp only [bl_pv]); show vp_in _ (N _); rw [nm18]; simp (disch := omega) only [e16, f3, zI_n, zI_o, zI_lit, zI_neg, zI_add, zI_sub, zI_mul, zI_lt, zI_le, zI_eq, zI_clamp, zI_in, zI_div, zI_rem, lg_lt0, lg_gt0, lg_eq0, lg_le0, lg_ge0, Int.toNat_natCast, ge_iff_le, gt_iff_lt, List.length_cons, List.length_nil, bl_up2_at, bl_up2_nk, bl_up2_nx] <;> omega)), _, bl_vs (by dsimp only; rw [ecr]; exact rms), Or.inl ⟨kms, (by first | exact (by rw [nms]; exact vp_in_nI (by omega) (by omega)) | ((try dsimp only [bl_pv]); show vp_in _ (N _); rw [nms]; simp (disch := omega) only [e16, f3, zI_n, zI_o, zI_lit, zI_neg, zI_add, zI_sub, zI_mul, zI_lt, zI_le, zI_eq, zI_clamp, zI_in, zI_div, zI_rem, lg_lt0, lg_gt0, lg_eq0, lg_le0, lg_ge0, Int.toNat_natCast, ge_iff_le, gt_iff_lt, List.length_cons, List.length_nil, bl_up2_at, bl_up2_nk, bl_up2_nx] <;> omega)), rfl, rfl, km, (Nat.le_of_ble_eq_true rfl), (0, 0), Nat.le_of_ble_eq_true rfl, Nat.le_of_ble_eq_true rfl, bl_MC_mono (c_Model_canBe (d := d + 3) (k := rc.2.1 D) (n := rc.2.2 D) (L := (sl_at (sl_first (tf 0) (tf 1) (tf 2)) rc D).1.1) km i1 i2 f2.1.1.1 (hcO D hDs.1) hok.1.2) (fun o66 σ66 q66 => ?_)⟩⟩⟩
                       try dsimp only [bl_pv] at q66
                       obtain ⟨⟨w, rfl, hw⟩, rfl⟩ := q66
                       have hw1 : w = 0 := hw.elim (fun h => absurd h.2 hno) (fun h => h.1)
                       subst hw1
                       refine bl_go oX11_goesThrough 80 [8, 116, 141] rfl ?_
                       refine ⟨fun h69 => ?_, fun h69 => ?_⟩
                       · try simp (disch := omega) only [bl_pv, cl0, cl1, cl2, cl3, cl4, cl5, cl6, cl7, cl8, cl9, bl_up2_at, bl_up2_nk, bl_up2_nx] at h69
                         (first | exact absurd rfl h69 | exact absurd trivial h69 | exact absurd h69 (by decide))
                       · try simp (disch := omega) only [bl_pv, cl0, cl1, cl2, cl3, cl4, cl5, cl6, cl7, cl8, cl9, bl_up2_at, bl_up2_nk, bl_up2_nx] at h69
                         first
                         | (exfalso; first | omega | exact h69 trivial)
                         | (refine ⟨km, Or.inr (Or.inr ⟨rfl, rfl, _, rfl⟩), (fun h => by cases h), ?_⟩
                            refine bl_lv [0, 3, 4, 5, 6] rfl ?_
                            try dsimp only [bl_pv]
                            refine L8s (D + 1) (by omega) hDs _ _ _ (nI_1 _) ⟨fun x a b => ?_, fun j a => ?_, f1.2.2⟩ ?_ bl_up2_at
                            · rw [bl_up2_ne a]; exact f1.1 x a b
                            · rw [bl_up2_nk (by omega)]; exact f1.2.1 j a
                            · rw [hmn]
                              obtain ⟨⟨g1, g2⟩, g3, g4, g5, g6, g7⟩ := f2
                              refine ⟨⟨⟨?_, ?_, fun x y hx hy => ?_⟩, g2⟩, ?_, ?_, ?_, ?_, ?_⟩
                              · rw [bl_up2_nk (by omega)]; exact g1.1
                              · rw [bl_up2_nk (by omega)]; exact g1.2.1
                              · unfold cO
                                rw [bl_up2_ne (show m + 37 ≠ m by omega), bl_up2_ne (show m + 38 ≠ m by omega)]
                                exact g1.2.2 x y hx hy
                              · rw [bl_up2_nk (by omega)]; exact g3
                              · rw [bl_up2_nk (by omega)]; exact g4
                              · rw [bl_up2_nk (by omega)]; exact g5
                              · rw [bl_up2_nk (by omega)]; exact g6
                              · rw [bl_up2_nk (by omega)]; exact g7))))
      · have hq : ¬ (min D s < rc.1 ∧ min D s < s) := by omega
        subst hz
        refine bl_go oX11_goesThrough 80 [8, 116, 141] rfl ?_
        refine ⟨km, _, bl_vs rm_16, Or.inl ⟨km16, (by first | exact (by rw [nm16]; exact vp_in_nI (by omega) (by omega)) | ((try dsimp only [bl_pv]); show vp_in _ (N _); rw [nm16]; simp (disch := omega) only [e16, f3, zI_n, zI_o, zI_lit, zI_neg, zI_add, zI_sub, zI_mul, zI_lt, zI_le, zI_eq, zI_clamp, zI_in, zI_div, zI_rem, lg_lt0, lg_gt0, lg_eq0, lg_le0, lg_ge0, Int.toNat_natCast, ge_iff_le, gt_iff_lt, List.length_cons, List.length_nil, bl_up2_at, bl_up2_nk, bl_up2_nx] <;> omega)), fun h16 => ?_, fun h16 => ?_⟩⟩
        · try simp (disch := omega) only [e16, f3, zI_n, zI_o, zI_lit, zI_neg, zI_add, zI_sub, zI_mul, zI_lt, zI_le, zI_eq, zI_clamp, zI_in, zI_div, zI_rem, lg_lt0, lg_gt0, lg_eq0, lg_le0, lg_ge0, Int.toNat_natCast, ge_iff_le, gt_iff_lt, List.length_cons, List.length_nil, bl_up2_at, bl_up2_nk, bl_up2_nx] at h16
          first
          | (exfalso; first | omega | exact h16 trivial)
          | (try show _ ∧ _
             try dsimp only [bl_pv]
             exact ⟨rfl, I1, J1, rfl, f1, f2, by rw [if_neg hDs]; exact f3⟩)
        · try simp (disch := omega) only [e16, f3, zI_n, zI_o, zI_lit, zI_neg, zI_add, zI_sub, zI_mul, zI_lt, zI_le, zI_eq, zI_clamp, zI_in, zI_div, zI_rem, lg_lt0, lg_gt0, lg_eq0, lg_le0, lg_ge0, Int.toNat_natCast, ge_iff_le, gt_iff_lt, List.length_cons, List.length_nil, bl_up2_at, bl_up2_nk, bl_up2_nx] at h16
          first
          | (exfalso; first | omega | exact h16 trivial)
          | (refine ⟨fun h22 => ?_, fun h22 => ?_⟩
             · try simp (disch := omega) only [e16, f3, zI_n, zI_o, zI_lit, zI_neg, zI_add, zI_sub, zI_mul, zI_lt, zI_le, zI_eq, zI_clamp, zI_in, zI_div, zI_rem, lg_lt0, lg_gt0, lg_eq0, lg_le0, lg_ge0, Int.toNat_natCast, ge_iff_le, gt_iff_lt, List.length_cons, List.length_nil, bl_up2_at, bl_up2_nk, bl_up2_nx] at h22
               first
               | (exfalso; first | omega | exact h22 trivial)
               | (try show _ ∧ _
                  try dsimp only [bl_pv]
                  exact ⟨rfl, I1, J1, rfl, f1, f2, by rw [if_neg hDs]; exact f3⟩)
             · try simp (disch := omega) only [e16, f3, zI_n, zI_o, zI_lit, zI_neg, zI_add, zI_sub, zI_mul, zI_lt, zI_le, zI_eq, zI_clamp, zI_in, zI_div, zI_rem, lg_lt0, lg_gt0, lg_eq0, lg_le0, lg_ge0, Int.toNat_natCast, ge_iff_le, gt_iff_lt, List.length_cons, List.length_nil, bl_up2_at, bl_up2_nk, bl_up2_nx] at h22
               exfalso; omega)
    · intro z I1 J1 hz f1 f2 f3; subst hz
      have hiD : i < D := by omega
      have his : i < s := by omega
      have e16 : I1 (m + 16) r = nI rc.1 := by rw [f1.1 _ (by omega) (by omega)]; exact hc1
      have hcan := hD.2.1 i hiD
      have hok := slOk_at (slOk_first hO) hcO hD i (by omega)
      have hst := hcO i (by omega)
      obtain ⟨hs1, hs2⟩ := hcs i (by omega)
      obtain ⟨g1, g3, g4, g5, g6, g7⟩ := f2
      have i1 : I1 (m + 100 + r) (2 * nI i).toNatClampNeg = nI (rc.2.1 i) := by rw [cl2_ (by omega), f1.1 _ (by omega) (by omega)]; exact hs1
      have i2 : I1 (m + 100 + r) (2 * nI i + 1).toNatClampNeg = nI (rc.2.2 i) := by rw [cl2_1 (by omega), f1.1 _ (by omega) (by omega)]; exact hs2
      have hk7 := hst.1
      have hv36 := hst.2.1
      have hfu : fwU rc u0 i ≤ u0 + 36 * i := (fwU_le (fun k hk => hu36 k (by omega))).1
      have e5 : I1 (m + 10) 5 = nI (tf 5) := by rw [f1.1 _ (by omega) (by omega)]; exact hC.1 5 (by omega)
      have L141 : ∀ I2 J2, gtF I I2 J J2 m → msl I2 J2 m (sl_at (sl_first (tf 0) (tf 1) (tf 2)) rc i) → I2 m 23 = nI i → I2 m 24 = zI (-1) → I2 m 25 = fst1 (fwB tf dg rc u0) (i + 1) → I2 m 26 = fst1 (fwR tf dg rc u0) (i + 1) → I2 m 27 = nI (fwU rc u0 (i + 1)) → I2 m 28 = fwW tf dg rc u0 (i + 1) → bl_WP G l (d + 4) mX11_goesThrough 141 [(6, .int (nI (rc.2.2 i))), (5, .int (nI (rc.2.1 i))), (4, .int (nI i)), (0, .ref m), (1, .int (nI r)), (2, .int (nI s)), (3, .int (nI u0))] [] (I2, J2, R, K, N) (0, 0) (fun o σ' => o = .inl none ∧ ∃ I' J', σ' = (I', J', R, K, N) ∧ gtF I I' J J' m ∧ gtS I' J' m tf dg rc u0 (min D s) ∧ I' m 24 = if D < rc.1 ∧ D < s then nI D else zI (-1)) := by
        intro I2 J2 k1 k2 k3 k4 k5 k6 k7 k8
        refine bl_go oX11_goesThrough 80 [8, 116, 141] rfl ?_
        refine ⟨rfl, rfl, km, (Nat.le_of_ble_eq_true rfl), (0, 0), Nat.le_of_ble_eq_true rfl, Nat.le_of_ble_eq_true rfl, bl_MC_mono (c_Model_makes (d := d) (k := rc.2.1 i) (n := rc.2.2 i) hm rfl rfl hst hcan hok k2) (fun o146 σ146 q146 => ?_)⟩
        try dsimp only [bl_pv] at q146
        obtain ⟨rfl, I3, J3, rfl, n1, n2⟩ := q146
        refine bl_go oX11_goesThrough 80 [8, 116, 141] rfl ?_
        refine ⟨rfl, km, km, Or.inr (Or.inr ⟨rfl, rfl, _, rfl⟩), (fun h => by cases h), ?_⟩
        refine bl_lv [0, 3, 4, 5, 6] rfl ?_
        try dsimp only [bl_pv]
        refine ih _ _ _ (nI_1 _) ⟨fun x a b => ?_, fun j a => ?_, fun x a => ?_⟩ ⟨⟨⟨?_, ?_, fun x y hx hy => ?_⟩, n2.2⟩, ?_, ?_, ?_, ?_, ?_⟩ ?_
        · rw [bl_up2_ne a]; exact (n1.gt.1 x a b).trans (k1.1 x a b)
        · rw [bl_up2_nk (by omega)]; exact (n1.gt.2.1 j a).trans (k1.2.1 j a)
        · exact (n1.gt.2.2 x a).trans (k1.2.2 x a)
        · rw [bl_up2_nk (by omega)]; exact n2.1.1
        · rw [bl_up2_nk (by omega)]; exact n2.1.2.1
        · unfold cO
          rw [bl_up2_ne (show m + 37 ≠ m by omega), bl_up2_ne (show m + 38 ≠ m by omega)]
          exact n2.1.2.2 x y hx hy
        · rw [bl_up2_at, n1.2.1 _ (by omega) (by omega), k3, nI_1]
        · rw [bl_up2_nk (by omega), n1.2.1 _ (by omega) (by omega)]; exact k5
        · rw [bl_up2_nk (by omega), n1.2.1 _ (by omega) (by omega)]; exact k6
        · rw [bl_up2_nk (by omega), n1.2.1 _ (by omega) (by omega)]; exact k7
        · rw [bl_up2_nk (by omega), n1.2.1 _ (by omega) (by omega)]; exact k8
        · rw [bl_up2_nk (by omega), n1.2.1 _ (by omega) (by omega)]; exact k4
      have L116 : ∀ I2 a b, a = nI (rc.2.2 i) → b = nI (rc.2.1 i) → (∀ x, x ≠ m → I2 x = I1 x) → (∀ j, j ≠ 25 → I2 m j = I1 m j) → I2 m 25 = fst1 (fwB tf dg rc u0) (i + 1) → bl_WP G l (d + 4) mX11_goesThrough 116 [(6, .int a), (5, .int b), (4, .int (nI i)), (0, .ref m), (1, .int (nI r)), (2, .int (nI s)), (3, .int (nI u0))] [] (I2, J1, R, K, N) (0, 0) (fun o σ' => o = .inl none ∧ ∃ I' J', σ' = (I', J', R, K, N) ∧ gtF I I' J J' m ∧ gtS I' J' m tf dg rc u0 (min D s) ∧ I' m 24 = if D < rc.1 ∧ D < s then nI D else zI (-1)) := by
        intro I2 a b ha hb p1 p2 p3
        subst ha hb
        have hC2 : mkC I2 m tf dg := hC.same ((p1 _ (by omega)).trans (f1.1 _ (by omega) (by omega))) ((p1 _ (by omega)).trans (f1.1 _ (by omega) (by omega)))
        refine bl_go oX11_goesThrough 80 [8, 116, 141] rfl ?_
        refine ⟨rfl, rfl, km, (Nat.le_of_ble_eq_true rfl), (0, 0), Nat.le_of_ble_eq_true rfl, Nat.le_of_ble_eq_true rfl, bl_MC_mono (c_Model_warms (d := d + 1) (k := rc.2.1 i) (v := rc.2.2 i) (u := fwU rc u0 i) (w := fwW tf dg rc u0 i) hm hC2 rfl rfl hk7 hv36 (by omega) ((p2 27 (by omega)).trans g6) ((p2 28 (by omega)).trans g7)) (fun o121 σ121 q121 => ?_)⟩
        try dsimp only [bl_pv] at q121
        obtain ⟨rfl, I3, rfl, n1, n2, n3, n4⟩ := q121
        refine bl_go oX11_goesThrough 80 [8, 116, 141] rfl ?_
        refine ⟨fun h124 => ?_, fun h124 => ?_⟩
        · try simp (disch := omega) only [bl_pv, cl0, cl1, cl2, cl3, cl4, cl5, cl6, cl7, cl8, cl9, bl_up2_at, bl_up2_nk, bl_up2_nx] at h124
          try dsimp only [bl_pv]
          have e26 : I3 m 26 = fst1 (fwR tf dg rc u0) i := (n2 26 (by omega) (by omega)).trans ((p2 26 (by omega)).trans g5)
          have hfr : gtF I I3 J J1 m := ⟨fun x a b => (n1 x a).trans ((p1 x a).trans (f1.1 x a b)), fun j a => (n2 j (by omega) (by omega)).trans ((p2 j (by omega)).trans (f1.2.1 j a)), f1.2.2⟩
          have hms : msl I3 J1 m (sl_at (sl_first (tf 0) (tf 1) (tf 2)) rc i) := by
            refine ⟨⟨?_, ?_, fun x y hx hy => ?_⟩, g1.2⟩
            · rw [n2 _ (by omega) (by omega), p2 _ (by omega)]; exact g1.1.1
            · rw [n2 _ (by omega) (by omega), p2 _ (by omega)]; exact g1.1.2.1
            · unfold cO
              rw [n1 _ (show m + 37 ≠ m by omega), n1 _ (show m + 38 ≠ m by omega), p1 _ (show m + 37 ≠ m by omega), p1 _ (show m + 38 ≠ m by omega)]
              exact g1.1.2.2 x y hx hy
          have q23 : I3 m 23 = nI i := (n2 23 (by omega) (by omega)).trans ((p2 23 (by omega)).trans g3)
          have q24 : I3 m 24 = zI (-1) := (n2 24 (by omega) (by omega)).trans ((p2 24 (by omega)).trans f3)
          have q25 : I3 m 25 = fst1 (fwB tf dg rc u0) (i + 1) := (n2 25 (by omega) (by omega)).trans p3
          first
          | (have hq := h132
             have hR : fwR tf dg rc u0 i = true := by
               cases hh : fwR tf dg rc u0 i
               · exact absurd (show bI (fwR tf dg rc u0 i) = 0 by rw [hh]; rfl) h124
               · rfl
             first
             | (refine L141 _ _ hfr hms q23 q24 q25 ?_ n3 n4
                rw [e26] at hq ⊢
                exact (if_neg (fun h => hq h.2)).symm)
             | (refine L141 _ _ ⟨fun x a b => ?_, fun j a => ?_, hfr.2.2⟩ ⟨⟨?_, ?_, fun x y hx hy => ?_⟩, hms.2⟩ ?_ ?_ ?_ ?_ ?_ ?_
                · rw [bl_up2_ne a]; exact hfr.1 x a b
                · rw [bl_up2_nk (by omega)]; exact hfr.2.1 j a
                · rw [bl_up2_nk (by omega)]; exact hms.1.1
                · rw [bl_up2_nk (by omega)]; exact hms.1.2.1
                · unfold cO
                  rw [bl_up2_ne (show m + 37 ≠ m by omega), bl_up2_ne (show m + 38 ≠ m by omega)]
                  exact hms.1.2.2 x y hx hy
                · rw [bl_up2_nk (by omega)]; exact q23
                · rw [bl_up2_nk (by omega)]; exact q24
                · rw [bl_up2_nk (by omega)]; exact q25
                · rw [bl_up2_at]; rw [e26] at hq
                  exact (if_pos ⟨hR, hq⟩).symm
                · rw [bl_up2_nk (by omega)]; exact n3
                · rw [bl_up2_nk (by omega)]; exact n4))
          | (have hR : fwR tf dg rc u0 i = false := bI_0.mp h124
             refine L141 _ _ hfr hms q23 q24 q25 ?_ n3 n4
             rw [e26]
             exact (if_neg (fun h => absurd (hR.symm.trans h.1) (by decide))).symm)
        · try simp (disch := omega) only [bl_pv, cl0, cl1, cl2, cl3, cl4, cl5, cl6, cl7, cl8, cl9, bl_up2_at, bl_up2_nk, bl_up2_nx] at h124
          refine ⟨km, fun h132 => ?_, fun h132 => ?_⟩
          · try simp (disch := omega) only [bl_pv, cl0, cl1, cl2, cl3, cl4, cl5, cl6, cl7, cl8, cl9, bl_up2_at, bl_up2_nk, bl_up2_nx] at h132
            try dsimp only [bl_pv]
            have e26 : I3 m 26 = fst1 (fwR tf dg rc u0) i := (n2 26 (by omega) (by omega)).trans ((p2 26 (by omega)).trans g5)
            have hfr : gtF I I3 J J1 m := ⟨fun x a b => (n1 x a).trans ((p1 x a).trans (f1.1 x a b)), fun j a => (n2 j (by omega) (by omega)).trans ((p2 j (by omega)).trans (f1.2.1 j a)), f1.2.2⟩
            have hms : msl I3 J1 m (sl_at (sl_first (tf 0) (tf 1) (tf 2)) rc i) := by
              refine ⟨⟨?_, ?_, fun x y hx hy => ?_⟩, g1.2⟩
              · rw [n2 _ (by omega) (by omega), p2 _ (by omega)]; exact g1.1.1
              · rw [n2 _ (by omega) (by omega), p2 _ (by omega)]; exact g1.1.2.1
              · unfold cO
                rw [n1 _ (show m + 37 ≠ m by omega), n1 _ (show m + 38 ≠ m by omega), p1 _ (show m + 37 ≠ m by omega), p1 _ (show m + 38 ≠ m by omega)]
                exact g1.1.2.2 x y hx hy
            have q23 : I3 m 23 = nI i := (n2 23 (by omega) (by omega)).trans ((p2 23 (by omega)).trans g3)
            have q24 : I3 m 24 = zI (-1) := (n2 24 (by omega) (by omega)).trans ((p2 24 (by omega)).trans f3)
            have q25 : I3 m 25 = fst1 (fwB tf dg rc u0) (i + 1) := (n2 25 (by omega) (by omega)).trans p3
            first
            | (have hq := h132
               have hR : fwR tf dg rc u0 i = true := by
                 cases hh : fwR tf dg rc u0 i
                 · exact absurd (show bI (fwR tf dg rc u0 i) = 0 by rw [hh]; rfl) h124
                 · rfl
               first
               | (refine L141 _ _ hfr hms q23 q24 q25 ?_ n3 n4
                  rw [e26] at hq ⊢
                  exact (if_neg (fun h => hq h.2)).symm)
               | (refine L141 _ _ ⟨fun x a b => ?_, fun j a => ?_, hfr.2.2⟩ ⟨⟨?_, ?_, fun x y hx hy => ?_⟩, hms.2⟩ ?_ ?_ ?_ ?_ ?_ ?_
                  · rw [bl_up2_ne a]; exact hfr.1 x a b
                  · rw [bl_up2_nk (by omega)]; exact hfr.2.1 j a
                  · rw [bl_up2_nk (by omega)]; exact hms.1.1
                  · rw [bl_up2_nk (by omega)]; exact hms.1.2.1
                  · unfold cO
                    rw [bl_up2_ne (show m + 37 ≠ m by omega), bl_up2_ne (show m + 38 ≠ m by omega)]
                    exact hms.1.2.2 x y hx hy
                  · rw [bl_up2_nk (by omega)]; exact q23
                  · rw [bl_up2_nk (by omega)]; exact q24
                  · rw [bl_up2_nk (by omega)]; exact q25
                  · rw [bl_up2_at]; rw [e26] at hq
                    exact (if_pos ⟨hR, hq⟩).symm
                  · rw [bl_up2_nk (by omega)]; exact n3
                  · rw [bl_up2_nk (by omega)]; exact n4))
            | (have hR : fwR tf dg rc u0 i = false := bI_0.mp h124
               refine L141 _ _ hfr hms q23 q24 q25 ?_ n3 n4
               rw [e26]
               exact (if_neg (fun h => absurd (hR.symm.trans h.1) (by decide))).symm)
          · try simp (disch := omega) only [bl_pv, cl0, cl1, cl2, cl3, cl4, cl5, cl6, cl7, cl8, cl9, bl_up2_at, bl_up2_nk, bl_up2_nx] at h132
            refine ⟨km, Or.inr (Or.inr ⟨rfl, rfl, _, rfl⟩), (fun h => by cases h), ?_⟩
            try dsimp only [bl_pv]
            have e26 : I3 m 26 = fst1 (fwR tf dg rc u0) i := (n2 26 (by omega) (by omega)).trans ((p2 26 (by omega)).trans g5)
            have hfr : gtF I I3 J J1 m := ⟨fun x a b => (n1 x a).trans ((p1 x a).trans (f1.1 x a b)), fun j a => (n2 j (by omega) (by omega)).trans ((p2 j (by omega)).trans (f1.2.1 j a)), f1.2.2⟩
            have hms : msl I3 J1 m (sl_at (sl_first (tf 0) (tf 1) (tf 2)) rc i) := by
              refine ⟨⟨?_, ?_, fun x y hx hy => ?_⟩, g1.2⟩
              · rw [n2 _ (by omega) (by omega), p2 _ (by omega)]; exact g1.1.1
              · rw [n2 _ (by omega) (by omega), p2 _ (by omega)]; exact g1.1.2.1
              · unfold cO
                rw [n1 _ (show m + 37 ≠ m by omega), n1 _ (show m + 38 ≠ m by omega), p1 _ (show m + 37 ≠ m by omega), p1 _ (show m + 38 ≠ m by omega)]
                exact g1.1.2.2 x y hx hy
            have q23 : I3 m 23 = nI i := (n2 23 (by omega) (by omega)).trans ((p2 23 (by omega)).trans g3)
            have q24 : I3 m 24 = zI (-1) := (n2 24 (by omega) (by omega)).trans ((p2 24 (by omega)).trans f3)
            have q25 : I3 m 25 = fst1 (fwB tf dg rc u0) (i + 1) := (n2 25 (by omega) (by omega)).trans p3
            first
            | (have hq := h132
               have hR : fwR tf dg rc u0 i = true := by
                 cases hh : fwR tf dg rc u0 i
                 · exact absurd (show bI (fwR tf dg rc u0 i) = 0 by rw [hh]; rfl) h124
                 · rfl
               first
               | (refine L141 _ _ hfr hms q23 q24 q25 ?_ n3 n4
                  rw [e26] at hq ⊢
                  exact (if_neg (fun h => hq h.2)).symm)
               | (refine L141 _ _ ⟨fun x a b => ?_, fun j a => ?_, hfr.2.2⟩ ⟨⟨?_, ?_, fun x y hx hy => ?_⟩, hms.2⟩ ?_ ?_ ?_ ?_ ?_ ?_
                  · rw [bl_up2_ne a]; exact hfr.1 x a b
                  · rw [bl_up2_nk (by omega)]; exact hfr.2.1 j a
                  · rw [bl_up2_nk (by omega)]; exact hms.1.1
                  · rw [bl_up2_nk (by omega)]; exact hms.1.2.1
                  · unfold cO
                    rw [bl_up2_ne (show m + 37 ≠ m by omega), bl_up2_ne (show m + 38 ≠ m by omega)]
                    exact hms.1.2.2 x y hx hy
                  · rw [bl_up2_nk (by omega)]; exact q23
                  · rw [bl_up2_nk (by omega)]; exact q24
                  · rw [bl_up2_nk (by omega)]; exact q25
                  · rw [bl_up2_at]; rw [e26] at hq
                    exact (if_pos ⟨hR, hq⟩).symm
                  · rw [bl_up2_nk (by omega)]; exact n3
                  · rw [bl_up2_nk (by omega)]; exact n4))
            | (have hR : fwR tf dg rc u0 i = false := bI_0.mp h124
               refine L141 _ _ hfr hms q23 q24 q25 ?_ n3 n4
               rw [e26]
               exact (if_neg (fun h => absurd (hR.symm.trans h.1) (by decide))).symm)
      refine bl_go oX11_goesThrough 80 [8, 116, 141] rfl ?_
      refine ⟨km, _, bl_vs rm_16, Or.inl ⟨km16, (by first | exact (by rw [nm16]; exact vp_in_nI (by omega) (by omega)) | ((try dsimp only [bl_pv]); show vp_in _ (N _); rw [nm16]; simp (disch := omega) only [e16, f3, zI_n, zI_o, zI_lit, zI_neg, zI_add, zI_sub, zI_mul, zI_lt, zI_le, zI_eq, zI_clamp, zI_in, zI_div, zI_rem, lg_lt0, lg_gt0, lg_eq0, lg_le0, lg_ge0, Int.toNat_natCast, ge_iff_le, gt_iff_lt, List.length_cons, List.length_nil, bl_up2_at, bl_up2_nk, bl_up2_nx] <;> omega)), fun h16 => ?_, fun h16 => ?_⟩⟩
      · try simp (disch := omega) only [e16, f3, zI_n, zI_o, zI_lit, zI_neg, zI_add, zI_sub, zI_mul, zI_lt, zI_le, zI_eq, zI_clamp, zI_in, zI_div, zI_rem, lg_lt0, lg_gt0, lg_eq0, lg_le0, lg_ge0, Int.toNat_natCast, ge_iff_le, gt_iff_lt, List.length_cons, List.length_nil, bl_up2_at, bl_up2_nk, bl_up2_nx] at h16
        exfalso; omega
      · try simp (disch := omega) only [e16, f3, zI_n, zI_o, zI_lit, zI_neg, zI_add, zI_sub, zI_mul, zI_lt, zI_le, zI_eq, zI_clamp, zI_in, zI_div, zI_rem, lg_lt0, lg_gt0, lg_eq0, lg_le0, lg_ge0, Int.toNat_natCast, ge_iff_le, gt_iff_lt, List.length_cons, List.length_nil, bl_up2_at, bl_up2_nk, bl_up2_nx] at h16
        first
        | (exfalso; first | omega | exact h16 trivial)
        | (refine ⟨fun h22 => ?_, fun h22 => ?_⟩
           · try simp (disch := omega) only [e16, f3, zI_n, zI_o, zI_lit, zI_neg, zI_add, zI_sub, zI_mul, zI_lt, zI_le, zI_eq, zI_clamp, zI_in, zI_div, zI_rem, lg_lt0, lg_gt0, lg_eq0, lg_le0, lg_ge0, Int.toNat_natCast, ge_iff_le, gt_iff_lt, List.length_cons, List.length_nil, bl_up2_at, bl_up2_nk, bl_up2_nx] at h22
             exfalso; omega
           · try simp (disch := omega) only [e16, f3, zI_n, zI_o, zI_lit, zI_neg, zI_add, zI_sub, zI_mul, zI_lt, zI_le, zI_eq, zI_clamp, zI_in, zI_div, zI_rem, lg_lt0, lg_gt0, lg_eq0, lg_le0, lg_ge0, Int.toNat_natCast, ge_iff_le, gt_iff_lt, List.length_cons, List.length_nil, bl_up2_at, bl_up2_nk, bl_up2_nx] at h22
             first
             | (exfalso; first | omega | exact h22 trivial)
             | (refine ⟨km, fun h30 => ?_, fun h30 => ?_⟩
                · try simp (disch := omega) only [e16, f3, zI_n, zI_o, zI_lit, zI_neg, zI_add, zI_sub, zI_mul, zI_lt, zI_le, zI_eq, zI_clamp, zI_in, zI_div, zI_rem, lg_lt0, lg_gt0, lg_eq0, lg_le0, lg_ge0, Int.toNat_natCast, ge_iff_le, gt_iff_lt, List.length_cons, List.length_nil, bl_up2_at, bl_up2_nk, bl_up2_nx] at h30
                  (first | exact absurd rfl h30 | exact absurd trivial h30 | exact absurd h30 (by decide))
                · try simp (disch := omega) only [e16, f3, zI_n, zI_o, zI_lit, zI_neg, zI_add, zI_sub, zI_mul, zI_lt, zI_le, zI_eq, zI_clamp, zI_in, zI_div, zI_rem, lg_lt0, lg_gt0, lg_eq0, lg_le0, lg_ge0, Int.toNat_natCast, ge_iff_le, gt_iff_lt, List.length_cons, List.length_nil, bl_up2_at, bl_up2_nk, bl_up2_nx] at h30
                  first
                  | (exfalso; first | omega | exact h30 trivial)
                  | (refine ⟨km, _, bl_vs rm_18, bl_ka km18, (by first | exact (by rw [nm18]; exact vp_in_nI (by omega) (by omega)) | ((try dsimp only [bl_pv]); show vp_in _ (N _); rw [nm18]; simp (disch := omega) only [e16, f3, zI_n, zI_o, zI_lit, zI_neg, zI_add, zI_sub, zI_mul, zI_lt, zI_le, zI_eq, zI_clamp, zI_in, zI_div, zI_rem, lg_lt0, lg_gt0, lg_eq0, lg_le0, lg_ge0, Int.toNat_natCast, ge_iff_le, gt_iff_lt, List.length_cons, List.length_nil, bl_up2_at, bl_up2_nk, bl_up2_nx] <;> omega)), _, bl_vs (by dsimp only; rw [ecr]; exact rms), Or.inl ⟨kms, (by first | exact (by rw [nms]; exact vp_in_nI (by omega) (by omega)) | ((try dsimp only [bl_pv]); show vp_in _ (N _); rw [nms]; simp (disch := omega) only [e16, f3, zI_n, zI_o, zI_lit, zI_neg, zI_add, zI_sub, zI_mul, zI_lt, zI_le, zI_eq, zI_clamp, zI_in, zI_div, zI_rem, lg_lt0, lg_gt0, lg_eq0, lg_le0, lg_ge0, Int.toNat_natCast, ge_iff_le, gt_iff_lt, List.length_cons, List.length_nil, bl_up2_at, bl_up2_nk, bl_up2_nx] <;> omega)), km, _, bl_vs rm_18, bl_ka km18, (by first | exact (by rw [nm18]; exact vp_in_nI (by omega) (by omega)) | ((try dsimp only [bl_pv]); show vp_in _ (N _); rw [nm18]; simp (disch := omega) only [e16, f3, zI_n, zI_o, zI_lit, zI_neg, zI_add, zI_sub, zI_mul, zI_lt, zI_le, zI_eq, zI_clamp, zI_in, zI_div, zI_rem, lg_lt0, lg_gt0, lg_eq0, lg_le0, lg_ge0, Int.toNat_natCast, ge_iff_le, gt_iff_lt, List.length_cons, List.length_nil, bl_up2_at, bl_up2_nk, bl_up2_nx] <;> omega)), _, bl_vs (by dsimp only; rw [ecr]; exact rms), Or.inl ⟨kms, (by first | exact (by rw [nms]; exact vp_in_nI (by omega) (by omega)) | ((try dsimp only [bl_pv]); show vp_in _ (N _); rw [nms]; simp (disch := omega) only [e16, f3, zI_n, zI_o, zI_lit, zI_neg, zI_add, zI_sub, zI_mul, zI_lt, zI_le, zI_eq, zI_clamp, zI_in, zI_div, zI_rem, lg_lt0, lg_gt0, lg_eq0, lg_le0, lg_ge0, Int.toNat_natCast, ge_iff_le, gt_iff_lt, List.length_cons, List.length_nil, bl_up2_at, bl_up2_nk, bl_up2_nx] <;> omega)), rfl, rfl, km, (Nat.le_of_ble_eq_true rfl), (0, 0), Nat.le_of_ble_eq_true rfl, Nat.le_of_ble_eq_true rfl, bl_MC_mono (c_Model_canBe (d := d + 3) (k := rc.2.1 i) (n := rc.2.2 i) (L := (sl_at (sl_first (tf 0) (tf 1) (tf 2)) rc i).1.1) km i1 i2 g1.1.1 hst hok.1.2) (fun o66 σ66 q66 => ?_)⟩⟩⟩
                     try dsimp only [bl_pv] at q66
                     obtain ⟨⟨w, rfl, hw⟩, rfl⟩ := q66
                     have hw1 : w = 1 := hw.elim (fun h => h.1) (fun h => absurd hcan h.2)
                     subst hw1
                     refine bl_go oX11_goesThrough 80 [8, 116, 141] rfl ?_
                     refine ⟨fun h69 => ?_, fun h69 => ?_⟩
                     · try simp (disch := omega) only [bl_pv, cl0, cl1, cl2, cl3, cl4, cl5, cl6, cl7, cl8, cl9, bl_up2_at, bl_up2_nk, bl_up2_nx] at h69
                       first
                       | (exfalso; first | omega | exact h69 trivial)
                       | (refine ⟨fun h83 => ?_, fun h83 => ?_⟩
                          · try simp (disch := omega) only [bl_pv, cl0, cl1, cl2, cl3, cl4, cl5, cl6, cl7, cl8, cl9, bl_up2_at, bl_up2_nk, bl_up2_nx] at h83
                            try dsimp only [bl_pv]
                            have hb0 : (I1 (m + 100 + r) (2 * nI i).toNatClampNeg = 0) ↔ rc.2.1 i = 0 := by rw [i1]; exact nI_eqk (b := 0) (by omega) (by omega)
                            first
                            | (have hq := h107
                               have hk0 := hb0.mp h83
                               have hB : fwB tf dg rc u0 i = true := by
                                 unfold fwB tkb
                                 refine decide_eq_true ⟨hk0, ?_⟩
                                 have h9 := h99
                                 rw [e5, g7] at h9
                                 exact Int32.not_le.mp h9
                               first
                               | (refine L116 _ _ _ i2 i1 (fun _ _ => rfl) (fun _ _ => rfl) ?_
                                  rw [g4] at hq ⊢
                                  exact (if_neg (fun h => hq h.2)).symm)
                               | (refine L116 _ _ _ i2 i1 (fun x hx => bl_up2_ne hx) (fun j hj => bl_up2_nk hj) ?_
                                  rw [bl_up2_at]; rw [g4] at hq
                                  exact (if_pos ⟨hB, hq⟩).symm))
                            | (have h9 := h99
                               refine L116 _ _ _ i2 i1 (fun _ _ => rfl) (fun _ _ => rfl) ?_
                               rw [e5, g7] at h9
                               have hB : fwB tf dg rc u0 i = false := by
                                 unfold fwB tkb
                                 exact decide_eq_false (fun h => Int32.not_lt.mpr h9 h.2)
                               rw [g4]
                               exact (if_neg (fun h => absurd (hB.symm.trans h.1) (by decide))).symm)
                            | (refine L116 _ _ _ i2 i1 (fun _ _ => rfl) (fun _ _ => rfl) ?_
                               have hB : fwB tf dg rc u0 i = false := by
                                 unfold fwB tkb
                                 exact decide_eq_false (fun h => h83 (hb0.mpr h.1))
                               rw [g4]
                               exact (if_neg (fun h => absurd (hB.symm.trans h.1) (by decide))).symm)
                          · try simp (disch := omega) only [bl_pv, cl0, cl1, cl2, cl3, cl4, cl5, cl6, cl7, cl8, cl9, bl_up2_at, bl_up2_nk, bl_up2_nx] at h83
                            refine ⟨km, km, _, bl_vs rm_10, Or.inl ⟨km10, (by first | exact (by rw [nm10]; exact vp_in_nI (by omega) (by omega)) | ((try dsimp only [bl_pv]); show vp_in _ (N _); rw [nm10]; simp (disch := omega) only [e16, f3, zI_n, zI_o, zI_lit, zI_neg, zI_add, zI_sub, zI_mul, zI_lt, zI_le, zI_eq, zI_clamp, zI_in, zI_div, zI_rem, lg_lt0, lg_gt0, lg_eq0, lg_le0, lg_ge0, Int.toNat_natCast, ge_iff_le, gt_iff_lt, List.length_cons, List.length_nil, bl_up2_at, bl_up2_nk, bl_up2_nx] <;> omega)), fun h99 => ?_, fun h99 => ?_⟩⟩
                            · try simp (disch := omega) only [bl_pv, cl0, cl1, cl2, cl3, cl4, cl5, cl6, cl7, cl8, cl9, bl_up2_at, bl_up2_nk, bl_up2_nx] at h99
                              try dsimp only [bl_pv]
                              have hb0 : (I1 (m + 100 + r) (2 * nI i).toNatClampNeg = 0) ↔ rc.2.1 i = 0 := by rw [i1]; exact nI_eqk (b := 0) (by omega) (by omega)
                              first
                              | (have hq := h107
                                 have hk0 := hb0.mp h83
                                 have hB : fwB tf dg rc u0 i = true := by
                                   unfold fwB tkb
                                   refine decide_eq_true ⟨hk0, ?_⟩
                                   have h9 := h99
                                   rw [e5, g7] at h9
                                   exact Int32.not_le.mp h9
                                 first
                                 | (refine L116 _ _ _ i2 i1 (fun _ _ => rfl) (fun _ _ => rfl) ?_
                                    rw [g4] at hq ⊢
                                    exact (if_neg (fun h => hq h.2)).symm)
                                 | (refine L116 _ _ _ i2 i1 (fun x hx => bl_up2_ne hx) (fun j hj => bl_up2_nk hj) ?_
                                    rw [bl_up2_at]; rw [g4] at hq
                                    exact (if_pos ⟨hB, hq⟩).symm))
                              | (have h9 := h99
                                 refine L116 _ _ _ i2 i1 (fun _ _ => rfl) (fun _ _ => rfl) ?_
                                 rw [e5, g7] at h9
                                 have hB : fwB tf dg rc u0 i = false := by
                                   unfold fwB tkb
                                   exact decide_eq_false (fun h => Int32.not_lt.mpr h9 h.2)
                                 rw [g4]
                                 exact (if_neg (fun h => absurd (hB.symm.trans h.1) (by decide))).symm)
                              | (refine L116 _ _ _ i2 i1 (fun _ _ => rfl) (fun _ _ => rfl) ?_
                                 have hB : fwB tf dg rc u0 i = false := by
                                   unfold fwB tkb
                                   exact decide_eq_false (fun h => h83 (hb0.mpr h.1))
                                 rw [g4]
                                 exact (if_neg (fun h => absurd (hB.symm.trans h.1) (by decide))).symm)
                            · try simp (disch := omega) only [bl_pv, cl0, cl1, cl2, cl3, cl4, cl5, cl6, cl7, cl8, cl9, bl_up2_at, bl_up2_nk, bl_up2_nx] at h99
                              refine ⟨km, fun h107 => ?_, fun h107 => ?_⟩
                              · try simp (disch := omega) only [bl_pv, cl0, cl1, cl2, cl3, cl4, cl5, cl6, cl7, cl8, cl9, bl_up2_at, bl_up2_nk, bl_up2_nx] at h107
                                try dsimp only [bl_pv]
                                have hb0 : (I1 (m + 100 + r) (2 * nI i).toNatClampNeg = 0) ↔ rc.2.1 i = 0 := by rw [i1]; exact nI_eqk (b := 0) (by omega) (by omega)
                                first
                                | (have hq := h107
                                   have hk0 := hb0.mp h83
                                   have hB : fwB tf dg rc u0 i = true := by
                                     unfold fwB tkb
                                     refine decide_eq_true ⟨hk0, ?_⟩
                                     have h9 := h99
                                     rw [e5, g7] at h9
                                     exact Int32.not_le.mp h9
                                   first
                                   | (refine L116 _ _ _ i2 i1 (fun _ _ => rfl) (fun _ _ => rfl) ?_
                                      rw [g4] at hq ⊢
                                      exact (if_neg (fun h => hq h.2)).symm)
                                   | (refine L116 _ _ _ i2 i1 (fun x hx => bl_up2_ne hx) (fun j hj => bl_up2_nk hj) ?_
                                      rw [bl_up2_at]; rw [g4] at hq
                                      exact (if_pos ⟨hB, hq⟩).symm))
                                | (have h9 := h99
                                   refine L116 _ _ _ i2 i1 (fun _ _ => rfl) (fun _ _ => rfl) ?_
                                   rw [e5, g7] at h9
                                   have hB : fwB tf dg rc u0 i = false := by
                                     unfold fwB tkb
                                     exact decide_eq_false (fun h => Int32.not_lt.mpr h9 h.2)
                                   rw [g4]
                                   exact (if_neg (fun h => absurd (hB.symm.trans h.1) (by decide))).symm)
                                | (refine L116 _ _ _ i2 i1 (fun _ _ => rfl) (fun _ _ => rfl) ?_
                                   have hB : fwB tf dg rc u0 i = false := by
                                     unfold fwB tkb
                                     exact decide_eq_false (fun h => h83 (hb0.mpr h.1))
                                   rw [g4]
                                   exact (if_neg (fun h => absurd (hB.symm.trans h.1) (by decide))).symm)
                              · try simp (disch := omega) only [bl_pv, cl0, cl1, cl2, cl3, cl4, cl5, cl6, cl7, cl8, cl9, bl_up2_at, bl_up2_nk, bl_up2_nx] at h107
                                refine ⟨km, Or.inr (Or.inr ⟨rfl, rfl, _, rfl⟩), (fun h => by cases h), ?_⟩
                                try dsimp only [bl_pv]
                                have hb0 : (I1 (m + 100 + r) (2 * nI i).toNatClampNeg = 0) ↔ rc.2.1 i = 0 := by rw [i1]; exact nI_eqk (b := 0) (by omega) (by omega)
                                first
                                | (have hq := h107
                                   have hk0 := hb0.mp h83
                                   have hB : fwB tf dg rc u0 i = true := by
                                     unfold fwB tkb
                                     refine decide_eq_true ⟨hk0, ?_⟩
                                     have h9 := h99
                                     rw [e5, g7] at h9
                                     exact Int32.not_le.mp h9
                                   first
                                   | (refine L116 _ _ _ i2 i1 (fun _ _ => rfl) (fun _ _ => rfl) ?_
                                      rw [g4] at hq ⊢
                                      exact (if_neg (fun h => hq h.2)).symm)
                                   | (refine L116 _ _ _ i2 i1 (fun x hx => bl_up2_ne hx) (fun j hj => bl_up2_nk hj) ?_
                                      rw [bl_up2_at]; rw [g4] at hq
                                      exact (if_pos ⟨hB, hq⟩).symm))
                                | (have h9 := h99
                                   refine L116 _ _ _ i2 i1 (fun _ _ => rfl) (fun _ _ => rfl) ?_
                                   rw [e5, g7] at h9
                                   have hB : fwB tf dg rc u0 i = false := by
                                     unfold fwB tkb
                                     exact decide_eq_false (fun h => Int32.not_lt.mpr h9 h.2)
                                   rw [g4]
                                   exact (if_neg (fun h => absurd (hB.symm.trans h.1) (by decide))).symm)
                                | (refine L116 _ _ _ i2 i1 (fun _ _ => rfl) (fun _ _ => rfl) ?_
                                   have hB : fwB tf dg rc u0 i = false := by
                                     unfold fwB tkb
                                     exact decide_eq_false (fun h => h83 (hb0.mpr h.1))
                                   rw [g4]
                                   exact (if_neg (fun h => absurd (hB.symm.trans h.1) (by decide))).symm))
                     · try simp (disch := omega) only [bl_pv, cl0, cl1, cl2, cl3, cl4, cl5, cl6, cl7, cl8, cl9, bl_up2_at, bl_up2_nk, bl_up2_nx] at h69
                       (first | exact absurd rfl h69 | exact absurd trivial h69 | exact absurd h69 (by decide)))))
  refine bl_go oX11_goesThrough 80 [8, 116, 141] rfl ?_
  refine ⟨rfl, rfl, km, (Nat.le_of_ble_eq_true rfl), (0, 0), Nat.le_of_ble_eq_true rfl, Nat.le_of_ble_eq_true rfl, bl_MC_mono (c_Model_laysSlab (d := d + 2) hm hC hO) (fun o2 σ2 q2 => ?_)⟩
  try dsimp only [bl_pv] at q2
  obtain ⟨rfl, I1, J1, rfl, f1, f2, f3, f4, f5, f6, f7, f8⟩ := q2
  refine bl_go oX11_goesThrough 80 [8, 116, 141] rfl ?_
  try dsimp only [bl_pv]
  exact L8 0 (by omega) _ _ _ rfl f1 ⟨f2, f3, f5, f6, f7, f8⟩ f4
end MODEL22
