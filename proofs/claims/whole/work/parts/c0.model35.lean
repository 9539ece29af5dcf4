/-! ===== Model: bestFrom, wayOf, soonest, fewest ===== -/
section MODEL35
variable {G : bl_G} {l : Launch} {d m : Nat} {I : Nat → Nat → Int32} {J : Nat → Nat → Int64} {R : Nat → Nat → Option Nat} {K N : Nat → Nat} {tf g : Nat → Nat} {dg : Nat → Int32} {u0 : Nat} {c : Bool}
theorem c_Model_bestFrom {n0 : Nat} (hm : mdS R K N m) (k : Nat) : ∀ n, 1 ≤ n → n < 2 ^ k → n ≤ 1024 → made n → n0 % n = 0 → ∀ (u w : Nat) (I : Nat → Nat → Int32) (x1 x2 x3 : Int32), u ≤ 120 → w ≤ 400 → wyI I m tf g dg u0 c n0 → x1 = nI u → x2 = nI w → x3 = nI n → bl_MC G l (d + 2 * k + 2) mX11_bestFrom [.ref m, .int x1, .int x2, .int x3] (I, J, R, K, N) (0, 0) (fun o σ' => o = .inl (some (.int (nI (bfv (pPk tf g u0) c u w n)))) ∧ ∃ I', σ' = (I', J, R, K, N) ∧ wyF I I' m ∧ wyI I' m tf g dg u0 c n0) := by
  have km := hm.2.1
  obtain ⟨rm_43, km43, nm43⟩ := hm.f43
  induction k with
  | zero => intro n h1 h2; exact absurd h2 (by simp; omega)
  | succ k ih =>
    intro n h1 h2 hn2 hmd hdv u w I x1 x2 x3 hu hw hI e1 e2 e3
    have hP := pPk_ok (u0 := u0) hI.1.2.2.1
    subst e1 e2 e3
    by_cases hn1 : n = 1
    · subst hn1
      refine bl_MC_intro (by decide +kernel) rfl (Nat.le_of_ble_eq_true rfl) ?_
      refine bl_go oX11_bestFrom 80 [7, 48, 58] rfl ?_
      refine ⟨fun h2 => ?_, fun h2 => ?_⟩
      · try simp (disch := omega) only [zI_n, zI_o, zI_lit, zI_neg, zI_add, zI_sub, zI_mul, zI_lt, zI_le, zI_eq, zI_clamp, zI_in, zI_div, zI_rem, lg_lt0, lg_gt0, lg_eq0, lg_le0, lg_ge0, Int.toNat_natCast, ge_iff_le, gt_iff_lt, List.length_cons, List.length_nil, bl_up2_at, bl_up2_nk, bl_up2_nx] at h2
        exfalso; first | omega | exact h2 trivial
      · try simp (disch := omega) only [zI_n, zI_o, zI_lit, zI_neg, zI_add, zI_sub, zI_mul, zI_lt, zI_le, zI_eq, zI_clamp, zI_in, zI_div, zI_rem, lg_lt0, lg_gt0, lg_eq0, lg_le0, lg_ge0, Int.toNat_natCast, ge_iff_le, gt_iff_lt, List.length_cons, List.length_nil, bl_up2_at, bl_up2_nk, bl_up2_nx] at h2
        refine ⟨(fun h => by cases h), ?_⟩
        try show _ ∧ _
        try dsimp only [bl_pv]
        exact ⟨by rw [bfv_1]; rfl, I, rfl, wyF.refl, hI⟩
    · have hpn := made_pm h1 hn2 hmd
      have hbb := bfv_b (c := c) (n := n) hP hw hu (by omega)
      have ecu : (nI u).toNatClampNeg = u := nI_clamp (by omega)
      have ecw : (nI w).toNatClampNeg = w := nI_clamp (by omega)
      obtain ⟨rmu, kmu, nmu⟩ := hm.g43 u (by omega)
      obtain ⟨rmw, kmw, nmw⟩ := hm.g44 u w (by omega) (by omega)
      have hbyb : ∀ x f, x < 25 → 2 ≤ f ∧ f < 5 → byV (pPk tf g u0) c (bfv (pPk tf g u0) c) u w n x f ≤ 1300000 := by
        intro x f hx hf
        unfold byV
        by_cases hd : n % f = 0
        · rw [if_neg (fun h => h hd)]
          obtain ⟨q1, q2, q3, q4⟩ := made_div h1 hn2 hmd hf hd
          have hpd := made_pm q3 (by omega) q1
          split
          · omega
          · rename_i u1 w1 hs
            obtain ⟨s1, s2, s3, s4⟩ := stp_le hP hx hs
            have hb1 := bfv_b (c := c) (n := n / f) hP s1 s4 (by omega)
            split
            · omega
            · split <;> omega
        · rw [if_pos hd]; omega
      refine bl_MC_intro (by decide +kernel) rfl (Nat.le_of_ble_eq_true rfl) ?_
      have L48 : ∀ q, q < 32 → I (m + 44) q = nI n → ∀ i, i ≤ 25 → ∀ z b I1, z = nI i → wyF I I1 m → wyI I1 m tf g dg u0 c n0 → b ≤ 1000000 → (∀ x f, x < i → 2 ≤ f → f < 5 → b ≤ byV (pPk tf g u0) c (bfv (pPk tf g u0) c) u w n x f) → (b = 1000000 ∨ ∃ x f, x < 25 ∧ (2 ≤ f ∧ f < 5) ∧ byV (pPk tf g u0) c (bfv (pPk tf g u0) c) u w n x f = b) → bl_WP G l (d + 2 * (k + 1) + 2) mX11_bestFrom 48 [(6, .int z), (5, .int (nI b)), (4, .int (nI q)), (0, .ref m), (1, .int (nI u)), (2, .int (nI w)), (3, .int (nI n))] [] (I1, J, R, K, N) (0, 0) (fun o σ' => o = .inl (some (.int (nI (bfv (pPk tf g u0) c u w n)))) ∧ ∃ I', σ' = (I', J, R, K, N) ∧ wyF I I' m ∧ wyI I' m tf g dg u0 c n0) := by
        intro q hq hqn
        have ecq : (nI q).toNatClampNeg = q := nI_clamp (by omega)
        refine bl_for 25 ?_ (fun i hi ihi => ?_)
        · intro z b I1 hz f1 f2 f3 f4 f5; subst hz
          have hbe : b = bfv (pPk tf g u0) c u w n := by
            refine Nat.le_antisymm ?_ ?_
            · rcases bfv_at hP hw hu (show 2 ≤ n by omega) hn2 hmd (c := c) with e | ⟨x, f, hx, hf, e⟩
              · rw [e]; exact f3
              · rw [← e]; exact f4 x f hx hf.1 hf.2
            · rcases f5 with e | ⟨x, f, hx, hf, e⟩
              · rw [e]; exact hbb.2.1
              · rw [← e]; exact bfv_le hP hw hu h1 hn2 hmd hx hf
          subst hbe
          refine bl_go oX11_bestFrom 80 [7, 48, 58] rfl ?_
          refine ⟨fun h52 => ?_, fun h52 => ?_⟩
          · try simp (disch := omega) only [zI_n, zI_o, zI_lit, zI_neg, zI_add, zI_sub, zI_mul, zI_lt, zI_le, zI_eq, zI_clamp, zI_in, zI_div, zI_rem, lg_lt0, lg_gt0, lg_eq0, lg_le0, lg_ge0, Int.toNat_natCast, ge_iff_le, gt_iff_lt, List.length_cons, List.length_nil, bl_up2_at, bl_up2_nk, bl_up2_nx] at h52
            refine ⟨km, _, bl_vs rm_43, bl_ka km43, (by first | exact (by rw [nm43]; exact vp_in_nI (by omega) (by omega)) | ((try dsimp only [bl_pv]); show vp_in _ (N _); rw [nm43]; simp (disch := omega) only [zI_n, zI_o, zI_lit, zI_neg, zI_add, zI_sub, zI_mul, zI_lt, zI_le, zI_eq, zI_clamp, zI_in, zI_div, zI_rem, lg_lt0, lg_gt0, lg_eq0, lg_le0, lg_ge0, Int.toNat_natCast, ge_iff_le, gt_iff_lt, List.length_cons, List.length_nil, bl_up2_at, bl_up2_nk, bl_up2_nx] <;> omega)), _, bl_vs (by dsimp only; rw [ecu]; exact rmu), bl_ka kmu, (by first | exact (by rw [nmu]; exact vp_in_nI (by omega) (by omega)) | ((try dsimp only [bl_pv]); show vp_in _ (N _); rw [nmu]; simp (disch := omega) only [zI_n, zI_o, zI_lit, zI_neg, zI_add, zI_sub, zI_mul, zI_lt, zI_le, zI_eq, zI_clamp, zI_in, zI_div, zI_rem, lg_lt0, lg_gt0, lg_eq0, lg_le0, lg_ge0, Int.toNat_natCast, ge_iff_le, gt_iff_lt, List.length_cons, List.length_nil, bl_up2_at, bl_up2_nk, bl_up2_nx] <;> omega)), _, bl_vs (by dsimp only; rw [ecw]; exact rmw), kmw, (by first | exact (by rw [nmw]; exact vp_in_nI (by omega) (by omega)) | ((try dsimp only [bl_pv]); show vp_in _ (N _); rw [nmw]; simp (disch := omega) only [zI_n, zI_o, zI_lit, zI_neg, zI_add, zI_sub, zI_mul, zI_lt, zI_le, zI_eq, zI_clamp, zI_in, zI_div, zI_rem, lg_lt0, lg_gt0, lg_eq0, lg_le0, lg_ge0, Int.toNat_natCast, ge_iff_le, gt_iff_lt, List.length_cons, List.length_nil, bl_up2_at, bl_up2_nk, bl_up2_nx] <;> omega)), (fun h => by cases h), ?_⟩
            try show _ ∧ _
            try dsimp only [bl_pv]
            rw [ecq]
            refine ⟨rfl, _, rfl, ⟨fun y y1 y2 => ?_, fun j hj => ?_⟩, f2.1.same ?_ ?_ ?_, ?_, fun e he1 he2 => ?_, fun u' w' k' hu' hw' hk' => ?_⟩
            · rw [bl_up2_ne (by omega)]; exact f1.1 y y1 y2
            · rw [bl_up2_nx (by omega)]; exact f1.2 j hj
            · rw [bl_up2_ne (by omega)]
            · rw [bl_up2_ne (by omega)]
            · rw [bl_up2_nx (by omega)]
            · rw [bl_up2_nx (by omega)]; exact f2.2.1
            · rw [bl_up2_ne (by omega)]; exact f2.2.2.1 e he1 he2
            · rw [bl_up2_nx (show m + 44 ≠ m + 1000 + u * 403 + w by omega)]
              by_cases ew : m + 1000 + u' * 403 + w' = m + 1000 + u * 403 + w
              · have eu' : u' = u := by omega
                have ew' : w' = w := by omega
                subst eu' ew'
                by_cases ek : k' = q
                · subst ek
                  rw [bl_up2_at]
                  refine Or.inr ⟨n, h1, hn2, ?_, rfl⟩
                  rw [f1.1 _ (by omega) (by omega)]; exact hqn
                · rw [bl_up2_nk ek]; exact f2.2.2.2 u' w' k' hu' hw' hk'
              · rw [bl_up2_nx ew]; exact f2.2.2.2 u' w' k' hu' hw' hk'
          · try simp (disch := omega) only [zI_n, zI_o, zI_lit, zI_neg, zI_add, zI_sub, zI_mul, zI_lt, zI_le, zI_eq, zI_clamp, zI_in, zI_div, zI_rem, lg_lt0, lg_gt0, lg_eq0, lg_le0, lg_ge0, Int.toNat_natCast, ge_iff_le, gt_iff_lt, List.length_cons, List.length_nil, bl_up2_at, bl_up2_nk, bl_up2_nx] at h52
            exfalso; first | omega | exact h52 trivial
        · intro z b I1 hz f1 f2 f3 f4 f5; subst hz
          have L58 : ∀ j, j ≤ 3 → ∀ z b I1, z = nI (2 + j) → wyF I I1 m → wyI I1 m tf g dg u0 c n0 → b ≤ 1000000 → (∀ x f, x < i → 2 ≤ f → f < 5 → b ≤ byV (pPk tf g u0) c (bfv (pPk tf g u0) c) u w n x f) → (∀ f, 2 ≤ f → f < 2 + j → b ≤ byV (pPk tf g u0) c (bfv (pPk tf g u0) c) u w n i f) → (b = 1000000 ∨ ∃ x f, x < 25 ∧ (2 ≤ f ∧ f < 5) ∧ byV (pPk tf g u0) c (bfv (pPk tf g u0) c) u w n x f = b) → bl_WP G l (d + 2 * (k + 1) + 2) mX11_bestFrom 58 [(7, .int z), (6, .int (nI i)), (5, .int (nI b)), (4, .int (nI q)), (0, .ref m), (1, .int (nI u)), (2, .int (nI w)), (3, .int (nI n))] [] (I1, J, R, K, N) (0, 0) (fun o σ' => o = .inl (some (.int (nI (bfv (pPk tf g u0) c u w n)))) ∧ ∃ I', σ' = (I', J, R, K, N) ∧ wyF I I' m ∧ wyI I' m tf g dg u0 c n0) := by
            refine bl_for 3 ?_ (fun j hj ihj => ?_)
            · intro z b I1 hz f1 f2 f3 f4 f6 f5; subst hz
              refine bl_go oX11_bestFrom 80 [7, 48, 58] rfl ?_
              refine ⟨fun h61 => ?_, fun h61 => ?_⟩
              · try simp (disch := omega) only [zI_n, zI_o, zI_lit, zI_neg, zI_add, zI_sub, zI_mul, zI_lt, zI_le, zI_eq, zI_clamp, zI_in, zI_div, zI_rem, lg_lt0, lg_gt0, lg_eq0, lg_le0, lg_ge0, Int.toNat_natCast, ge_iff_le, gt_iff_lt, List.length_cons, List.length_nil, bl_up2_at, bl_up2_nk, bl_up2_nx] at h61
                refine bl_lv [0, 2, 3, 4, 5, 6, 7] rfl ?_
                try dsimp only [bl_pv]
                refine ihi _ _ _ (nI_1 _) f1 f2 f3 (fun x f hx h2 h5 => ?_) f5
                by_cases ex : x = i
                · subst ex; exact f6 f h2 h5
                · exact f4 x f (by omega) h2 h5
              · try simp (disch := omega) only [zI_n, zI_o, zI_lit, zI_neg, zI_add, zI_sub, zI_mul, zI_lt, zI_le, zI_eq, zI_clamp, zI_in, zI_div, zI_rem, lg_lt0, lg_gt0, lg_eq0, lg_le0, lg_ge0, Int.toNat_natCast, ge_iff_le, gt_iff_lt, List.length_cons, List.length_nil, bl_up2_at, bl_up2_nk, bl_up2_nx] at h61
                exfalso; first | omega | exact h61 trivial
            · intro z b I1 hz f1 f2 f3 f4 f6 f5; subst hz
              have hby := hbyb i (2 + j) hi (by omega)
              generalize hBV : byV (pPk tf g u0) c (bfv (pPk tf g u0) c) u w n i (2 + j) = BV at *
              have hih : n % (2 + j) = 0 → ∀ u1 w1 I x1 x2 x3, u1 ≤ 120 → w1 ≤ 400 → wyI I m tf g dg u0 c n0 → x1 = nI u1 → x2 = nI w1 → x3 = nI (n / (2 + j)) → bl_MC G l (d + 2 * k + 2) mX11_bestFrom [.ref m, .int x1, .int x2, .int x3] (I, J, R, K, N) (0, 0) (fun o σ' => o = .inl (some (.int (nI (bfv (pPk tf g u0) c u1 w1 (n / (2 + j)))))) ∧ ∃ I', σ' = (I', J, R, K, N) ∧ wyF I I' m ∧ wyI I' m tf g dg u0 c n0) := by
                intro hd u1 w1 I x1 x2 x3 a1 a2 a3 a4 a5 a6
                obtain ⟨q1, q2, q3, q4⟩ := made_div h1 hn2 hmd (show 2 ≤ 2 + j ∧ 2 + j < 5 by omega) hd
                refine ih (n / (2 + j)) q3 ?_ (by omega) q1 ?_ u1 w1 I x1 x2 x3 a1 a2 a3 a4 a5 a6
                · rw [Nat.pow_succ] at h2; omega
                · have h3 : n / (2 + j) ∣ n := Nat.div_dvd_of_dvd (Nat.dvd_of_mod_eq_zero hd)
                  exact Nat.mod_eq_zero_of_dvd (Nat.dvd_trans h3 (Nat.dvd_of_mod_eq_zero hdv))
              refine bl_go oX11_bestFrom 80 [7, 48, 58] rfl ?_
              refine ⟨fun h61 => ?_, fun h61 => ?_⟩
              · try simp (disch := omega) only [zI_n, zI_o, zI_lit, zI_neg, zI_add, zI_sub, zI_mul, zI_lt, zI_le, zI_eq, zI_clamp, zI_in, zI_div, zI_rem, lg_lt0, lg_gt0, lg_eq0, lg_le0, lg_ge0, Int.toNat_natCast, ge_iff_le, gt_iff_lt, List.length_cons, List.length_nil, bl_up2_at, bl_up2_nk, bl_up2_nx] at h61
                exfalso; first | omega | exact h61 trivial
              · try simp (disch := omega) only [zI_n, zI_o, zI_lit, zI_neg, zI_add, zI_sub, zI_mul, zI_lt, zI_le, zI_eq, zI_clamp, zI_in, zI_div, zI_rem, lg_lt0, lg_gt0, lg_eq0, lg_le0, lg_ge0, Int.toNat_natCast, ge_iff_le, gt_iff_lt, List.length_cons, List.length_nil, bl_up2_at, bl_up2_nk, bl_up2_nx] at h61
                refine ⟨rfl, rfl, km, (Nat.le_of_ble_eq_true rfl), (0, 0), Nat.le_of_ble_eq_true rfl, Nat.le_of_ble_eq_true rfl, bl_MC_mono (c_Model_byPass (d := d + 2 * k) (n := n) (x := i) (f := 2 + j) (u := u) (w := w) hm f2 hu hw ⟨h1, hn2⟩ hmd hi (by omega) rfl rfl rfl rfl rfl hih) (fun o72 σ72 q72 => ?_)⟩
                try dsimp only [bl_pv] at q72
                obtain ⟨rfl, I2, rfl, g1, g2⟩ := q72
                rw [hBV]
                refine bl_go oX11_bestFrom 80 [7, 48, 58] rfl ?_
                refine ⟨fun h81 => ?_, fun h81 => ?_⟩
                · try simp (disch := omega) only [zI_n, zI_o, zI_lit, zI_neg, zI_add, zI_sub, zI_mul, zI_lt, zI_le, zI_eq, zI_clamp, zI_in, zI_div, zI_rem, lg_lt0, lg_gt0, lg_eq0, lg_le0, lg_ge0, Int.toNat_natCast, ge_iff_le, gt_iff_lt, List.length_cons, List.length_nil, bl_up2_at, bl_up2_nk, bl_up2_nx] at h81
                  refine bl_lv [0, 3, 1, 4, 5, 6, 7, 8] rfl ?_
                  try dsimp only [bl_pv]
                  first
                  | (have hlt : BV < b := by omega
                     refine ihj _ _ _ (nI_1 _) (f1.trans g1) g2 (by omega) (fun x f hx h2 h5 => ?_) (fun f h2 h5 => ?_) (Or.inr ⟨i, 2 + j, hi, by omega, hBV⟩)
                     · have := f4 x f hx h2 h5; omega
                     · by_cases ef : f = 2 + j
                       · subst ef; rw [hBV]; exact Nat.le_refl _
                       · have := f6 f h2 (by omega); omega)
                  | (refine ihj _ _ _ (nI_1 _) (f1.trans g1) g2 f3 f4 (fun f h2 h5 => ?_) f5
                     by_cases ef : f = 2 + j
                     · subst ef; rw [hBV]; omega
                     · exact f6 f h2 (by omega))
                · try simp (disch := omega) only [zI_n, zI_o, zI_lit, zI_neg, zI_add, zI_sub, zI_mul, zI_lt, zI_le, zI_eq, zI_clamp, zI_in, zI_div, zI_rem, lg_lt0, lg_gt0, lg_eq0, lg_le0, lg_ge0, Int.toNat_natCast, ge_iff_le, gt_iff_lt, List.length_cons, List.length_nil, bl_up2_at, bl_up2_nk, bl_up2_nx] at h81
                  refine bl_lv [0, 3, 1, 4, 5, 6, 7, 8] rfl ?_
                  try dsimp only [bl_pv]
                  first
                  | (have hlt : BV < b := by omega
                     refine ihj _ _ _ (nI_1 _) (f1.trans g1) g2 (by omega) (fun x f hx h2 h5 => ?_) (fun f h2 h5 => ?_) (Or.inr ⟨i, 2 + j, hi, by omega, hBV⟩)
                     · have := f4 x f hx h2 h5; omega
                     · by_cases ef : f = 2 + j
                       · subst ef; rw [hBV]; exact Nat.le_refl _
                       · have := f6 f h2 (by omega); omega)
                  | (refine ihj _ _ _ (nI_1 _) (f1.trans g1) g2 f3 f4 (fun f h2 h5 => ?_) f5
                     by_cases ef : f = 2 + j
                     · subst ef; rw [hBV]; omega
                     · exact f6 f h2 (by omega))
          refine bl_go oX11_bestFrom 80 [7, 48, 58] rfl ?_
          refine ⟨fun h52 => ?_, fun h52 => ?_⟩
          · try simp (disch := omega) only [zI_n, zI_o, zI_lit, zI_neg, zI_add, zI_sub, zI_mul, zI_lt, zI_le, zI_eq, zI_clamp, zI_in, zI_div, zI_rem, lg_lt0, lg_gt0, lg_eq0, lg_le0, lg_ge0, Int.toNat_natCast, ge_iff_le, gt_iff_lt, List.length_cons, List.length_nil, bl_up2_at, bl_up2_nk, bl_up2_nx] at h52
            exfalso; first | omega | exact h52 trivial
          · try simp (disch := omega) only [zI_n, zI_o, zI_lit, zI_neg, zI_add, zI_sub, zI_mul, zI_lt, zI_le, zI_eq, zI_clamp, zI_in, zI_div, zI_rem, lg_lt0, lg_gt0, lg_eq0, lg_le0, lg_ge0, Int.toNat_natCast, ge_iff_le, gt_iff_lt, List.length_cons, List.length_nil, bl_up2_at, bl_up2_nk, bl_up2_nx] at h52
            try dsimp only [bl_pv]
            exact L58 0 (by omega) _ _ _ rfl f1 f2 f3 f4 (fun f h2 h5 => absurd h5 (by omega)) f5
      have L7 : bl_WP G l (d + 2 * (k + 1) + 2) mX11_bestFrom 7 [(0, .ref m), (1, .int (nI u)), (2, .int (nI w)), (3, .int (nI n))] [] (I, J, R, K, N) (0, 0) (fun o σ' => o = .inl (some (.int (nI (bfv (pPk tf g u0) c u w n)))) ∧ ∃ I', σ' = (I', J, R, K, N) ∧ wyF I I' m ∧ wyI I' m tf g dg u0 c n0) := by
        skip
        refine bl_go oX11_bestFrom 80 [7, 48, 58] rfl ?_
        refine ⟨rfl, rfl, km, (Nat.le_of_ble_eq_true rfl), (0, 0), Nat.le_of_ble_eq_true rfl, Nat.le_of_ble_eq_true rfl, bl_MC_mono (c_Model_indexOf (d := d + 2 * (k + 1) + 1) (n := n) hm rfl (hI.2.2.1 n h1 hdv)) (fun o9 σ9 q9 => ?_)⟩
        try dsimp only [bl_pv] at q9
        obtain ⟨⟨q, hq, hqn, rfl⟩, rfl⟩ := q9
        have ecq : (nI q).toNatClampNeg = q := nI_clamp (by omega)
        refine bl_go oX11_bestFrom 80 [7, 48, 58] rfl ?_
        refine ⟨km, _, bl_vs rm_43, bl_ka km43, (by first | exact (by rw [nm43]; exact vp_in_nI (by omega) (by omega)) | ((try dsimp only [bl_pv]); show vp_in _ (N _); rw [nm43]; simp (disch := omega) only [zI_n, zI_o, zI_lit, zI_neg, zI_add, zI_sub, zI_mul, zI_lt, zI_le, zI_eq, zI_clamp, zI_in, zI_div, zI_rem, lg_lt0, lg_gt0, lg_eq0, lg_le0, lg_ge0, Int.toNat_natCast, ge_iff_le, gt_iff_lt, List.length_cons, List.length_nil, bl_up2_at, bl_up2_nk, bl_up2_nx] <;> omega)), _, bl_vs (by dsimp only; rw [ecu]; exact rmu), bl_ka kmu, (by first | exact (by rw [nmu]; exact vp_in_nI (by omega) (by omega)) | ((try dsimp only [bl_pv]); show vp_in _ (N _); rw [nmu]; simp (disch := omega) only [zI_n, zI_o, zI_lit, zI_neg, zI_add, zI_sub, zI_mul, zI_lt, zI_le, zI_eq, zI_clamp, zI_in, zI_div, zI_rem, lg_lt0, lg_gt0, lg_eq0, lg_le0, lg_ge0, Int.toNat_natCast, ge_iff_le, gt_iff_lt, List.length_cons, List.length_nil, bl_up2_at, bl_up2_nk, bl_up2_nx] <;> omega)), _, bl_vs (by dsimp only; rw [ecw]; exact rmw), Or.inl ⟨kmw, (by first | exact (by rw [nmw]; exact vp_in_nI (by omega) (by omega)) | ((try dsimp only [bl_pv]); show vp_in _ (N _); rw [nmw]; simp (disch := omega) only [zI_n, zI_o, zI_lit, zI_neg, zI_add, zI_sub, zI_mul, zI_lt, zI_le, zI_eq, zI_clamp, zI_in, zI_div, zI_rem, lg_lt0, lg_gt0, lg_eq0, lg_le0, lg_ge0, Int.toNat_natCast, ge_iff_le, gt_iff_lt, List.length_cons, List.length_nil, bl_up2_at, bl_up2_nk, bl_up2_nx] <;> omega)), fun h25 => ?_, fun h25 => ?_⟩⟩
        · try simp (disch := omega) only [bl_pv, cl0, cl1, cl2, cl3, cl4, cl5, cl6, cl7, cl8, cl9, bl_up2_at, bl_up2_nk, bl_up2_nx] at h25
          try dsimp only [bl_pv]
          exact L48 q hq hqn 0 (by omega) _ 1000000 I rfl wyF.refl hI (Nat.le_refl _) (fun x f hx => absurd hx (by omega)) (Or.inl rfl)
        · try simp (disch := omega) only [bl_pv, cl0, cl1, cl2, cl3, cl4, cl5, cl6, cl7, cl8, cl9, bl_up2_at, bl_up2_nk, bl_up2_nx] at h25
          refine ⟨km, _, bl_vs rm_43, bl_ka km43, (by first | exact (by rw [nm43]; exact vp_in_nI (by omega) (by omega)) | ((try dsimp only [bl_pv]); show vp_in _ (N _); rw [nm43]; simp (disch := omega) only [zI_n, zI_o, zI_lit, zI_neg, zI_add, zI_sub, zI_mul, zI_lt, zI_le, zI_eq, zI_clamp, zI_in, zI_div, zI_rem, lg_lt0, lg_gt0, lg_eq0, lg_le0, lg_ge0, Int.toNat_natCast, ge_iff_le, gt_iff_lt, List.length_cons, List.length_nil, bl_up2_at, bl_up2_nk, bl_up2_nx] <;> omega)), _, bl_vs (by dsimp only; rw [ecu]; exact rmu), bl_ka kmu, (by first | exact (by rw [nmu]; exact vp_in_nI (by omega) (by omega)) | ((try dsimp only [bl_pv]); show vp_in _ (N _); rw [nmu]; simp (disch := omega) only [zI_n, zI_o, zI_lit, zI_neg, zI_add, zI_sub, zI_mul, zI_lt, zI_le, zI_eq, zI_clamp, zI_in, zI_div, zI_rem, lg_lt0, lg_gt0, lg_eq0, lg_le0, lg_ge0, Int.toNat_natCast, ge_iff_le, gt_iff_lt, List.length_cons, List.length_nil, bl_up2_at, bl_up2_nk, bl_up2_nx] <;> omega)), _, bl_vs (by dsimp only; rw [ecw]; exact rmw), Or.inl ⟨kmw, (by first | exact (by rw [nmw]; exact vp_in_nI (by omega) (by omega)) | ((try dsimp only [bl_pv]); show vp_in _ (N _); rw [nmw]; simp (disch := omega) only [zI_n, zI_o, zI_lit, zI_neg, zI_add, zI_sub, zI_mul, zI_lt, zI_le, zI_eq, zI_clamp, zI_in, zI_div, zI_rem, lg_lt0, lg_gt0, lg_eq0, lg_le0, lg_ge0, Int.toNat_natCast, ge_iff_le, gt_iff_lt, List.length_cons, List.length_nil, bl_up2_at, bl_up2_nk, bl_up2_nx] <;> omega)), (fun h => by cases h), ?_⟩⟩
          try show _ ∧ _
          try dsimp only [bl_pv]
          rw [ecq] at h25 ⊢
          rcases hI.2.2.2 u w q (by omega) (by omega) hq with e | ⟨e, e1, e2, e3, e4⟩
          · rw [e] at h25; exact absurd (Int32.le_refl _) h25
          · have hen : e = n := (nI_eqk (by omega) (by omega)).mp (e3.symm.trans hqn)
            subst hen
            exact ⟨by rw [e4], I, rfl, wyF.refl, hI⟩
      refine bl_go oX11_bestFrom 80 [7, 48, 58] rfl ?_
      refine ⟨fun h2 => ?_, fun h2 => ?_⟩
      · try simp (disch := omega) only [zI_n, zI_o, zI_lit, zI_neg, zI_add, zI_sub, zI_mul, zI_lt, zI_le, zI_eq, zI_clamp, zI_in, zI_div, zI_rem, lg_lt0, lg_gt0, lg_eq0, lg_le0, lg_ge0, Int.toNat_natCast, ge_iff_le, gt_iff_lt, List.length_cons, List.length_nil, bl_up2_at, bl_up2_nk, bl_up2_nx] at h2
        try dsimp only [bl_pv]
        exact L7
      · try simp (disch := omega) only [zI_n, zI_o, zI_lit, zI_neg, zI_add, zI_sub, zI_mul, zI_lt, zI_le, zI_eq, zI_clamp, zI_in, zI_div, zI_rem, lg_lt0, lg_gt0, lg_eq0, lg_le0, lg_ge0, Int.toNat_natCast, ge_iff_le, gt_iff_lt, List.length_cons, List.length_nil, bl_up2_at, bl_up2_nk, bl_up2_nx] at h2
        exfalso; first | omega | exact h2 trivial
end MODEL35
