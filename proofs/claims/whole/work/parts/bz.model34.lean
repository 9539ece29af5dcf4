/-! ===== Model: layWays, byPass, bestFrom ===== -/
theorem dvc_mono {n : Nat} : ∀ {i j : Nat}, i ≤ j → dvc n i ≤ dvc n j
  | i, 0, h => by have : i = 0 := by omega
                  subst this; exact Nat.le_refl _
  | i, j + 1, h => by
    show dvc n i ≤ dvc n j + _
    by_cases e : i = j + 1
    · subst e; exact Nat.le_refl _
    · have := dvc_mono (n := n) (show i ≤ j by omega); omega
def lfC (I : Nat → Nat → Int32) (m n : Nat) : Prop := ∀ e, 1 ≤ e → n % e = 0 → ∃ k, k < 32 ∧ I (m + 44) k = nI e
/-- the rows of what is found hold nothing -/
def mm0 (I : Nat → Nat → Int32) (m : Nat) : Prop := ∀ u w k, u < 121 → w < 403 → k < 32 → I (m + 1000 + u * 403 + w) k = nI 0
section MODEL34
variable {G : bl_G} {l : Launch} {d m : Nat} {I : Nat → Nat → Int32} {J : Nat → Nat → Int64} {R : Nat → Nat → Option Nat} {K N : Nat → Nat} {tf g : Nat → Nat} {dg : Nat → Int32} {u0 : Nat} {c : Bool}
theorem c_Model_layWays {n : Nat} {x1 x2 : Int32} (hm : mdS R K N m) (h1 : 1 ≤ n) (h2 : n ≤ 1024) (hmd : made n) (hx1 : x1 = nI n) (hx2 : x2 = bI c) : bl_MC G l d mX11_layWays [.ref m, .int x1, .int x2] (I, J, R, K, N) (0, 0) (fun o σ' => o = .inl none ∧ ∃ I', σ' = (I', J, R, K, N) ∧ (∀ y, y ≠ m → y ≠ m + 44 → (y < m + 1000 ∨ m + 49763 ≤ y) → I' y = I y) ∧ (∀ j, j ≠ 45 → j ≠ 46 → I' m j = I m j) ∧ I' m 46 = bI c ∧ lfC I' m n ∧ mm0 I' m) := by
  have km := hm.2.1
  obtain ⟨rm_43, km43, nm43⟩ := hm.f43
  obtain ⟨rm_44, km44, nm44⟩ := hm.f44
  have hdv := made_dv h1 h2 hmd
  subst hx1 hx2
  refine bl_MC_intro (by decide +kernel) rfl (Nat.le_of_ble_eq_true rfl) ?_
  have L63 : ∀ u, u ≤ 121 → ∀ z I1, z = nI u → (∀ y, y ≠ m → y ≠ m + 44 → (y < m + 1000 ∨ m + 49763 ≤ y) → I1 y = I y) → (∀ j, j ≠ 45 → j ≠ 46 → I1 m j = I m j) → I1 m 46 = bI c → lfC I1 m n → (∀ v w k, v < u → w < 403 → k < 32 → I1 (m + 1000 + v * 403 + w) k = nI 0) → bl_WP G l d mX11_layWays 63 [(3, .int z), (0, .ref m)] [] (I1, J, R, K, N) (0, 0) (fun o σ' => o = .inl none ∧ ∃ I', σ' = (I', J, R, K, N) ∧ (∀ y, y ≠ m → y ≠ m + 44 → (y < m + 1000 ∨ m + 49763 ≤ y) → I' y = I y) ∧ (∀ j, j ≠ 45 → j ≠ 46 → I' m j = I m j) ∧ I' m 46 = bI c ∧ lfC I' m n ∧ mm0 I' m) := by
    refine bl_for 121 ?_ (fun u hu ih => ?_)
    · intro z I1 hz f1 f2 f3 f4 f5; subst hz
      refine bl_go oX11_layWays 80 [12, 63, 72, 83] rfl ?_
      refine ⟨fun h66 => ?_, fun h66 => ?_⟩
      · try simp (disch := omega) only [zI_n, zI_o, zI_lit, zI_neg, zI_add, zI_sub, zI_mul, zI_lt, zI_le, zI_eq, zI_clamp, zI_in, zI_div, zI_rem, lg_lt0, lg_gt0, lg_eq0, lg_le0, lg_ge0, Int.toNat_natCast, ge_iff_le, gt_iff_lt, List.length_cons, List.length_nil, bl_up2_at, bl_up2_nk, bl_up2_nx] at h66
        try show _ ∧ _
        try dsimp only [bl_pv]
        exact ⟨rfl, I1, rfl, f1, f2, f3, f4, f5⟩
      · try simp (disch := omega) only [zI_n, zI_o, zI_lit, zI_neg, zI_add, zI_sub, zI_mul, zI_lt, zI_le, zI_eq, zI_clamp, zI_in, zI_div, zI_rem, lg_lt0, lg_gt0, lg_eq0, lg_le0, lg_ge0, Int.toNat_natCast, ge_iff_le, gt_iff_lt, List.length_cons, List.length_nil, bl_up2_at, bl_up2_nk, bl_up2_nx] at h66
        exfalso; first | omega | exact h66 trivial
    · intro z I1 hz f1 f2 f3 f4 f5; subst hz
      obtain ⟨rmu, kmu, nmu⟩ := hm.g43 u hu
      have ecu : (nI u).toNatClampNeg = u := nI_clamp (by omega)
      have L72 : ∀ w, w ≤ 403 → ∀ z I1, z = nI w → (∀ y, y ≠ m → y ≠ m + 44 → (y < m + 1000 ∨ m + 49763 ≤ y) → I1 y = I y) → (∀ j, j ≠ 45 → j ≠ 46 → I1 m j = I m j) → I1 m 46 = bI c → lfC I1 m n → (∀ v w k, v < u → w < 403 → k < 32 → I1 (m + 1000 + v * 403 + w) k = nI 0) → (∀ v k, v < w → k < 32 → I1 (m + 1000 + u * 403 + v) k = nI 0) → bl_WP G l d mX11_layWays 72 [(4, .int z), (3, .int (nI u)), (0, .ref m)] [] (I1, J, R, K, N) (0, 0) (fun o σ' => o = .inl none ∧ ∃ I', σ' = (I', J, R, K, N) ∧ (∀ y, y ≠ m → y ≠ m + 44 → (y < m + 1000 ∨ m + 49763 ≤ y) → I' y = I y) ∧ (∀ j, j ≠ 45 → j ≠ 46 → I' m j = I m j) ∧ I' m 46 = bI c ∧ lfC I' m n ∧ mm0 I' m) := by
        refine bl_for 403 ?_ (fun w hw ih2 => ?_)
        · intro z I1 hz f1 f2 f3 f4 f5 f6; subst hz
          refine bl_go oX11_layWays 80 [12, 63, 72, 83] rfl ?_
          refine ⟨fun h77 => ?_, fun h77 => ?_⟩
          · try simp (disch := omega) only [zI_n, zI_o, zI_lit, zI_neg, zI_add, zI_sub, zI_mul, zI_lt, zI_le, zI_eq, zI_clamp, zI_in, zI_div, zI_rem, lg_lt0, lg_gt0, lg_eq0, lg_le0, lg_ge0, Int.toNat_natCast, ge_iff_le, gt_iff_lt, List.length_cons, List.length_nil, bl_up2_at, bl_up2_nk, bl_up2_nx] at h77
            refine bl_lv [0, 2] rfl ?_
            try dsimp only [bl_pv]
            refine ih _ _ (nI_1 _) f1 f2 f3 f4 (fun v w k hv hw hk => ?_)
            by_cases e : v = u
            · subst e; exact f6 w k hw hk
            · exact f5 v w k (by omega) hw hk
          · try simp (disch := omega) only [zI_n, zI_o, zI_lit, zI_neg, zI_add, zI_sub, zI_mul, zI_lt, zI_le, zI_eq, zI_clamp, zI_in, zI_div, zI_rem, lg_lt0, lg_gt0, lg_eq0, lg_le0, lg_ge0, Int.toNat_natCast, ge_iff_le, gt_iff_lt, List.length_cons, List.length_nil, bl_up2_at, bl_up2_nk, bl_up2_nx] at h77
            exfalso; first | omega | exact h77 trivial
        · intro z I1 hz f1 f2 f3 f4 f5 f6; subst hz
          obtain ⟨rmw, kmw, nmw⟩ := hm.g44 u w hu hw
          have ecw : (nI w).toNatClampNeg = w := nI_clamp (by omega)
          have L83 : ∀ k, k ≤ 32 → ∀ z I1, z = nI k → (∀ y, y ≠ m → y ≠ m + 44 → (y < m + 1000 ∨ m + 49763 ≤ y) → I1 y = I y) → (∀ j, j ≠ 45 → j ≠ 46 → I1 m j = I m j) → I1 m 46 = bI c → lfC I1 m n → (∀ v w k, v < u → w < 403 → k < 32 → I1 (m + 1000 + v * 403 + w) k = nI 0) → (∀ v k, v < w → k < 32 → I1 (m + 1000 + u * 403 + v) k = nI 0) → (∀ i, i < k → I1 (m + 1000 + u * 403 + w) i = nI 0) → bl_WP G l d mX11_layWays 83 [(5, .int z), (4, .int (nI w)), (3, .int (nI u)), (0, .ref m)] [] (I1, J, R, K, N) (0, 0) (fun o σ' => o = .inl none ∧ ∃ I', σ' = (I', J, R, K, N) ∧ (∀ y, y ≠ m → y ≠ m + 44 → (y < m + 1000 ∨ m + 49763 ≤ y) → I' y = I y) ∧ (∀ j, j ≠ 45 → j ≠ 46 → I' m j = I m j) ∧ I' m 46 = bI c ∧ lfC I' m n ∧ mm0 I' m) := by
            refine bl_for 32 ?_ (fun k hk ih3 => ?_)
            · intro z I1 hz f1 f2 f3 f4 f5 f6 f7; subst hz
              refine bl_go oX11_layWays 80 [12, 63, 72, 83] rfl ?_
              refine ⟨fun h87 => ?_, fun h87 => ?_⟩
              · try simp (disch := omega) only [zI_n, zI_o, zI_lit, zI_neg, zI_add, zI_sub, zI_mul, zI_lt, zI_le, zI_eq, zI_clamp, zI_in, zI_div, zI_rem, lg_lt0, lg_gt0, lg_eq0, lg_le0, lg_ge0, Int.toNat_natCast, ge_iff_le, gt_iff_lt, List.length_cons, List.length_nil, bl_up2_at, bl_up2_nk, bl_up2_nx] at h87
                refine bl_lv [0, 2, 3] rfl ?_
                try dsimp only [bl_pv]
                refine ih2 _ _ (nI_1 _) f1 f2 f3 f4 f5 (fun v k hv hk => ?_)
                by_cases e : v = w
                · subst e; exact f7 k hk
                · exact f6 v k (by omega) hk
              · try simp (disch := omega) only [zI_n, zI_o, zI_lit, zI_neg, zI_add, zI_sub, zI_mul, zI_lt, zI_le, zI_eq, zI_clamp, zI_in, zI_div, zI_rem, lg_lt0, lg_gt0, lg_eq0, lg_le0, lg_ge0, Int.toNat_natCast, ge_iff_le, gt_iff_lt, List.length_cons, List.length_nil, bl_up2_at, bl_up2_nk, bl_up2_nx] at h87
                exfalso; first | omega | exact h87 trivial
            · intro z I1 hz f1 f2 f3 f4 f5 f6 f7; subst hz
              have eck : (nI k).toNatClampNeg = k := nI_clamp (by omega)
              refine bl_go oX11_layWays 80 [12, 63, 72, 83] rfl ?_
              refine ⟨fun h87 => ?_, fun h87 => ?_⟩
              · try simp (disch := omega) only [zI_n, zI_o, zI_lit, zI_neg, zI_add, zI_sub, zI_mul, zI_lt, zI_le, zI_eq, zI_clamp, zI_in, zI_div, zI_rem, lg_lt0, lg_gt0, lg_eq0, lg_le0, lg_ge0, Int.toNat_natCast, ge_iff_le, gt_iff_lt, List.length_cons, List.length_nil, bl_up2_at, bl_up2_nk, bl_up2_nx] at h87
                exfalso; first | omega | exact h87 trivial
              · try simp (disch := omega) only [zI_n, zI_o, zI_lit, zI_neg, zI_add, zI_sub, zI_mul, zI_lt, zI_le, zI_eq, zI_clamp, zI_in, zI_div, zI_rem, lg_lt0, lg_gt0, lg_eq0, lg_le0, lg_ge0, Int.toNat_natCast, ge_iff_le, gt_iff_lt, List.length_cons, List.length_nil, bl_up2_at, bl_up2_nk, bl_up2_nx] at h87
                refine ⟨km, _, bl_vs rm_43, bl_ka km43, (by first | exact (by rw [nm43]; exact vp_in_nI (by omega) (by omega)) | ((try dsimp only [bl_pv]); show vp_in _ (N _); rw [nm43]; simp (disch := omega) only [zI_n, zI_o, zI_lit, zI_neg, zI_add, zI_sub, zI_mul, zI_lt, zI_le, zI_eq, zI_clamp, zI_in, zI_div, zI_rem, lg_lt0, lg_gt0, lg_eq0, lg_le0, lg_ge0, Int.toNat_natCast, ge_iff_le, gt_iff_lt, List.length_cons, List.length_nil, bl_up2_at, bl_up2_nk, bl_up2_nx] <;> omega)), _, bl_vs (by dsimp only; rw [ecu]; exact rmu), bl_ka kmu, (by first | exact (by rw [nmu]; exact vp_in_nI (by omega) (by omega)) | ((try dsimp only [bl_pv]); show vp_in _ (N _); rw [nmu]; simp (disch := omega) only [zI_n, zI_o, zI_lit, zI_neg, zI_add, zI_sub, zI_mul, zI_lt, zI_le, zI_eq, zI_clamp, zI_in, zI_div, zI_rem, lg_lt0, lg_gt0, lg_eq0, lg_le0, lg_ge0, Int.toNat_natCast, ge_iff_le, gt_iff_lt, List.length_cons, List.length_nil, bl_up2_at, bl_up2_nk, bl_up2_nx] <;> omega)), _, bl_vs (by dsimp only; rw [ecw]; exact rmw), kmw, (by first | exact (by rw [nmw]; exact vp_in_nI (by omega) (by omega)) | ((try dsimp only [bl_pv]); show vp_in _ (N _); rw [nmw]; simp (disch := omega) only [zI_n, zI_o, zI_lit, zI_neg, zI_add, zI_sub, zI_mul, zI_lt, zI_le, zI_eq, zI_clamp, zI_in, zI_div, zI_rem, lg_lt0, lg_gt0, lg_eq0, lg_le0, lg_ge0, Int.toNat_natCast, ge_iff_le, gt_iff_lt, List.length_cons, List.length_nil, bl_up2_at, bl_up2_nk, bl_up2_nx] <;> omega)), ?_⟩
                try dsimp only [bl_pv]
                rw [eck]
                refine ih3 _ _ (nI_1 _) (fun y y1 y2 y3 => ?_) (fun j j1 j2 => ?_) ?_ (fun e e1 e2 => ?_) (fun v w' k' hv hw' hk' => ?_) (fun v k' hv hk' => ?_) (fun i hi => ?_)
                · rw [bl_up2_ne (by omega)]; exact f1 y y1 y2 y3
                · rw [bl_up2_nx (by omega)]; exact f2 j j1 j2
                · rw [bl_up2_nx (by omega)]; exact f3
                · rw [bl_up2_ne (by omega)]; exact f4 e e1 e2
                · rw [bl_up2_nx (by omega)]; exact f5 v w' k' hv hw' hk'
                · rw [bl_up2_nx (by omega)]; exact f6 v k' hv hk'
                · by_cases ei : i = k
                  · subst ei; rw [bl_up2_at]; rfl
                  · rw [bl_up2_nk ei]; exact f7 i (by omega)
          refine bl_go oX11_layWays 80 [12, 63, 72, 83] rfl ?_
          refine ⟨fun h77 => ?_, fun h77 => ?_⟩
          · try simp (disch := omega) only [zI_n, zI_o, zI_lit, zI_neg, zI_add, zI_sub, zI_mul, zI_lt, zI_le, zI_eq, zI_clamp, zI_in, zI_div, zI_rem, lg_lt0, lg_gt0, lg_eq0, lg_le0, lg_ge0, Int.toNat_natCast, ge_iff_le, gt_iff_lt, List.length_cons, List.length_nil, bl_up2_at, bl_up2_nk, bl_up2_nx] at h77
            exfalso; first | omega | exact h77 trivial
          · try simp (disch := omega) only [zI_n, zI_o, zI_lit, zI_neg, zI_add, zI_sub, zI_mul, zI_lt, zI_le, zI_eq, zI_clamp, zI_in, zI_div, zI_rem, lg_lt0, lg_gt0, lg_eq0, lg_le0, lg_ge0, Int.toNat_natCast, ge_iff_le, gt_iff_lt, List.length_cons, List.length_nil, bl_up2_at, bl_up2_nk, bl_up2_nx] at h77
            try dsimp only [bl_pv]
            exact L83 0 (by omega) _ _ rfl f1 f2 f3 f4 f5 f6 (fun i hi => absurd hi (by omega))
      refine bl_go oX11_layWays 80 [12, 63, 72, 83] rfl ?_
      refine ⟨fun h66 => ?_, fun h66 => ?_⟩
      · try simp (disch := omega) only [zI_n, zI_o, zI_lit, zI_neg, zI_add, zI_sub, zI_mul, zI_lt, zI_le, zI_eq, zI_clamp, zI_in, zI_div, zI_rem, lg_lt0, lg_gt0, lg_eq0, lg_le0, lg_ge0, Int.toNat_natCast, ge_iff_le, gt_iff_lt, List.length_cons, List.length_nil, bl_up2_at, bl_up2_nk, bl_up2_nx] at h66
        exfalso; first | omega | exact h66 trivial
      · try simp (disch := omega) only [zI_n, zI_o, zI_lit, zI_neg, zI_add, zI_sub, zI_mul, zI_lt, zI_le, zI_eq, zI_clamp, zI_in, zI_div, zI_rem, lg_lt0, lg_gt0, lg_eq0, lg_le0, lg_ge0, Int.toNat_natCast, ge_iff_le, gt_iff_lt, List.length_cons, List.length_nil, bl_up2_at, bl_up2_nk, bl_up2_nx] at h66
        try dsimp only [bl_pv]
        exact L72 0 (by omega) _ _ rfl f1 f2 f3 f4 f5 (fun v k hv => absurd hv (by omega))
  have L12 : ∀ i, i ≤ n → ∀ z I1, z = nI (i + 1) → (∀ y, y ≠ m → y ≠ m + 44 → I1 y = I y) → (∀ j, j ≠ 45 → j ≠ 46 → I1 m j = I m j) → I1 m 46 = bI c → I1 m 45 = nI (dvc n i) → (∀ e, 1 ≤ e → e ≤ i → n % e = 0 → ∃ k, k < dvc n i ∧ I1 (m + 44) k = nI e) → bl_WP G l d mX11_layWays 12 [(3, .int z), (0, .ref m), (1, .int (nI n))] [] (I1, J, R, K, N) (0, 0) (fun o σ' => o = .inl none ∧ ∃ I', σ' = (I', J, R, K, N) ∧ (∀ y, y ≠ m → y ≠ m + 44 → (y < m + 1000 ∨ m + 49763 ≤ y) → I' y = I y) ∧ (∀ j, j ≠ 45 → j ≠ 46 → I' m j = I m j) ∧ I' m 46 = bI c ∧ lfC I' m n ∧ mm0 I' m) := by
    refine bl_for n ?_ (fun i hi ih => ?_)
    · intro z I1 hz f1 f2 f3 f4 f5; subst hz
      refine bl_go oX11_layWays 80 [12, 63, 72, 83] rfl ?_
      refine ⟨fun h14 => ?_, fun h14 => ?_⟩
      · try simp (disch := omega) only [zI_n, zI_o, zI_lit, zI_neg, zI_add, zI_sub, zI_mul, zI_lt, zI_le, zI_eq, zI_clamp, zI_in, zI_div, zI_rem, lg_lt0, lg_gt0, lg_eq0, lg_le0, lg_ge0, Int.toNat_natCast, ge_iff_le, gt_iff_lt, List.length_cons, List.length_nil, bl_up2_at, bl_up2_nk, bl_up2_nx] at h14
        refine bl_lv [0, 1] rfl ?_
        try dsimp only [bl_pv]
        refine L63 0 (by omega) _ _ rfl (fun y y1 y2 _ => f1 y y1 y2) f2 f3 (fun e e1 e2 => ?_) (fun v w k hv => absurd hv (by omega))
        have hle : e ≤ n := Nat.le_of_dvd (by omega) (Nat.dvd_of_mod_eq_zero e2)
        obtain ⟨k, hk, hke⟩ := f5 e e1 hle e2
        exact ⟨k, by omega, hke⟩
      · try simp (disch := omega) only [zI_n, zI_o, zI_lit, zI_neg, zI_add, zI_sub, zI_mul, zI_lt, zI_le, zI_eq, zI_clamp, zI_in, zI_div, zI_rem, lg_lt0, lg_gt0, lg_eq0, lg_le0, lg_ge0, Int.toNat_natCast, ge_iff_le, gt_iff_lt, List.length_cons, List.length_nil, bl_up2_at, bl_up2_nk, bl_up2_nx] at h14
        exfalso; first | omega | exact h14 trivial
    · intro z I1 hz f1 f2 f3 f4 f5; subst hz
      have hle := dvc_mono (n := n) (show i ≤ n by omega)
      have hds : dvc n (i + 1) = dvc n i + (if n % (i + 1) = 0 then 1 else 0) := rfl
      have ecd : (nI (dvc n i)).toNatClampNeg = dvc n i := nI_clamp (by omega)
      have er : nI n - nI n / nI (i + 1) * nI (i + 1) = nI (n % (i + 1)) := nI_rem (by omega) (by omega)
      have hmlt := Nat.mod_lt n (show i + 1 > 0 by omega)
      have hd0 : ¬ nI (i + 1) = 0 := fun h => absurd ((nI_eqk (b := 0) (by omega) (by omega)).mp h) (by omega)
      by_cases hz : n % (i + 1) = 0
      · rw [if_pos hz] at hds
        refine bl_go oX11_layWays 80 [12, 63, 72, 83] rfl ?_
        refine ⟨fun h14 => ?_, fun h14 => ?_⟩
        · try simp (disch := omega) only [f4, zI_n, zI_o, zI_lit, zI_neg, zI_add, zI_sub, zI_mul, zI_lt, zI_le, zI_eq, zI_clamp, zI_in, zI_div, zI_rem, lg_lt0, lg_gt0, lg_eq0, lg_le0, lg_ge0, Int.toNat_natCast, ge_iff_le, gt_iff_lt, List.length_cons, List.length_nil, bl_up2_at, bl_up2_nk, bl_up2_nx] at h14
          exfalso; first | omega | exact h14 trivial
        · try simp (disch := omega) only [f4, zI_n, zI_o, zI_lit, zI_neg, zI_add, zI_sub, zI_mul, zI_lt, zI_le, zI_eq, zI_clamp, zI_in, zI_div, zI_rem, lg_lt0, lg_gt0, lg_eq0, lg_le0, lg_ge0, Int.toNat_natCast, ge_iff_le, gt_iff_lt, List.length_cons, List.length_nil, bl_up2_at, bl_up2_nk, bl_up2_nx] at h14
          refine ⟨km, fun h23 => ?_, fun h23 => ?_⟩
          · try simp (disch := omega) only [f4, zI_n, zI_o, zI_lit, zI_neg, zI_add, zI_sub, zI_mul, zI_lt, zI_le, zI_eq, zI_clamp, zI_in, zI_div, zI_rem, lg_lt0, lg_gt0, lg_eq0, lg_le0, lg_ge0, Int.toNat_natCast, ge_iff_le, gt_iff_lt, List.length_cons, List.length_nil, bl_up2_at, bl_up2_nk, bl_up2_nx] at h23
            exfalso; first | omega | exact h23 trivial
          · try simp (disch := omega) only [f4, zI_n, zI_o, zI_lit, zI_neg, zI_add, zI_sub, zI_mul, zI_lt, zI_le, zI_eq, zI_clamp, zI_in, zI_div, zI_rem, lg_lt0, lg_gt0, lg_eq0, lg_le0, lg_ge0, Int.toNat_natCast, ge_iff_le, gt_iff_lt, List.length_cons, List.length_nil, bl_up2_at, bl_up2_nk, bl_up2_nx] at h23
            refine ⟨(by exact hd0), fun h29 => ?_, fun h29 => ?_⟩
            · try simp (disch := omega) only [bl_pv, cl0, cl1, cl2, cl3, cl4, cl5, cl6, cl7, cl8, cl9, bl_up2_at, bl_up2_nk, bl_up2_nx] at h29
              first
              | (exfalso; first | omega | exact h29 trivial)
              | (refine ⟨km, _, bl_vs rm_44, km, km44, (by (try dsimp only [bl_pv]); rw [nm44, f4]; exact vp_in_nI (by omega) (by omega)), rfl, km, km, Or.inr (Or.inr ⟨rfl, rfl, _, rfl⟩), (fun h => by cases h), ?_⟩
                 try dsimp only [bl_pv]
                 rw [f4, ecd]
                 refine ih _ _ (nI_1 _) (fun y y1 y2 => ?_) (fun j j1 j2 => ?_) ?_ ?_ (fun e e1 e2 e3 => ?_)
                 · rw [bl_up2_ne y1, bl_up2_ne y2]; exact f1 y y1 y2
                 · rw [bl_up2_nk j1, bl_up2_nx (by omega)]; exact f2 j j1 j2
                 · rw [bl_up2_nk (by omega), bl_up2_nx (by omega)]; exact f3
                 · rw [bl_up2_at, bl_up2_nx (by omega), f4, nI_1, hds]
                 · rw [hds]
                   by_cases ee : e = i + 1
                   · subst ee; exact ⟨dvc n i, by omega, by rw [bl_up2_nx (by omega), bl_up2_at]⟩
                   · obtain ⟨k, hk, hke⟩ := f5 e e1 (by omega) e3
                     exact ⟨k, by omega, by rw [bl_up2_nx (by omega), bl_up2_nk (by omega)]; exact hke⟩)
            · try simp (disch := omega) only [bl_pv, cl0, cl1, cl2, cl3, cl4, cl5, cl6, cl7, cl8, cl9, bl_up2_at, bl_up2_nk, bl_up2_nx] at h29
              rw [er, hz] at h29; exact absurd rfl h29
      · rw [if_neg hz, Nat.add_zero] at hds
        refine bl_go oX11_layWays 80 [12, 63, 72, 83] rfl ?_
        refine ⟨fun h14 => ?_, fun h14 => ?_⟩
        · try simp (disch := omega) only [f4, zI_n, zI_o, zI_lit, zI_neg, zI_add, zI_sub, zI_mul, zI_lt, zI_le, zI_eq, zI_clamp, zI_in, zI_div, zI_rem, lg_lt0, lg_gt0, lg_eq0, lg_le0, lg_ge0, Int.toNat_natCast, ge_iff_le, gt_iff_lt, List.length_cons, List.length_nil, bl_up2_at, bl_up2_nk, bl_up2_nx] at h14
          exfalso; first | omega | exact h14 trivial
        · try simp (disch := omega) only [f4, zI_n, zI_o, zI_lit, zI_neg, zI_add, zI_sub, zI_mul, zI_lt, zI_le, zI_eq, zI_clamp, zI_in, zI_div, zI_rem, lg_lt0, lg_gt0, lg_eq0, lg_le0, lg_ge0, Int.toNat_natCast, ge_iff_le, gt_iff_lt, List.length_cons, List.length_nil, bl_up2_at, bl_up2_nk, bl_up2_nx] at h14
          refine ⟨km, fun h23 => ?_, fun h23 => ?_⟩
          · try simp (disch := omega) only [f4, zI_n, zI_o, zI_lit, zI_neg, zI_add, zI_sub, zI_mul, zI_lt, zI_le, zI_eq, zI_clamp, zI_in, zI_div, zI_rem, lg_lt0, lg_gt0, lg_eq0, lg_le0, lg_ge0, Int.toNat_natCast, ge_iff_le, gt_iff_lt, List.length_cons, List.length_nil, bl_up2_at, bl_up2_nk, bl_up2_nx] at h23
            exfalso; first | omega | exact h23 trivial
          · try simp (disch := omega) only [f4, zI_n, zI_o, zI_lit, zI_neg, zI_add, zI_sub, zI_mul, zI_lt, zI_le, zI_eq, zI_clamp, zI_in, zI_div, zI_rem, lg_lt0, lg_gt0, lg_eq0, lg_le0, lg_ge0, Int.toNat_natCast, ge_iff_le, gt_iff_lt, List.length_cons, List.length_nil, bl_up2_at, bl_up2_nk, bl_up2_nx] at h23
            refine ⟨(by exact hd0), fun h29 => ?_, fun h29 => ?_⟩
            · try simp (disch := omega) only [bl_pv, cl0, cl1, cl2, cl3, cl4, cl5, cl6, cl7, cl8, cl9, bl_up2_at, bl_up2_nk, bl_up2_nx] at h29
              rw [er] at h29; exact absurd ((nI_eqk (b := 0) (by omega) (by omega)).mp h29) hz
            · try simp (disch := omega) only [bl_pv, cl0, cl1, cl2, cl3, cl4, cl5, cl6, cl7, cl8, cl9, bl_up2_at, bl_up2_nk, bl_up2_nx] at h29
              first
              | (exfalso; first | omega | exact h29 trivial)
              | (try dsimp only [bl_pv]
                 refine ih _ _ (nI_1 _) f1 f2 f3 (by rw [hds]; exact f4) (fun e e1 e2 e3 => ?_)
                 rw [hds]
                 by_cases ee : e = i + 1
                 · subst ee; exact absurd e3 hz
                 · exact f5 e e1 (by omega) e3)
  refine bl_go oX11_layWays 80 [12, 63, 72, 83] rfl ?_
  refine ⟨km, Or.inr (Or.inr ⟨rfl, rfl, _, rfl⟩), (by intro _; exact bl_b01 (bI_01 _)), km, Or.inr (Or.inr ⟨rfl, rfl, _, rfl⟩), (fun h => by cases h), ?_⟩
  refine bl_lv [0, 1, 2] rfl ?_
  try dsimp only [bl_pv]
  refine L12 0 (by omega) _ _ rfl (fun y y1 y2 => ?_) (fun j j1 j2 => ?_) ?_ ?_ (fun e e1 e2 => absurd e1 (by omega))
  · rw [bl_up2_ne y1, bl_up2_ne y1]
  · rw [bl_up2_nk j1, bl_up2_nk j2]
  · rw [bl_up2_nk (by omega), bl_up2_at]
  · rw [bl_up2_at]; rfl
/-- what the search may change -/
def wyF (I I' : Nat → Nat → Int32) (m : Nat) : Prop := (∀ y, y ≠ m → (y < m + 1000 ∨ m + 49763 ≤ y) → I' y = I y) ∧ ∀ j, (j < 47 ∨ 50 < j) → I' m j = I m j
theorem wyF.trans {I I1 I2 : Nat → Nat → Int32} {m : Nat} (h : wyF I I1 m) (h2 : wyF I1 I2 m) : wyF I I2 m := ⟨fun x a b => (h2.1 x a b).trans (h.1 x a b), fun j a => (h2.2 j a).trans (h.2 j a)⟩
theorem wyF.refl {I : Nat → Nat → Int32} {m : Nat} : wyF I I m := ⟨fun _ _ _ => rfl, fun _ _ => rfl⟩
def mmC (I : Nat → Nat → Int32) (m : Nat) (P : pP) (c : Bool) : Prop := ∀ u w k, u < 121 → w < 403 → k < 32 → I (m + 1000 + u * 403 + w) k = nI 0 ∨ ∃ e, 1 ≤ e ∧ e ≤ 1024 ∧ I (m + 44) k = nI e ∧ I (m + 1000 + u * 403 + w) k = nI (bfv P c u w e)
def wyI (I : Nat → Nat → Int32) (m : Nat) (tf g : Nat → Nat) (dg : Nat → Int32) (u0 : Nat) (c : Bool) (n0 : Nat) : Prop := kgC I m tf g dg u0 ∧ I m 46 = bI c ∧ lfC I m n0 ∧ mmC I m (pPk tf g u0) c
theorem wyI.mm {I I' : Nat → Nat → Int32} {n0 : Nat} (h : wyI I m tf g dg u0 c n0) (h1 : ∀ y, y ≠ m → I' y = I y) (h2 : ∀ j, (j < 47 ∨ 50 < j) → I' m j = I m j) : wyI I' m tf g dg u0 c n0 := by
  obtain ⟨a, b, e, f⟩ := h
  refine ⟨a.same (h1 _ (by omega)) (h1 _ (by omega)) (h2 14 (by omega)), (h2 46 (by omega)).trans b, fun e' e1 e2 => ?_, fun u w k hu hw hk => ?_⟩
  · rw [h1 _ (by omega)]; exact e e' e1 e2
  · rw [h1 _ (by omega), h1 _ (by omega)]; exact f u w k hu hw hk
theorem c_Model_byPass {n0 n x f u w : Nat} {x1 x2 x3 x4 x5 : Int32} (hm : mdS R K N m) (hI : wyI I m tf g dg u0 c n0) (hu : u ≤ 120) (hw : w ≤ 400) (hn : 1 ≤ n ∧ n ≤ 1024) (hmd : made n) (hx : x < 25) (hf : 2 ≤ f ∧ f < 5) (h1 : x1 = nI u) (h2 : x2 = nI w) (h3 : x3 = nI n) (h4 : x4 = nI x) (h5 : x5 = nI f)
    (ih : n % f = 0 → ∀ u1 w1 I x1 x2 x3, u1 ≤ 120 → w1 ≤ 400 → wyI I m tf g dg u0 c n0 → x1 = nI u1 → x2 = nI w1 → x3 = nI (n / f) → bl_MC G l (d + 2) mX11_bestFrom [.ref m, .int x1, .int x2, .int x3] (I, J, R, K, N) (0, 0) (fun o σ' => o = .inl (some (.int (nI (bfv (pPk tf g u0) c u1 w1 (n / f))))) ∧ ∃ I', σ' = (I', J, R, K, N) ∧ wyF I I' m ∧ wyI I' m tf g dg u0 c n0)) : bl_MC G l (d + 3) mX11_byPass [.ref m, .int x1, .int x2, .int x3, .int x4, .int x5] (I, J, R, K, N) (0, 0) (fun o σ' => o = .inl (some (.int (nI (byV (pPk tf g u0) c (bfv (pPk tf g u0) c) u w n x f)))) ∧ ∃ I', σ' = (I', J, R, K, N) ∧ wyF I I' m ∧ wyI I' m tf g dg u0 c n0) := by
  have km := hm.2.1
  have hP := pPk_ok (u0 := u0) hI.1.2.2.1
  subst h1 h2 h3 h4 h5
  have er : nI n - nI n / nI f * nI f = nI (n % f) := nI_rem (by omega) (by omega)
  have ed : nI n / nI f = nI (n / f) := nI_div (by omega) (by omega)
  have hf0 : ¬ nI f = 0 := fun h => absurd ((nI_eqk (b := 0) (by omega) (by omega)).mp h) (by omega)
  by_cases hd : n % f = 0
  · have hbv : byV (pPk tf g u0) c (bfv (pPk tf g u0) c) u w n x f = match stp (pPk tf g u0) x u w with
        | none => 1000000
        | some (u1, w1) => if bfv (pPk tf g u0) c u1 w1 (n / f) = 1000000 then 1000000 else bfv (pPk tf g u0) c u1 w1 (n / f) + (if c then 1000 + (u1 - u) else 1000 * (u1 - u) + 1) := if_neg (fun h => h hd)
    have hst : stp (pPk tf g u0) x u w = match wts (pPk tf g u0) (decide (x ≤ 12)) u w (wtN x) with
        | none => none
        | some y => match pss (pPk tf g u0) (u + wtN x) y with
          | none => none
          | some z => some (u + wtN x + 3, z) := rfl
    have hwn : wtN x ≤ 12 := by unfold wtN; split <;> omega
    cases hwt : wts (pPk tf g u0) (decide (x ≤ 12)) u w (wtN x) with
    | none =>
      rw [hwt] at hst
      rw [hst] at hbv
      refine bl_MC_intro (by decide +kernel) rfl (Nat.le_of_ble_eq_true rfl) ?_
      refine bl_go oX11_byPass 80 [30] rfl ?_
      refine ⟨(by exact hf0), fun h4 => ?_, fun h4 => ?_⟩
      · try simp (disch := omega) only [bl_pv, cl0, cl1, cl2, cl3, cl4, cl5, cl6, cl7, cl8, cl9, bl_up2_at, bl_up2_nk, bl_up2_nx] at h4
        first
        | (exfalso; first | omega | exact h4 trivial)
        | (refine ⟨rfl, rfl, km, (Nat.le_of_ble_eq_true rfl), (0, 0), Nat.le_of_ble_eq_true rfl, Nat.le_of_ble_eq_true rfl, bl_MC_mono (c_Model_waits (d := d) (u := u) (w := w) (x := x) hm hI.1 rfl rfl rfl hu hw hx) (fun o16 σ16 q16 => ?_)⟩
           try dsimp only [bl_pv] at q16
           obtain ⟨rfl, I1, rfl, f1, f2, f3⟩ := q16
           have f3' := f3.resolve_right (fun ⟨y, e, _⟩ => by rw [hwt] at e; cases e)
           refine bl_go oX11_byPass 80 [30] rfl ?_
           refine ⟨rfl, rfl, km, (Nat.le_of_ble_eq_true rfl), (0, 0), Nat.le_of_ble_eq_true rfl, Nat.le_of_ble_eq_true rfl, bl_MC_mono (c_Model_passesN (d := d) km f3'.2) (fun o20 σ20 q20 => ?_)⟩
           try dsimp only [bl_pv] at q20
           obtain ⟨rfl, I2, rfl, g1, g2⟩ := q20
           refine bl_go oX11_byPass 80 [30] rfl ?_
           refine ⟨fun h23 => ?_, fun h23 => ?_⟩
           · try simp (disch := omega) only [bl_pv, cl0, cl1, cl2, cl3, cl4, cl5, cl6, cl7, cl8, cl9, bl_up2_at, bl_up2_nk, bl_up2_nx] at h23
             first
             | (exfalso; first | omega | exact h23 trivial)
             | (try dsimp only [bl_pv]
                (first | exact absurd rfl h23 | exact absurd trivial h23 | exact absurd h23 (by decide)))
           · try simp (disch := omega) only [bl_pv, cl0, cl1, cl2, cl3, cl4, cl5, cl6, cl7, cl8, cl9, bl_up2_at, bl_up2_nk, bl_up2_nx] at h23
             first
             | (exfalso; first | omega | exact h23 trivial)
             | (refine ⟨(fun h => by cases h), ?_⟩
                try show _ ∧ _
                try dsimp only [bl_pv]
                refine ⟨?_, I2, rfl, ⟨fun y y1 _ => (g1 y y1).trans (f1 y y1), fun j hj => (g2 j (by omega) (by omega)).trans (f2 j (by omega) (by omega))⟩, hI.mm (fun y y1 => (g1 y y1).trans (f1 y y1)) (fun j hj => (g2 j (by omega) (by omega)).trans (f2 j (by omega) (by omega)))⟩
                rw [hbv]; rfl))
      · try simp (disch := omega) only [bl_pv, cl0, cl1, cl2, cl3, cl4, cl5, cl6, cl7, cl8, cl9, bl_up2_at, bl_up2_nk, bl_up2_nx] at h4
        rw [er, hd] at h4; exact absurd rfl h4
    | some y =>
      have hy := wts_le hP hw hwt
      rw [hwt] at hst
      cases hps : pss (pPk tf g u0) (u + wtN x) y with
      | none =>
        have hst' : stp (pPk tf g u0) x u w = none := by rw [hst]; show (match pss (pPk tf g u0) (u + wtN x) y with | none => none | some z => _) = _; rw [hps]
        rw [hst'] at hbv
        refine bl_MC_intro (by decide +kernel) rfl (Nat.le_of_ble_eq_true rfl) ?_
        refine bl_go oX11_byPass 80 [30] rfl ?_
        refine ⟨(by exact hf0), fun h4 => ?_, fun h4 => ?_⟩
        · try simp (disch := omega) only [bl_pv, cl0, cl1, cl2, cl3, cl4, cl5, cl6, cl7, cl8, cl9, bl_up2_at, bl_up2_nk, bl_up2_nx] at h4
          first
          | (exfalso; first | omega | exact h4 trivial)
          | (refine ⟨rfl, rfl, km, (Nat.le_of_ble_eq_true rfl), (0, 0), Nat.le_of_ble_eq_true rfl, Nat.le_of_ble_eq_true rfl, bl_MC_mono (c_Model_waits (d := d) (u := u) (w := w) (x := x) hm hI.1 rfl rfl rfl hu hw hx) (fun o16 σ16 q16 => ?_)⟩
             try dsimp only [bl_pv] at q16
             obtain ⟨rfl, I1, rfl, f1, f2, f3⟩ := q16
             obtain ⟨y', e', f4, f5⟩ := f3.resolve_left (fun h => by rw [hwt] at h; cases h.1)
             rw [hwt] at e'
             cases e'
             have hI1 := hI.mm f1 (fun j hj => f2 j (by omega) (by omega))
             refine bl_go oX11_byPass 80 [30] rfl ?_
             refine ⟨rfl, rfl, km, (Nat.le_of_ble_eq_true rfl), (0, 0), Nat.le_of_ble_eq_true rfl, Nat.le_of_ble_eq_true rfl, bl_MC_mono (c_Model_passes (d := d) (u := u + wtN x) (y := y) hm hI1.1 f4 f5 (by omega) hy) (fun o20 σ20 q20 => ?_)⟩
             try dsimp only [bl_pv] at q20
             obtain ⟨I2, rfl, g1, g2, g3⟩ := q20
             obtain ⟨-, g3'⟩ := g3.resolve_right (fun ⟨z, e, _⟩ => by rw [hps] at e; cases e)
             subst g3'
             refine bl_go oX11_byPass 80 [30] rfl ?_
             refine ⟨fun h23 => ?_, fun h23 => ?_⟩
             · try simp (disch := omega) only [bl_pv, cl0, cl1, cl2, cl3, cl4, cl5, cl6, cl7, cl8, cl9, bl_up2_at, bl_up2_nk, bl_up2_nx] at h23
               first
               | (exfalso; first | omega | exact h23 trivial)
               | (try dsimp only [bl_pv]
                  (first | exact absurd rfl h23 | exact absurd trivial h23 | exact absurd h23 (by decide)))
             · try simp (disch := omega) only [bl_pv, cl0, cl1, cl2, cl3, cl4, cl5, cl6, cl7, cl8, cl9, bl_up2_at, bl_up2_nk, bl_up2_nx] at h23
               first
               | (exfalso; first | omega | exact h23 trivial)
               | (refine ⟨(fun h => by cases h), ?_⟩
                  try show _ ∧ _
                  try dsimp only [bl_pv]
                  refine ⟨?_, I2, rfl, ⟨fun y y1 _ => (g1 y y1).trans (f1 y y1), fun j hj => (g2 j (by omega) (by omega)).trans (f2 j (by omega) (by omega))⟩, hI1.mm g1 (fun j hj => g2 j (by omega) (by omega))⟩
                  rw [hbv]; rfl))
        · try simp (disch := omega) only [bl_pv, cl0, cl1, cl2, cl3, cl4, cl5, cl6, cl7, cl8, cl9, bl_up2_at, bl_up2_nk, bl_up2_nx] at h4
          rw [er, hd] at h4; exact absurd rfl h4
      | some z =>
        obtain ⟨hz1, hz2, hz3⟩ := pss_le hP hps
        have hst' : stp (pPk tf g u0) x u w = some (u + wtN x + 3, z) := by rw [hst]; show (match pss (pPk tf g u0) (u + wtN x) y with | none => none | some z => _) = _; rw [hps]
        rw [hst'] at hbv
        have hbv' : byV (pPk tf g u0) c (bfv (pPk tf g u0) c) u w n x f = if bfv (pPk tf g u0) c (u + wtN x + 3) z (n / f) = 1000000 then 1000000 else bfv (pPk tf g u0) c (u + wtN x + 3) z (n / f) + (if c then 1000 + (u + wtN x + 3 - u) else 1000 * (u + wtN x + 3 - u) + 1) := hbv
        obtain ⟨d1, d2, d3, d4⟩ := made_div hn.1 hn.2 hmd hf hd
        have hpd := made_pm d3 (by omega) d1
        have hbb := bfv_b (c := c) (n := n / f) (u := u + wtN x + 3) hP hz1 (by omega) (by omega)
        generalize hBB : bfv (pPk tf g u0) c (u + wtN x + 3) z (n / f) = B at *
        refine bl_MC_intro (by decide +kernel) rfl (Nat.le_of_ble_eq_true rfl) ?_
        refine bl_go oX11_byPass 80 [] rfl ?_
        refine ⟨(by exact hf0), fun h4 => ?_, fun h4 => ?_⟩
        · try simp (disch := omega) only [bl_pv, cl0, cl1, cl2, cl3, cl4, cl5, cl6, cl7, cl8, cl9, bl_up2_at, bl_up2_nk, bl_up2_nx] at h4
          first
          | (exfalso; first | omega | exact h4 trivial)
          | (refine ⟨rfl, rfl, km, (Nat.le_of_ble_eq_true rfl), (0, 0), Nat.le_of_ble_eq_true rfl, Nat.le_of_ble_eq_true rfl, bl_MC_mono (c_Model_waits (d := d) (u := u) (w := w) (x := x) hm hI.1 rfl rfl rfl hu hw hx) (fun o16 σ16 q16 => ?_)⟩
             try dsimp only [bl_pv] at q16
             obtain ⟨rfl, I1, rfl, f1, f2, f3⟩ := q16
             obtain ⟨y', e', f4, f5⟩ := f3.resolve_left (fun h => by rw [hwt] at h; cases h.1)
             rw [hwt] at e'
             cases e'
             have hI1 := hI.mm f1 (fun j hj => f2 j (by omega) (by omega))
             refine bl_go oX11_byPass 80 [] rfl ?_
             refine ⟨rfl, rfl, km, (Nat.le_of_ble_eq_true rfl), (0, 0), Nat.le_of_ble_eq_true rfl, Nat.le_of_ble_eq_true rfl, bl_MC_mono (c_Model_passes (d := d) (u := u + wtN x) (y := y) hm hI1.1 f4 f5 (by omega) hy) (fun o20 σ20 q20 => ?_)⟩
             try dsimp only [bl_pv] at q20
             obtain ⟨I2, rfl, g1, g2, g3⟩ := q20
             obtain ⟨z', e', g3', g4, g5⟩ := g3.resolve_left (fun h => by rw [hps] at h; cases h.1)
             rw [hps] at e'
             cases e'
             subst g3'
             have hI2 := hI1.mm g1 (fun j hj => g2 j (by omega) (by omega))
             refine bl_go oX11_byPass 80 [] rfl ?_
             refine ⟨fun h23 => ?_, fun h23 => ?_⟩
             · try simp (disch := omega) only [bl_pv, cl0, cl1, cl2, cl3, cl4, cl5, cl6, cl7, cl8, cl9, bl_up2_at, bl_up2_nk, bl_up2_nx] at h23
               first
               | (exfalso; first | omega | exact h23 trivial)
               | (refine ⟨km, km, km, (by exact hf0), rfl, rfl, km, (Nat.le_of_ble_eq_true rfl), (0, 0), Nat.le_of_ble_eq_true rfl, Nat.le_of_ble_eq_true rfl, bl_MC_mono (ih hd (u + wtN x + 3) z I2 _ _ _ (by omega) hz1 hI2 g5 g4 ed) (fun o51 σ51 q51 => ?_)⟩
                  try dsimp only [bl_pv] at q51
                  obtain ⟨rfl, I3, rfl, k1, k2⟩ := q51
                  rw [hBB]
                  refine bl_go oX11_byPass 80 [] rfl ?_
                  refine ⟨fun h61 => ?_, fun h61 => ?_⟩
                  · try simp (disch := omega) only [bl_pv, cl0, cl1, cl2, cl3, cl4, cl5, cl6, cl7, cl8, cl9, bl_up2_at, bl_up2_nk, bl_up2_nx] at h61
                    refine ⟨km, fun h76 => ?_, fun h76 => ?_⟩
                    · try simp (disch := omega) only [bl_pv, cl0, cl1, cl2, cl3, cl4, cl5, cl6, cl7, cl8, cl9, bl_up2_at, bl_up2_nk, bl_up2_nx] at h76
                      refine ⟨(fun h => by cases h), ?_⟩
                      try show _ ∧ _
                      try dsimp only [bl_pv]
                      refine ⟨?_, I3, rfl, ⟨fun y y1 y2 => (k1.1 y y1 y2).trans ((g1 y y1).trans (f1 y y1)), fun j hj => (k1.2 j hj).trans ((g2 j (by omega) (by omega)).trans (f2 j (by omega) (by omega)))⟩, k2⟩
                      rw [hbv']
                      have eu : I2 m 50 - nI u = nI (u + wtN x + 3 - u) := by rw [g5]; exact nI_subs (by omega)
                      have hB : (nI B = 1000000) ↔ B = 1000000 := nI_eqk (b := 1000000) (by omega) (by omega)
                      first
                      | (have hq := h76
                         rw [k2.2.1] at hq
                         rw [if_neg (fun h => h61 (hB.mpr h)), eu]
                         first
                         | (have hc : c = false := bI_0.mp hq
                            rw [hc, if_neg (by decide)]
                            rw [show (1000 : Int32) * nI (u + wtN x + 3 - u) = nI (1000 * (u + wtN x + 3 - u)) from (Int32.ofNat_mul 1000 _).symm]
                            rw [nI_1]
                            exact congrArg (fun z => Sum.inl (some (Value.int z))) (Int32.ofNat_add _ _).symm)
                         | (have hc : c = true := by
                              cases hcc : c
                              · rw [hcc] at hq; exact absurd rfl hq
                              · rfl
                            rw [hc, if_pos rfl]
                            rw [show (1000 : Int32) + nI (u + wtN x + 3 - u) = nI (1000 + (u + wtN x + 3 - u)) from (Int32.ofNat_add 1000 _).symm]
                            exact congrArg (fun z => Sum.inl (some (Value.int z))) (Int32.ofNat_add _ _).symm))
                      | (rw [if_pos (hB.mp h61)]; rfl)
                    · try simp (disch := omega) only [bl_pv, cl0, cl1, cl2, cl3, cl4, cl5, cl6, cl7, cl8, cl9, bl_up2_at, bl_up2_nk, bl_up2_nx] at h76
                      refine ⟨(fun h => by cases h), ?_⟩
                      try show _ ∧ _
                      try dsimp only [bl_pv]
                      refine ⟨?_, I3, rfl, ⟨fun y y1 y2 => (k1.1 y y1 y2).trans ((g1 y y1).trans (f1 y y1)), fun j hj => (k1.2 j hj).trans ((g2 j (by omega) (by omega)).trans (f2 j (by omega) (by omega)))⟩, k2⟩
                      rw [hbv']
                      have eu : I2 m 50 - nI u = nI (u + wtN x + 3 - u) := by rw [g5]; exact nI_subs (by omega)
                      have hB : (nI B = 1000000) ↔ B = 1000000 := nI_eqk (b := 1000000) (by omega) (by omega)
                      first
                      | (have hq := h76
                         rw [k2.2.1] at hq
                         rw [if_neg (fun h => h61 (hB.mpr h)), eu]
                         first
                         | (have hc : c = false := bI_0.mp hq
                            rw [hc, if_neg (by decide)]
                            rw [show (1000 : Int32) * nI (u + wtN x + 3 - u) = nI (1000 * (u + wtN x + 3 - u)) from (Int32.ofNat_mul 1000 _).symm]
                            rw [nI_1]
                            exact congrArg (fun z => Sum.inl (some (Value.int z))) (Int32.ofNat_add _ _).symm)
                         | (have hc : c = true := by
                              cases hcc : c
                              · rw [hcc] at hq; exact absurd rfl hq
                              · rfl
                            rw [hc, if_pos rfl]
                            rw [show (1000 : Int32) + nI (u + wtN x + 3 - u) = nI (1000 + (u + wtN x + 3 - u)) from (Int32.ofNat_add 1000 _).symm]
                            exact congrArg (fun z => Sum.inl (some (Value.int z))) (Int32.ofNat_add _ _).symm))
                      | (rw [if_pos (hB.mp h61)]; rfl)
                  · try simp (disch := omega) only [bl_pv, cl0, cl1, cl2, cl3, cl4, cl5, cl6, cl7, cl8, cl9, bl_up2_at, bl_up2_nk, bl_up2_nx] at h61
                    refine ⟨(fun h => by cases h), ?_⟩
                    try show _ ∧ _
                    try dsimp only [bl_pv]
                    refine ⟨?_, I3, rfl, ⟨fun y y1 y2 => (k1.1 y y1 y2).trans ((g1 y y1).trans (f1 y y1)), fun j hj => (k1.2 j hj).trans ((g2 j (by omega) (by omega)).trans (f2 j (by omega) (by omega)))⟩, k2⟩
                    rw [hbv']
                    have eu : I2 m 50 - nI u = nI (u + wtN x + 3 - u) := by rw [g5]; exact nI_subs (by omega)
                    have hB : (nI B = 1000000) ↔ B = 1000000 := nI_eqk (b := 1000000) (by omega) (by omega)
                    first
                    | (have hq := h76
                       rw [k2.2.1] at hq
                       rw [if_neg (fun h => h61 (hB.mpr h)), eu]
                       first
                       | (have hc : c = false := bI_0.mp hq
                          rw [hc, if_neg (by decide)]
                          rw [show (1000 : Int32) * nI (u + wtN x + 3 - u) = nI (1000 * (u + wtN x + 3 - u)) from (Int32.ofNat_mul 1000 _).symm]
                          rw [nI_1]
                          exact congrArg (fun z => Sum.inl (some (Value.int z))) (Int32.ofNat_add _ _).symm)
                       | (have hc : c = true := by
                            cases hcc : c
                            · rw [hcc] at hq; exact absurd rfl hq
                            · rfl
                          rw [hc, if_pos rfl]
                          rw [show (1000 : Int32) + nI (u + wtN x + 3 - u) = nI (1000 + (u + wtN x + 3 - u)) from (Int32.ofNat_add 1000 _).symm]
                          exact congrArg (fun z => Sum.inl (some (Value.int z))) (Int32.ofNat_add _ _).symm))
                    | (rw [if_pos (hB.mp h61)]; rfl))
             · try simp (disch := omega) only [bl_pv, cl0, cl1, cl2, cl3, cl4, cl5, cl6, cl7, cl8, cl9, bl_up2_at, bl_up2_nk, bl_up2_nx] at h23
               (first | exact absurd rfl h23 | exact absurd trivial h23 | exact absurd h23 (by decide)))
        · try simp (disch := omega) only [bl_pv, cl0, cl1, cl2, cl3, cl4, cl5, cl6, cl7, cl8, cl9, bl_up2_at, bl_up2_nk, bl_up2_nx] at h4
          rw [er, hd] at h4; exact absurd rfl h4
  · have hbv : byV (pPk tf g u0) c (bfv (pPk tf g u0) c) u w n x f = 1000000 := if_pos hd
    have hml := Nat.mod_lt n (show f > 0 by omega)
    refine bl_MC_intro (by decide +kernel) rfl (Nat.le_of_ble_eq_true rfl) ?_
    refine bl_go oX11_byPass 80 [11] rfl ?_
    refine ⟨(by exact hf0), fun h4 => ?_, fun h4 => ?_⟩
    · try simp (disch := omega) only [bl_pv, cl0, cl1, cl2, cl3, cl4, cl5, cl6, cl7, cl8, cl9, bl_up2_at, bl_up2_nk, bl_up2_nx] at h4
      first
      | (exfalso; first | omega | exact h4 trivial)
      | (try dsimp only [bl_pv]
         rw [er] at h4; exact absurd ((nI_eqk (b := 0) (by omega) (by omega)).mp h4) hd)
    · try simp (disch := omega) only [bl_pv, cl0, cl1, cl2, cl3, cl4, cl5, cl6, cl7, cl8, cl9, bl_up2_at, bl_up2_nk, bl_up2_nx] at h4
      first
      | (exfalso; first | omega | exact h4 trivial)
      | (refine ⟨(fun h => by cases h), ?_⟩
         try show _ ∧ _
         try dsimp only [bl_pv]
         refine ⟨?_, I, rfl, wyF.refl, hI⟩
         rw [hbv]; rfl)
end MODEL34
