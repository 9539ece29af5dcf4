/-! ===== Slab.cutOf, Slab.becomeOf ===== -/
theorem sd_part_0 (S : sq) : sd_part S 0 S.1 = S := by
  unfold sd_part
  simp only [Nat.zero_add]
section SLAB2
variable {G : bl_G} {l : Launch} {d b g f : Nat} {I : Nat → Nat → Int32} {J : Nat → Nat → Int64} {R : Nat → Nat → Option Nat} {K N : Nat → Nat}
theorem c_Slab_cutOf {A D : sq} {n w : Nat} {x : Int32} (hs : slS R K N b) (hf : sdS R K N f) (hfb : f ≠ 2 * b) (hA : sdC I J f A) (hD : sdC I J (2 * b + 1) D) (hw : J b 4 = nJ w) (hx : x = nI n) (hn : 2 * n < A.1) : bl_MC G l (d + 1) mX7_cutOf [.ref b, .ref f, .int x] (I, J, R, K, N) (0, 0) (fun o σ' => o = .inl none ∧ ∃ I' J', σ' = (I', bl_up2 J' b 4 (nJ (w + (smf A.2.1 n + smf (fun i => A.2.1 (A.1 - n + i)) n) * smf D.2.1 D.1)), R, K, N) ∧ sdM I I' J J' (2 * b) ∧ sdC I' J' (2 * b) (sd_part A n (A.1 - 2 * n))) := by
  have hs' := hs; have hf' := hf
  obtain ⟨hr1, kb, rb_0, rb_1, hBA, hBD⟩ := hs
  obtain ⟨hrA, kba, -⟩ := hBA
  obtain ⟨hrD, kbd, -⟩ := hBD
  obtain ⟨hrf, kf, -⟩ := hf
  have hA1 := hA.2.1
  have hD1 := hD.2.1
  subst hx
  refine bl_MC_intro (by decide +kernel) rfl (Nat.le_of_ble_eq_true rfl) ?_
  refine bl_go oX7_cutOf 80 [] rfl ?_
  refine ⟨kf, kb, _, bl_vs rb_0, rfl, rfl, kba, (Nat.le_of_ble_eq_true rfl), (0, 0), Nat.le_refl _, Nat.le_refl _, bl_MC_mono (c_Side_partOf hs'.2.2.2.2.1 hf' (by omega) hA (fr := n) (c := A.1 - 2 * n) rfl (by first | with_reducible rfl | ((try dsimp only [bl_pv]); simp (disch := omega) only [hA.1, zI_n, zI_o, zI_lit, zI_neg, zI_add, zI_sub, zI_mul, zI_lt, zI_le, zI_eq, zI_clamp, zI_in, zI_div, zI_rem, lg_lt0, lg_gt0, lg_eq0, lg_le0, lg_ge0, Int.toNat_natCast, ge_iff_le, gt_iff_lt, List.length_cons, List.length_nil, bl_up2_at, bl_up2_nk, bl_up2_nx] <;> omega)) (by omega)) (fun o16 σ16 q16 => ?_)⟩
  try dsimp only [bl_pv] at q16
  obtain ⟨rfl, I1, J1, rfl, m1, t1⟩ := q16
  have hA' := hA.other m1 hs'.2.2.2.2.1 hf' (by omega)
  have hD' := hD.other m1 hs'.2.2.2.2.1 hs'.2.2.2.2.2 (by omega)
  have hw' : J1 b 4 = nJ w := by rw [m1.2 b (by omega) (by omega)]; exact hw
  refine bl_go oX7_cutOf 80 [] rfl ?_
  refine ⟨rfl, rfl, kf, (Nat.le_of_ble_eq_true rfl), (0, 0), Nat.le_refl _, Nat.le_refl _, bl_MC_mono (c_Side_sheetsIn hf' hA' (fr := 0) (c := n) rfl rfl (by omega)) (fun o22 σ22 q22 => ?_)⟩
  try dsimp only [bl_pv] at q22
  obtain ⟨rfl, rfl⟩ := q22
  refine bl_go oX7_cutOf 80 [] rfl ?_
  refine ⟨rfl, rfl, kf, (Nat.le_of_ble_eq_true rfl), (0, 0), Nat.le_refl _, Nat.le_refl _, bl_MC_mono (c_Side_sheetsIn hf' hA' (fr := A.1 - n) (c := n) (by first | with_reducible rfl | ((try dsimp only [bl_pv]); simp (disch := omega) only [hA.1, zI_n, zI_o, zI_lit, zI_neg, zI_add, zI_sub, zI_mul, zI_lt, zI_le, zI_eq, zI_clamp, zI_in, zI_div, zI_rem, lg_lt0, lg_gt0, lg_eq0, lg_le0, lg_ge0, Int.toNat_natCast, ge_iff_le, gt_iff_lt, List.length_cons, List.length_nil, bl_up2_at, bl_up2_nk, bl_up2_nx] <;> omega)) rfl (by omega)) (fun o30 σ30 q30 => ?_)⟩
  try dsimp only [bl_pv] at q30
  obtain ⟨rfl, rfl⟩ := q30
  refine bl_go oX7_cutOf 80 [] rfl ?_
  refine ⟨rfl, kb, kb, _, bl_vs rb_1, kb, _, bl_vs rb_1, kbd, rfl, rfl, kbd, (Nat.le_of_ble_eq_true rfl), (0, 0), Nat.le_refl _, Nat.le_refl _, bl_MC_mono (c_Side_sheetsIn hs'.2.2.2.2.2 hD' (fr := 0) (c := D.1) rfl (by first | with_reducible rfl | ((try dsimp only [bl_pv]); simp (disch := omega) only [hD'.1, zI_n, zI_o, zI_lit, zI_neg, zI_add, zI_sub, zI_mul, zI_lt, zI_le, zI_eq, zI_clamp, zI_in, zI_div, zI_rem, lg_lt0, lg_gt0, lg_eq0, lg_le0, lg_ge0, Int.toNat_natCast, ge_iff_le, gt_iff_lt, List.length_cons, List.length_nil, bl_up2_at, bl_up2_nk, bl_up2_nx] <;> omega)) (by omega)) (fun o55 σ55 q55 => ?_)⟩
  try dsimp only [bl_pv] at q55
  obtain ⟨rfl, rfl⟩ := q55
  refine bl_go oX7_cutOf 80 [] rfl ?_
  refine ⟨kb, Or.inr (Or.inl ⟨rfl, rfl, _, rfl⟩), (fun h => by cases h), ?_⟩
  try show _ ∧ _
  try dsimp only [bl_pv]
  rw [nJ_add, nJ_mul, hw', nJ_add]
  simp only [Nat.zero_add]
  exact ⟨by trivial, I1, J1, rfl, m1, t1⟩
theorem c_Slab_become_0 {S : sl} {n : Nat} {x y : Int32} (hs : slS R K N b) (hg : slS R K N g) (hbg : b ≠ g) (hC : slC I J g S) (hx : x = nI 0) (hy : y = nI n) (hk : st_ok 0 n) (hcan : sl_can 0 n S.1.1) : bl_MC G l (d + 2) mX7_becomeOf [.ref b, .ref g, .int x, .int y] (I, J, R, K, N) (0, 0) (fun o σ' => o = .inl none ∧ ∃ I' J', σ' = (I', J', R, K, N) ∧ slM I I' J J' b ∧ slC I' J' b (sl_step S 0 n)) := by
  have hs' := hs; have hg' := hg
  obtain ⟨hr1, kb, rb_0, rb_1, hBA, hBD⟩ := hs
  obtain ⟨hr2, kg, rg_0, rg_1, hGA, hGD⟩ := hg
  have kba := hBA.2.1
  have kbd := hBD.2.1
  have kga := hGA.2.1
  have kgd := hGD.2.1
  obtain ⟨cA, cD, cT, cL, cC⟩ := hC
  obtain ⟨hk1, hk2, hk3, hk4⟩ := hk
  have cA1 := cA.2.1
  have cD1 := cD.2.1
  simp only [sl_can] at hcan
  subst hx hy
  refine bl_MC_intro (by decide +kernel) rfl (Nat.le_of_ble_eq_true rfl) ?_
  have L : ∀ J0, (∀ x, x ≠ b → J0 x = J x) → J0 b 2 = nJ S.2.2.1 → J0 b 3 = nJ S.2.2.2.1 → J0 b 4 = nJ S.2.2.2.2 → bl_WP G l (d + 2) mX7_becomeOf 24 [(0, .ref b), (1, .ref g), (2, .int (nI 0)), (3, .int (nI n))] [] (I, J0, R, K, N) (0, 0) (fun o σ' => o = .inl none ∧ ∃ I' J', σ' = (I', J', R, K, N) ∧ slM I I' J J' b ∧ slC I' J' b (sl_step S 0 n)) := by
    intro J0 hJ0 j2 j3 j4
    have cA0 : sdC I J0 (2 * g) S.1 := cA.same rfl (hJ0 _ (by omega)) (hJ0 _ (by omega))
    have cD0 : sdC I J0 (2 * g + 1) S.2.1 := cD.same rfl (hJ0 _ (by omega)) (hJ0 _ (by omega))
    refine bl_go oX7_becomeOf 80 [24] rfl ?_
    refine ⟨fun h26 => ?_, fun h26 => ?_⟩
    · try simp (disch := omega) only [cA.1, cD.1, zI_n, zI_o, zI_lit, zI_neg, zI_add, zI_sub, zI_mul, zI_lt, zI_le, zI_eq, zI_clamp, zI_in, zI_div, zI_rem, lg_lt0, lg_gt0, lg_eq0, lg_le0, lg_ge0, Int.toNat_natCast, ge_iff_le, gt_iff_lt, List.length_cons, List.length_nil, bl_up2_at, bl_up2_nk, bl_up2_nx] at h26
      first
      | (exfalso; omega)
      | (refine ⟨kg, _, bl_vs rg_1, kb, _, bl_vs rb_1, kgd, rfl, rfl, kbd, (Nat.le_of_ble_eq_true rfl), (0, 0), Nat.le_refl _, Nat.le_refl _, bl_MC_mono (c_Side_partOf hBD hGD (by omega) cD0 (fr := 0) (c := S.2.1.1) rfl (by first | with_reducible rfl | ((try dsimp only [bl_pv]); simp (disch := omega) only [cA.1, cD.1, zI_n, zI_o, zI_lit, zI_neg, zI_add, zI_sub, zI_mul, zI_lt, zI_le, zI_eq, zI_clamp, zI_in, zI_div, zI_rem, lg_lt0, lg_gt0, lg_eq0, lg_le0, lg_ge0, Int.toNat_natCast, ge_iff_le, gt_iff_lt, List.length_cons, List.length_nil, bl_up2_at, bl_up2_nk, bl_up2_nx] <;> omega)) (by omega)) (fun o54 σ54 q54 => ?_)⟩
         try dsimp only [bl_pv] at q54
         obtain ⟨rfl, I1, J1, rfl, m1, t1⟩ := q54
         rw [sd_part_0] at t1
         have a1 : sdC I1 J1 (2 * g) S.1 := cA0.other m1 hBD hGA (by omega)
         have d1 : sdC I1 J1 (2 * g + 1) S.2.1 := cD0.other m1 hBD hGD (by omega)
         have b1 : ∀ j, J1 b j = J0 b j := fun j => by rw [m1.2 b (by omega) (by omega)]
         have ea := a1.1
         have ed := t1.1
         refine bl_go oX7_becomeOf 80 [24] rfl ?_
         refine ⟨fun h58 => ?_, fun j58 o58 ho58 h58 _ => ?_⟩
         · try simp (disch := omega) only [cA.1, cD.1, zI_n, zI_o, zI_lit, zI_neg, zI_add, zI_sub, zI_mul, zI_lt, zI_le, zI_eq, zI_clamp, zI_in, zI_div, zI_rem, lg_lt0, lg_gt0, lg_eq0, lg_le0, lg_ge0, Int.toNat_natCast, ge_iff_le, gt_iff_lt, List.length_cons, List.length_nil, bl_up2_at, bl_up2_nk, bl_up2_nx, zI_toInt] at h58
           first
           | (exfalso; omega)
           | (refine ⟨kb, _, bl_vs rb_0, kg, _, bl_vs rg_0, kg, _, bl_vs rg_0, kga, rfl, rfl, kba, (Nat.le_of_ble_eq_true rfl), (0, 0), Nat.le_refl _, Nat.le_refl _, ?_⟩
              fail /- c262: mX6_partOf -/)
         · try simp (disch := omega) only [cA.1, cD.1, zI_n, zI_o, zI_lit, zI_neg, zI_add, zI_sub, zI_mul, zI_lt, zI_le, zI_eq, zI_clamp, zI_in, zI_div, zI_rem, lg_lt0, lg_gt0, lg_eq0, lg_le0, lg_ge0, Int.toNat_natCast, ge_iff_le, gt_iff_lt, List.length_cons, List.length_nil, bl_up2_at, bl_up2_nk, bl_up2_nx, zI_toInt] at h58
           match j58, ho58, h58 with
           | 0, ho58, h58 =>
             cases ho58
             first
             | (exfalso; omega)
             | (refine ⟨kb, _, bl_vs rb_0, kg, _, bl_vs rg_0, rfl, rfl, kba, (Nat.le_of_ble_eq_true rfl), (0, 0), Nat.le_refl _, Nat.le_refl _, bl_MC_mono (c_Side_rollOf hBA hGA (by omega) a1 rfl (hk3 (by omega)) hcan) (fun o105 σ105 q105 => ?_)⟩
                try dsimp only [bl_pv] at q105
                obtain ⟨rfl, I2, J2, rfl, m2, t2⟩ := q105
                refine bl_go oX7_becomeOf 80 [24] rfl ?_
                refine ⟨rfl, kb, kb, Or.inr (Or.inl ⟨rfl, rfl, _, rfl⟩), (fun h => by cases h), rfl, kb, kb, Or.inr (Or.inl ⟨rfl, rfl, _, rfl⟩), (fun h => by cases h), ?_⟩
                try show _ ∧ _
                try dsimp only [bl_pv]
                have b2 : ∀ j, J2 b j = J1 b j := fun j => by rw [m2.2 b (by omega) (by omega)]
                refine ⟨rfl, _, _, rfl, fun x hx => ?_, ?_, ?_, ?_⟩
                · unfold slN at hx
                  refine ⟨by rw [m2.1 x (by omega), m1.1 x (by omega)], ?_⟩
                  rw [bl_up2_ne (by omega), bl_up2_ne (by omega)]
                  rw [m2.2 x (by omega) (by omega), m1.2 x (by omega) (by omega), hJ0 x (by omega)]
                · exact t2.same rfl (by rw [bl_up2_ne (by omega), bl_up2_ne (by omega)]) (by rw [bl_up2_ne (by omega), bl_up2_ne (by omega)])
                · exact (t1.other m2 hBA hBD (by omega)).same rfl (by rw [bl_up2_ne (by omega), bl_up2_ne (by omega)]) (by rw [bl_up2_ne (by omega), bl_up2_ne (by omega)])
                · show _ = nJ (S.2.2.1 * n) ∧ _ = nJ S.2.2.2.1 ∧ _ = nJ (S.2.2.2.2 * n)
                  simp (disch := omega) only [bl_up2_at, bl_up2_nk]
                  rw [b2, b2, b2, b1, b1, b1, j2, j3, j4, zI_n, nJ_ofI (by omega), nJ_mul, nJ_mul]
                  exact ⟨by trivial, by trivial, by trivial⟩)
           | 1, ho58, h58 =>
             cases ho58
             first
             | (exfalso; omega)
             | (refine ⟨kb, _, bl_vs rb_0, kg, _, bl_vs rg_0, rfl, rfl, kba, (Nat.le_of_ble_eq_true rfl), (0, 0), Nat.le_refl _, Nat.le_refl _, ?_⟩
                fail /- c142: mX6_foldOf -/)
           | 2, ho58, h58 =>
             cases ho58
             first
             | (exfalso; omega)
             | (refine ⟨kb, _, bl_vs rb_0, kg, _, bl_vs rg_0, rfl, rfl, kba, (Nat.le_of_ble_eq_true rfl), (0, 0), Nat.le_refl _, Nat.le_refl _, ?_⟩
                fail /- c171: mX6_bookOf -/)
           | 3, ho58, h58 =>
             cases ho58
             first
             | (exfalso; omega)
             | (refine ⟨kb, _, bl_vs rb_0, kg, _, bl_vs rg_0, rfl, rfl, kba, (Nat.le_of_ble_eq_true rfl), (0, 0), Nat.le_refl _, Nat.le_refl _, ?_⟩
                fail /- c199: mX6_tuckOf -/)
           | 4, ho58, h58 =>
             cases ho58
             first
             | (exfalso; omega)
             | (refine ⟨kg, _, bl_vs rg_0, rfl, rfl, kb, (Nat.le_of_ble_eq_true rfl), (0, 0), Nat.le_refl _, Nat.le_refl _, ?_⟩
                fail /- c218: mX7_cutOf -/)
           | 5, ho58, h58 =>
             cases ho58
             first
             | (exfalso; omega)
             | (refine ⟨kb, _, bl_vs rb_0, kg, _, bl_vs rg_1, kg, _, bl_vs rg_1, kgd, rfl, rfl, kba, (Nat.le_of_ble_eq_true rfl), (0, 0), Nat.le_refl _, Nat.le_refl _, ?_⟩
                fail /- c240: mX6_partOf -/)
           | _ + 6, ho58, _ => exact absurd ho58 (by simp))
    · try simp (disch := omega) only [cA.1, cD.1, zI_n, zI_o, zI_lit, zI_neg, zI_add, zI_sub, zI_mul, zI_lt, zI_le, zI_eq, zI_clamp, zI_in, zI_div, zI_rem, lg_lt0, lg_gt0, lg_eq0, lg_le0, lg_ge0, Int.toNat_natCast, ge_iff_le, gt_iff_lt, List.length_cons, List.length_nil, bl_up2_at, bl_up2_nk, bl_up2_nx] at h26
      first
      | (exfalso; omega)
      | (refine ⟨kg, _, bl_vs rg_0, kb, _, bl_vs rb_1, kga, rfl, rfl, kbd, (Nat.le_of_ble_eq_true rfl), (0, 0), Nat.le_refl _, Nat.le_refl _, bl_MC_mono (c_Side_partOf hBD hGD (by omega) cD0 (fr := 0) (c := S.2.1.1) rfl (by first | with_reducible rfl | ((try dsimp only [bl_pv]); simp (disch := omega) only [cA.1, cD.1, zI_n, zI_o, zI_lit, zI_neg, zI_add, zI_sub, zI_mul, zI_lt, zI_le, zI_eq, zI_clamp, zI_in, zI_div, zI_rem, lg_lt0, lg_gt0, lg_eq0, lg_le0, lg_ge0, Int.toNat_natCast, ge_iff_le, gt_iff_lt, List.length_cons, List.length_nil, bl_up2_at, bl_up2_nk, bl_up2_nx] <;> omega)) (by omega)) (fun o54 σ54 q54 => ?_)⟩
         try dsimp only [bl_pv] at q54
         obtain ⟨rfl, I1, J1, rfl, m1, t1⟩ := q54
         rw [sd_part_0] at t1
         have a1 : sdC I1 J1 (2 * g) S.1 := cA0.other m1 hBD hGA (by omega)
         have d1 : sdC I1 J1 (2 * g + 1) S.2.1 := cD0.other m1 hBD hGD (by omega)
         have b1 : ∀ j, J1 b j = J0 b j := fun j => by rw [m1.2 b (by omega) (by omega)]
         have ea := a1.1
         have ed := t1.1
         refine bl_go oX7_becomeOf 80 [24] rfl ?_
         refine ⟨fun h58 => ?_, fun j58 o58 ho58 h58 _ => ?_⟩
         · try simp (disch := omega) only [cA.1, cD.1, zI_n, zI_o, zI_lit, zI_neg, zI_add, zI_sub, zI_mul, zI_lt, zI_le, zI_eq, zI_clamp, zI_in, zI_div, zI_rem, lg_lt0, lg_gt0, lg_eq0, lg_le0, lg_ge0, Int.toNat_natCast, ge_iff_le, gt_iff_lt, List.length_cons, List.length_nil, bl_up2_at, bl_up2_nk, bl_up2_nx, zI_toInt] at h58
           first
           | (exfalso; omega)
           | (refine ⟨kb, _, bl_vs rb_0, kg, _, bl_vs rg_0, kg, _, bl_vs rg_0, kga, rfl, rfl, kba, (Nat.le_of_ble_eq_true rfl), (0, 0), Nat.le_refl _, Nat.le_refl _, ?_⟩
              fail /- c262: mX6_partOf -/)
         · try simp (disch := omega) only [cA.1, cD.1, zI_n, zI_o, zI_lit, zI_neg, zI_add, zI_sub, zI_mul, zI_lt, zI_le, zI_eq, zI_clamp, zI_in, zI_div, zI_rem, lg_lt0, lg_gt0, lg_eq0, lg_le0, lg_ge0, Int.toNat_natCast, ge_iff_le, gt_iff_lt, List.length_cons, List.length_nil, bl_up2_at, bl_up2_nk, bl_up2_nx, zI_toInt] at h58
           match j58, ho58, h58 with
           | 0, ho58, h58 =>
             cases ho58
             first
             | (exfalso; omega)
             | (refine ⟨kb, _, bl_vs rb_0, kg, _, bl_vs rg_0, rfl, rfl, kba, (Nat.le_of_ble_eq_true rfl), (0, 0), Nat.le_refl _, Nat.le_refl _, bl_MC_mono (c_Side_rollOf hBA hGA (by omega) a1 rfl (hk3 (by omega)) hcan) (fun o105 σ105 q105 => ?_)⟩
                try dsimp only [bl_pv] at q105
                obtain ⟨rfl, I2, J2, rfl, m2, t2⟩ := q105
                refine bl_go oX7_becomeOf 80 [24] rfl ?_
                refine ⟨rfl, kb, kb, Or.inr (Or.inl ⟨rfl, rfl, _, rfl⟩), (fun h => by cases h), rfl, kb, kb, Or.inr (Or.inl ⟨rfl, rfl, _, rfl⟩), (fun h => by cases h), ?_⟩
                try show _ ∧ _
                try dsimp only [bl_pv]
                have b2 : ∀ j, J2 b j = J1 b j := fun j => by rw [m2.2 b (by omega) (by omega)]
                refine ⟨rfl, _, _, rfl, fun x hx => ?_, ?_, ?_, ?_⟩
                · unfold slN at hx
                  refine ⟨by rw [m2.1 x (by omega), m1.1 x (by omega)], ?_⟩
                  rw [bl_up2_ne (by omega), bl_up2_ne (by omega)]
                  rw [m2.2 x (by omega) (by omega), m1.2 x (by omega) (by omega), hJ0 x (by omega)]
                · exact t2.same rfl (by rw [bl_up2_ne (by omega), bl_up2_ne (by omega)]) (by rw [bl_up2_ne (by omega), bl_up2_ne (by omega)])
                · exact (t1.other m2 hBA hBD (by omega)).same rfl (by rw [bl_up2_ne (by omega), bl_up2_ne (by omega)]) (by rw [bl_up2_ne (by omega), bl_up2_ne (by omega)])
                · show _ = nJ (S.2.2.1 * n) ∧ _ = nJ S.2.2.2.1 ∧ _ = nJ (S.2.2.2.2 * n)
                  simp (disch := omega) only [bl_up2_at, bl_up2_nk]
                  rw [b2, b2, b2, b1, b1, b1, j2, j3, j4, zI_n, nJ_ofI (by omega), nJ_mul, nJ_mul]
                  exact ⟨by trivial, by trivial, by trivial⟩)
           | 1, ho58, h58 =>
             cases ho58
             first
             | (exfalso; omega)
             | (refine ⟨kb, _, bl_vs rb_0, kg, _, bl_vs rg_0, rfl, rfl, kba, (Nat.le_of_ble_eq_true rfl), (0, 0), Nat.le_refl _, Nat.le_refl _, ?_⟩
                fail /- c142: mX6_foldOf -/)
           | 2, ho58, h58 =>
             cases ho58
             first
             | (exfalso; omega)
             | (refine ⟨kb, _, bl_vs rb_0, kg, _, bl_vs rg_0, rfl, rfl, kba, (Nat.le_of_ble_eq_true rfl), (0, 0), Nat.le_refl _, Nat.le_refl _, ?_⟩
                fail /- c171: mX6_bookOf -/)
           | 3, ho58, h58 =>
             cases ho58
             first
             | (exfalso; omega)
             | (refine ⟨kb, _, bl_vs rb_0, kg, _, bl_vs rg_0, rfl, rfl, kba, (Nat.le_of_ble_eq_true rfl), (0, 0), Nat.le_refl _, Nat.le_refl _, ?_⟩
                fail /- c199: mX6_tuckOf -/)
           | 4, ho58, h58 =>
             cases ho58
             first
             | (exfalso; omega)
             | (refine ⟨kg, _, bl_vs rg_0, rfl, rfl, kb, (Nat.le_of_ble_eq_true rfl), (0, 0), Nat.le_refl _, Nat.le_refl _, ?_⟩
                fail /- c218: mX7_cutOf -/)
           | 5, ho58, h58 =>
             cases ho58
             first
             | (exfalso; omega)
             | (refine ⟨kb, _, bl_vs rb_0, kg, _, bl_vs rg_1, kg, _, bl_vs rg_1, kgd, rfl, rfl, kba, (Nat.le_of_ble_eq_true rfl), (0, 0), Nat.le_refl _, Nat.le_refl _, ?_⟩
                fail /- c240: mX6_partOf -/)
           | _ + 6, ho58, _ => exact absurd ho58 (by simp))
  refine bl_go oX7_becomeOf 80 [24] rfl ?_
  refine ⟨kg, kb, Or.inr (Or.inl ⟨rfl, rfl, _, rfl⟩), (fun h => by cases h), kg, kb, Or.inr (Or.inl ⟨rfl, rfl, _, rfl⟩), (fun h => by cases h), kg, kb, Or.inr (Or.inl ⟨rfl, rfl, _, rfl⟩), (fun h => by cases h), ?_⟩
  try dsimp only [bl_pv]
  refine L _ (fun x hx => ?_) ?_ ?_ ?_
  · rw [bl_up2_ne hx, bl_up2_ne hx, bl_up2_ne hx]
  · simp (disch := omega) only [bl_up2_at, bl_up2_nk]; exact cT
  · simp (disch := omega) only [bl_up2_at, bl_up2_nk, bl_up2_nx]; exact cL
  · simp (disch := omega) only [bl_up2_at, bl_up2_nk, bl_up2_nx]; exact cC
theorem c_Slab_become_1_2 {S : sl} {x y : Int32} (hs : slS R K N b) (hg : slS R K N g) (hbg : b ≠ g) (hC : slC I J g S) (hx : x = nI 1) (hy : y = nI 2) (hk : st_ok 1 2) (hcan : sl_can 1 2 S.1.1) : bl_MC G l (d + 2) mX7_becomeOf [.ref b, .ref g, .int x, .int y] (I, J, R, K, N) (0, 0) (fun o σ' => o = .inl none ∧ ∃ I' J', σ' = (I', J', R, K, N) ∧ slM I I' J J' b ∧ slC I' J' b (sl_step S 1 2)) := by
  have hs' := hs; have hg' := hg
  obtain ⟨hr1, kb, rb_0, rb_1, hBA, hBD⟩ := hs
  obtain ⟨hr2, kg, rg_0, rg_1, hGA, hGD⟩ := hg
  have kba := hBA.2.1
  have kbd := hBD.2.1
  have kga := hGA.2.1
  have kgd := hGD.2.1
  obtain ⟨cA, cD, cT, cL, cC⟩ := hC
  obtain ⟨hk1, hk2, hk3, hk4⟩ := hk
  have cA1 := cA.2.1
  have cD1 := cD.2.1
  simp only [sl_can] at hcan
  subst hx hy
  refine bl_MC_intro (by decide +kernel) rfl (Nat.le_of_ble_eq_true rfl) ?_
  have L : ∀ J0, (∀ x, x ≠ b → J0 x = J x) → J0 b 2 = nJ S.2.2.1 → J0 b 3 = nJ S.2.2.2.1 → J0 b 4 = nJ S.2.2.2.2 → bl_WP G l (d + 2) mX7_becomeOf 24 [(0, .ref b), (1, .ref g), (2, .int (nI 1)), (3, .int (nI 2))] [] (I, J0, R, K, N) (0, 0) (fun o σ' => o = .inl none ∧ ∃ I' J', σ' = (I', J', R, K, N) ∧ slM I I' J J' b ∧ slC I' J' b (sl_step S 1 2)) := by
    intro J0 hJ0 j2 j3 j4
    have cA0 : sdC I J0 (2 * g) S.1 := cA.same rfl (hJ0 _ (by omega)) (hJ0 _ (by omega))
    have cD0 : sdC I J0 (2 * g + 1) S.2.1 := cD.same rfl (hJ0 _ (by omega)) (hJ0 _ (by omega))
    refine bl_go oX7_becomeOf 80 [24] rfl ?_
    refine ⟨fun h26 => ?_, fun h26 => ?_⟩
    · try simp (disch := omega) only [cA.1, cD.1, zI_n, zI_o, zI_lit, zI_neg, zI_add, zI_sub, zI_mul, zI_lt, zI_le, zI_eq, zI_clamp, zI_in, zI_div, zI_rem, lg_lt0, lg_gt0, lg_eq0, lg_le0, lg_ge0, Int.toNat_natCast, ge_iff_le, gt_iff_lt, List.length_cons, List.length_nil, bl_up2_at, bl_up2_nk, bl_up2_nx] at h26
      first
      | (exfalso; omega)
      | (refine ⟨kg, _, bl_vs rg_1, kb, _, bl_vs rb_1, kgd, rfl, rfl, kbd, (Nat.le_of_ble_eq_true rfl), (0, 0), Nat.le_refl _, Nat.le_refl _, bl_MC_mono (c_Side_partOf hBD hGD (by omega) cD0 (fr := 0) (c := S.2.1.1) rfl (by first | with_reducible rfl | ((try dsimp only [bl_pv]); simp (disch := omega) only [cA.1, cD.1, zI_n, zI_o, zI_lit, zI_neg, zI_add, zI_sub, zI_mul, zI_lt, zI_le, zI_eq, zI_clamp, zI_in, zI_div, zI_rem, lg_lt0, lg_gt0, lg_eq0, lg_le0, lg_ge0, Int.toNat_natCast, ge_iff_le, gt_iff_lt, List.length_cons, List.length_nil, bl_up2_at, bl_up2_nk, bl_up2_nx] <;> omega)) (by omega)) (fun o54 σ54 q54 => ?_)⟩
         try dsimp only [bl_pv] at q54
         obtain ⟨rfl, I1, J1, rfl, m1, t1⟩ := q54
         rw [sd_part_0] at t1
         have a1 : sdC I1 J1 (2 * g) S.1 := cA0.other m1 hBD hGA (by omega)
         have d1 : sdC I1 J1 (2 * g + 1) S.2.1 := cD0.other m1 hBD hGD (by omega)
         have b1 : ∀ j, J1 b j = J0 b j := fun j => by rw [m1.2 b (by omega) (by omega)]
         have ea := a1.1
         have ed := t1.1
         refine bl_go oX7_becomeOf 80 [24] rfl ?_
         refine ⟨fun h58 => ?_, fun j58 o58 ho58 h58 _ => ?_⟩
         · try simp (disch := omega) only [cA.1, cD.1, zI_n, zI_o, zI_lit, zI_neg, zI_add, zI_sub, zI_mul, zI_lt, zI_le, zI_eq, zI_clamp, zI_in, zI_div, zI_rem, lg_lt0, lg_gt0, lg_eq0, lg_le0, lg_ge0, Int.toNat_natCast, ge_iff_le, gt_iff_lt, List.length_cons, List.length_nil, bl_up2_at, bl_up2_nk, bl_up2_nx, zI_toInt] at h58
           first
           | (exfalso; omega)
           | (refine ⟨kb, _, bl_vs rb_0, kg, _, bl_vs rg_0, kg, _, bl_vs rg_0, kga, rfl, rfl, kba, (Nat.le_of_ble_eq_true rfl), (0, 0), Nat.le_refl _, Nat.le_refl _, ?_⟩
              fail /- c262: mX6_partOf -/)
         · try simp (disch := omega) only [cA.1, cD.1, zI_n, zI_o, zI_lit, zI_neg, zI_add, zI_sub, zI_mul, zI_lt, zI_le, zI_eq, zI_clamp, zI_in, zI_div, zI_rem, lg_lt0, lg_gt0, lg_eq0, lg_le0, lg_ge0, Int.toNat_natCast, ge_iff_le, gt_iff_lt, List.length_cons, List.length_nil, bl_up2_at, bl_up2_nk, bl_up2_nx, zI_toInt] at h58
           match j58, ho58, h58 with
           | 0, ho58, h58 =>
             cases ho58
             first
             | (exfalso; omega)
             | (refine ⟨kb, _, bl_vs rb_0, kg, _, bl_vs rg_0, rfl, rfl, kba, (Nat.le_of_ble_eq_true rfl), (0, 0), Nat.le_refl _, Nat.le_refl _, ?_⟩
                fail /- c105: mX6_rollOf -/)
           | 1, ho58, h58 =>
             cases ho58
             first
             | (exfalso; omega)
             | (refine ⟨kb, _, bl_vs rb_0, kg, _, bl_vs rg_0, rfl, rfl, kba, (Nat.le_of_ble_eq_true rfl), (0, 0), Nat.le_refl _, Nat.le_refl _, bl_MC_mono (c_Side_fold2 hBA hGA (by omega) a1 rfl hcan) (fun o142 σ142 q142 => ?_)⟩
                try dsimp only [bl_pv] at q142
                obtain ⟨rfl, I2, J2, rfl, m2, t2⟩ := q142
                have ed2 : I2 (2 * b + 1) 2 = nI S.2.1.1 := by rw [m2.1 _ (by omega)]; exact ed
                have ea2 := t2.1
                have b2 : ∀ j, J2 b j = J1 b j := fun j => by rw [m2.2 b (by omega) (by omega)]
                refine bl_go oX7_becomeOf 80 [24] rfl ?_
                refine ⟨kb, _, bl_vs rb_0, kba, rfl, rfl, kb, (Nat.le_of_ble_eq_true rfl), (0, 0), Nat.le_refl _, Nat.le_refl _, bl_MC_mono (c_Slab_layEach (d := d + 1) kb rb_1 kbd (c := (2 - 1) * (S.1.1 / 2)) (L := S.2.1.1) (w := S.2.2.2.1) (by first | with_reducible rfl | ((try dsimp only [bl_pv]); simp (disch := omega) only [ea2, zI_n, zI_o, zI_lit, zI_neg, zI_add, zI_sub, zI_mul, zI_lt, zI_le, zI_eq, zI_clamp, zI_in, zI_div, zI_rem, lg_lt0, lg_gt0, lg_eq0, lg_le0, lg_ge0, Int.toNat_natCast, ge_iff_le, gt_iff_lt, List.length_cons, List.length_nil, bl_up2_at, bl_up2_nk, bl_up2_nx] <;> omega)) (by omega) ed2 cD1 (by rw [b2, b1]; exact j3)) (fun o157 σ157 q157 => ?_)⟩
                try dsimp only [bl_pv] at q157
                obtain ⟨rfl, rfl⟩ := q157
                refine bl_go oX7_becomeOf 80 [24] rfl ?_
                try show _ ∧ _
                try dsimp only [bl_pv]
                refine ⟨rfl, _, _, rfl, fun x hx => ?_, ?_, ?_, ?_⟩
                · unfold slN at hx
                  refine ⟨by rw [m2.1 x (by omega), m1.1 x (by omega)], ?_⟩
                  rw [bl_up2_ne (by omega)]
                  rw [m2.2 x (by omega) (by omega), m1.2 x (by omega) (by omega), hJ0 x (by omega)]
                · exact t2.same rfl (by rw [bl_up2_ne (by omega)]) (by rw [bl_up2_ne (by omega)])
                · exact (t1.other m2 hBA hBD (by omega)).same rfl (by rw [bl_up2_ne (by omega)]) (by rw [bl_up2_ne (by omega)])
                · show _ = nJ S.2.2.1 ∧ _ = nJ (S.2.2.2.1 + (2 - 1) * (S.1.1 / 2) * S.2.1.1) ∧ _ = nJ S.2.2.2.2
                  simp (disch := omega) only [bl_up2_at, bl_up2_nk]
                  rw [b2, b2, b1, b1, j2, j4]
                  exact ⟨by trivial, by trivial, by trivial⟩)
           | 2, ho58, h58 =>
             cases ho58
             first
             | (exfalso; omega)
             | (refine ⟨kb, _, bl_vs rb_0, kg, _, bl_vs rg_0, rfl, rfl, kba, (Nat.le_of_ble_eq_true rfl), (0, 0), Nat.le_refl _, Nat.le_refl _, ?_⟩
                fail /- c171: mX6_bookOf -/)
           | 3, ho58, h58 =>
             cases ho58
             first
             | (exfalso; omega)
             | (refine ⟨kb, _, bl_vs rb_0, kg, _, bl_vs rg_0, rfl, rfl, kba, (Nat.le_of_ble_eq_true rfl), (0, 0), Nat.le_refl _, Nat.le_refl _, ?_⟩
                fail /- c199: mX6_tuckOf -/)
           | 4, ho58, h58 =>
             cases ho58
             first
             | (exfalso; omega)
             | (refine ⟨kg, _, bl_vs rg_0, rfl, rfl, kb, (Nat.le_of_ble_eq_true rfl), (0, 0), Nat.le_refl _, Nat.le_refl _, ?_⟩
                fail /- c218: mX7_cutOf -/)
           | 5, ho58, h58 =>
             cases ho58
             first
             | (exfalso; omega)
             | (refine ⟨kb, _, bl_vs rb_0, kg, _, bl_vs rg_1, kg, _, bl_vs rg_1, kgd, rfl, rfl, kba, (Nat.le_of_ble_eq_true rfl), (0, 0), Nat.le_refl _, Nat.le_refl _, ?_⟩
                fail /- c240: mX6_partOf -/)
           | _ + 6, ho58, _ => exact absurd ho58 (by simp))
    · try simp (disch := omega) only [cA.1, cD.1, zI_n, zI_o, zI_lit, zI_neg, zI_add, zI_sub, zI_mul, zI_lt, zI_le, zI_eq, zI_clamp, zI_in, zI_div, zI_rem, lg_lt0, lg_gt0, lg_eq0, lg_le0, lg_ge0, Int.toNat_natCast, ge_iff_le, gt_iff_lt, List.length_cons, List.length_nil, bl_up2_at, bl_up2_nk, bl_up2_nx] at h26
      first
      | (exfalso; omega)
      | (refine ⟨kg, _, bl_vs rg_0, kb, _, bl_vs rb_1, kga, rfl, rfl, kbd, (Nat.le_of_ble_eq_true rfl), (0, 0), Nat.le_refl _, Nat.le_refl _, bl_MC_mono (c_Side_partOf hBD hGD (by omega) cD0 (fr := 0) (c := S.2.1.1) rfl (by first | with_reducible rfl | ((try dsimp only [bl_pv]); simp (disch := omega) only [cA.1, cD.1, zI_n, zI_o, zI_lit, zI_neg, zI_add, zI_sub, zI_mul, zI_lt, zI_le, zI_eq, zI_clamp, zI_in, zI_div, zI_rem, lg_lt0, lg_gt0, lg_eq0, lg_le0, lg_ge0, Int.toNat_natCast, ge_iff_le, gt_iff_lt, List.length_cons, List.length_nil, bl_up2_at, bl_up2_nk, bl_up2_nx] <;> omega)) (by omega)) (fun o54 σ54 q54 => ?_)⟩
         try dsimp only [bl_pv] at q54
         obtain ⟨rfl, I1, J1, rfl, m1, t1⟩ := q54
         rw [sd_part_0] at t1
         have a1 : sdC I1 J1 (2 * g) S.1 := cA0.other m1 hBD hGA (by omega)
         have d1 : sdC I1 J1 (2 * g + 1) S.2.1 := cD0.other m1 hBD hGD (by omega)
         have b1 : ∀ j, J1 b j = J0 b j := fun j => by rw [m1.2 b (by omega) (by omega)]
         have ea := a1.1
         have ed := t1.1
         refine bl_go oX7_becomeOf 80 [24] rfl ?_
         refine ⟨fun h58 => ?_, fun j58 o58 ho58 h58 _ => ?_⟩
         · try simp (disch := omega) only [cA.1, cD.1, zI_n, zI_o, zI_lit, zI_neg, zI_add, zI_sub, zI_mul, zI_lt, zI_le, zI_eq, zI_clamp, zI_in, zI_div, zI_rem, lg_lt0, lg_gt0, lg_eq0, lg_le0, lg_ge0, Int.toNat_natCast, ge_iff_le, gt_iff_lt, List.length_cons, List.length_nil, bl_up2_at, bl_up2_nk, bl_up2_nx, zI_toInt] at h58
           first
           | (exfalso; omega)
           | (refine ⟨kb, _, bl_vs rb_0, kg, _, bl_vs rg_0, kg, _, bl_vs rg_0, kga, rfl, rfl, kba, (Nat.le_of_ble_eq_true rfl), (0, 0), Nat.le_refl _, Nat.le_refl _, ?_⟩
              fail /- c262: mX6_partOf -/)
         · try simp (disch := omega) only [cA.1, cD.1, zI_n, zI_o, zI_lit, zI_neg, zI_add, zI_sub, zI_mul, zI_lt, zI_le, zI_eq, zI_clamp, zI_in, zI_div, zI_rem, lg_lt0, lg_gt0, lg_eq0, lg_le0, lg_ge0, Int.toNat_natCast, ge_iff_le, gt_iff_lt, List.length_cons, List.length_nil, bl_up2_at, bl_up2_nk, bl_up2_nx, zI_toInt] at h58
           match j58, ho58, h58 with
           | 0, ho58, h58 =>
             cases ho58
             first
             | (exfalso; omega)
             | (refine ⟨kb, _, bl_vs rb_0, kg, _, bl_vs rg_0, rfl, rfl, kba, (Nat.le_of_ble_eq_true rfl), (0, 0), Nat.le_refl _, Nat.le_refl _, ?_⟩
                fail /- c105: mX6_rollOf -/)
           | 1, ho58, h58 =>
             cases ho58
             first
             | (exfalso; omega)
             | (refine ⟨kb, _, bl_vs rb_0, kg, _, bl_vs rg_0, rfl, rfl, kba, (Nat.le_of_ble_eq_true rfl), (0, 0), Nat.le_refl _, Nat.le_refl _, bl_MC_mono (c_Side_fold2 hBA hGA (by omega) a1 rfl hcan) (fun o142 σ142 q142 => ?_)⟩
                try dsimp only [bl_pv] at q142
                obtain ⟨rfl, I2, J2, rfl, m2, t2⟩ := q142
                have ed2 : I2 (2 * b + 1) 2 = nI S.2.1.1 := by rw [m2.1 _ (by omega)]; exact ed
                have ea2 := t2.1
                have b2 : ∀ j, J2 b j = J1 b j := fun j => by rw [m2.2 b (by omega) (by omega)]
                refine bl_go oX7_becomeOf 80 [24] rfl ?_
                refine ⟨kb, _, bl_vs rb_0, kba, rfl, rfl, kb, (Nat.le_of_ble_eq_true rfl), (0, 0), Nat.le_refl _, Nat.le_refl _, bl_MC_mono (c_Slab_layEach (d := d + 1) kb rb_1 kbd (c := (2 - 1) * (S.1.1 / 2)) (L := S.2.1.1) (w := S.2.2.2.1) (by first | with_reducible rfl | ((try dsimp only [bl_pv]); simp (disch := omega) only [ea2, zI_n, zI_o, zI_lit, zI_neg, zI_add, zI_sub, zI_mul, zI_lt, zI_le, zI_eq, zI_clamp, zI_in, zI_div, zI_rem, lg_lt0, lg_gt0, lg_eq0, lg_le0, lg_ge0, Int.toNat_natCast, ge_iff_le, gt_iff_lt, List.length_cons, List.length_nil, bl_up2_at, bl_up2_nk, bl_up2_nx] <;> omega)) (by omega) ed2 cD1 (by rw [b2, b1]; exact j3)) (fun o157 σ157 q157 => ?_)⟩
                try dsimp only [bl_pv] at q157
                obtain ⟨rfl, rfl⟩ := q157
                refine bl_go oX7_becomeOf 80 [24] rfl ?_
                try show _ ∧ _
                try dsimp only [bl_pv]
                refine ⟨rfl, _, _, rfl, fun x hx => ?_, ?_, ?_, ?_⟩
                · unfold slN at hx
                  refine ⟨by rw [m2.1 x (by omega), m1.1 x (by omega)], ?_⟩
                  rw [bl_up2_ne (by omega)]
                  rw [m2.2 x (by omega) (by omega), m1.2 x (by omega) (by omega), hJ0 x (by omega)]
                · exact t2.same rfl (by rw [bl_up2_ne (by omega)]) (by rw [bl_up2_ne (by omega)])
                · exact (t1.other m2 hBA hBD (by omega)).same rfl (by rw [bl_up2_ne (by omega)]) (by rw [bl_up2_ne (by omega)])
                · show _ = nJ S.2.2.1 ∧ _ = nJ (S.2.2.2.1 + (2 - 1) * (S.1.1 / 2) * S.2.1.1) ∧ _ = nJ S.2.2.2.2
                  simp (disch := omega) only [bl_up2_at, bl_up2_nk]
                  rw [b2, b2, b1, b1, j2, j4]
                  exact ⟨by trivial, by trivial, by trivial⟩)
           | 2, ho58, h58 =>
             cases ho58
             first
             | (exfalso; omega)
             | (refine ⟨kb, _, bl_vs rb_0, kg, _, bl_vs rg_0, rfl, rfl, kba, (Nat.le_of_ble_eq_true rfl), (0, 0), Nat.le_refl _, Nat.le_refl _, ?_⟩
                fail /- c171: mX6_bookOf -/)
           | 3, ho58, h58 =>
             cases ho58
             first
             | (exfalso; omega)
             | (refine ⟨kb, _, bl_vs rb_0, kg, _, bl_vs rg_0, rfl, rfl, kba, (Nat.le_of_ble_eq_true rfl), (0, 0), Nat.le_refl _, Nat.le_refl _, ?_⟩
                fail /- c199: mX6_tuckOf -/)
           | 4, ho58, h58 =>
             cases ho58
             first
             | (exfalso; omega)
             | (refine ⟨kg, _, bl_vs rg_0, rfl, rfl, kb, (Nat.le_of_ble_eq_true rfl), (0, 0), Nat.le_refl _, Nat.le_refl _, ?_⟩
                fail /- c218: mX7_cutOf -/)
           | 5, ho58, h58 =>
             cases ho58
             first
             | (exfalso; omega)
             | (refine ⟨kb, _, bl_vs rb_0, kg, _, bl_vs rg_1, kg, _, bl_vs rg_1, kgd, rfl, rfl, kba, (Nat.le_of_ble_eq_true rfl), (0, 0), Nat.le_refl _, Nat.le_refl _, ?_⟩
                fail /- c240: mX6_partOf -/)
           | _ + 6, ho58, _ => exact absurd ho58 (by simp))
  refine bl_go oX7_becomeOf 80 [24] rfl ?_
  refine ⟨kg, kb, Or.inr (Or.inl ⟨rfl, rfl, _, rfl⟩), (fun h => by cases h), kg, kb, Or.inr (Or.inl ⟨rfl, rfl, _, rfl⟩), (fun h => by cases h), kg, kb, Or.inr (Or.inl ⟨rfl, rfl, _, rfl⟩), (fun h => by cases h), ?_⟩
  try dsimp only [bl_pv]
  refine L _ (fun x hx => ?_) ?_ ?_ ?_
  · rw [bl_up2_ne hx, bl_up2_ne hx, bl_up2_ne hx]
  · simp (disch := omega) only [bl_up2_at, bl_up2_nk]; exact cT
  · simp (disch := omega) only [bl_up2_at, bl_up2_nk, bl_up2_nx]; exact cL
  · simp (disch := omega) only [bl_up2_at, bl_up2_nk, bl_up2_nx]; exact cC
theorem c_Slab_become_1_3 {S : sl} {x y : Int32} (hs : slS R K N b) (hg : slS R K N g) (hbg : b ≠ g) (hC : slC I J g S) (hx : x = nI 1) (hy : y = nI 3) (hk : st_ok 1 3) (hcan : sl_can 1 3 S.1.1) : bl_MC G l (d + 2) mX7_becomeOf [.ref b, .ref g, .int x, .int y] (I, J, R, K, N) (0, 0) (fun o σ' => o = .inl none ∧ ∃ I' J', σ' = (I', J', R, K, N) ∧ slM I I' J J' b ∧ slC I' J' b (sl_step S 1 3)) := by
  have hs' := hs; have hg' := hg
  obtain ⟨hr1, kb, rb_0, rb_1, hBA, hBD⟩ := hs
  obtain ⟨hr2, kg, rg_0, rg_1, hGA, hGD⟩ := hg
  have kba := hBA.2.1
  have kbd := hBD.2.1
  have kga := hGA.2.1
  have kgd := hGD.2.1
  obtain ⟨cA, cD, cT, cL, cC⟩ := hC
  obtain ⟨hk1, hk2, hk3, hk4⟩ := hk
  have cA1 := cA.2.1
  have cD1 := cD.2.1
  simp only [sl_can] at hcan
  subst hx hy
  refine bl_MC_intro (by decide +kernel) rfl (Nat.le_of_ble_eq_true rfl) ?_
  have L : ∀ J0, (∀ x, x ≠ b → J0 x = J x) → J0 b 2 = nJ S.2.2.1 → J0 b 3 = nJ S.2.2.2.1 → J0 b 4 = nJ S.2.2.2.2 → bl_WP G l (d + 2) mX7_becomeOf 24 [(0, .ref b), (1, .ref g), (2, .int (nI 1)), (3, .int (nI 3))] [] (I, J0, R, K, N) (0, 0) (fun o σ' => o = .inl none ∧ ∃ I' J', σ' = (I', J', R, K, N) ∧ slM I I' J J' b ∧ slC I' J' b (sl_step S 1 3)) := by
    intro J0 hJ0 j2 j3 j4
    have cA0 : sdC I J0 (2 * g) S.1 := cA.same rfl (hJ0 _ (by omega)) (hJ0 _ (by omega))
    have cD0 : sdC I J0 (2 * g + 1) S.2.1 := cD.same rfl (hJ0 _ (by omega)) (hJ0 _ (by omega))
    refine bl_go oX7_becomeOf 80 [24] rfl ?_
    refine ⟨fun h26 => ?_, fun h26 => ?_⟩
    · try simp (disch := omega) only [cA.1, cD.1, zI_n, zI_o, zI_lit, zI_neg, zI_add, zI_sub, zI_mul, zI_lt, zI_le, zI_eq, zI_clamp, zI_in, zI_div, zI_rem, lg_lt0, lg_gt0, lg_eq0, lg_le0, lg_ge0, Int.toNat_natCast, ge_iff_le, gt_iff_lt, List.length_cons, List.length_nil, bl_up2_at, bl_up2_nk, bl_up2_nx] at h26
      first
      | (exfalso; omega)
      | (refine ⟨kg, _, bl_vs rg_1, kb, _, bl_vs rb_1, kgd, rfl, rfl, kbd, (Nat.le_of_ble_eq_true rfl), (0, 0), Nat.le_refl _, Nat.le_refl _, bl_MC_mono (c_Side_partOf hBD hGD (by omega) cD0 (fr := 0) (c := S.2.1.1) rfl (by first | with_reducible rfl | ((try dsimp only [bl_pv]); simp (disch := omega) only [cA.1, cD.1, zI_n, zI_o, zI_lit, zI_neg, zI_add, zI_sub, zI_mul, zI_lt, zI_le, zI_eq, zI_clamp, zI_in, zI_div, zI_rem, lg_lt0, lg_gt0, lg_eq0, lg_le0, lg_ge0, Int.toNat_natCast, ge_iff_le, gt_iff_lt, List.length_cons, List.length_nil, bl_up2_at, bl_up2_nk, bl_up2_nx] <;> omega)) (by omega)) (fun o54 σ54 q54 => ?_)⟩
         try dsimp only [bl_pv] at q54
         obtain ⟨rfl, I1, J1, rfl, m1, t1⟩ := q54
         rw [sd_part_0] at t1
         have a1 : sdC I1 J1 (2 * g) S.1 := cA0.other m1 hBD hGA (by omega)
         have d1 : sdC I1 J1 (2 * g + 1) S.2.1 := cD0.other m1 hBD hGD (by omega)
         have b1 : ∀ j, J1 b j = J0 b j := fun j => by rw [m1.2 b (by omega) (by omega)]
         have ea := a1.1
         have ed := t1.1
         refine bl_go oX7_becomeOf 80 [24] rfl ?_
         refine ⟨fun h58 => ?_, fun j58 o58 ho58 h58 _ => ?_⟩
         · try simp (disch := omega) only [cA.1, cD.1, zI_n, zI_o, zI_lit, zI_neg, zI_add, zI_sub, zI_mul, zI_lt, zI_le, zI_eq, zI_clamp, zI_in, zI_div, zI_rem, lg_lt0, lg_gt0, lg_eq0, lg_le0, lg_ge0, Int.toNat_natCast, ge_iff_le, gt_iff_lt, List.length_cons, List.length_nil, bl_up2_at, bl_up2_nk, bl_up2_nx, zI_toInt] at h58
           first
           | (exfalso; omega)
           | (refine ⟨kb, _, bl_vs rb_0, kg, _, bl_vs rg_0, kg, _, bl_vs rg_0, kga, rfl, rfl, kba, (Nat.le_of_ble_eq_true rfl), (0, 0), Nat.le_refl _, Nat.le_refl _, ?_⟩
              fail /- c262: mX6_partOf -/)
         · try simp (disch := omega) only [cA.1, cD.1, zI_n, zI_o, zI_lit, zI_neg, zI_add, zI_sub, zI_mul, zI_lt, zI_le, zI_eq, zI_clamp, zI_in, zI_div, zI_rem, lg_lt0, lg_gt0, lg_eq0, lg_le0, lg_ge0, Int.toNat_natCast, ge_iff_le, gt_iff_lt, List.length_cons, List.length_nil, bl_up2_at, bl_up2_nk, bl_up2_nx, zI_toInt] at h58
           match j58, ho58, h58 with
           | 0, ho58, h58 =>
             cases ho58
             first
             | (exfalso; omega)
             | (refine ⟨kb, _, bl_vs rb_0, kg, _, bl_vs rg_0, rfl, rfl, kba, (Nat.le_of_ble_eq_true rfl), (0, 0), Nat.le_refl _, Nat.le_refl _, ?_⟩
                fail /- c105: mX6_rollOf -/)
           | 1, ho58, h58 =>
             cases ho58
             first
             | (exfalso; omega)
             | (refine ⟨kb, _, bl_vs rb_0, kg, _, bl_vs rg_0, rfl, rfl, kba, (Nat.le_of_ble_eq_true rfl), (0, 0), Nat.le_refl _, Nat.le_refl _, bl_MC_mono (c_Side_fold3 hBA hGA (by omega) a1 rfl hcan) (fun o142 σ142 q142 => ?_)⟩
                try dsimp only [bl_pv] at q142
                obtain ⟨rfl, I2, J2, rfl, m2, t2⟩ := q142
                have ed2 : I2 (2 * b + 1) 2 = nI S.2.1.1 := by rw [m2.1 _ (by omega)]; exact ed
                have ea2 := t2.1
                have b2 : ∀ j, J2 b j = J1 b j := fun j => by rw [m2.2 b (by omega) (by omega)]
                refine bl_go oX7_becomeOf 80 [24] rfl ?_
                refine ⟨kb, _, bl_vs rb_0, kba, rfl, rfl, kb, (Nat.le_of_ble_eq_true rfl), (0, 0), Nat.le_refl _, Nat.le_refl _, bl_MC_mono (c_Slab_layEach (d := d + 1) kb rb_1 kbd (c := (3 - 1) * (S.1.1 / 3)) (L := S.2.1.1) (w := S.2.2.2.1) (by first | with_reducible rfl | ((try dsimp only [bl_pv]); simp (disch := omega) only [ea2, zI_n, zI_o, zI_lit, zI_neg, zI_add, zI_sub, zI_mul, zI_lt, zI_le, zI_eq, zI_clamp, zI_in, zI_div, zI_rem, lg_lt0, lg_gt0, lg_eq0, lg_le0, lg_ge0, Int.toNat_natCast, ge_iff_le, gt_iff_lt, List.length_cons, List.length_nil, bl_up2_at, bl_up2_nk, bl_up2_nx] <;> omega)) (by omega) ed2 cD1 (by rw [b2, b1]; exact j3)) (fun o157 σ157 q157 => ?_)⟩
                try dsimp only [bl_pv] at q157
                obtain ⟨rfl, rfl⟩ := q157
                refine bl_go oX7_becomeOf 80 [24] rfl ?_
                try show _ ∧ _
                try dsimp only [bl_pv]
                refine ⟨rfl, _, _, rfl, fun x hx => ?_, ?_, ?_, ?_⟩
                · unfold slN at hx
                  refine ⟨by rw [m2.1 x (by omega), m1.1 x (by omega)], ?_⟩
                  rw [bl_up2_ne (by omega)]
                  rw [m2.2 x (by omega) (by omega), m1.2 x (by omega) (by omega), hJ0 x (by omega)]
                · exact t2.same rfl (by rw [bl_up2_ne (by omega)]) (by rw [bl_up2_ne (by omega)])
                · exact (t1.other m2 hBA hBD (by omega)).same rfl (by rw [bl_up2_ne (by omega)]) (by rw [bl_up2_ne (by omega)])
                · show _ = nJ S.2.2.1 ∧ _ = nJ (S.2.2.2.1 + (3 - 1) * (S.1.1 / 3) * S.2.1.1) ∧ _ = nJ S.2.2.2.2
                  simp (disch := omega) only [bl_up2_at, bl_up2_nk]
                  rw [b2, b2, b1, b1, j2, j4]
                  exact ⟨by trivial, by trivial, by trivial⟩)
           | 2, ho58, h58 =>
             cases ho58
             first
             | (exfalso; omega)
             | (refine ⟨kb, _, bl_vs rb_0, kg, _, bl_vs rg_0, rfl, rfl, kba, (Nat.le_of_ble_eq_true rfl), (0, 0), Nat.le_refl _, Nat.le_refl _, ?_⟩
                fail /- c171: mX6_bookOf -/)
           | 3, ho58, h58 =>
             cases ho58
             first
             | (exfalso; omega)
             | (refine ⟨kb, _, bl_vs rb_0, kg, _, bl_vs rg_0, rfl, rfl, kba, (Nat.le_of_ble_eq_true rfl), (0, 0), Nat.le_refl _, Nat.le_refl _, ?_⟩
                fail /- c199: mX6_tuckOf -/)
           | 4, ho58, h58 =>
             cases ho58
             first
             | (exfalso; omega)
             | (refine ⟨kg, _, bl_vs rg_0, rfl, rfl, kb, (Nat.le_of_ble_eq_true rfl), (0, 0), Nat.le_refl _, Nat.le_refl _, ?_⟩
                fail /- c218: mX7_cutOf -/)
           | 5, ho58, h58 =>
             cases ho58
             first
             | (exfalso; omega)
             | (refine ⟨kb, _, bl_vs rb_0, kg, _, bl_vs rg_1, kg, _, bl_vs rg_1, kgd, rfl, rfl, kba, (Nat.le_of_ble_eq_true rfl), (0, 0), Nat.le_refl _, Nat.le_refl _, ?_⟩
                fail /- c240: mX6_partOf -/)
           | _ + 6, ho58, _ => exact absurd ho58 (by simp))
    · try simp (disch := omega) only [cA.1, cD.1, zI_n, zI_o, zI_lit, zI_neg, zI_add, zI_sub, zI_mul, zI_lt, zI_le, zI_eq, zI_clamp, zI_in, zI_div, zI_rem, lg_lt0, lg_gt0, lg_eq0, lg_le0, lg_ge0, Int.toNat_natCast, ge_iff_le, gt_iff_lt, List.length_cons, List.length_nil, bl_up2_at, bl_up2_nk, bl_up2_nx] at h26
      first
      | (exfalso; omega)
      | (refine ⟨kg, _, bl_vs rg_0, kb, _, bl_vs rb_1, kga, rfl, rfl, kbd, (Nat.le_of_ble_eq_true rfl), (0, 0), Nat.le_refl _, Nat.le_refl _, bl_MC_mono (c_Side_partOf hBD hGD (by omega) cD0 (fr := 0) (c := S.2.1.1) rfl (by first | with_reducible rfl | ((try dsimp only [bl_pv]); simp (disch := omega) only [cA.1, cD.1, zI_n, zI_o, zI_lit, zI_neg, zI_add, zI_sub, zI_mul, zI_lt, zI_le, zI_eq, zI_clamp, zI_in, zI_div, zI_rem, lg_lt0, lg_gt0, lg_eq0, lg_le0, lg_ge0, Int.toNat_natCast, ge_iff_le, gt_iff_lt, List.length_cons, List.length_nil, bl_up2_at, bl_up2_nk, bl_up2_nx] <;> omega)) (by omega)) (fun o54 σ54 q54 => ?_)⟩
         try dsimp only [bl_pv] at q54
         obtain ⟨rfl, I1, J1, rfl, m1, t1⟩ := q54
         rw [sd_part_0] at t1
         have a1 : sdC I1 J1 (2 * g) S.1 := cA0.other m1 hBD hGA (by omega)
         have d1 : sdC I1 J1 (2 * g + 1) S.2.1 := cD0.other m1 hBD hGD (by omega)
         have b1 : ∀ j, J1 b j = J0 b j := fun j => by rw [m1.2 b (by omega) (by omega)]
         have ea := a1.1
         have ed := t1.1
         refine bl_go oX7_becomeOf 80 [24] rfl ?_
         refine ⟨fun h58 => ?_, fun j58 o58 ho58 h58 _ => ?_⟩
         · try simp (disch := omega) only [cA.1, cD.1, zI_n, zI_o, zI_lit, zI_neg, zI_add, zI_sub, zI_mul, zI_lt, zI_le, zI_eq, zI_clamp, zI_in, zI_div, zI_rem, lg_lt0, lg_gt0, lg_eq0, lg_le0, lg_ge0, Int.toNat_natCast, ge_iff_le, gt_iff_lt, List.length_cons, List.length_nil, bl_up2_at, bl_up2_nk, bl_up2_nx, zI_toInt] at h58
           first
           | (exfalso; omega)
           | (refine ⟨kb, _, bl_vs rb_0, kg, _, bl_vs rg_0, kg, _, bl_vs rg_0, kga, rfl, rfl, kba, (Nat.le_of_ble_eq_true rfl), (0, 0), Nat.le_refl _, Nat.le_refl _, ?_⟩
              fail /- c262: mX6_partOf -/)
         · try simp (disch := omega) only [cA.1, cD.1, zI_n, zI_o, zI_lit, zI_neg, zI_add, zI_sub, zI_mul, zI_lt, zI_le, zI_eq, zI_clamp, zI_in, zI_div, zI_rem, lg_lt0, lg_gt0, lg_eq0, lg_le0, lg_ge0, Int.toNat_natCast, ge_iff_le, gt_iff_lt, List.length_cons, List.length_nil, bl_up2_at, bl_up2_nk, bl_up2_nx, zI_toInt] at h58
           match j58, ho58, h58 with
           | 0, ho58, h58 =>
             cases ho58
             first
             | (exfalso; omega)
             | (refine ⟨kb, _, bl_vs rb_0, kg, _, bl_vs rg_0, rfl, rfl, kba, (Nat.le_of_ble_eq_true rfl), (0, 0), Nat.le_refl _, Nat.le_refl _, ?_⟩
                fail /- c105: mX6_rollOf -/)
           | 1, ho58, h58 =>
             cases ho58
             first
             | (exfalso; omega)
             | (refine ⟨kb, _, bl_vs rb_0, kg, _, bl_vs rg_0, rfl, rfl, kba, (Nat.le_of_ble_eq_true rfl), (0, 0), Nat.le_refl _, Nat.le_refl _, bl_MC_mono (c_Side_fold3 hBA hGA (by omega) a1 rfl hcan) (fun o142 σ142 q142 => ?_)⟩
                try dsimp only [bl_pv] at q142
                obtain ⟨rfl, I2, J2, rfl, m2, t2⟩ := q142
                have ed2 : I2 (2 * b + 1) 2 = nI S.2.1.1 := by rw [m2.1 _ (by omega)]; exact ed
                have ea2 := t2.1
                have b2 : ∀ j, J2 b j = J1 b j := fun j => by rw [m2.2 b (by omega) (by omega)]
                refine bl_go oX7_becomeOf 80 [24] rfl ?_
                refine ⟨kb, _, bl_vs rb_0, kba, rfl, rfl, kb, (Nat.le_of_ble_eq_true rfl), (0, 0), Nat.le_refl _, Nat.le_refl _, bl_MC_mono (c_Slab_layEach (d := d + 1) kb rb_1 kbd (c := (3 - 1) * (S.1.1 / 3)) (L := S.2.1.1) (w := S.2.2.2.1) (by first | with_reducible rfl | ((try dsimp only [bl_pv]); simp (disch := omega) only [ea2, zI_n, zI_o, zI_lit, zI_neg, zI_add, zI_sub, zI_mul, zI_lt, zI_le, zI_eq, zI_clamp, zI_in, zI_div, zI_rem, lg_lt0, lg_gt0, lg_eq0, lg_le0, lg_ge0, Int.toNat_natCast, ge_iff_le, gt_iff_lt, List.length_cons, List.length_nil, bl_up2_at, bl_up2_nk, bl_up2_nx] <;> omega)) (by omega) ed2 cD1 (by rw [b2, b1]; exact j3)) (fun o157 σ157 q157 => ?_)⟩
                try dsimp only [bl_pv] at q157
                obtain ⟨rfl, rfl⟩ := q157
                refine bl_go oX7_becomeOf 80 [24] rfl ?_
                try show _ ∧ _
                try dsimp only [bl_pv]
                refine ⟨rfl, _, _, rfl, fun x hx => ?_, ?_, ?_, ?_⟩
                · unfold slN at hx
                  refine ⟨by rw [m2.1 x (by omega), m1.1 x (by omega)], ?_⟩
                  rw [bl_up2_ne (by omega)]
                  rw [m2.2 x (by omega) (by omega), m1.2 x (by omega) (by omega), hJ0 x (by omega)]
                · exact t2.same rfl (by rw [bl_up2_ne (by omega)]) (by rw [bl_up2_ne (by omega)])
                · exact (t1.other m2 hBA hBD (by omega)).same rfl (by rw [bl_up2_ne (by omega)]) (by rw [bl_up2_ne (by omega)])
                · show _ = nJ S.2.2.1 ∧ _ = nJ (S.2.2.2.1 + (3 - 1) * (S.1.1 / 3) * S.2.1.1) ∧ _ = nJ S.2.2.2.2
                  simp (disch := omega) only [bl_up2_at, bl_up2_nk]
                  rw [b2, b2, b1, b1, j2, j4]
                  exact ⟨by trivial, by trivial, by trivial⟩)
           | 2, ho58, h58 =>
             cases ho58
             first
             | (exfalso; omega)
             | (refine ⟨kb, _, bl_vs rb_0, kg, _, bl_vs rg_0, rfl, rfl, kba, (Nat.le_of_ble_eq_true rfl), (0, 0), Nat.le_refl _, Nat.le_refl _, ?_⟩
                fail /- c171: mX6_bookOf -/)
           | 3, ho58, h58 =>
             cases ho58
             first
             | (exfalso; omega)
             | (refine ⟨kb, _, bl_vs rb_0, kg, _, bl_vs rg_0, rfl, rfl, kba, (Nat.le_of_ble_eq_true rfl), (0, 0), Nat.le_refl _, Nat.le_refl _, ?_⟩
                fail /- c199: mX6_tuckOf -/)
           | 4, ho58, h58 =>
             cases ho58
             first
             | (exfalso; omega)
             | (refine ⟨kg, _, bl_vs rg_0, rfl, rfl, kb, (Nat.le_of_ble_eq_true rfl), (0, 0), Nat.le_refl _, Nat.le_refl _, ?_⟩
                fail /- c218: mX7_cutOf -/)
           | 5, ho58, h58 =>
             cases ho58
             first
             | (exfalso; omega)
             | (refine ⟨kb, _, bl_vs rb_0, kg, _, bl_vs rg_1, kg, _, bl_vs rg_1, kgd, rfl, rfl, kba, (Nat.le_of_ble_eq_true rfl), (0, 0), Nat.le_refl _, Nat.le_refl _, ?_⟩
                fail /- c240: mX6_partOf -/)
           | _ + 6, ho58, _ => exact absurd ho58 (by simp))
  refine bl_go oX7_becomeOf 80 [24] rfl ?_
  refine ⟨kg, kb, Or.inr (Or.inl ⟨rfl, rfl, _, rfl⟩), (fun h => by cases h), kg, kb, Or.inr (Or.inl ⟨rfl, rfl, _, rfl⟩), (fun h => by cases h), kg, kb, Or.inr (Or.inl ⟨rfl, rfl, _, rfl⟩), (fun h => by cases h), ?_⟩
  try dsimp only [bl_pv]
  refine L _ (fun x hx => ?_) ?_ ?_ ?_
  · rw [bl_up2_ne hx, bl_up2_ne hx, bl_up2_ne hx]
  · simp (disch := omega) only [bl_up2_at, bl_up2_nk]; exact cT
  · simp (disch := omega) only [bl_up2_at, bl_up2_nk, bl_up2_nx]; exact cL
  · simp (disch := omega) only [bl_up2_at, bl_up2_nk, bl_up2_nx]; exact cC
theorem c_Slab_become_1_4 {S : sl} {x y : Int32} (hs : slS R K N b) (hg : slS R K N g) (hbg : b ≠ g) (hC : slC I J g S) (hx : x = nI 1) (hy : y = nI 4) (hk : st_ok 1 4) (hcan : sl_can 1 4 S.1.1) : bl_MC G l (d + 2) mX7_becomeOf [.ref b, .ref g, .int x, .int y] (I, J, R, K, N) (0, 0) (fun o σ' => o = .inl none ∧ ∃ I' J', σ' = (I', J', R, K, N) ∧ slM I I' J J' b ∧ slC I' J' b (sl_step S 1 4)) := by
  have hs' := hs; have hg' := hg
  obtain ⟨hr1, kb, rb_0, rb_1, hBA, hBD⟩ := hs
  obtain ⟨hr2, kg, rg_0, rg_1, hGA, hGD⟩ := hg
  have kba := hBA.2.1
  have kbd := hBD.2.1
  have kga := hGA.2.1
  have kgd := hGD.2.1
  obtain ⟨cA, cD, cT, cL, cC⟩ := hC
  obtain ⟨hk1, hk2, hk3, hk4⟩ := hk
  have cA1 := cA.2.1
  have cD1 := cD.2.1
  simp only [sl_can] at hcan
  subst hx hy
  refine bl_MC_intro (by decide +kernel) rfl (Nat.le_of_ble_eq_true rfl) ?_
  have L : ∀ J0, (∀ x, x ≠ b → J0 x = J x) → J0 b 2 = nJ S.2.2.1 → J0 b 3 = nJ S.2.2.2.1 → J0 b 4 = nJ S.2.2.2.2 → bl_WP G l (d + 2) mX7_becomeOf 24 [(0, .ref b), (1, .ref g), (2, .int (nI 1)), (3, .int (nI 4))] [] (I, J0, R, K, N) (0, 0) (fun o σ' => o = .inl none ∧ ∃ I' J', σ' = (I', J', R, K, N) ∧ slM I I' J J' b ∧ slC I' J' b (sl_step S 1 4)) := by
    intro J0 hJ0 j2 j3 j4
    have cA0 : sdC I J0 (2 * g) S.1 := cA.same rfl (hJ0 _ (by omega)) (hJ0 _ (by omega))
    have cD0 : sdC I J0 (2 * g + 1) S.2.1 := cD.same rfl (hJ0 _ (by omega)) (hJ0 _ (by omega))
    refine bl_go oX7_becomeOf 80 [24] rfl ?_
    refine ⟨fun h26 => ?_, fun h26 => ?_⟩
    · try simp (disch := omega) only [cA.1, cD.1, zI_n, zI_o, zI_lit, zI_neg, zI_add, zI_sub, zI_mul, zI_lt, zI_le, zI_eq, zI_clamp, zI_in, zI_div, zI_rem, lg_lt0, lg_gt0, lg_eq0, lg_le0, lg_ge0, Int.toNat_natCast, ge_iff_le, gt_iff_lt, List.length_cons, List.length_nil, bl_up2_at, bl_up2_nk, bl_up2_nx] at h26
      first
      | (exfalso; omega)
      | (refine ⟨kg, _, bl_vs rg_1, kb, _, bl_vs rb_1, kgd, rfl, rfl, kbd, (Nat.le_of_ble_eq_true rfl), (0, 0), Nat.le_refl _, Nat.le_refl _, bl_MC_mono (c_Side_partOf hBD hGD (by omega) cD0 (fr := 0) (c := S.2.1.1) rfl (by first | with_reducible rfl | ((try dsimp only [bl_pv]); simp (disch := omega) only [cA.1, cD.1, zI_n, zI_o, zI_lit, zI_neg, zI_add, zI_sub, zI_mul, zI_lt, zI_le, zI_eq, zI_clamp, zI_in, zI_div, zI_rem, lg_lt0, lg_gt0, lg_eq0, lg_le0, lg_ge0, Int.toNat_natCast, ge_iff_le, gt_iff_lt, List.length_cons, List.length_nil, bl_up2_at, bl_up2_nk, bl_up2_nx] <;> omega)) (by omega)) (fun o54 σ54 q54 => ?_)⟩
         try dsimp only [bl_pv] at q54
         obtain ⟨rfl, I1, J1, rfl, m1, t1⟩ := q54
         rw [sd_part_0] at t1
         have a1 : sdC I1 J1 (2 * g) S.1 := cA0.other m1 hBD hGA (by omega)
         have d1 : sdC I1 J1 (2 * g + 1) S.2.1 := cD0.other m1 hBD hGD (by omega)
         have b1 : ∀ j, J1 b j = J0 b j := fun j => by rw [m1.2 b (by omega) (by omega)]
         have ea := a1.1
         have ed := t1.1
         refine bl_go oX7_becomeOf 80 [24] rfl ?_
         refine ⟨fun h58 => ?_, fun j58 o58 ho58 h58 _ => ?_⟩
         · try simp (disch := omega) only [cA.1, cD.1, zI_n, zI_o, zI_lit, zI_neg, zI_add, zI_sub, zI_mul, zI_lt, zI_le, zI_eq, zI_clamp, zI_in, zI_div, zI_rem, lg_lt0, lg_gt0, lg_eq0, lg_le0, lg_ge0, Int.toNat_natCast, ge_iff_le, gt_iff_lt, List.length_cons, List.length_nil, bl_up2_at, bl_up2_nk, bl_up2_nx, zI_toInt] at h58
           first
           | (exfalso; omega)
           | (refine ⟨kb, _, bl_vs rb_0, kg, _, bl_vs rg_0, kg, _, bl_vs rg_0, kga, rfl, rfl, kba, (Nat.le_of_ble_eq_true rfl), (0, 0), Nat.le_refl _, Nat.le_refl _, ?_⟩
              fail /- c262: mX6_partOf -/)
         · try simp (disch := omega) only [cA.1, cD.1, zI_n, zI_o, zI_lit, zI_neg, zI_add, zI_sub, zI_mul, zI_lt, zI_le, zI_eq, zI_clamp, zI_in, zI_div, zI_rem, lg_lt0, lg_gt0, lg_eq0, lg_le0, lg_ge0, Int.toNat_natCast, ge_iff_le, gt_iff_lt, List.length_cons, List.length_nil, bl_up2_at, bl_up2_nk, bl_up2_nx, zI_toInt] at h58
           match j58, ho58, h58 with
           | 0, ho58, h58 =>
             cases ho58
             first
             | (exfalso; omega)
             | (refine ⟨kb, _, bl_vs rb_0, kg, _, bl_vs rg_0, rfl, rfl, kba, (Nat.le_of_ble_eq_true rfl), (0, 0), Nat.le_refl _, Nat.le_refl _, ?_⟩
                fail /- c105: mX6_rollOf -/)
           | 1, ho58, h58 =>
             cases ho58
             first
             | (exfalso; omega)
             | (refine ⟨kb, _, bl_vs rb_0, kg, _, bl_vs rg_0, rfl, rfl, kba, (Nat.le_of_ble_eq_true rfl), (0, 0), Nat.le_refl _, Nat.le_refl _, bl_MC_mono (c_Side_fold4 hBA hGA (by omega) a1 rfl hcan) (fun o142 σ142 q142 => ?_)⟩
                try dsimp only [bl_pv] at q142
                obtain ⟨rfl, I2, J2, rfl, m2, t2⟩ := q142
                have ed2 : I2 (2 * b + 1) 2 = nI S.2.1.1 := by rw [m2.1 _ (by omega)]; exact ed
                have ea2 := t2.1
                have b2 : ∀ j, J2 b j = J1 b j := fun j => by rw [m2.2 b (by omega) (by omega)]
                refine bl_go oX7_becomeOf 80 [24] rfl ?_
                refine ⟨kb, _, bl_vs rb_0, kba, rfl, rfl, kb, (Nat.le_of_ble_eq_true rfl), (0, 0), Nat.le_refl _, Nat.le_refl _, bl_MC_mono (c_Slab_layEach (d := d + 1) kb rb_1 kbd (c := (4 - 1) * (S.1.1 / 4)) (L := S.2.1.1) (w := S.2.2.2.1) (by first | with_reducible rfl | ((try dsimp only [bl_pv]); simp (disch := omega) only [ea2, zI_n, zI_o, zI_lit, zI_neg, zI_add, zI_sub, zI_mul, zI_lt, zI_le, zI_eq, zI_clamp, zI_in, zI_div, zI_rem, lg_lt0, lg_gt0, lg_eq0, lg_le0, lg_ge0, Int.toNat_natCast, ge_iff_le, gt_iff_lt, List.length_cons, List.length_nil, bl_up2_at, bl_up2_nk, bl_up2_nx] <;> omega)) (by omega) ed2 cD1 (by rw [b2, b1]; exact j3)) (fun o157 σ157 q157 => ?_)⟩
                try dsimp only [bl_pv] at q157
                obtain ⟨rfl, rfl⟩ := q157
                refine bl_go oX7_becomeOf 80 [24] rfl ?_
                try show _ ∧ _
                try dsimp only [bl_pv]
                refine ⟨rfl, _, _, rfl, fun x hx => ?_, ?_, ?_, ?_⟩
                · unfold slN at hx
                  refine ⟨by rw [m2.1 x (by omega), m1.1 x (by omega)], ?_⟩
                  rw [bl_up2_ne (by omega)]
                  rw [m2.2 x (by omega) (by omega), m1.2 x (by omega) (by omega), hJ0 x (by omega)]
                · exact t2.same rfl (by rw [bl_up2_ne (by omega)]) (by rw [bl_up2_ne (by omega)])
                · exact (t1.other m2 hBA hBD (by omega)).same rfl (by rw [bl_up2_ne (by omega)]) (by rw [bl_up2_ne (by omega)])
                · show _ = nJ S.2.2.1 ∧ _ = nJ (S.2.2.2.1 + (4 - 1) * (S.1.1 / 4) * S.2.1.1) ∧ _ = nJ S.2.2.2.2
                  simp (disch := omega) only [bl_up2_at, bl_up2_nk]
                  rw [b2, b2, b1, b1, j2, j4]
                  exact ⟨by trivial, by trivial, by trivial⟩)
           | 2, ho58, h58 =>
             cases ho58
             first
             | (exfalso; omega)
             | (refine ⟨kb, _, bl_vs rb_0, kg, _, bl_vs rg_0, rfl, rfl, kba, (Nat.le_of_ble_eq_true rfl), (0, 0), Nat.le_refl _, Nat.le_refl _, ?_⟩
                fail /- c171: mX6_bookOf -/)
           | 3, ho58, h58 =>
             cases ho58
             first
             | (exfalso; omega)
             | (refine ⟨kb, _, bl_vs rb_0, kg, _, bl_vs rg_0, rfl, rfl, kba, (Nat.le_of_ble_eq_true rfl), (0, 0), Nat.le_refl _, Nat.le_refl _, ?_⟩
                fail /- c199: mX6_tuckOf -/)
           | 4, ho58, h58 =>
             cases ho58
             first
             | (exfalso; omega)
             | (refine ⟨kg, _, bl_vs rg_0, rfl, rfl, kb, (Nat.le_of_ble_eq_true rfl), (0, 0), Nat.le_refl _, Nat.le_refl _, ?_⟩
                fail /- c218: mX7_cutOf -/)
           | 5, ho58, h58 =>
             cases ho58
             first
             | (exfalso; omega)
             | (refine ⟨kb, _, bl_vs rb_0, kg, _, bl_vs rg_1, kg, _, bl_vs rg_1, kgd, rfl, rfl, kba, (Nat.le_of_ble_eq_true rfl), (0, 0), Nat.le_refl _, Nat.le_refl _, ?_⟩
                fail /- c240: mX6_partOf -/)
           | _ + 6, ho58, _ => exact absurd ho58 (by simp))
    · try simp (disch := omega) only [cA.1, cD.1, zI_n, zI_o, zI_lit, zI_neg, zI_add, zI_sub, zI_mul, zI_lt, zI_le, zI_eq, zI_clamp, zI_in, zI_div, zI_rem, lg_lt0, lg_gt0, lg_eq0, lg_le0, lg_ge0, Int.toNat_natCast, ge_iff_le, gt_iff_lt, List.length_cons, List.length_nil, bl_up2_at, bl_up2_nk, bl_up2_nx] at h26
      first
      | (exfalso; omega)
      | (refine ⟨kg, _, bl_vs rg_0, kb, _, bl_vs rb_1, kga, rfl, rfl, kbd, (Nat.le_of_ble_eq_true rfl), (0, 0), Nat.le_refl _, Nat.le_refl _, bl_MC_mono (c_Side_partOf hBD hGD (by omega) cD0 (fr := 0) (c := S.2.1.1) rfl (by first | with_reducible rfl | ((try dsimp only [bl_pv]); simp (disch := omega) only [cA.1, cD.1, zI_n, zI_o, zI_lit, zI_neg, zI_add, zI_sub, zI_mul, zI_lt, zI_le, zI_eq, zI_clamp, zI_in, zI_div, zI_rem, lg_lt0, lg_gt0, lg_eq0, lg_le0, lg_ge0, Int.toNat_natCast, ge_iff_le, gt_iff_lt, List.length_cons, List.length_nil, bl_up2_at, bl_up2_nk, bl_up2_nx] <;> omega)) (by omega)) (fun o54 σ54 q54 => ?_)⟩
         try dsimp only [bl_pv] at q54
         obtain ⟨rfl, I1, J1, rfl, m1, t1⟩ := q54
         rw [sd_part_0] at t1
         have a1 : sdC I1 J1 (2 * g) S.1 := cA0.other m1 hBD hGA (by omega)
         have d1 : sdC I1 J1 (2 * g + 1) S.2.1 := cD0.other m1 hBD hGD (by omega)
         have b1 : ∀ j, J1 b j = J0 b j := fun j => by rw [m1.2 b (by omega) (by omega)]
         have ea := a1.1
         have ed := t1.1
         refine bl_go oX7_becomeOf 80 [24] rfl ?_
         refine ⟨fun h58 => ?_, fun j58 o58 ho58 h58 _ => ?_⟩
         · try simp (disch := omega) only [cA.1, cD.1, zI_n, zI_o, zI_lit, zI_neg, zI_add, zI_sub, zI_mul, zI_lt, zI_le, zI_eq, zI_clamp, zI_in, zI_div, zI_rem, lg_lt0, lg_gt0, lg_eq0, lg_le0, lg_ge0, Int.toNat_natCast, ge_iff_le, gt_iff_lt, List.length_cons, List.length_nil, bl_up2_at, bl_up2_nk, bl_up2_nx, zI_toInt] at h58
           first
           | (exfalso; omega)
           | (refine ⟨kb, _, bl_vs rb_0, kg, _, bl_vs rg_0, kg, _, bl_vs rg_0, kga, rfl, rfl, kba, (Nat.le_of_ble_eq_true rfl), (0, 0), Nat.le_refl _, Nat.le_refl _, ?_⟩
              fail /- c262: mX6_partOf -/)
         · try simp (disch := omega) only [cA.1, cD.1, zI_n, zI_o, zI_lit, zI_neg, zI_add, zI_sub, zI_mul, zI_lt, zI_le, zI_eq, zI_clamp, zI_in, zI_div, zI_rem, lg_lt0, lg_gt0, lg_eq0, lg_le0, lg_ge0, Int.toNat_natCast, ge_iff_le, gt_iff_lt, List.length_cons, List.length_nil, bl_up2_at, bl_up2_nk, bl_up2_nx, zI_toInt] at h58
           match j58, ho58, h58 with
           | 0, ho58, h58 =>
             cases ho58
             first
             | (exfalso; omega)
             | (refine ⟨kb, _, bl_vs rb_0, kg, _, bl_vs rg_0, rfl, rfl, kba, (Nat.le_of_ble_eq_true rfl), (0, 0), Nat.le_refl _, Nat.le_refl _, ?_⟩
                fail /- c105: mX6_rollOf -/)
           | 1, ho58, h58 =>
             cases ho58
             first
             | (exfalso; omega)
             | (refine ⟨kb, _, bl_vs rb_0, kg, _, bl_vs rg_0, rfl, rfl, kba, (Nat.le_of_ble_eq_true rfl), (0, 0), Nat.le_refl _, Nat.le_refl _, bl_MC_mono (c_Side_fold4 hBA hGA (by omega) a1 rfl hcan) (fun o142 σ142 q142 => ?_)⟩
                try dsimp only [bl_pv] at q142
                obtain ⟨rfl, I2, J2, rfl, m2, t2⟩ := q142
                have ed2 : I2 (2 * b + 1) 2 = nI S.2.1.1 := by rw [m2.1 _ (by omega)]; exact ed
                have ea2 := t2.1
                have b2 : ∀ j, J2 b j = J1 b j := fun j => by rw [m2.2 b (by omega) (by omega)]
                refine bl_go oX7_becomeOf 80 [24] rfl ?_
                refine ⟨kb, _, bl_vs rb_0, kba, rfl, rfl, kb, (Nat.le_of_ble_eq_true rfl), (0, 0), Nat.le_refl _, Nat.le_refl _, bl_MC_mono (c_Slab_layEach (d := d + 1) kb rb_1 kbd (c := (4 - 1) * (S.1.1 / 4)) (L := S.2.1.1) (w := S.2.2.2.1) (by first | with_reducible rfl | ((try dsimp only [bl_pv]); simp (disch := omega) only [ea2, zI_n, zI_o, zI_lit, zI_neg, zI_add, zI_sub, zI_mul, zI_lt, zI_le, zI_eq, zI_clamp, zI_in, zI_div, zI_rem, lg_lt0, lg_gt0, lg_eq0, lg_le0, lg_ge0, Int.toNat_natCast, ge_iff_le, gt_iff_lt, List.length_cons, List.length_nil, bl_up2_at, bl_up2_nk, bl_up2_nx] <;> omega)) (by omega) ed2 cD1 (by rw [b2, b1]; exact j3)) (fun o157 σ157 q157 => ?_)⟩
                try dsimp only [bl_pv] at q157
                obtain ⟨rfl, rfl⟩ := q157
                refine bl_go oX7_becomeOf 80 [24] rfl ?_
                try show _ ∧ _
                try dsimp only [bl_pv]
                refine ⟨rfl, _, _, rfl, fun x hx => ?_, ?_, ?_, ?_⟩
                · unfold slN at hx
                  refine ⟨by rw [m2.1 x (by omega), m1.1 x (by omega)], ?_⟩
                  rw [bl_up2_ne (by omega)]
                  rw [m2.2 x (by omega) (by omega), m1.2 x (by omega) (by omega), hJ0 x (by omega)]
                · exact t2.same rfl (by rw [bl_up2_ne (by omega)]) (by rw [bl_up2_ne (by omega)])
                · exact (t1.other m2 hBA hBD (by omega)).same rfl (by rw [bl_up2_ne (by omega)]) (by rw [bl_up2_ne (by omega)])
                · show _ = nJ S.2.2.1 ∧ _ = nJ (S.2.2.2.1 + (4 - 1) * (S.1.1 / 4) * S.2.1.1) ∧ _ = nJ S.2.2.2.2
                  simp (disch := omega) only [bl_up2_at, bl_up2_nk]
                  rw [b2, b2, b1, b1, j2, j4]
                  exact ⟨by trivial, by trivial, by trivial⟩)
           | 2, ho58, h58 =>
             cases ho58
             first
             | (exfalso; omega)
             | (refine ⟨kb, _, bl_vs rb_0, kg, _, bl_vs rg_0, rfl, rfl, kba, (Nat.le_of_ble_eq_true rfl), (0, 0), Nat.le_refl _, Nat.le_refl _, ?_⟩
                fail /- c171: mX6_bookOf -/)
           | 3, ho58, h58 =>
             cases ho58
             first
             | (exfalso; omega)
             | (refine ⟨kb, _, bl_vs rb_0, kg, _, bl_vs rg_0, rfl, rfl, kba, (Nat.le_of_ble_eq_true rfl), (0, 0), Nat.le_refl _, Nat.le_refl _, ?_⟩
                fail /- c199: mX6_tuckOf -/)
           | 4, ho58, h58 =>
             cases ho58
             first
             | (exfalso; omega)
             | (refine ⟨kg, _, bl_vs rg_0, rfl, rfl, kb, (Nat.le_of_ble_eq_true rfl), (0, 0), Nat.le_refl _, Nat.le_refl _, ?_⟩
                fail /- c218: mX7_cutOf -/)
           | 5, ho58, h58 =>
             cases ho58
             first
             | (exfalso; omega)
             | (refine ⟨kb, _, bl_vs rb_0, kg, _, bl_vs rg_1, kg, _, bl_vs rg_1, kgd, rfl, rfl, kba, (Nat.le_of_ble_eq_true rfl), (0, 0), Nat.le_refl _, Nat.le_refl _, ?_⟩
                fail /- c240: mX6_partOf -/)
           | _ + 6, ho58, _ => exact absurd ho58 (by simp))
  refine bl_go oX7_becomeOf 80 [24] rfl ?_
  refine ⟨kg, kb, Or.inr (Or.inl ⟨rfl, rfl, _, rfl⟩), (fun h => by cases h), kg, kb, Or.inr (Or.inl ⟨rfl, rfl, _, rfl⟩), (fun h => by cases h), kg, kb, Or.inr (Or.inl ⟨rfl, rfl, _, rfl⟩), (fun h => by cases h), ?_⟩
  try dsimp only [bl_pv]
  refine L _ (fun x hx => ?_) ?_ ?_ ?_
  · rw [bl_up2_ne hx, bl_up2_ne hx, bl_up2_ne hx]
  · simp (disch := omega) only [bl_up2_at, bl_up2_nk]; exact cT
  · simp (disch := omega) only [bl_up2_at, bl_up2_nk, bl_up2_nx]; exact cL
  · simp (disch := omega) only [bl_up2_at, bl_up2_nk, bl_up2_nx]; exact cC
theorem c_Slab_become_2 {S : sl} {n : Nat} {x y : Int32} (hs : slS R K N b) (hg : slS R K N g) (hbg : b ≠ g) (hC : slC I J g S) (hx : x = nI 2) (hy : y = nI n) (hk : st_ok 2 n) (hcan : sl_can 2 n S.1.1) : bl_MC G l (d + 2) mX7_becomeOf [.ref b, .ref g, .int x, .int y] (I, J, R, K, N) (0, 0) (fun o σ' => o = .inl none ∧ ∃ I' J', σ' = (I', J', R, K, N) ∧ slM I I' J J' b ∧ slC I' J' b (sl_step S 2 n)) := by
  have hs' := hs; have hg' := hg
  obtain ⟨hr1, kb, rb_0, rb_1, hBA, hBD⟩ := hs
  obtain ⟨hr2, kg, rg_0, rg_1, hGA, hGD⟩ := hg
  have kba := hBA.2.1
  have kbd := hBD.2.1
  have kga := hGA.2.1
  have kgd := hGD.2.1
  obtain ⟨cA, cD, cT, cL, cC⟩ := hC
  obtain ⟨hk1, hk2, hk3, hk4⟩ := hk
  have cA1 := cA.2.1
  have cD1 := cD.2.1
  simp only [sl_can] at hcan
  subst hx hy
  refine bl_MC_intro (by decide +kernel) rfl (Nat.le_of_ble_eq_true rfl) ?_
  have L : ∀ J0, (∀ x, x ≠ b → J0 x = J x) → J0 b 2 = nJ S.2.2.1 → J0 b 3 = nJ S.2.2.2.1 → J0 b 4 = nJ S.2.2.2.2 → bl_WP G l (d + 2) mX7_becomeOf 24 [(0, .ref b), (1, .ref g), (2, .int (nI 2)), (3, .int (nI n))] [] (I, J0, R, K, N) (0, 0) (fun o σ' => o = .inl none ∧ ∃ I' J', σ' = (I', J', R, K, N) ∧ slM I I' J J' b ∧ slC I' J' b (sl_step S 2 n)) := by
    intro J0 hJ0 j2 j3 j4
    have cA0 : sdC I J0 (2 * g) S.1 := cA.same rfl (hJ0 _ (by omega)) (hJ0 _ (by omega))
    have cD0 : sdC I J0 (2 * g + 1) S.2.1 := cD.same rfl (hJ0 _ (by omega)) (hJ0 _ (by omega))
    refine bl_go oX7_becomeOf 80 [24] rfl ?_
    refine ⟨fun h26 => ?_, fun h26 => ?_⟩
    · try simp (disch := omega) only [cA.1, cD.1, zI_n, zI_o, zI_lit, zI_neg, zI_add, zI_sub, zI_mul, zI_lt, zI_le, zI_eq, zI_clamp, zI_in, zI_div, zI_rem, lg_lt0, lg_gt0, lg_eq0, lg_le0, lg_ge0, Int.toNat_natCast, ge_iff_le, gt_iff_lt, List.length_cons, List.length_nil, bl_up2_at, bl_up2_nk, bl_up2_nx] at h26
      first
      | (exfalso; omega)
      | (refine ⟨kg, _, bl_vs rg_1, kb, _, bl_vs rb_1, kgd, rfl, rfl, kbd, (Nat.le_of_ble_eq_true rfl), (0, 0), Nat.le_refl _, Nat.le_refl _, bl_MC_mono (c_Side_partOf hBD hGD (by omega) cD0 (fr := 0) (c := S.2.1.1) rfl (by first | with_reducible rfl | ((try dsimp only [bl_pv]); simp (disch := omega) only [cA.1, cD.1, zI_n, zI_o, zI_lit, zI_neg, zI_add, zI_sub, zI_mul, zI_lt, zI_le, zI_eq, zI_clamp, zI_in, zI_div, zI_rem, lg_lt0, lg_gt0, lg_eq0, lg_le0, lg_ge0, Int.toNat_natCast, ge_iff_le, gt_iff_lt, List.length_cons, List.length_nil, bl_up2_at, bl_up2_nk, bl_up2_nx] <;> omega)) (by omega)) (fun o54 σ54 q54 => ?_)⟩
         try dsimp only [bl_pv] at q54
         obtain ⟨rfl, I1, J1, rfl, m1, t1⟩ := q54
         rw [sd_part_0] at t1
         have a1 : sdC I1 J1 (2 * g) S.1 := cA0.other m1 hBD hGA (by omega)
         have d1 : sdC I1 J1 (2 * g + 1) S.2.1 := cD0.other m1 hBD hGD (by omega)
         have b1 : ∀ j, J1 b j = J0 b j := fun j => by rw [m1.2 b (by omega) (by omega)]
         have ea := a1.1
         have ed := t1.1
         refine bl_go oX7_becomeOf 80 [24] rfl ?_
         refine ⟨fun h58 => ?_, fun j58 o58 ho58 h58 _ => ?_⟩
         · try simp (disch := omega) only [cA.1, cD.1, zI_n, zI_o, zI_lit, zI_neg, zI_add, zI_sub, zI_mul, zI_lt, zI_le, zI_eq, zI_clamp, zI_in, zI_div, zI_rem, lg_lt0, lg_gt0, lg_eq0, lg_le0, lg_ge0, Int.toNat_natCast, ge_iff_le, gt_iff_lt, List.length_cons, List.length_nil, bl_up2_at, bl_up2_nk, bl_up2_nx, zI_toInt] at h58
           first
           | (exfalso; omega)
           | (refine ⟨kb, _, bl_vs rb_0, kg, _, bl_vs rg_0, kg, _, bl_vs rg_0, kga, rfl, rfl, kba, (Nat.le_of_ble_eq_true rfl), (0, 0), Nat.le_refl _, Nat.le_refl _, ?_⟩
              fail /- c262: mX6_partOf -/)
         · try simp (disch := omega) only [cA.1, cD.1, zI_n, zI_o, zI_lit, zI_neg, zI_add, zI_sub, zI_mul, zI_lt, zI_le, zI_eq, zI_clamp, zI_in, zI_div, zI_rem, lg_lt0, lg_gt0, lg_eq0, lg_le0, lg_ge0, Int.toNat_natCast, ge_iff_le, gt_iff_lt, List.length_cons, List.length_nil, bl_up2_at, bl_up2_nk, bl_up2_nx, zI_toInt] at h58
           match j58, ho58, h58 with
           | 0, ho58, h58 =>
             cases ho58
             first
             | (exfalso; omega)
             | (refine ⟨kb, _, bl_vs rb_0, kg, _, bl_vs rg_0, rfl, rfl, kba, (Nat.le_of_ble_eq_true rfl), (0, 0), Nat.le_refl _, Nat.le_refl _, ?_⟩
                fail /- c105: mX6_rollOf -/)
           | 1, ho58, h58 =>
             cases ho58
             first
             | (exfalso; omega)
             | (refine ⟨kb, _, bl_vs rb_0, kg, _, bl_vs rg_0, rfl, rfl, kba, (Nat.le_of_ble_eq_true rfl), (0, 0), Nat.le_refl _, Nat.le_refl _, ?_⟩
                fail /- c142: mX6_foldOf -/)
           | 2, ho58, h58 =>
             cases ho58
             first
             | (exfalso; omega)
             | (refine ⟨kb, _, bl_vs rb_0, kg, _, bl_vs rg_0, rfl, rfl, kba, (Nat.le_of_ble_eq_true rfl), (0, 0), Nat.le_refl _, Nat.le_refl _, bl_MC_mono (c_Side_bookOf hBA hGA (by omega) a1 hcan) (fun o171 σ171 q171 => ?_)⟩
                try dsimp only [bl_pv] at q171
                obtain ⟨rfl, I2, J2, rfl, m2, t2⟩ := q171
                have ed2 : I2 (2 * b + 1) 2 = nI S.2.1.1 := by rw [m2.1 _ (by omega)]; exact ed
                have ea2 := t2.1
                have b2 : ∀ j, J2 b j = J1 b j := fun j => by rw [m2.2 b (by omega) (by omega)]
                refine bl_go oX7_becomeOf 80 [24] rfl ?_
                refine ⟨kb, _, bl_vs rb_0, kba, rfl, rfl, kb, (Nat.le_of_ble_eq_true rfl), (0, 0), Nat.le_refl _, Nat.le_refl _, bl_MC_mono (c_Slab_layEach (d := d + 1) kb rb_1 kbd (c := 3 * (S.1.1 / 4)) (L := S.2.1.1) (w := S.2.2.2.1) (by first | with_reducible rfl | ((try dsimp only [bl_pv]); simp (disch := omega) only [ea2, zI_n, zI_o, zI_lit, zI_neg, zI_add, zI_sub, zI_mul, zI_lt, zI_le, zI_eq, zI_clamp, zI_in, zI_div, zI_rem, lg_lt0, lg_gt0, lg_eq0, lg_le0, lg_ge0, Int.toNat_natCast, ge_iff_le, gt_iff_lt, List.length_cons, List.length_nil, bl_up2_at, bl_up2_nk, bl_up2_nx] <;> omega)) (by omega) ed2 cD1 (by rw [b2, b1]; exact j3)) (fun o184 σ184 q184 => ?_)⟩
                try dsimp only [bl_pv] at q184
                obtain ⟨rfl, rfl⟩ := q184
                refine bl_go oX7_becomeOf 80 [24] rfl ?_
                try show _ ∧ _
                try dsimp only [bl_pv]
                refine ⟨rfl, _, _, rfl, fun x hx => ?_, ?_, ?_, ?_⟩
                · unfold slN at hx
                  refine ⟨by rw [m2.1 x (by omega), m1.1 x (by omega)], ?_⟩
                  rw [bl_up2_ne (by omega)]
                  rw [m2.2 x (by omega) (by omega), m1.2 x (by omega) (by omega), hJ0 x (by omega)]
                · exact t2.same rfl (by rw [bl_up2_ne (by omega)]) (by rw [bl_up2_ne (by omega)])
                · exact (t1.other m2 hBA hBD (by omega)).same rfl (by rw [bl_up2_ne (by omega)]) (by rw [bl_up2_ne (by omega)])
                · show _ = nJ S.2.2.1 ∧ _ = nJ (S.2.2.2.1 + 3 * (S.1.1 / 4) * S.2.1.1) ∧ _ = nJ S.2.2.2.2
                  simp (disch := omega) only [bl_up2_at, bl_up2_nk]
                  rw [b2, b2, b1, b1, j2, j4]
                  exact ⟨by trivial, by trivial, by trivial⟩)
           | 3, ho58, h58 =>
             cases ho58
             first
             | (exfalso; omega)
             | (refine ⟨kb, _, bl_vs rb_0, kg, _, bl_vs rg_0, rfl, rfl, kba, (Nat.le_of_ble_eq_true rfl), (0, 0), Nat.le_refl _, Nat.le_refl _, ?_⟩
                fail /- c199: mX6_tuckOf -/)
           | 4, ho58, h58 =>
             cases ho58
             first
             | (exfalso; omega)
             | (refine ⟨kg, _, bl_vs rg_0, rfl, rfl, kb, (Nat.le_of_ble_eq_true rfl), (0, 0), Nat.le_refl _, Nat.le_refl _, ?_⟩
                fail /- c218: mX7_cutOf -/)
           | 5, ho58, h58 =>
             cases ho58
             first
             | (exfalso; omega)
             | (refine ⟨kb, _, bl_vs rb_0, kg, _, bl_vs rg_1, kg, _, bl_vs rg_1, kgd, rfl, rfl, kba, (Nat.le_of_ble_eq_true rfl), (0, 0), Nat.le_refl _, Nat.le_refl _, ?_⟩
                fail /- c240: mX6_partOf -/)
           | _ + 6, ho58, _ => exact absurd ho58 (by simp))
    · try simp (disch := omega) only [cA.1, cD.1, zI_n, zI_o, zI_lit, zI_neg, zI_add, zI_sub, zI_mul, zI_lt, zI_le, zI_eq, zI_clamp, zI_in, zI_div, zI_rem, lg_lt0, lg_gt0, lg_eq0, lg_le0, lg_ge0, Int.toNat_natCast, ge_iff_le, gt_iff_lt, List.length_cons, List.length_nil, bl_up2_at, bl_up2_nk, bl_up2_nx] at h26
      first
      | (exfalso; omega)
      | (refine ⟨kg, _, bl_vs rg_0, kb, _, bl_vs rb_1, kga, rfl, rfl, kbd, (Nat.le_of_ble_eq_true rfl), (0, 0), Nat.le_refl _, Nat.le_refl _, bl_MC_mono (c_Side_partOf hBD hGD (by omega) cD0 (fr := 0) (c := S.2.1.1) rfl (by first | with_reducible rfl | ((try dsimp only [bl_pv]); simp (disch := omega) only [cA.1, cD.1, zI_n, zI_o, zI_lit, zI_neg, zI_add, zI_sub, zI_mul, zI_lt, zI_le, zI_eq, zI_clamp, zI_in, zI_div, zI_rem, lg_lt0, lg_gt0, lg_eq0, lg_le0, lg_ge0, Int.toNat_natCast, ge_iff_le, gt_iff_lt, List.length_cons, List.length_nil, bl_up2_at, bl_up2_nk, bl_up2_nx] <;> omega)) (by omega)) (fun o54 σ54 q54 => ?_)⟩
         try dsimp only [bl_pv] at q54
         obtain ⟨rfl, I1, J1, rfl, m1, t1⟩ := q54
         rw [sd_part_0] at t1
         have a1 : sdC I1 J1 (2 * g) S.1 := cA0.other m1 hBD hGA (by omega)
         have d1 : sdC I1 J1 (2 * g + 1) S.2.1 := cD0.other m1 hBD hGD (by omega)
         have b1 : ∀ j, J1 b j = J0 b j := fun j => by rw [m1.2 b (by omega) (by omega)]
         have ea := a1.1
         have ed := t1.1
         refine bl_go oX7_becomeOf 80 [24] rfl ?_
         refine ⟨fun h58 => ?_, fun j58 o58 ho58 h58 _ => ?_⟩
         · try simp (disch := omega) only [cA.1, cD.1, zI_n, zI_o, zI_lit, zI_neg, zI_add, zI_sub, zI_mul, zI_lt, zI_le, zI_eq, zI_clamp, zI_in, zI_div, zI_rem, lg_lt0, lg_gt0, lg_eq0, lg_le0, lg_ge0, Int.toNat_natCast, ge_iff_le, gt_iff_lt, List.length_cons, List.length_nil, bl_up2_at, bl_up2_nk, bl_up2_nx, zI_toInt] at h58
           first
           | (exfalso; omega)
           | (refine ⟨kb, _, bl_vs rb_0, kg, _, bl_vs rg_0, kg, _, bl_vs rg_0, kga, rfl, rfl, kba, (Nat.le_of_ble_eq_true rfl), (0, 0), Nat.le_refl _, Nat.le_refl _, ?_⟩
              fail /- c262: mX6_partOf -/)
         · try simp (disch := omega) only [cA.1, cD.1, zI_n, zI_o, zI_lit, zI_neg, zI_add, zI_sub, zI_mul, zI_lt, zI_le, zI_eq, zI_clamp, zI_in, zI_div, zI_rem, lg_lt0, lg_gt0, lg_eq0, lg_le0, lg_ge0, Int.toNat_natCast, ge_iff_le, gt_iff_lt, List.length_cons, List.length_nil, bl_up2_at, bl_up2_nk, bl_up2_nx, zI_toInt] at h58
           match j58, ho58, h58 with
           | 0, ho58, h58 =>
             cases ho58
             first
             | (exfalso; omega)
             | (refine ⟨kb, _, bl_vs rb_0, kg, _, bl_vs rg_0, rfl, rfl, kba, (Nat.le_of_ble_eq_true rfl), (0, 0), Nat.le_refl _, Nat.le_refl _, ?_⟩
                fail /- c105: mX6_rollOf -/)
           | 1, ho58, h58 =>
             cases ho58
             first
             | (exfalso; omega)
             | (refine ⟨kb, _, bl_vs rb_0, kg, _, bl_vs rg_0, rfl, rfl, kba, (Nat.le_of_ble_eq_true rfl), (0, 0), Nat.le_refl _, Nat.le_refl _, ?_⟩
                fail /- c142: mX6_foldOf -/)
           | 2, ho58, h58 =>
             cases ho58
             first
             | (exfalso; omega)
             | (refine ⟨kb, _, bl_vs rb_0, kg, _, bl_vs rg_0, rfl, rfl, kba, (Nat.le_of_ble_eq_true rfl), (0, 0), Nat.le_refl _, Nat.le_refl _, bl_MC_mono (c_Side_bookOf hBA hGA (by omega) a1 hcan) (fun o171 σ171 q171 => ?_)⟩
                try dsimp only [bl_pv] at q171
                obtain ⟨rfl, I2, J2, rfl, m2, t2⟩ := q171
                have ed2 : I2 (2 * b + 1) 2 = nI S.2.1.1 := by rw [m2.1 _ (by omega)]; exact ed
                have ea2 := t2.1
                have b2 : ∀ j, J2 b j = J1 b j := fun j => by rw [m2.2 b (by omega) (by omega)]
                refine bl_go oX7_becomeOf 80 [24] rfl ?_
                refine ⟨kb, _, bl_vs rb_0, kba, rfl, rfl, kb, (Nat.le_of_ble_eq_true rfl), (0, 0), Nat.le_refl _, Nat.le_refl _, bl_MC_mono (c_Slab_layEach (d := d + 1) kb rb_1 kbd (c := 3 * (S.1.1 / 4)) (L := S.2.1.1) (w := S.2.2.2.1) (by first | with_reducible rfl | ((try dsimp only [bl_pv]); simp (disch := omega) only [ea2, zI_n, zI_o, zI_lit, zI_neg, zI_add, zI_sub, zI_mul, zI_lt, zI_le, zI_eq, zI_clamp, zI_in, zI_div, zI_rem, lg_lt0, lg_gt0, lg_eq0, lg_le0, lg_ge0, Int.toNat_natCast, ge_iff_le, gt_iff_lt, List.length_cons, List.length_nil, bl_up2_at, bl_up2_nk, bl_up2_nx] <;> omega)) (by omega) ed2 cD1 (by rw [b2, b1]; exact j3)) (fun o184 σ184 q184 => ?_)⟩
                try dsimp only [bl_pv] at q184
                obtain ⟨rfl, rfl⟩ := q184
                refine bl_go oX7_becomeOf 80 [24] rfl ?_
                try show _ ∧ _
                try dsimp only [bl_pv]
                refine ⟨rfl, _, _, rfl, fun x hx => ?_, ?_, ?_, ?_⟩
                · unfold slN at hx
                  refine ⟨by rw [m2.1 x (by omega), m1.1 x (by omega)], ?_⟩
                  rw [bl_up2_ne (by omega)]
                  rw [m2.2 x (by omega) (by omega), m1.2 x (by omega) (by omega), hJ0 x (by omega)]
                · exact t2.same rfl (by rw [bl_up2_ne (by omega)]) (by rw [bl_up2_ne (by omega)])
                · exact (t1.other m2 hBA hBD (by omega)).same rfl (by rw [bl_up2_ne (by omega)]) (by rw [bl_up2_ne (by omega)])
                · show _ = nJ S.2.2.1 ∧ _ = nJ (S.2.2.2.1 + 3 * (S.1.1 / 4) * S.2.1.1) ∧ _ = nJ S.2.2.2.2
                  simp (disch := omega) only [bl_up2_at, bl_up2_nk]
                  rw [b2, b2, b1, b1, j2, j4]
                  exact ⟨by trivial, by trivial, by trivial⟩)
           | 3, ho58, h58 =>
             cases ho58
             first
             | (exfalso; omega)
             | (refine ⟨kb, _, bl_vs rb_0, kg, _, bl_vs rg_0, rfl, rfl, kba, (Nat.le_of_ble_eq_true rfl), (0, 0), Nat.le_refl _, Nat.le_refl _, ?_⟩
                fail /- c199: mX6_tuckOf -/)
           | 4, ho58, h58 =>
             cases ho58
             first
             | (exfalso; omega)
             | (refine ⟨kg, _, bl_vs rg_0, rfl, rfl, kb, (Nat.le_of_ble_eq_true rfl), (0, 0), Nat.le_refl _, Nat.le_refl _, ?_⟩
                fail /- c218: mX7_cutOf -/)
           | 5, ho58, h58 =>
             cases ho58
             first
             | (exfalso; omega)
             | (refine ⟨kb, _, bl_vs rb_0, kg, _, bl_vs rg_1, kg, _, bl_vs rg_1, kgd, rfl, rfl, kba, (Nat.le_of_ble_eq_true rfl), (0, 0), Nat.le_refl _, Nat.le_refl _, ?_⟩
                fail /- c240: mX6_partOf -/)
           | _ + 6, ho58, _ => exact absurd ho58 (by simp))
  refine bl_go oX7_becomeOf 80 [24] rfl ?_
  refine ⟨kg, kb, Or.inr (Or.inl ⟨rfl, rfl, _, rfl⟩), (fun h => by cases h), kg, kb, Or.inr (Or.inl ⟨rfl, rfl, _, rfl⟩), (fun h => by cases h), kg, kb, Or.inr (Or.inl ⟨rfl, rfl, _, rfl⟩), (fun h => by cases h), ?_⟩
  try dsimp only [bl_pv]
  refine L _ (fun x hx => ?_) ?_ ?_ ?_
  · rw [bl_up2_ne hx, bl_up2_ne hx, bl_up2_ne hx]
  · simp (disch := omega) only [bl_up2_at, bl_up2_nk]; exact cT
  · simp (disch := omega) only [bl_up2_at, bl_up2_nk, bl_up2_nx]; exact cL
  · simp (disch := omega) only [bl_up2_at, bl_up2_nk, bl_up2_nx]; exact cC
theorem c_Slab_become_3 {S : sl} {n : Nat} {x y : Int32} (hs : slS R K N b) (hg : slS R K N g) (hbg : b ≠ g) (hC : slC I J g S) (hx : x = nI 3) (hy : y = nI n) (hk : st_ok 3 n) (hcan : sl_can 3 n S.1.1) : bl_MC G l (d + 2) mX7_becomeOf [.ref b, .ref g, .int x, .int y] (I, J, R, K, N) (0, 0) (fun o σ' => o = .inl none ∧ ∃ I' J', σ' = (I', J', R, K, N) ∧ slM I I' J J' b ∧ slC I' J' b (sl_step S 3 n)) := by
  have hs' := hs; have hg' := hg
  obtain ⟨hr1, kb, rb_0, rb_1, hBA, hBD⟩ := hs
  obtain ⟨hr2, kg, rg_0, rg_1, hGA, hGD⟩ := hg
  have kba := hBA.2.1
  have kbd := hBD.2.1
  have kga := hGA.2.1
  have kgd := hGD.2.1
  obtain ⟨cA, cD, cT, cL, cC⟩ := hC
  obtain ⟨hk1, hk2, hk3, hk4⟩ := hk
  have cA1 := cA.2.1
  have cD1 := cD.2.1
  simp only [sl_can] at hcan
  subst hx hy
  refine bl_MC_intro (by decide +kernel) rfl (Nat.le_of_ble_eq_true rfl) ?_
  have L : ∀ J0, (∀ x, x ≠ b → J0 x = J x) → J0 b 2 = nJ S.2.2.1 → J0 b 3 = nJ S.2.2.2.1 → J0 b 4 = nJ S.2.2.2.2 → bl_WP G l (d + 2) mX7_becomeOf 24 [(0, .ref b), (1, .ref g), (2, .int (nI 3)), (3, .int (nI n))] [] (I, J0, R, K, N) (0, 0) (fun o σ' => o = .inl none ∧ ∃ I' J', σ' = (I', J', R, K, N) ∧ slM I I' J J' b ∧ slC I' J' b (sl_step S 3 n)) := by
    intro J0 hJ0 j2 j3 j4
    have cA0 : sdC I J0 (2 * g) S.1 := cA.same rfl (hJ0 _ (by omega)) (hJ0 _ (by omega))
    have cD0 : sdC I J0 (2 * g + 1) S.2.1 := cD.same rfl (hJ0 _ (by omega)) (hJ0 _ (by omega))
    refine bl_go oX7_becomeOf 80 [24] rfl ?_
    refine ⟨fun h26 => ?_, fun h26 => ?_⟩
    · try simp (disch := omega) only [cA.1, cD.1, zI_n, zI_o, zI_lit, zI_neg, zI_add, zI_sub, zI_mul, zI_lt, zI_le, zI_eq, zI_clamp, zI_in, zI_div, zI_rem, lg_lt0, lg_gt0, lg_eq0, lg_le0, lg_ge0, Int.toNat_natCast, ge_iff_le, gt_iff_lt, List.length_cons, List.length_nil, bl_up2_at, bl_up2_nk, bl_up2_nx] at h26
      first
      | (exfalso; omega)
      | (refine ⟨kg, _, bl_vs rg_1, kb, _, bl_vs rb_1, kgd, rfl, rfl, kbd, (Nat.le_of_ble_eq_true rfl), (0, 0), Nat.le_refl _, Nat.le_refl _, bl_MC_mono (c_Side_partOf hBD hGD (by omega) cD0 (fr := 0) (c := S.2.1.1) rfl (by first | with_reducible rfl | ((try dsimp only [bl_pv]); simp (disch := omega) only [cA.1, cD.1, zI_n, zI_o, zI_lit, zI_neg, zI_add, zI_sub, zI_mul, zI_lt, zI_le, zI_eq, zI_clamp, zI_in, zI_div, zI_rem, lg_lt0, lg_gt0, lg_eq0, lg_le0, lg_ge0, Int.toNat_natCast, ge_iff_le, gt_iff_lt, List.length_cons, List.length_nil, bl_up2_at, bl_up2_nk, bl_up2_nx] <;> omega)) (by omega)) (fun o54 σ54 q54 => ?_)⟩
         try dsimp only [bl_pv] at q54
         obtain ⟨rfl, I1, J1, rfl, m1, t1⟩ := q54
         rw [sd_part_0] at t1
         have a1 : sdC I1 J1 (2 * g) S.1 := cA0.other m1 hBD hGA (by omega)
         have d1 : sdC I1 J1 (2 * g + 1) S.2.1 := cD0.other m1 hBD hGD (by omega)
         have b1 : ∀ j, J1 b j = J0 b j := fun j => by rw [m1.2 b (by omega) (by omega)]
         have ea := a1.1
         have ed := t1.1
         refine bl_go oX7_becomeOf 80 [24] rfl ?_
         refine ⟨fun h58 => ?_, fun j58 o58 ho58 h58 _ => ?_⟩
         · try simp (disch := omega) only [cA.1, cD.1, zI_n, zI_o, zI_lit, zI_neg, zI_add, zI_sub, zI_mul, zI_lt, zI_le, zI_eq, zI_clamp, zI_in, zI_div, zI_rem, lg_lt0, lg_gt0, lg_eq0, lg_le0, lg_ge0, Int.toNat_natCast, ge_iff_le, gt_iff_lt, List.length_cons, List.length_nil, bl_up2_at, bl_up2_nk, bl_up2_nx, zI_toInt] at h58
           first
           | (exfalso; omega)
           | (refine ⟨kb, _, bl_vs rb_0, kg, _, bl_vs rg_0, kg, _, bl_vs rg_0, kga, rfl, rfl, kba, (Nat.le_of_ble_eq_true rfl), (0, 0), Nat.le_refl _, Nat.le_refl _, ?_⟩
              fail /- c262: mX6_partOf -/)
         · try simp (disch := omega) only [cA.1, cD.1, zI_n, zI_o, zI_lit, zI_neg, zI_add, zI_sub, zI_mul, zI_lt, zI_le, zI_eq, zI_clamp, zI_in, zI_div, zI_rem, lg_lt0, lg_gt0, lg_eq0, lg_le0, lg_ge0, Int.toNat_natCast, ge_iff_le, gt_iff_lt, List.length_cons, List.length_nil, bl_up2_at, bl_up2_nk, bl_up2_nx, zI_toInt] at h58
           match j58, ho58, h58 with
           | 0, ho58, h58 =>
             cases ho58
             first
             | (exfalso; omega)
             | (refine ⟨kb, _, bl_vs rb_0, kg, _, bl_vs rg_0, rfl, rfl, kba, (Nat.le_of_ble_eq_true rfl), (0, 0), Nat.le_refl _, Nat.le_refl _, ?_⟩
                fail /- c105: mX6_rollOf -/)
           | 1, ho58, h58 =>
             cases ho58
             first
             | (exfalso; omega)
             | (refine ⟨kb, _, bl_vs rb_0, kg, _, bl_vs rg_0, rfl, rfl, kba, (Nat.le_of_ble_eq_true rfl), (0, 0), Nat.le_refl _, Nat.le_refl _, ?_⟩
                fail /- c142: mX6_foldOf -/)
           | 2, ho58, h58 =>
             cases ho58
             first
             | (exfalso; omega)
             | (refine ⟨kb, _, bl_vs rb_0, kg, _, bl_vs rg_0, rfl, rfl, kba, (Nat.le_of_ble_eq_true rfl), (0, 0), Nat.le_refl _, Nat.le_refl _, ?_⟩
                fail /- c171: mX6_bookOf -/)
           | 3, ho58, h58 =>
             cases ho58
             first
             | (exfalso; omega)
             | (refine ⟨kb, _, bl_vs rb_0, kg, _, bl_vs rg_0, rfl, rfl, kba, (Nat.le_of_ble_eq_true rfl), (0, 0), Nat.le_refl _, Nat.le_refl _, bl_MC_mono (c_Side_tuckOf hBA hGA (by omega) a1 rfl hcan (by omega)) (fun o199 σ199 q199 => ?_)⟩
                try dsimp only [bl_pv] at q199
                obtain ⟨rfl, I2, J2, rfl, m2, t2⟩ := q199
                have ed2 : I2 (2 * b + 1) 2 = nI S.2.1.1 := by rw [m2.1 _ (by omega)]; exact ed
                have ea2 := t2.1
                have b2 : ∀ j, J2 b j = J1 b j := fun j => by rw [m2.2 b (by omega) (by omega)]
                refine bl_go oX7_becomeOf 80 [24] rfl ?_
                refine ⟨rfl, rfl, kb, (Nat.le_of_ble_eq_true rfl), (0, 0), Nat.le_refl _, Nat.le_refl _, bl_MC_mono (c_Slab_layEach (d := d + 1) kb rb_1 kbd (c := 2 * n) (L := S.2.1.1) (w := S.2.2.2.1) (by first | with_reducible rfl | ((try dsimp only [bl_pv]); simp (disch := omega) only [ea2, zI_n, zI_o, zI_lit, zI_neg, zI_add, zI_sub, zI_mul, zI_lt, zI_le, zI_eq, zI_clamp, zI_in, zI_div, zI_rem, lg_lt0, lg_gt0, lg_eq0, lg_le0, lg_ge0, Int.toNat_natCast, ge_iff_le, gt_iff_lt, List.length_cons, List.length_nil, bl_up2_at, bl_up2_nk, bl_up2_nx] <;> omega)) (by omega) ed2 cD1 (by rw [b2, b1]; exact j3)) (fun o206 σ206 q206 => ?_)⟩
                try dsimp only [bl_pv] at q206
                obtain ⟨rfl, rfl⟩ := q206
                refine bl_go oX7_becomeOf 80 [24] rfl ?_
                try show _ ∧ _
                try dsimp only [bl_pv]
                refine ⟨rfl, _, _, rfl, fun x hx => ?_, ?_, ?_, ?_⟩
                · unfold slN at hx
                  refine ⟨by rw [m2.1 x (by omega), m1.1 x (by omega)], ?_⟩
                  rw [bl_up2_ne (by omega)]
                  rw [m2.2 x (by omega) (by omega), m1.2 x (by omega) (by omega), hJ0 x (by omega)]
                · exact t2.same rfl (by rw [bl_up2_ne (by omega)]) (by rw [bl_up2_ne (by omega)])
                · exact (t1.other m2 hBA hBD (by omega)).same rfl (by rw [bl_up2_ne (by omega)]) (by rw [bl_up2_ne (by omega)])
                · show _ = nJ S.2.2.1 ∧ _ = nJ (S.2.2.2.1 + 2 * n * S.2.1.1) ∧ _ = nJ S.2.2.2.2
                  simp (disch := omega) only [bl_up2_at, bl_up2_nk]
                  rw [b2, b2, b1, b1, j2, j4]
                  exact ⟨by trivial, by trivial, by trivial⟩)
           | 4, ho58, h58 =>
             cases ho58
             first
             | (exfalso; omega)
             | (refine ⟨kg, _, bl_vs rg_0, rfl, rfl, kb, (Nat.le_of_ble_eq_true rfl), (0, 0), Nat.le_refl _, Nat.le_refl _, ?_⟩
                fail /- c218: mX7_cutOf -/)
           | 5, ho58, h58 =>
             cases ho58
             first
             | (exfalso; omega)
             | (refine ⟨kb, _, bl_vs rb_0, kg, _, bl_vs rg_1, kg, _, bl_vs rg_1, kgd, rfl, rfl, kba, (Nat.le_of_ble_eq_true rfl), (0, 0), Nat.le_refl _, Nat.le_refl _, ?_⟩
                fail /- c240: mX6_partOf -/)
           | _ + 6, ho58, _ => exact absurd ho58 (by simp))
    · try simp (disch := omega) only [cA.1, cD.1, zI_n, zI_o, zI_lit, zI_neg, zI_add, zI_sub, zI_mul, zI_lt, zI_le, zI_eq, zI_clamp, zI_in, zI_div, zI_rem, lg_lt0, lg_gt0, lg_eq0, lg_le0, lg_ge0, Int.toNat_natCast, ge_iff_le, gt_iff_lt, List.length_cons, List.length_nil, bl_up2_at, bl_up2_nk, bl_up2_nx] at h26
      first
      | (exfalso; omega)
      | (refine ⟨kg, _, bl_vs rg_0, kb, _, bl_vs rb_1, kga, rfl, rfl, kbd, (Nat.le_of_ble_eq_true rfl), (0, 0), Nat.le_refl _, Nat.le_refl _, bl_MC_mono (c_Side_partOf hBD hGD (by omega) cD0 (fr := 0) (c := S.2.1.1) rfl (by first | with_reducible rfl | ((try dsimp only [bl_pv]); simp (disch := omega) only [cA.1, cD.1, zI_n, zI_o, zI_lit, zI_neg, zI_add, zI_sub, zI_mul, zI_lt, zI_le, zI_eq, zI_clamp, zI_in, zI_div, zI_rem, lg_lt0, lg_gt0, lg_eq0, lg_le0, lg_ge0, Int.toNat_natCast, ge_iff_le, gt_iff_lt, List.length_cons, List.length_nil, bl_up2_at, bl_up2_nk, bl_up2_nx] <;> omega)) (by omega)) (fun o54 σ54 q54 => ?_)⟩
         try dsimp only [bl_pv] at q54
         obtain ⟨rfl, I1, J1, rfl, m1, t1⟩ := q54
         rw [sd_part_0] at t1
         have a1 : sdC I1 J1 (2 * g) S.1 := cA0.other m1 hBD hGA (by omega)
         have d1 : sdC I1 J1 (2 * g + 1) S.2.1 := cD0.other m1 hBD hGD (by omega)
         have b1 : ∀ j, J1 b j = J0 b j := fun j => by rw [m1.2 b (by omega) (by omega)]
         have ea := a1.1
         have ed := t1.1
         refine bl_go oX7_becomeOf 80 [24] rfl ?_
         refine ⟨fun h58 => ?_, fun j58 o58 ho58 h58 _ => ?_⟩
         · try simp (disch := omega) only [cA.1, cD.1, zI_n, zI_o, zI_lit, zI_neg, zI_add, zI_sub, zI_mul, zI_lt, zI_le, zI_eq, zI_clamp, zI_in, zI_div, zI_rem, lg_lt0, lg_gt0, lg_eq0, lg_le0, lg_ge0, Int.toNat_natCast, ge_iff_le, gt_iff_lt, List.length_cons, List.length_nil, bl_up2_at, bl_up2_nk, bl_up2_nx, zI_toInt] at h58
           first
           | (exfalso; omega)
           | (refine ⟨kb, _, bl_vs rb_0, kg, _, bl_vs rg_0, kg, _, bl_vs rg_0, kga, rfl, rfl, kba, (Nat.le_of_ble_eq_true rfl), (0, 0), Nat.le_refl _, Nat.le_refl _, ?_⟩
              fail /- c262: mX6_partOf -/)
         · try simp (disch := omega) only [cA.1, cD.1, zI_n, zI_o, zI_lit, zI_neg, zI_add, zI_sub, zI_mul, zI_lt, zI_le, zI_eq, zI_clamp, zI_in, zI_div, zI_rem, lg_lt0, lg_gt0, lg_eq0, lg_le0, lg_ge0, Int.toNat_natCast, ge_iff_le, gt_iff_lt, List.length_cons, List.length_nil, bl_up2_at, bl_up2_nk, bl_up2_nx, zI_toInt] at h58
           match j58, ho58, h58 with
           | 0, ho58, h58 =>
             cases ho58
             first
             | (exfalso; omega)
             | (refine ⟨kb, _, bl_vs rb_0, kg, _, bl_vs rg_0, rfl, rfl, kba, (Nat.le_of_ble_eq_true rfl), (0, 0), Nat.le_refl _, Nat.le_refl _, ?_⟩
                fail /- c105: mX6_rollOf -/)
           | 1, ho58, h58 =>
             cases ho58
             first
             | (exfalso; omega)
             | (refine ⟨kb, _, bl_vs rb_0, kg, _, bl_vs rg_0, rfl, rfl, kba, (Nat.le_of_ble_eq_true rfl), (0, 0), Nat.le_refl _, Nat.le_refl _, ?_⟩
                fail /- c142: mX6_foldOf -/)
           | 2, ho58, h58 =>
             cases ho58
             first
             | (exfalso; omega)
             | (refine ⟨kb, _, bl_vs rb_0, kg, _, bl_vs rg_0, rfl, rfl, kba, (Nat.le_of_ble_eq_true rfl), (0, 0), Nat.le_refl _, Nat.le_refl _, ?_⟩
                fail /- c171: mX6_bookOf -/)
           | 3, ho58, h58 =>
             cases ho58
             first
             | (exfalso; omega)
             | (refine ⟨kb, _, bl_vs rb_0, kg, _, bl_vs rg_0, rfl, rfl, kba, (Nat.le_of_ble_eq_true rfl), (0, 0), Nat.le_refl _, Nat.le_refl _, bl_MC_mono (c_Side_tuckOf hBA hGA (by omega) a1 rfl hcan (by omega)) (fun o199 σ199 q199 => ?_)⟩
                try dsimp only [bl_pv] at q199
                obtain ⟨rfl, I2, J2, rfl, m2, t2⟩ := q199
                have ed2 : I2 (2 * b + 1) 2 = nI S.2.1.1 := by rw [m2.1 _ (by omega)]; exact ed
                have ea2 := t2.1
                have b2 : ∀ j, J2 b j = J1 b j := fun j => by rw [m2.2 b (by omega) (by omega)]
                refine bl_go oX7_becomeOf 80 [24] rfl ?_
                refine ⟨rfl, rfl, kb, (Nat.le_of_ble_eq_true rfl), (0, 0), Nat.le_refl _, Nat.le_refl _, bl_MC_mono (c_Slab_layEach (d := d + 1) kb rb_1 kbd (c := 2 * n) (L := S.2.1.1) (w := S.2.2.2.1) (by first | with_reducible rfl | ((try dsimp only [bl_pv]); simp (disch := omega) only [ea2, zI_n, zI_o, zI_lit, zI_neg, zI_add, zI_sub, zI_mul, zI_lt, zI_le, zI_eq, zI_clamp, zI_in, zI_div, zI_rem, lg_lt0, lg_gt0, lg_eq0, lg_le0, lg_ge0, Int.toNat_natCast, ge_iff_le, gt_iff_lt, List.length_cons, List.length_nil, bl_up2_at, bl_up2_nk, bl_up2_nx] <;> omega)) (by omega) ed2 cD1 (by rw [b2, b1]; exact j3)) (fun o206 σ206 q206 => ?_)⟩
                try dsimp only [bl_pv] at q206
                obtain ⟨rfl, rfl⟩ := q206
                refine bl_go oX7_becomeOf 80 [24] rfl ?_
                try show _ ∧ _
                try dsimp only [bl_pv]
                refine ⟨rfl, _, _, rfl, fun x hx => ?_, ?_, ?_, ?_⟩
                · unfold slN at hx
                  refine ⟨by rw [m2.1 x (by omega), m1.1 x (by omega)], ?_⟩
                  rw [bl_up2_ne (by omega)]
                  rw [m2.2 x (by omega) (by omega), m1.2 x (by omega) (by omega), hJ0 x (by omega)]
                · exact t2.same rfl (by rw [bl_up2_ne (by omega)]) (by rw [bl_up2_ne (by omega)])
                · exact (t1.other m2 hBA hBD (by omega)).same rfl (by rw [bl_up2_ne (by omega)]) (by rw [bl_up2_ne (by omega)])
                · show _ = nJ S.2.2.1 ∧ _ = nJ (S.2.2.2.1 + 2 * n * S.2.1.1) ∧ _ = nJ S.2.2.2.2
                  simp (disch := omega) only [bl_up2_at, bl_up2_nk]
                  rw [b2, b2, b1, b1, j2, j4]
                  exact ⟨by trivial, by trivial, by trivial⟩)
           | 4, ho58, h58 =>
             cases ho58
             first
             | (exfalso; omega)
             | (refine ⟨kg, _, bl_vs rg_0, rfl, rfl, kb, (Nat.le_of_ble_eq_true rfl), (0, 0), Nat.le_refl _, Nat.le_refl _, ?_⟩
                fail /- c218: mX7_cutOf -/)
           | 5, ho58, h58 =>
             cases ho58
             first
             | (exfalso; omega)
             | (refine ⟨kb, _, bl_vs rb_0, kg, _, bl_vs rg_1, kg, _, bl_vs rg_1, kgd, rfl, rfl, kba, (Nat.le_of_ble_eq_true rfl), (0, 0), Nat.le_refl _, Nat.le_refl _, ?_⟩
                fail /- c240: mX6_partOf -/)
           | _ + 6, ho58, _ => exact absurd ho58 (by simp))
  refine bl_go oX7_becomeOf 80 [24] rfl ?_
  refine ⟨kg, kb, Or.inr (Or.inl ⟨rfl, rfl, _, rfl⟩), (fun h => by cases h), kg, kb, Or.inr (Or.inl ⟨rfl, rfl, _, rfl⟩), (fun h => by cases h), kg, kb, Or.inr (Or.inl ⟨rfl, rfl, _, rfl⟩), (fun h => by cases h), ?_⟩
  try dsimp only [bl_pv]
  refine L _ (fun x hx => ?_) ?_ ?_ ?_
  · rw [bl_up2_ne hx, bl_up2_ne hx, bl_up2_ne hx]
  · simp (disch := omega) only [bl_up2_at, bl_up2_nk]; exact cT
  · simp (disch := omega) only [bl_up2_at, bl_up2_nk, bl_up2_nx]; exact cL
  · simp (disch := omega) only [bl_up2_at, bl_up2_nk, bl_up2_nx]; exact cC
theorem c_Slab_become_4 {S : sl} {n : Nat} {x y : Int32} (hs : slS R K N b) (hg : slS R K N g) (hbg : b ≠ g) (hC : slC I J g S) (hx : x = nI 4) (hy : y = nI n) (hk : st_ok 4 n) (hcan : sl_can 4 n S.1.1) : bl_MC G l (d + 2) mX7_becomeOf [.ref b, .ref g, .int x, .int y] (I, J, R, K, N) (0, 0) (fun o σ' => o = .inl none ∧ ∃ I' J', σ' = (I', J', R, K, N) ∧ slM I I' J J' b ∧ slC I' J' b (sl_step S 4 n)) := by
  have hs' := hs; have hg' := hg
  obtain ⟨hr1, kb, rb_0, rb_1, hBA, hBD⟩ := hs
  obtain ⟨hr2, kg, rg_0, rg_1, hGA, hGD⟩ := hg
  have kba := hBA.2.1
  have kbd := hBD.2.1
  have kga := hGA.2.1
  have kgd := hGD.2.1
  obtain ⟨cA, cD, cT, cL, cC⟩ := hC
  obtain ⟨hk1, hk2, hk3, hk4⟩ := hk
  have cA1 := cA.2.1
  have cD1 := cD.2.1
  simp only [sl_can] at hcan
  subst hx hy
  refine bl_MC_intro (by decide +kernel) rfl (Nat.le_of_ble_eq_true rfl) ?_
  have L : ∀ J0, (∀ x, x ≠ b → J0 x = J x) → J0 b 2 = nJ S.2.2.1 → J0 b 3 = nJ S.2.2.2.1 → J0 b 4 = nJ S.2.2.2.2 → bl_WP G l (d + 2) mX7_becomeOf 24 [(0, .ref b), (1, .ref g), (2, .int (nI 4)), (3, .int (nI n))] [] (I, J0, R, K, N) (0, 0) (fun o σ' => o = .inl none ∧ ∃ I' J', σ' = (I', J', R, K, N) ∧ slM I I' J J' b ∧ slC I' J' b (sl_step S 4 n)) := by
    intro J0 hJ0 j2 j3 j4
    have cA0 : sdC I J0 (2 * g) S.1 := cA.same rfl (hJ0 _ (by omega)) (hJ0 _ (by omega))
    have cD0 : sdC I J0 (2 * g + 1) S.2.1 := cD.same rfl (hJ0 _ (by omega)) (hJ0 _ (by omega))
    refine bl_go oX7_becomeOf 80 [24] rfl ?_
    refine ⟨fun h26 => ?_, fun h26 => ?_⟩
    · try simp (disch := omega) only [cA.1, cD.1, zI_n, zI_o, zI_lit, zI_neg, zI_add, zI_sub, zI_mul, zI_lt, zI_le, zI_eq, zI_clamp, zI_in, zI_div, zI_rem, lg_lt0, lg_gt0, lg_eq0, lg_le0, lg_ge0, Int.toNat_natCast, ge_iff_le, gt_iff_lt, List.length_cons, List.length_nil, bl_up2_at, bl_up2_nk, bl_up2_nx] at h26
      first
      | (exfalso; omega)
      | (refine ⟨kg, _, bl_vs rg_1, kb, _, bl_vs rb_1, kgd, rfl, rfl, kbd, (Nat.le_of_ble_eq_true rfl), (0, 0), Nat.le_refl _, Nat.le_refl _, bl_MC_mono (c_Side_partOf hBD hGD (by omega) cD0 (fr := 0) (c := S.2.1.1) rfl (by first | with_reducible rfl | ((try dsimp only [bl_pv]); simp (disch := omega) only [cA.1, cD.1, zI_n, zI_o, zI_lit, zI_neg, zI_add, zI_sub, zI_mul, zI_lt, zI_le, zI_eq, zI_clamp, zI_in, zI_div, zI_rem, lg_lt0, lg_gt0, lg_eq0, lg_le0, lg_ge0, Int.toNat_natCast, ge_iff_le, gt_iff_lt, List.length_cons, List.length_nil, bl_up2_at, bl_up2_nk, bl_up2_nx] <;> omega)) (by omega)) (fun o54 σ54 q54 => ?_)⟩
         try dsimp only [bl_pv] at q54
         obtain ⟨rfl, I1, J1, rfl, m1, t1⟩ := q54
         rw [sd_part_0] at t1
         have a1 : sdC I1 J1 (2 * g) S.1 := cA0.other m1 hBD hGA (by omega)
         have d1 : sdC I1 J1 (2 * g + 1) S.2.1 := cD0.other m1 hBD hGD (by omega)
         have b1 : ∀ j, J1 b j = J0 b j := fun j => by rw [m1.2 b (by omega) (by omega)]
         have ea := a1.1
         have ed := t1.1
         refine bl_go oX7_becomeOf 80 [24] rfl ?_
         refine ⟨fun h58 => ?_, fun j58 o58 ho58 h58 _ => ?_⟩
         · try simp (disch := omega) only [cA.1, cD.1, zI_n, zI_o, zI_lit, zI_neg, zI_add, zI_sub, zI_mul, zI_lt, zI_le, zI_eq, zI_clamp, zI_in, zI_div, zI_rem, lg_lt0, lg_gt0, lg_eq0, lg_le0, lg_ge0, Int.toNat_natCast, ge_iff_le, gt_iff_lt, List.length_cons, List.length_nil, bl_up2_at, bl_up2_nk, bl_up2_nx, zI_toInt] at h58
           first
           | (exfalso; omega)
           | (refine ⟨kb, _, bl_vs rb_0, kg, _, bl_vs rg_0, kg, _, bl_vs rg_0, kga, rfl, rfl, kba, (Nat.le_of_ble_eq_true rfl), (0, 0), Nat.le_refl _, Nat.le_refl _, ?_⟩
              fail /- c262: mX6_partOf -/)
         · try simp (disch := omega) only [cA.1, cD.1, zI_n, zI_o, zI_lit, zI_neg, zI_add, zI_sub, zI_mul, zI_lt, zI_le, zI_eq, zI_clamp, zI_in, zI_div, zI_rem, lg_lt0, lg_gt0, lg_eq0, lg_le0, lg_ge0, Int.toNat_natCast, ge_iff_le, gt_iff_lt, List.length_cons, List.length_nil, bl_up2_at, bl_up2_nk, bl_up2_nx, zI_toInt] at h58
           match j58, ho58, h58 with
           | 0, ho58, h58 =>
             cases ho58
             first
             | (exfalso; omega)
             | (refine ⟨kb, _, bl_vs rb_0, kg, _, bl_vs rg_0, rfl, rfl, kba, (Nat.le_of_ble_eq_true rfl), (0, 0), Nat.le_refl _, Nat.le_refl _, ?_⟩
                fail /- c105: mX6_rollOf -/)
           | 1, ho58, h58 =>
             cases ho58
             first
             | (exfalso; omega)
             | (refine ⟨kb, _, bl_vs rb_0, kg, _, bl_vs rg_0, rfl, rfl, kba, (Nat.le_of_ble_eq_true rfl), (0, 0), Nat.le_refl _, Nat.le_refl _, ?_⟩
                fail /- c142: mX6_foldOf -/)
           | 2, ho58, h58 =>
             cases ho58
             first
             | (exfalso; omega)
             | (refine ⟨kb, _, bl_vs rb_0, kg, _, bl_vs rg_0, rfl, rfl, kba, (Nat.le_of_ble_eq_true rfl), (0, 0), Nat.le_refl _, Nat.le_refl _, ?_⟩
                fail /- c171: mX6_bookOf -/)
           | 3, ho58, h58 =>
             cases ho58
             first
             | (exfalso; omega)
             | (refine ⟨kb, _, bl_vs rb_0, kg, _, bl_vs rg_0, rfl, rfl, kba, (Nat.le_of_ble_eq_true rfl), (0, 0), Nat.le_refl _, Nat.le_refl _, ?_⟩
                fail /- c199: mX6_tuckOf -/)
           | 4, ho58, h58 =>
             cases ho58
             first
             | (exfalso; omega)
             | (refine ⟨kg, _, bl_vs rg_0, rfl, rfl, kb, (Nat.le_of_ble_eq_true rfl), (0, 0), Nat.le_refl _, Nat.le_refl _, bl_MC_mono (c_Slab_cutOf (d := d) hs' hGA (by omega) a1 t1 (w := S.2.2.2.2) (by rw [b1]; exact j4) rfl hcan) (fun o218 σ218 q218 => ?_)⟩
                try dsimp only [bl_pv] at q218
                obtain ⟨rfl, I2, J2, rfl, m2, t2⟩ := q218
                refine bl_go oX7_becomeOf 80 [24] rfl ?_
                try show _ ∧ _
                try dsimp only [bl_pv]
                have b2 : ∀ j, J2 b j = J1 b j := fun j => by rw [m2.2 b (by omega) (by omega)]
                refine ⟨rfl, _, _, rfl, fun x hx => ?_, ?_, ?_, ?_⟩
                · unfold slN at hx
                  refine ⟨by rw [m2.1 x (by omega), m1.1 x (by omega)], ?_⟩
                  rw [bl_up2_ne (by omega)]
                  rw [m2.2 x (by omega) (by omega), m1.2 x (by omega) (by omega), hJ0 x (by omega)]
                · exact t2.same rfl (by rw [bl_up2_ne (by omega)]) (by rw [bl_up2_ne (by omega)])
                · exact (t1.other m2 hBA hBD (by omega)).same rfl (by rw [bl_up2_ne (by omega)]) (by rw [bl_up2_ne (by omega)])
                · show _ = nJ S.2.2.1 ∧ _ = nJ S.2.2.2.1 ∧ _ = nJ (S.2.2.2.2 + sl_cut S n)
                  simp (disch := omega) only [bl_up2_at, bl_up2_nk]
                  rw [b2, b2, b1, b1, j2, j3]
                  exact ⟨by trivial, by trivial, by trivial⟩)
           | 5, ho58, h58 =>
             cases ho58
             first
             | (exfalso; omega)
             | (refine ⟨kb, _, bl_vs rb_0, kg, _, bl_vs rg_1, kg, _, bl_vs rg_1, kgd, rfl, rfl, kba, (Nat.le_of_ble_eq_true rfl), (0, 0), Nat.le_refl _, Nat.le_refl _, ?_⟩
                fail /- c240: mX6_partOf -/)
           | _ + 6, ho58, _ => exact absurd ho58 (by simp))
    · try simp (disch := omega) only [cA.1, cD.1, zI_n, zI_o, zI_lit, zI_neg, zI_add, zI_sub, zI_mul, zI_lt, zI_le, zI_eq, zI_clamp, zI_in, zI_div, zI_rem, lg_lt0, lg_gt0, lg_eq0, lg_le0, lg_ge0, Int.toNat_natCast, ge_iff_le, gt_iff_lt, List.length_cons, List.length_nil, bl_up2_at, bl_up2_nk, bl_up2_nx] at h26
      first
      | (exfalso; omega)
      | (refine ⟨kg, _, bl_vs rg_0, kb, _, bl_vs rb_1, kga, rfl, rfl, kbd, (Nat.le_of_ble_eq_true rfl), (0, 0), Nat.le_refl _, Nat.le_refl _, bl_MC_mono (c_Side_partOf hBD hGD (by omega) cD0 (fr := 0) (c := S.2.1.1) rfl (by first | with_reducible rfl | ((try dsimp only [bl_pv]); simp (disch := omega) only [cA.1, cD.1, zI_n, zI_o, zI_lit, zI_neg, zI_add, zI_sub, zI_mul, zI_lt, zI_le, zI_eq, zI_clamp, zI_in, zI_div, zI_rem, lg_lt0, lg_gt0, lg_eq0, lg_le0, lg_ge0, Int.toNat_natCast, ge_iff_le, gt_iff_lt, List.length_cons, List.length_nil, bl_up2_at, bl_up2_nk, bl_up2_nx] <;> omega)) (by omega)) (fun o54 σ54 q54 => ?_)⟩
         try dsimp only [bl_pv] at q54
         obtain ⟨rfl, I1, J1, rfl, m1, t1⟩ := q54
         rw [sd_part_0] at t1
         have a1 : sdC I1 J1 (2 * g) S.1 := cA0.other m1 hBD hGA (by omega)
         have d1 : sdC I1 J1 (2 * g + 1) S.2.1 := cD0.other m1 hBD hGD (by omega)
         have b1 : ∀ j, J1 b j = J0 b j := fun j => by rw [m1.2 b (by omega) (by omega)]
         have ea := a1.1
         have ed := t1.1
         refine bl_go oX7_becomeOf 80 [24] rfl ?_
         refine ⟨fun h58 => ?_, fun j58 o58 ho58 h58 _ => ?_⟩
         · try simp (disch := omega) only [cA.1, cD.1, zI_n, zI_o, zI_lit, zI_neg, zI_add, zI_sub, zI_mul, zI_lt, zI_le, zI_eq, zI_clamp, zI_in, zI_div, zI_rem, lg_lt0, lg_gt0, lg_eq0, lg_le0, lg_ge0, Int.toNat_natCast, ge_iff_le, gt_iff_lt, List.length_cons, List.length_nil, bl_up2_at, bl_up2_nk, bl_up2_nx, zI_toInt] at h58
           first
           | (exfalso; omega)
           | (refine ⟨kb, _, bl_vs rb_0, kg, _, bl_vs rg_0, kg, _, bl_vs rg_0, kga, rfl, rfl, kba, (Nat.le_of_ble_eq_true rfl), (0, 0), Nat.le_refl _, Nat.le_refl _, ?_⟩
              fail /- c262: mX6_partOf -/)
         · try simp (disch := omega) only [cA.1, cD.1, zI_n, zI_o, zI_lit, zI_neg, zI_add, zI_sub, zI_mul, zI_lt, zI_le, zI_eq, zI_clamp, zI_in, zI_div, zI_rem, lg_lt0, lg_gt0, lg_eq0, lg_le0, lg_ge0, Int.toNat_natCast, ge_iff_le, gt_iff_lt, List.length_cons, List.length_nil, bl_up2_at, bl_up2_nk, bl_up2_nx, zI_toInt] at h58
           match j58, ho58, h58 with
           | 0, ho58, h58 =>
             cases ho58
             first
             | (exfalso; omega)
             | (refine ⟨kb, _, bl_vs rb_0, kg, _, bl_vs rg_0, rfl, rfl, kba, (Nat.le_of_ble_eq_true rfl), (0, 0), Nat.le_refl _, Nat.le_refl _, ?_⟩
                fail /- c105: mX6_rollOf -/)
           | 1, ho58, h58 =>
             cases ho58
             first
             | (exfalso; omega)
             | (refine ⟨kb, _, bl_vs rb_0, kg, _, bl_vs rg_0, rfl, rfl, kba, (Nat.le_of_ble_eq_true rfl), (0, 0), Nat.le_refl _, Nat.le_refl _, ?_⟩
                fail /- c142: mX6_foldOf -/)
           | 2, ho58, h58 =>
             cases ho58
             first
             | (exfalso; omega)
             | (refine ⟨kb, _, bl_vs rb_0, kg, _, bl_vs rg_0, rfl, rfl, kba, (Nat.le_of_ble_eq_true rfl), (0, 0), Nat.le_refl _, Nat.le_refl _, ?_⟩
                fail /- c171: mX6_bookOf -/)
           | 3, ho58, h58 =>
             cases ho58
             first
             | (exfalso; omega)
             | (refine ⟨kb, _, bl_vs rb_0, kg, _, bl_vs rg_0, rfl, rfl, kba, (Nat.le_of_ble_eq_true rfl), (0, 0), Nat.le_refl _, Nat.le_refl _, ?_⟩
                fail /- c199: mX6_tuckOf -/)
           | 4, ho58, h58 =>
             cases ho58
             first
             | (exfalso; omega)
             | (refine ⟨kg, _, bl_vs rg_0, rfl, rfl, kb, (Nat.le_of_ble_eq_true rfl), (0, 0), Nat.le_refl _, Nat.le_refl _, bl_MC_mono (c_Slab_cutOf (d := d) hs' hGA (by omega) a1 t1 (w := S.2.2.2.2) (by rw [b1]; exact j4) rfl hcan) (fun o218 σ218 q218 => ?_)⟩
                try dsimp only [bl_pv] at q218
                obtain ⟨rfl, I2, J2, rfl, m2, t2⟩ := q218
                refine bl_go oX7_becomeOf 80 [24] rfl ?_
                try show _ ∧ _
                try dsimp only [bl_pv]
                have b2 : ∀ j, J2 b j = J1 b j := fun j => by rw [m2.2 b (by omega) (by omega)]
                refine ⟨rfl, _, _, rfl, fun x hx => ?_, ?_, ?_, ?_⟩
                · unfold slN at hx
                  refine ⟨by rw [m2.1 x (by omega), m1.1 x (by omega)], ?_⟩
                  rw [bl_up2_ne (by omega)]
                  rw [m2.2 x (by omega) (by omega), m1.2 x (by omega) (by omega), hJ0 x (by omega)]
                · exact t2.same rfl (by rw [bl_up2_ne (by omega)]) (by rw [bl_up2_ne (by omega)])
                · exact (t1.other m2 hBA hBD (by omega)).same rfl (by rw [bl_up2_ne (by omega)]) (by rw [bl_up2_ne (by omega)])
                · show _ = nJ S.2.2.1 ∧ _ = nJ S.2.2.2.1 ∧ _ = nJ (S.2.2.2.2 + sl_cut S n)
                  simp (disch := omega) only [bl_up2_at, bl_up2_nk]
                  rw [b2, b2, b1, b1, j2, j3]
                  exact ⟨by trivial, by trivial, by trivial⟩)
           | 5, ho58, h58 =>
             cases ho58
             first
             | (exfalso; omega)
             | (refine ⟨kb, _, bl_vs rb_0, kg, _, bl_vs rg_1, kg, _, bl_vs rg_1, kgd, rfl, rfl, kba, (Nat.le_of_ble_eq_true rfl), (0, 0), Nat.le_refl _, Nat.le_refl _, ?_⟩
                fail /- c240: mX6_partOf -/)
           | _ + 6, ho58, _ => exact absurd ho58 (by simp))
  refine bl_go oX7_becomeOf 80 [24] rfl ?_
  refine ⟨kg, kb, Or.inr (Or.inl ⟨rfl, rfl, _, rfl⟩), (fun h => by cases h), kg, kb, Or.inr (Or.inl ⟨rfl, rfl, _, rfl⟩), (fun h => by cases h), kg, kb, Or.inr (Or.inl ⟨rfl, rfl, _, rfl⟩), (fun h => by cases h), ?_⟩
  try dsimp only [bl_pv]
  refine L _ (fun x hx => ?_) ?_ ?_ ?_
  · rw [bl_up2_ne hx, bl_up2_ne hx, bl_up2_ne hx]
  · simp (disch := omega) only [bl_up2_at, bl_up2_nk]; exact cT
  · simp (disch := omega) only [bl_up2_at, bl_up2_nk, bl_up2_nx]; exact cL
  · simp (disch := omega) only [bl_up2_at, bl_up2_nk, bl_up2_nx]; exact cC
theorem c_Slab_become_5 {S : sl} {n : Nat} {x y : Int32} (hs : slS R K N b) (hg : slS R K N g) (hbg : b ≠ g) (hC : slC I J g S) (hx : x = nI 5) (hy : y = nI n) (hk : st_ok 5 n) (hcan : sl_can 5 n S.1.1) : bl_MC G l (d + 2) mX7_becomeOf [.ref b, .ref g, .int x, .int y] (I, J, R, K, N) (0, 0) (fun o σ' => o = .inl none ∧ ∃ I' J', σ' = (I', J', R, K, N) ∧ slM I I' J J' b ∧ slC I' J' b (sl_step S 5 n)) := by
  have hs' := hs; have hg' := hg
  obtain ⟨hr1, kb, rb_0, rb_1, hBA, hBD⟩ := hs
  obtain ⟨hr2, kg, rg_0, rg_1, hGA, hGD⟩ := hg
  have kba := hBA.2.1
  have kbd := hBD.2.1
  have kga := hGA.2.1
  have kgd := hGD.2.1
  obtain ⟨cA, cD, cT, cL, cC⟩ := hC
  obtain ⟨hk1, hk2, hk3, hk4⟩ := hk
  have cA1 := cA.2.1
  have cD1 := cD.2.1
  simp only [sl_can] at hcan
  subst hx hy
  refine bl_MC_intro (by decide +kernel) rfl (Nat.le_of_ble_eq_true rfl) ?_
  have L : ∀ J0, (∀ x, x ≠ b → J0 x = J x) → J0 b 2 = nJ S.2.2.1 → J0 b 3 = nJ S.2.2.2.1 → J0 b 4 = nJ S.2.2.2.2 → bl_WP G l (d + 2) mX7_becomeOf 24 [(0, .ref b), (1, .ref g), (2, .int (nI 5)), (3, .int (nI n))] [] (I, J0, R, K, N) (0, 0) (fun o σ' => o = .inl none ∧ ∃ I' J', σ' = (I', J', R, K, N) ∧ slM I I' J J' b ∧ slC I' J' b (sl_step S 5 n)) := by
    intro J0 hJ0 j2 j3 j4
    have cA0 : sdC I J0 (2 * g) S.1 := cA.same rfl (hJ0 _ (by omega)) (hJ0 _ (by omega))
    have cD0 : sdC I J0 (2 * g + 1) S.2.1 := cD.same rfl (hJ0 _ (by omega)) (hJ0 _ (by omega))
    refine bl_go oX7_becomeOf 80 [24] rfl ?_
    refine ⟨fun h26 => ?_, fun h26 => ?_⟩
    · try simp (disch := omega) only [cA.1, cD.1, zI_n, zI_o, zI_lit, zI_neg, zI_add, zI_sub, zI_mul, zI_lt, zI_le, zI_eq, zI_clamp, zI_in, zI_div, zI_rem, lg_lt0, lg_gt0, lg_eq0, lg_le0, lg_ge0, Int.toNat_natCast, ge_iff_le, gt_iff_lt, List.length_cons, List.length_nil, bl_up2_at, bl_up2_nk, bl_up2_nx] at h26
      first
      | (exfalso; omega)
      | (refine ⟨kg, _, bl_vs rg_1, kb, _, bl_vs rb_1, kgd, rfl, rfl, kbd, (Nat.le_of_ble_eq_true rfl), (0, 0), Nat.le_refl _, Nat.le_refl _, bl_MC_mono (c_Side_partOf hBD hGA (by omega) cA0 (fr := 0) (c := S.1.1) rfl (by first | with_reducible rfl | ((try dsimp only [bl_pv]); simp (disch := omega) only [cA.1, cD.1, zI_n, zI_o, zI_lit, zI_neg, zI_add, zI_sub, zI_mul, zI_lt, zI_le, zI_eq, zI_clamp, zI_in, zI_div, zI_rem, lg_lt0, lg_gt0, lg_eq0, lg_le0, lg_ge0, Int.toNat_natCast, ge_iff_le, gt_iff_lt, List.length_cons, List.length_nil, bl_up2_at, bl_up2_nk, bl_up2_nx] <;> omega)) (by omega)) (fun o54 σ54 q54 => ?_)⟩
         try dsimp only [bl_pv] at q54
         obtain ⟨rfl, I1, J1, rfl, m1, t1⟩ := q54
         rw [sd_part_0] at t1
         have a1 : sdC I1 J1 (2 * g) S.1 := cA0.other m1 hBD hGA (by omega)
         have d1 : sdC I1 J1 (2 * g + 1) S.2.1 := cD0.other m1 hBD hGD (by omega)
         have b1 : ∀ j, J1 b j = J0 b j := fun j => by rw [m1.2 b (by omega) (by omega)]
         have ea := a1.1
         have ed := t1.1
         refine bl_go oX7_becomeOf 80 [24] rfl ?_
         refine ⟨fun h58 => ?_, fun j58 o58 ho58 h58 _ => ?_⟩
         · try simp (disch := omega) only [cA.1, cD.1, zI_n, zI_o, zI_lit, zI_neg, zI_add, zI_sub, zI_mul, zI_lt, zI_le, zI_eq, zI_clamp, zI_in, zI_div, zI_rem, lg_lt0, lg_gt0, lg_eq0, lg_le0, lg_ge0, Int.toNat_natCast, ge_iff_le, gt_iff_lt, List.length_cons, List.length_nil, bl_up2_at, bl_up2_nk, bl_up2_nx, zI_toInt] at h58
           first
           | (exfalso; omega)
           | (refine ⟨kb, _, bl_vs rb_0, kg, _, bl_vs rg_0, kg, _, bl_vs rg_0, kga, rfl, rfl, kba, (Nat.le_of_ble_eq_true rfl), (0, 0), Nat.le_refl _, Nat.le_refl _, ?_⟩
              fail /- c262: mX6_partOf -/)
         · try simp (disch := omega) only [cA.1, cD.1, zI_n, zI_o, zI_lit, zI_neg, zI_add, zI_sub, zI_mul, zI_lt, zI_le, zI_eq, zI_clamp, zI_in, zI_div, zI_rem, lg_lt0, lg_gt0, lg_eq0, lg_le0, lg_ge0, Int.toNat_natCast, ge_iff_le, gt_iff_lt, List.length_cons, List.length_nil, bl_up2_at, bl_up2_nk, bl_up2_nx, zI_toInt] at h58
           match j58, ho58, h58 with
           | 0, ho58, h58 =>
             cases ho58
             first
             | (exfalso; omega)
             | (refine ⟨kb, _, bl_vs rb_0, kg, _, bl_vs rg_0, rfl, rfl, kba, (Nat.le_of_ble_eq_true rfl), (0, 0), Nat.le_refl _, Nat.le_refl _, ?_⟩
                fail /- c105: mX6_rollOf -/)
           | 1, ho58, h58 =>
             cases ho58
             first
             | (exfalso; omega)
             | (refine ⟨kb, _, bl_vs rb_0, kg, _, bl_vs rg_0, rfl, rfl, kba, (Nat.le_of_ble_eq_true rfl), (0, 0), Nat.le_refl _, Nat.le_refl _, ?_⟩
                fail /- c142: mX6_foldOf -/)
           | 2, ho58, h58 =>
             cases ho58
             first
             | (exfalso; omega)
             | (refine ⟨kb, _, bl_vs rb_0, kg, _, bl_vs rg_0, rfl, rfl, kba, (Nat.le_of_ble_eq_true rfl), (0, 0), Nat.le_refl _, Nat.le_refl _, ?_⟩
                fail /- c171: mX6_bookOf -/)
           | 3, ho58, h58 =>
             cases ho58
             first
             | (exfalso; omega)
             | (refine ⟨kb, _, bl_vs rb_0, kg, _, bl_vs rg_0, rfl, rfl, kba, (Nat.le_of_ble_eq_true rfl), (0, 0), Nat.le_refl _, Nat.le_refl _, ?_⟩
                fail /- c199: mX6_tuckOf -/)
           | 4, ho58, h58 =>
             cases ho58
             first
             | (exfalso; omega)
             | (refine ⟨kg, _, bl_vs rg_0, rfl, rfl, kb, (Nat.le_of_ble_eq_true rfl), (0, 0), Nat.le_refl _, Nat.le_refl _, ?_⟩
                fail /- c218: mX7_cutOf -/)
           | 5, ho58, h58 =>
             cases ho58
             first
             | (exfalso; omega)
             | (refine ⟨kb, _, bl_vs rb_0, kg, _, bl_vs rg_1, kg, _, bl_vs rg_1, kgd, rfl, rfl, kba, (Nat.le_of_ble_eq_true rfl), (0, 0), Nat.le_refl _, Nat.le_refl _, bl_MC_mono (c_Side_partOf (d := d + 1) hBA hGD (by omega) d1 (fr := 0) (c := S.2.1.1) rfl (by first | with_reducible rfl | ((try dsimp only [bl_pv]); simp (disch := omega) only [d1.1, zI_n, zI_o, zI_lit, zI_neg, zI_add, zI_sub, zI_mul, zI_lt, zI_le, zI_eq, zI_clamp, zI_in, zI_div, zI_rem, lg_lt0, lg_gt0, lg_eq0, lg_le0, lg_ge0, Int.toNat_natCast, ge_iff_le, gt_iff_lt, List.length_cons, List.length_nil, bl_up2_at, bl_up2_nk, bl_up2_nx] <;> omega)) (by omega)) (fun o240 σ240 q240 => ?_)⟩
                try dsimp only [bl_pv] at q240
                obtain ⟨rfl, I2, J2, rfl, m2, t2⟩ := q240
                rw [sd_part_0] at t2
                refine bl_go oX7_becomeOf 80 [24] rfl ?_
                try show _ ∧ _
                try dsimp only [bl_pv]
                have b2 : ∀ j, J2 b j = J1 b j := fun j => by rw [m2.2 b (by omega) (by omega)]
                refine ⟨rfl, _, _, rfl, fun x hx => ?_, ?_, ?_, ?_⟩
                · unfold slN at hx
                  refine ⟨by rw [m2.1 x (by omega), m1.1 x (by omega)], ?_⟩
                  skip
                  rw [m2.2 x (by omega) (by omega), m1.2 x (by omega) (by omega), hJ0 x (by omega)]
                · exact t2.same rfl (by rfl) (by rfl)
                · exact (t1.other m2 hBA hBD (by omega)).same rfl (by rfl) (by rfl)
                · rw [b2, b2, b2, b1, b1, b1, j2, j3, j4]
                  exact ⟨by trivial, by trivial, by trivial⟩)
           | _ + 6, ho58, _ => exact absurd ho58 (by simp))
    · try simp (disch := omega) only [cA.1, cD.1, zI_n, zI_o, zI_lit, zI_neg, zI_add, zI_sub, zI_mul, zI_lt, zI_le, zI_eq, zI_clamp, zI_in, zI_div, zI_rem, lg_lt0, lg_gt0, lg_eq0, lg_le0, lg_ge0, Int.toNat_natCast, ge_iff_le, gt_iff_lt, List.length_cons, List.length_nil, bl_up2_at, bl_up2_nk, bl_up2_nx] at h26
      first
      | (exfalso; omega)
      | (refine ⟨kg, _, bl_vs rg_0, kb, _, bl_vs rb_1, kga, rfl, rfl, kbd, (Nat.le_of_ble_eq_true rfl), (0, 0), Nat.le_refl _, Nat.le_refl _, bl_MC_mono (c_Side_partOf hBD hGA (by omega) cA0 (fr := 0) (c := S.1.1) rfl (by first | with_reducible rfl | ((try dsimp only [bl_pv]); simp (disch := omega) only [cA.1, cD.1, zI_n, zI_o, zI_lit, zI_neg, zI_add, zI_sub, zI_mul, zI_lt, zI_le, zI_eq, zI_clamp, zI_in, zI_div, zI_rem, lg_lt0, lg_gt0, lg_eq0, lg_le0, lg_ge0, Int.toNat_natCast, ge_iff_le, gt_iff_lt, List.length_cons, List.length_nil, bl_up2_at, bl_up2_nk, bl_up2_nx] <;> omega)) (by omega)) (fun o54 σ54 q54 => ?_)⟩
         try dsimp only [bl_pv] at q54
         obtain ⟨rfl, I1, J1, rfl, m1, t1⟩ := q54
         rw [sd_part_0] at t1
         have a1 : sdC I1 J1 (2 * g) S.1 := cA0.other m1 hBD hGA (by omega)
         have d1 : sdC I1 J1 (2 * g + 1) S.2.1 := cD0.other m1 hBD hGD (by omega)
         have b1 : ∀ j, J1 b j = J0 b j := fun j => by rw [m1.2 b (by omega) (by omega)]
         have ea := a1.1
         have ed := t1.1
         refine bl_go oX7_becomeOf 80 [24] rfl ?_
         refine ⟨fun h58 => ?_, fun j58 o58 ho58 h58 _ => ?_⟩
         · try simp (disch := omega) only [cA.1, cD.1, zI_n, zI_o, zI_lit, zI_neg, zI_add, zI_sub, zI_mul, zI_lt, zI_le, zI_eq, zI_clamp, zI_in, zI_div, zI_rem, lg_lt0, lg_gt0, lg_eq0, lg_le0, lg_ge0, Int.toNat_natCast, ge_iff_le, gt_iff_lt, List.length_cons, List.length_nil, bl_up2_at, bl_up2_nk, bl_up2_nx, zI_toInt] at h58
           first
           | (exfalso; omega)
           | (refine ⟨kb, _, bl_vs rb_0, kg, _, bl_vs rg_0, kg, _, bl_vs rg_0, kga, rfl, rfl, kba, (Nat.le_of_ble_eq_true rfl), (0, 0), Nat.le_refl _, Nat.le_refl _, ?_⟩
              fail /- c262: mX6_partOf -/)
         · try simp (disch := omega) only [cA.1, cD.1, zI_n, zI_o, zI_lit, zI_neg, zI_add, zI_sub, zI_mul, zI_lt, zI_le, zI_eq, zI_clamp, zI_in, zI_div, zI_rem, lg_lt0, lg_gt0, lg_eq0, lg_le0, lg_ge0, Int.toNat_natCast, ge_iff_le, gt_iff_lt, List.length_cons, List.length_nil, bl_up2_at, bl_up2_nk, bl_up2_nx, zI_toInt] at h58
           match j58, ho58, h58 with
           | 0, ho58, h58 =>
             cases ho58
             first
             | (exfalso; omega)
             | (refine ⟨kb, _, bl_vs rb_0, kg, _, bl_vs rg_0, rfl, rfl, kba, (Nat.le_of_ble_eq_true rfl), (0, 0), Nat.le_refl _, Nat.le_refl _, ?_⟩
                fail /- c105: mX6_rollOf -/)
           | 1, ho58, h58 =>
             cases ho58
             first
             | (exfalso; omega)
             | (refine ⟨kb, _, bl_vs rb_0, kg, _, bl_vs rg_0, rfl, rfl, kba, (Nat.le_of_ble_eq_true rfl), (0, 0), Nat.le_refl _, Nat.le_refl _, ?_⟩
                fail /- c142: mX6_foldOf -/)
           | 2, ho58, h58 =>
             cases ho58
             first
             | (exfalso; omega)
             | (refine ⟨kb, _, bl_vs rb_0, kg, _, bl_vs rg_0, rfl, rfl, kba, (Nat.le_of_ble_eq_true rfl), (0, 0), Nat.le_refl _, Nat.le_refl _, ?_⟩
                fail /- c171: mX6_bookOf -/)
           | 3, ho58, h58 =>
             cases ho58
             first
             | (exfalso; omega)
             | (refine ⟨kb, _, bl_vs rb_0, kg, _, bl_vs rg_0, rfl, rfl, kba, (Nat.le_of_ble_eq_true rfl), (0, 0), Nat.le_refl _, Nat.le_refl _, ?_⟩
                fail /- c199: mX6_tuckOf -/)
           | 4, ho58, h58 =>
             cases ho58
             first
             | (exfalso; omega)
             | (refine ⟨kg, _, bl_vs rg_0, rfl, rfl, kb, (Nat.le_of_ble_eq_true rfl), (0, 0), Nat.le_refl _, Nat.le_refl _, ?_⟩
                fail /- c218: mX7_cutOf -/)
           | 5, ho58, h58 =>
             cases ho58
             first
             | (exfalso; omega)
             | (refine ⟨kb, _, bl_vs rb_0, kg, _, bl_vs rg_1, kg, _, bl_vs rg_1, kgd, rfl, rfl, kba, (Nat.le_of_ble_eq_true rfl), (0, 0), Nat.le_refl _, Nat.le_refl _, bl_MC_mono (c_Side_partOf (d := d + 1) hBA hGD (by omega) d1 (fr := 0) (c := S.2.1.1) rfl (by first | with_reducible rfl | ((try dsimp only [bl_pv]); simp (disch := omega) only [d1.1, zI_n, zI_o, zI_lit, zI_neg, zI_add, zI_sub, zI_mul, zI_lt, zI_le, zI_eq, zI_clamp, zI_in, zI_div, zI_rem, lg_lt0, lg_gt0, lg_eq0, lg_le0, lg_ge0, Int.toNat_natCast, ge_iff_le, gt_iff_lt, List.length_cons, List.length_nil, bl_up2_at, bl_up2_nk, bl_up2_nx] <;> omega)) (by omega)) (fun o240 σ240 q240 => ?_)⟩
                try dsimp only [bl_pv] at q240
                obtain ⟨rfl, I2, J2, rfl, m2, t2⟩ := q240
                rw [sd_part_0] at t2
                refine bl_go oX7_becomeOf 80 [24] rfl ?_
                try show _ ∧ _
                try dsimp only [bl_pv]
                have b2 : ∀ j, J2 b j = J1 b j := fun j => by rw [m2.2 b (by omega) (by omega)]
                refine ⟨rfl, _, _, rfl, fun x hx => ?_, ?_, ?_, ?_⟩
                · unfold slN at hx
                  refine ⟨by rw [m2.1 x (by omega), m1.1 x (by omega)], ?_⟩
                  skip
                  rw [m2.2 x (by omega) (by omega), m1.2 x (by omega) (by omega), hJ0 x (by omega)]
                · exact t2.same rfl (by rfl) (by rfl)
                · exact (t1.other m2 hBA hBD (by omega)).same rfl (by rfl) (by rfl)
                · rw [b2, b2, b2, b1, b1, b1, j2, j3, j4]
                  exact ⟨by trivial, by trivial, by trivial⟩)
           | _ + 6, ho58, _ => exact absurd ho58 (by simp))
  refine bl_go oX7_becomeOf 80 [24] rfl ?_
  refine ⟨kg, kb, Or.inr (Or.inl ⟨rfl, rfl, _, rfl⟩), (fun h => by cases h), kg, kb, Or.inr (Or.inl ⟨rfl, rfl, _, rfl⟩), (fun h => by cases h), kg, kb, Or.inr (Or.inl ⟨rfl, rfl, _, rfl⟩), (fun h => by cases h), ?_⟩
  try dsimp only [bl_pv]
  refine L _ (fun x hx => ?_) ?_ ?_ ?_
  · rw [bl_up2_ne hx, bl_up2_ne hx, bl_up2_ne hx]
  · simp (disch := omega) only [bl_up2_at, bl_up2_nk]; exact cT
  · simp (disch := omega) only [bl_up2_at, bl_up2_nk, bl_up2_nx]; exact cL
  · simp (disch := omega) only [bl_up2_at, bl_up2_nk, bl_up2_nx]; exact cC
theorem c_Slab_become_6 {S : sl} {n : Nat} {x y : Int32} (hs : slS R K N b) (hg : slS R K N g) (hbg : b ≠ g) (hC : slC I J g S) (hx : x = nI 6) (hy : y = nI n) (hk : st_ok 6 n) (hcan : sl_can 6 n S.1.1) : bl_MC G l (d + 2) mX7_becomeOf [.ref b, .ref g, .int x, .int y] (I, J, R, K, N) (0, 0) (fun o σ' => o = .inl none ∧ ∃ I' J', σ' = (I', J', R, K, N) ∧ slM I I' J J' b ∧ slC I' J' b (sl_step S 6 n)) := by
  have hs' := hs; have hg' := hg
  obtain ⟨hr1, kb, rb_0, rb_1, hBA, hBD⟩ := hs
  obtain ⟨hr2, kg, rg_0, rg_1, hGA, hGD⟩ := hg
  have kba := hBA.2.1
  have kbd := hBD.2.1
  have kga := hGA.2.1
  have kgd := hGD.2.1
  obtain ⟨cA, cD, cT, cL, cC⟩ := hC
  obtain ⟨hk1, hk2, hk3, hk4⟩ := hk
  have cA1 := cA.2.1
  have cD1 := cD.2.1
  simp only [sl_can] at hcan
  subst hx hy
  refine bl_MC_intro (by decide +kernel) rfl (Nat.le_of_ble_eq_true rfl) ?_
  have L : ∀ J0, (∀ x, x ≠ b → J0 x = J x) → J0 b 2 = nJ S.2.2.1 → J0 b 3 = nJ S.2.2.2.1 → J0 b 4 = nJ S.2.2.2.2 → bl_WP G l (d + 2) mX7_becomeOf 24 [(0, .ref b), (1, .ref g), (2, .int (nI 6)), (3, .int (nI n))] [] (I, J0, R, K, N) (0, 0) (fun o σ' => o = .inl none ∧ ∃ I' J', σ' = (I', J', R, K, N) ∧ slM I I' J J' b ∧ slC I' J' b (sl_step S 6 n)) := by
    intro J0 hJ0 j2 j3 j4
    have cA0 : sdC I J0 (2 * g) S.1 := cA.same rfl (hJ0 _ (by omega)) (hJ0 _ (by omega))
    have cD0 : sdC I J0 (2 * g + 1) S.2.1 := cD.same rfl (hJ0 _ (by omega)) (hJ0 _ (by omega))
    refine bl_go oX7_becomeOf 80 [24] rfl ?_
    refine ⟨fun h26 => ?_, fun h26 => ?_⟩
    · try simp (disch := omega) only [cA.1, cD.1, zI_n, zI_o, zI_lit, zI_neg, zI_add, zI_sub, zI_mul, zI_lt, zI_le, zI_eq, zI_clamp, zI_in, zI_div, zI_rem, lg_lt0, lg_gt0, lg_eq0, lg_le0, lg_ge0, Int.toNat_natCast, ge_iff_le, gt_iff_lt, List.length_cons, List.length_nil, bl_up2_at, bl_up2_nk, bl_up2_nx] at h26
      first
      | (exfalso; omega)
      | (refine ⟨kg, _, bl_vs rg_1, kb, _, bl_vs rb_1, kgd, rfl, rfl, kbd, (Nat.le_of_ble_eq_true rfl), (0, 0), Nat.le_refl _, Nat.le_refl _, bl_MC_mono (c_Side_partOf hBD hGD (by omega) cD0 (fr := 0) (c := S.2.1.1) rfl (by first | with_reducible rfl | ((try dsimp only [bl_pv]); simp (disch := omega) only [cA.1, cD.1, zI_n, zI_o, zI_lit, zI_neg, zI_add, zI_sub, zI_mul, zI_lt, zI_le, zI_eq, zI_clamp, zI_in, zI_div, zI_rem, lg_lt0, lg_gt0, lg_eq0, lg_le0, lg_ge0, Int.toNat_natCast, ge_iff_le, gt_iff_lt, List.length_cons, List.length_nil, bl_up2_at, bl_up2_nk, bl_up2_nx] <;> omega)) (by omega)) (fun o54 σ54 q54 => ?_)⟩
         try dsimp only [bl_pv] at q54
         obtain ⟨rfl, I1, J1, rfl, m1, t1⟩ := q54
         rw [sd_part_0] at t1
         have a1 : sdC I1 J1 (2 * g) S.1 := cA0.other m1 hBD hGA (by omega)
         have d1 : sdC I1 J1 (2 * g + 1) S.2.1 := cD0.other m1 hBD hGD (by omega)
         have b1 : ∀ j, J1 b j = J0 b j := fun j => by rw [m1.2 b (by omega) (by omega)]
         have ea := a1.1
         have ed := t1.1
         refine bl_go oX7_becomeOf 80 [24] rfl ?_
         refine ⟨fun h58 => ?_, fun j58 o58 ho58 h58 _ => ?_⟩
         · try simp (disch := omega) only [cA.1, cD.1, zI_n, zI_o, zI_lit, zI_neg, zI_add, zI_sub, zI_mul, zI_lt, zI_le, zI_eq, zI_clamp, zI_in, zI_div, zI_rem, lg_lt0, lg_gt0, lg_eq0, lg_le0, lg_ge0, Int.toNat_natCast, ge_iff_le, gt_iff_lt, List.length_cons, List.length_nil, bl_up2_at, bl_up2_nk, bl_up2_nx, zI_toInt] at h58
           first
           | (exfalso; omega)
           | (refine ⟨kb, _, bl_vs rb_0, kg, _, bl_vs rg_0, kg, _, bl_vs rg_0, kga, rfl, rfl, kba, (Nat.le_of_ble_eq_true rfl), (0, 0), Nat.le_refl _, Nat.le_refl _, bl_MC_mono (c_Side_partOf (d := d + 1) hBA hGA (by omega) a1 (fr := 0) (c := S.1.1) rfl (by first | with_reducible rfl | ((try dsimp only [bl_pv]); simp (disch := omega) only [ea, zI_n, zI_o, zI_lit, zI_neg, zI_add, zI_sub, zI_mul, zI_lt, zI_le, zI_eq, zI_clamp, zI_in, zI_div, zI_rem, lg_lt0, lg_gt0, lg_eq0, lg_le0, lg_ge0, Int.toNat_natCast, ge_iff_le, gt_iff_lt, List.length_cons, List.length_nil, bl_up2_at, bl_up2_nk, bl_up2_nx] <;> omega)) (by omega)) (fun o262 σ262 q262 => ?_)⟩
              try dsimp only [bl_pv] at q262
              obtain ⟨rfl, I2, J2, rfl, m2, t2⟩ := q262
              rw [sd_part_0] at t2
              refine bl_go oX7_becomeOf 80 [24] rfl ?_
              try show _ ∧ _
              try dsimp only [bl_pv]
              have b2 : ∀ j, J2 b j = J1 b j := fun j => by rw [m2.2 b (by omega) (by omega)]
              refine ⟨rfl, _, _, rfl, fun x hx => ?_, ?_, ?_, ?_⟩
              · unfold slN at hx
                refine ⟨by rw [m2.1 x (by omega), m1.1 x (by omega)], ?_⟩
                skip
                rw [m2.2 x (by omega) (by omega), m1.2 x (by omega) (by omega), hJ0 x (by omega)]
              · exact t2.same rfl (by rfl) (by rfl)
              · exact (t1.other m2 hBA hBD (by omega)).same rfl (by rfl) (by rfl)
              · rw [b2, b2, b2, b1, b1, b1, j2, j3, j4]
                exact ⟨by trivial, by trivial, by trivial⟩)
         · try simp (disch := omega) only [cA.1, cD.1, zI_n, zI_o, zI_lit, zI_neg, zI_add, zI_sub, zI_mul, zI_lt, zI_le, zI_eq, zI_clamp, zI_in, zI_div, zI_rem, lg_lt0, lg_gt0, lg_eq0, lg_le0, lg_ge0, Int.toNat_natCast, ge_iff_le, gt_iff_lt, List.length_cons, List.length_nil, bl_up2_at, bl_up2_nk, bl_up2_nx, zI_toInt] at h58
           match j58, ho58, h58 with
           | 0, ho58, h58 =>
             cases ho58
             first
             | (exfalso; omega)
             | (refine ⟨kb, _, bl_vs rb_0, kg, _, bl_vs rg_0, rfl, rfl, kba, (Nat.le_of_ble_eq_true rfl), (0, 0), Nat.le_refl _, Nat.le_refl _, ?_⟩
                fail /- c105: mX6_rollOf -/)
           | 1, ho58, h58 =>
             cases ho58
             first
             | (exfalso; omega)
             | (refine ⟨kb, _, bl_vs rb_0, kg, _, bl_vs rg_0, rfl, rfl, kba, (Nat.le_of_ble_eq_true rfl), (0, 0), Nat.le_refl _, Nat.le_refl _, ?_⟩
                fail /- c142: mX6_foldOf -/)
           | 2, ho58, h58 =>
             cases ho58
             first
             | (exfalso; omega)
             | (refine ⟨kb, _, bl_vs rb_0, kg, _, bl_vs rg_0, rfl, rfl, kba, (Nat.le_of_ble_eq_true rfl), (0, 0), Nat.le_refl _, Nat.le_refl _, ?_⟩
                fail /- c171: mX6_bookOf -/)
           | 3, ho58, h58 =>
             cases ho58
             first
             | (exfalso; omega)
             | (refine ⟨kb, _, bl_vs rb_0, kg, _, bl_vs rg_0, rfl, rfl, kba, (Nat.le_of_ble_eq_true rfl), (0, 0), Nat.le_refl _, Nat.le_refl _, ?_⟩
                fail /- c199: mX6_tuckOf -/)
           | 4, ho58, h58 =>
             cases ho58
             first
             | (exfalso; omega)
             | (refine ⟨kg, _, bl_vs rg_0, rfl, rfl, kb, (Nat.le_of_ble_eq_true rfl), (0, 0), Nat.le_refl _, Nat.le_refl _, ?_⟩
                fail /- c218: mX7_cutOf -/)
           | 5, ho58, h58 =>
             cases ho58
             first
             | (exfalso; omega)
             | (refine ⟨kb, _, bl_vs rb_0, kg, _, bl_vs rg_1, kg, _, bl_vs rg_1, kgd, rfl, rfl, kba, (Nat.le_of_ble_eq_true rfl), (0, 0), Nat.le_refl _, Nat.le_refl _, ?_⟩
                fail /- c240: mX6_partOf -/)
           | _ + 6, ho58, _ => exact absurd ho58 (by simp))
    · try simp (disch := omega) only [cA.1, cD.1, zI_n, zI_o, zI_lit, zI_neg, zI_add, zI_sub, zI_mul, zI_lt, zI_le, zI_eq, zI_clamp, zI_in, zI_div, zI_rem, lg_lt0, lg_gt0, lg_eq0, lg_le0, lg_ge0, Int.toNat_natCast, ge_iff_le, gt_iff_lt, List.length_cons, List.length_nil, bl_up2_at, bl_up2_nk, bl_up2_nx] at h26
      first
      | (exfalso; omega)
      | (refine ⟨kg, _, bl_vs rg_0, kb, _, bl_vs rb_1, kga, rfl, rfl, kbd, (Nat.le_of_ble_eq_true rfl), (0, 0), Nat.le_refl _, Nat.le_refl _, bl_MC_mono (c_Side_partOf hBD hGD (by omega) cD0 (fr := 0) (c := S.2.1.1) rfl (by first | with_reducible rfl | ((try dsimp only [bl_pv]); simp (disch := omega) only [cA.1, cD.1, zI_n, zI_o, zI_lit, zI_neg, zI_add, zI_sub, zI_mul, zI_lt, zI_le, zI_eq, zI_clamp, zI_in, zI_div, zI_rem, lg_lt0, lg_gt0, lg_eq0, lg_le0, lg_ge0, Int.toNat_natCast, ge_iff_le, gt_iff_lt, List.length_cons, List.length_nil, bl_up2_at, bl_up2_nk, bl_up2_nx] <;> omega)) (by omega)) (fun o54 σ54 q54 => ?_)⟩
         try dsimp only [bl_pv] at q54
         obtain ⟨rfl, I1, J1, rfl, m1, t1⟩ := q54
         rw [sd_part_0] at t1
         have a1 : sdC I1 J1 (2 * g) S.1 := cA0.other m1 hBD hGA (by omega)
         have d1 : sdC I1 J1 (2 * g + 1) S.2.1 := cD0.other m1 hBD hGD (by omega)
         have b1 : ∀ j, J1 b j = J0 b j := fun j => by rw [m1.2 b (by omega) (by omega)]
         have ea := a1.1
         have ed := t1.1
         refine bl_go oX7_becomeOf 80 [24] rfl ?_
         refine ⟨fun h58 => ?_, fun j58 o58 ho58 h58 _ => ?_⟩
         · try simp (disch := omega) only [cA.1, cD.1, zI_n, zI_o, zI_lit, zI_neg, zI_add, zI_sub, zI_mul, zI_lt, zI_le, zI_eq, zI_clamp, zI_in, zI_div, zI_rem, lg_lt0, lg_gt0, lg_eq0, lg_le0, lg_ge0, Int.toNat_natCast, ge_iff_le, gt_iff_lt, List.length_cons, List.length_nil, bl_up2_at, bl_up2_nk, bl_up2_nx, zI_toInt] at h58
           first
           | (exfalso; omega)
           | (refine ⟨kb, _, bl_vs rb_0, kg, _, bl_vs rg_0, kg, _, bl_vs rg_0, kga, rfl, rfl, kba, (Nat.le_of_ble_eq_true rfl), (0, 0), Nat.le_refl _, Nat.le_refl _, bl_MC_mono (c_Side_partOf (d := d + 1) hBA hGA (by omega) a1 (fr := 0) (c := S.1.1) rfl (by first | with_reducible rfl | ((try dsimp only [bl_pv]); simp (disch := omega) only [ea, zI_n, zI_o, zI_lit, zI_neg, zI_add, zI_sub, zI_mul, zI_lt, zI_le, zI_eq, zI_clamp, zI_in, zI_div, zI_rem, lg_lt0, lg_gt0, lg_eq0, lg_le0, lg_ge0, Int.toNat_natCast, ge_iff_le, gt_iff_lt, List.length_cons, List.length_nil, bl_up2_at, bl_up2_nk, bl_up2_nx] <;> omega)) (by omega)) (fun o262 σ262 q262 => ?_)⟩
              try dsimp only [bl_pv] at q262
              obtain ⟨rfl, I2, J2, rfl, m2, t2⟩ := q262
              rw [sd_part_0] at t2
              refine bl_go oX7_becomeOf 80 [24] rfl ?_
              try show _ ∧ _
              try dsimp only [bl_pv]
              have b2 : ∀ j, J2 b j = J1 b j := fun j => by rw [m2.2 b (by omega) (by omega)]
              refine ⟨rfl, _, _, rfl, fun x hx => ?_, ?_, ?_, ?_⟩
              · unfold slN at hx
                refine ⟨by rw [m2.1 x (by omega), m1.1 x (by omega)], ?_⟩
                skip
                rw [m2.2 x (by omega) (by omega), m1.2 x (by omega) (by omega), hJ0 x (by omega)]
              · exact t2.same rfl (by rfl) (by rfl)
              · exact (t1.other m2 hBA hBD (by omega)).same rfl (by rfl) (by rfl)
              · rw [b2, b2, b2, b1, b1, b1, j2, j3, j4]
                exact ⟨by trivial, by trivial, by trivial⟩)
         · try simp (disch := omega) only [cA.1, cD.1, zI_n, zI_o, zI_lit, zI_neg, zI_add, zI_sub, zI_mul, zI_lt, zI_le, zI_eq, zI_clamp, zI_in, zI_div, zI_rem, lg_lt0, lg_gt0, lg_eq0, lg_le0, lg_ge0, Int.toNat_natCast, ge_iff_le, gt_iff_lt, List.length_cons, List.length_nil, bl_up2_at, bl_up2_nk, bl_up2_nx, zI_toInt] at h58
           match j58, ho58, h58 with
           | 0, ho58, h58 =>
             cases ho58
             first
             | (exfalso; omega)
             | (refine ⟨kb, _, bl_vs rb_0, kg, _, bl_vs rg_0, rfl, rfl, kba, (Nat.le_of_ble_eq_true rfl), (0, 0), Nat.le_refl _, Nat.le_refl _, ?_⟩
                fail /- c105: mX6_rollOf -/)
           | 1, ho58, h58 =>
             cases ho58
             first
             | (exfalso; omega)
             | (refine ⟨kb, _, bl_vs rb_0, kg, _, bl_vs rg_0, rfl, rfl, kba, (Nat.le_of_ble_eq_true rfl), (0, 0), Nat.le_refl _, Nat.le_refl _, ?_⟩
                fail /- c142: mX6_foldOf -/)
           | 2, ho58, h58 =>
             cases ho58
             first
             | (exfalso; omega)
             | (refine ⟨kb, _, bl_vs rb_0, kg, _, bl_vs rg_0, rfl, rfl, kba, (Nat.le_of_ble_eq_true rfl), (0, 0), Nat.le_refl _, Nat.le_refl _, ?_⟩
                fail /- c171: mX6_bookOf -/)
           | 3, ho58, h58 =>
             cases ho58
             first
             | (exfalso; omega)
             | (refine ⟨kb, _, bl_vs rb_0, kg, _, bl_vs rg_0, rfl, rfl, kba, (Nat.le_of_ble_eq_true rfl), (0, 0), Nat.le_refl _, Nat.le_refl _, ?_⟩
                fail /- c199: mX6_tuckOf -/)
           | 4, ho58, h58 =>
             cases ho58
             first
             | (exfalso; omega)
             | (refine ⟨kg, _, bl_vs rg_0, rfl, rfl, kb, (Nat.le_of_ble_eq_true rfl), (0, 0), Nat.le_refl _, Nat.le_refl _, ?_⟩
                fail /- c218: mX7_cutOf -/)
           | 5, ho58, h58 =>
             cases ho58
             first
             | (exfalso; omega)
             | (refine ⟨kb, _, bl_vs rb_0, kg, _, bl_vs rg_1, kg, _, bl_vs rg_1, kgd, rfl, rfl, kba, (Nat.le_of_ble_eq_true rfl), (0, 0), Nat.le_refl _, Nat.le_refl _, ?_⟩
                fail /- c240: mX6_partOf -/)
           | _ + 6, ho58, _ => exact absurd ho58 (by simp))
  refine bl_go oX7_becomeOf 80 [24] rfl ?_
  refine ⟨kg, kb, Or.inr (Or.inl ⟨rfl, rfl, _, rfl⟩), (fun h => by cases h), kg, kb, Or.inr (Or.inl ⟨rfl, rfl, _, rfl⟩), (fun h => by cases h), kg, kb, Or.inr (Or.inl ⟨rfl, rfl, _, rfl⟩), (fun h => by cases h), ?_⟩
  try dsimp only [bl_pv]
  refine L _ (fun x hx => ?_) ?_ ?_ ?_
  · rw [bl_up2_ne hx, bl_up2_ne hx, bl_up2_ne hx]
  · simp (disch := omega) only [bl_up2_at, bl_up2_nk]; exact cT
  · simp (disch := omega) only [bl_up2_at, bl_up2_nk, bl_up2_nx]; exact cL
  · simp (disch := omega) only [bl_up2_at, bl_up2_nk, bl_up2_nx]; exact cC
theorem c_Slab_become_7 {S : sl} {n : Nat} {x y : Int32} (hs : slS R K N b) (hg : slS R K N g) (hbg : b ≠ g) (hC : slC I J g S) (hx : x = nI 7) (hy : y = nI n) (hk : st_ok 7 n) (hcan : sl_can 7 n S.1.1) : bl_MC G l (d + 2) mX7_becomeOf [.ref b, .ref g, .int x, .int y] (I, J, R, K, N) (0, 0) (fun o σ' => o = .inl none ∧ ∃ I' J', σ' = (I', J', R, K, N) ∧ slM I I' J J' b ∧ slC I' J' b (sl_step S 7 n)) := by
  have hs' := hs; have hg' := hg
  obtain ⟨hr1, kb, rb_0, rb_1, hBA, hBD⟩ := hs
  obtain ⟨hr2, kg, rg_0, rg_1, hGA, hGD⟩ := hg
  have kba := hBA.2.1
  have kbd := hBD.2.1
  have kga := hGA.2.1
  have kgd := hGD.2.1
  obtain ⟨cA, cD, cT, cL, cC⟩ := hC
  obtain ⟨hk1, hk2, hk3, hk4⟩ := hk
  have cA1 := cA.2.1
  have cD1 := cD.2.1
  simp only [sl_can] at hcan
  subst hx hy
  refine bl_MC_intro (by decide +kernel) rfl (Nat.le_of_ble_eq_true rfl) ?_
  have L : ∀ J0, (∀ x, x ≠ b → J0 x = J x) → J0 b 2 = nJ S.2.2.1 → J0 b 3 = nJ S.2.2.2.1 → J0 b 4 = nJ S.2.2.2.2 → bl_WP G l (d + 2) mX7_becomeOf 24 [(0, .ref b), (1, .ref g), (2, .int (nI 7)), (3, .int (nI n))] [] (I, J0, R, K, N) (0, 0) (fun o σ' => o = .inl none ∧ ∃ I' J', σ' = (I', J', R, K, N) ∧ slM I I' J J' b ∧ slC I' J' b (sl_step S 7 n)) := by
    intro J0 hJ0 j2 j3 j4
    have cA0 : sdC I J0 (2 * g) S.1 := cA.same rfl (hJ0 _ (by omega)) (hJ0 _ (by omega))
    have cD0 : sdC I J0 (2 * g + 1) S.2.1 := cD.same rfl (hJ0 _ (by omega)) (hJ0 _ (by omega))
    refine bl_go oX7_becomeOf 80 [24] rfl ?_
    refine ⟨fun h26 => ?_, fun h26 => ?_⟩
    · try simp (disch := omega) only [cA.1, cD.1, zI_n, zI_o, zI_lit, zI_neg, zI_add, zI_sub, zI_mul, zI_lt, zI_le, zI_eq, zI_clamp, zI_in, zI_div, zI_rem, lg_lt0, lg_gt0, lg_eq0, lg_le0, lg_ge0, Int.toNat_natCast, ge_iff_le, gt_iff_lt, List.length_cons, List.length_nil, bl_up2_at, bl_up2_nk, bl_up2_nx] at h26
      first
      | (exfalso; omega)
      | (refine ⟨kg, _, bl_vs rg_1, kb, _, bl_vs rb_1, kgd, rfl, rfl, kbd, (Nat.le_of_ble_eq_true rfl), (0, 0), Nat.le_refl _, Nat.le_refl _, bl_MC_mono (c_Side_partOf hBD hGD (by omega) cD0 (fr := 0) (c := S.2.1.1) rfl (by first | with_reducible rfl | ((try dsimp only [bl_pv]); simp (disch := omega) only [cA.1, cD.1, zI_n, zI_o, zI_lit, zI_neg, zI_add, zI_sub, zI_mul, zI_lt, zI_le, zI_eq, zI_clamp, zI_in, zI_div, zI_rem, lg_lt0, lg_gt0, lg_eq0, lg_le0, lg_ge0, Int.toNat_natCast, ge_iff_le, gt_iff_lt, List.length_cons, List.length_nil, bl_up2_at, bl_up2_nk, bl_up2_nx] <;> omega)) (by omega)) (fun o54 σ54 q54 => ?_)⟩
         try dsimp only [bl_pv] at q54
         obtain ⟨rfl, I1, J1, rfl, m1, t1⟩ := q54
         rw [sd_part_0] at t1
         have a1 : sdC I1 J1 (2 * g) S.1 := cA0.other m1 hBD hGA (by omega)
         have d1 : sdC I1 J1 (2 * g + 1) S.2.1 := cD0.other m1 hBD hGD (by omega)
         have b1 : ∀ j, J1 b j = J0 b j := fun j => by rw [m1.2 b (by omega) (by omega)]
         have ea := a1.1
         have ed := t1.1
         refine bl_go oX7_becomeOf 80 [24] rfl ?_
         refine ⟨fun h58 => ?_, fun j58 o58 ho58 h58 _ => ?_⟩
         · try simp (disch := omega) only [cA.1, cD.1, zI_n, zI_o, zI_lit, zI_neg, zI_add, zI_sub, zI_mul, zI_lt, zI_le, zI_eq, zI_clamp, zI_in, zI_div, zI_rem, lg_lt0, lg_gt0, lg_eq0, lg_le0, lg_ge0, Int.toNat_natCast, ge_iff_le, gt_iff_lt, List.length_cons, List.length_nil, bl_up2_at, bl_up2_nk, bl_up2_nx, zI_toInt] at h58
           first
           | (exfalso; omega)
           | (refine ⟨kb, _, bl_vs rb_0, kg, _, bl_vs rg_0, kg, _, bl_vs rg_0, kga, rfl, rfl, kba, (Nat.le_of_ble_eq_true rfl), (0, 0), Nat.le_refl _, Nat.le_refl _, bl_MC_mono (c_Side_partOf (d := d + 1) hBA hGA (by omega) a1 (fr := 0) (c := S.1.1) rfl (by first | with_reducible rfl | ((try dsimp only [bl_pv]); simp (disch := omega) only [ea, zI_n, zI_o, zI_lit, zI_neg, zI_add, zI_sub, zI_mul, zI_lt, zI_le, zI_eq, zI_clamp, zI_in, zI_div, zI_rem, lg_lt0, lg_gt0, lg_eq0, lg_le0, lg_ge0, Int.toNat_natCast, ge_iff_le, gt_iff_lt, List.length_cons, List.length_nil, bl_up2_at, bl_up2_nk, bl_up2_nx] <;> omega)) (by omega)) (fun o262 σ262 q262 => ?_)⟩
              try dsimp only [bl_pv] at q262
              obtain ⟨rfl, I2, J2, rfl, m2, t2⟩ := q262
              rw [sd_part_0] at t2
              refine bl_go oX7_becomeOf 80 [24] rfl ?_
              try show _ ∧ _
              try dsimp only [bl_pv]
              have b2 : ∀ j, J2 b j = J1 b j := fun j => by rw [m2.2 b (by omega) (by omega)]
              refine ⟨rfl, _, _, rfl, fun x hx => ?_, ?_, ?_, ?_⟩
              · unfold slN at hx
                refine ⟨by rw [m2.1 x (by omega), m1.1 x (by omega)], ?_⟩
                skip
                rw [m2.2 x (by omega) (by omega), m1.2 x (by omega) (by omega), hJ0 x (by omega)]
              · exact t2.same rfl (by rfl) (by rfl)
              · exact (t1.other m2 hBA hBD (by omega)).same rfl (by rfl) (by rfl)
              · rw [b2, b2, b2, b1, b1, b1, j2, j3, j4]
                exact ⟨by trivial, by trivial, by trivial⟩)
         · try simp (disch := omega) only [cA.1, cD.1, zI_n, zI_o, zI_lit, zI_neg, zI_add, zI_sub, zI_mul, zI_lt, zI_le, zI_eq, zI_clamp, zI_in, zI_div, zI_rem, lg_lt0, lg_gt0, lg_eq0, lg_le0, lg_ge0, Int.toNat_natCast, ge_iff_le, gt_iff_lt, List.length_cons, List.length_nil, bl_up2_at, bl_up2_nk, bl_up2_nx, zI_toInt] at h58
           match j58, ho58, h58 with
           | 0, ho58, h58 =>
             cases ho58
             first
             | (exfalso; omega)
             | (refine ⟨kb, _, bl_vs rb_0, kg, _, bl_vs rg_0, rfl, rfl, kba, (Nat.le_of_ble_eq_true rfl), (0, 0), Nat.le_refl _, Nat.le_refl _, ?_⟩
                fail /- c105: mX6_rollOf -/)
           | 1, ho58, h58 =>
             cases ho58
             first
             | (exfalso; omega)
             | (refine ⟨kb, _, bl_vs rb_0, kg, _, bl_vs rg_0, rfl, rfl, kba, (Nat.le_of_ble_eq_true rfl), (0, 0), Nat.le_refl _, Nat.le_refl _, ?_⟩
                fail /- c142: mX6_foldOf -/)
           | 2, ho58, h58 =>
             cases ho58
             first
             | (exfalso; omega)
             | (refine ⟨kb, _, bl_vs rb_0, kg, _, bl_vs rg_0, rfl, rfl, kba, (Nat.le_of_ble_eq_true rfl), (0, 0), Nat.le_refl _, Nat.le_refl _, ?_⟩
                fail /- c171: mX6_bookOf -/)
           | 3, ho58, h58 =>
             cases ho58
             first
             | (exfalso; omega)
             | (refine ⟨kb, _, bl_vs rb_0, kg, _, bl_vs rg_0, rfl, rfl, kba, (Nat.le_of_ble_eq_true rfl), (0, 0), Nat.le_refl _, Nat.le_refl _, ?_⟩
                fail /- c199: mX6_tuckOf -/)
           | 4, ho58, h58 =>
             cases ho58
             first
             | (exfalso; omega)
             | (refine ⟨kg, _, bl_vs rg_0, rfl, rfl, kb, (Nat.le_of_ble_eq_true rfl), (0, 0), Nat.le_refl _, Nat.le_refl _, ?_⟩
                fail /- c218: mX7_cutOf -/)
           | 5, ho58, h58 =>
             cases ho58
             first
             | (exfalso; omega)
             | (refine ⟨kb, _, bl_vs rb_0, kg, _, bl_vs rg_1, kg, _, bl_vs rg_1, kgd, rfl, rfl, kba, (Nat.le_of_ble_eq_true rfl), (0, 0), Nat.le_refl _, Nat.le_refl _, ?_⟩
                fail /- c240: mX6_partOf -/)
           | _ + 6, ho58, _ => exact absurd ho58 (by simp))
    · try simp (disch := omega) only [cA.1, cD.1, zI_n, zI_o, zI_lit, zI_neg, zI_add, zI_sub, zI_mul, zI_lt, zI_le, zI_eq, zI_clamp, zI_in, zI_div, zI_rem, lg_lt0, lg_gt0, lg_eq0, lg_le0, lg_ge0, Int.toNat_natCast, ge_iff_le, gt_iff_lt, List.length_cons, List.length_nil, bl_up2_at, bl_up2_nk, bl_up2_nx] at h26
      first
      | (exfalso; omega)
      | (refine ⟨kg, _, bl_vs rg_0, kb, _, bl_vs rb_1, kga, rfl, rfl, kbd, (Nat.le_of_ble_eq_true rfl), (0, 0), Nat.le_refl _, Nat.le_refl _, bl_MC_mono (c_Side_partOf hBD hGD (by omega) cD0 (fr := 0) (c := S.2.1.1) rfl (by first | with_reducible rfl | ((try dsimp only [bl_pv]); simp (disch := omega) only [cA.1, cD.1, zI_n, zI_o, zI_lit, zI_neg, zI_add, zI_sub, zI_mul, zI_lt, zI_le, zI_eq, zI_clamp, zI_in, zI_div, zI_rem, lg_lt0, lg_gt0, lg_eq0, lg_le0, lg_ge0, Int.toNat_natCast, ge_iff_le, gt_iff_lt, List.length_cons, List.length_nil, bl_up2_at, bl_up2_nk, bl_up2_nx] <;> omega)) (by omega)) (fun o54 σ54 q54 => ?_)⟩
         try dsimp only [bl_pv] at q54
         obtain ⟨rfl, I1, J1, rfl, m1, t1⟩ := q54
         rw [sd_part_0] at t1
         have a1 : sdC I1 J1 (2 * g) S.1 := cA0.other m1 hBD hGA (by omega)
         have d1 : sdC I1 J1 (2 * g + 1) S.2.1 := cD0.other m1 hBD hGD (by omega)
         have b1 : ∀ j, J1 b j = J0 b j := fun j => by rw [m1.2 b (by omega) (by omega)]
         have ea := a1.1
         have ed := t1.1
         refine bl_go oX7_becomeOf 80 [24] rfl ?_
         refine ⟨fun h58 => ?_, fun j58 o58 ho58 h58 _ => ?_⟩
         · try simp (disch := omega) only [cA.1, cD.1, zI_n, zI_o, zI_lit, zI_neg, zI_add, zI_sub, zI_mul, zI_lt, zI_le, zI_eq, zI_clamp, zI_in, zI_div, zI_rem, lg_lt0, lg_gt0, lg_eq0, lg_le0, lg_ge0, Int.toNat_natCast, ge_iff_le, gt_iff_lt, List.length_cons, List.length_nil, bl_up2_at, bl_up2_nk, bl_up2_nx, zI_toInt] at h58
           first
           | (exfalso; omega)
           | (refine ⟨kb, _, bl_vs rb_0, kg, _, bl_vs rg_0, kg, _, bl_vs rg_0, kga, rfl, rfl, kba, (Nat.le_of_ble_eq_true rfl), (0, 0), Nat.le_refl _, Nat.le_refl _, bl_MC_mono (c_Side_partOf (d := d + 1) hBA hGA (by omega) a1 (fr := 0) (c := S.1.1) rfl (by first | with_reducible rfl | ((try dsimp only [bl_pv]); simp (disch := omega) only [ea, zI_n, zI_o, zI_lit, zI_neg, zI_add, zI_sub, zI_mul, zI_lt, zI_le, zI_eq, zI_clamp, zI_in, zI_div, zI_rem, lg_lt0, lg_gt0, lg_eq0, lg_le0, lg_ge0, Int.toNat_natCast, ge_iff_le, gt_iff_lt, List.length_cons, List.length_nil, bl_up2_at, bl_up2_nk, bl_up2_nx] <;> omega)) (by omega)) (fun o262 σ262 q262 => ?_)⟩
              try dsimp only [bl_pv] at q262
              obtain ⟨rfl, I2, J2, rfl, m2, t2⟩ := q262
              rw [sd_part_0] at t2
              refine bl_go oX7_becomeOf 80 [24] rfl ?_
              try show _ ∧ _
              try dsimp only [bl_pv]
              have b2 : ∀ j, J2 b j = J1 b j := fun j => by rw [m2.2 b (by omega) (by omega)]
              refine ⟨rfl, _, _, rfl, fun x hx => ?_, ?_, ?_, ?_⟩
              · unfold slN at hx
                refine ⟨by rw [m2.1 x (by omega), m1.1 x (by omega)], ?_⟩
                skip
                rw [m2.2 x (by omega) (by omega), m1.2 x (by omega) (by omega), hJ0 x (by omega)]
              · exact t2.same rfl (by rfl) (by rfl)
              · exact (t1.other m2 hBA hBD (by omega)).same rfl (by rfl) (by rfl)
              · rw [b2, b2, b2, b1, b1, b1, j2, j3, j4]
                exact ⟨by trivial, by trivial, by trivial⟩)
         · try simp (disch := omega) only [cA.1, cD.1, zI_n, zI_o, zI_lit, zI_neg, zI_add, zI_sub, zI_mul, zI_lt, zI_le, zI_eq, zI_clamp, zI_in, zI_div, zI_rem, lg_lt0, lg_gt0, lg_eq0, lg_le0, lg_ge0, Int.toNat_natCast, ge_iff_le, gt_iff_lt, List.length_cons, List.length_nil, bl_up2_at, bl_up2_nk, bl_up2_nx, zI_toInt] at h58
           match j58, ho58, h58 with
           | 0, ho58, h58 =>
             cases ho58
             first
             | (exfalso; omega)
             | (refine ⟨kb, _, bl_vs rb_0, kg, _, bl_vs rg_0, rfl, rfl, kba, (Nat.le_of_ble_eq_true rfl), (0, 0), Nat.le_refl _, Nat.le_refl _, ?_⟩
                fail /- c105: mX6_rollOf -/)
           | 1, ho58, h58 =>
             cases ho58
             first
             | (exfalso; omega)
             | (refine ⟨kb, _, bl_vs rb_0, kg, _, bl_vs rg_0, rfl, rfl, kba, (Nat.le_of_ble_eq_true rfl), (0, 0), Nat.le_refl _, Nat.le_refl _, ?_⟩
                fail /- c142: mX6_foldOf -/)
           | 2, ho58, h58 =>
             cases ho58
             first
             | (exfalso; omega)
             | (refine ⟨kb, _, bl_vs rb_0, kg, _, bl_vs rg_0, rfl, rfl, kba, (Nat.le_of_ble_eq_true rfl), (0, 0), Nat.le_refl _, Nat.le_refl _, ?_⟩
                fail /- c171: mX6_bookOf -/)
           | 3, ho58, h58 =>
             cases ho58
             first
             | (exfalso; omega)
             | (refine ⟨kb, _, bl_vs rb_0, kg, _, bl_vs rg_0, rfl, rfl, kba, (Nat.le_of_ble_eq_true rfl), (0, 0), Nat.le_refl _, Nat.le_refl _, ?_⟩
                fail /- c199: mX6_tuckOf -/)
           | 4, ho58, h58 =>
             cases ho58
             first
             | (exfalso; omega)
             | (refine ⟨kg, _, bl_vs rg_0, rfl, rfl, kb, (Nat.le_of_ble_eq_true rfl), (0, 0), Nat.le_refl _, Nat.le_refl _, ?_⟩
                fail /- c218: mX7_cutOf -/)
           | 5, ho58, h58 =>
             cases ho58
             first
             | (exfalso; omega)
             | (refine ⟨kb, _, bl_vs rb_0, kg, _, bl_vs rg_1, kg, _, bl_vs rg_1, kgd, rfl, rfl, kba, (Nat.le_of_ble_eq_true rfl), (0, 0), Nat.le_refl _, Nat.le_refl _, ?_⟩
                fail /- c240: mX6_partOf -/)
           | _ + 6, ho58, _ => exact absurd ho58 (by simp))
  refine bl_go oX7_becomeOf 80 [24] rfl ?_
  refine ⟨kg, kb, Or.inr (Or.inl ⟨rfl, rfl, _, rfl⟩), (fun h => by cases h), kg, kb, Or.inr (Or.inl ⟨rfl, rfl, _, rfl⟩), (fun h => by cases h), kg, kb, Or.inr (Or.inl ⟨rfl, rfl, _, rfl⟩), (fun h => by cases h), ?_⟩
  try dsimp only [bl_pv]
  refine L _ (fun x hx => ?_) ?_ ?_ ?_
  · rw [bl_up2_ne hx, bl_up2_ne hx, bl_up2_ne hx]
  · simp (disch := omega) only [bl_up2_at, bl_up2_nk]; exact cT
  · simp (disch := omega) only [bl_up2_at, bl_up2_nk, bl_up2_nx]; exact cL
  · simp (disch := omega) only [bl_up2_at, bl_up2_nk, bl_up2_nx]; exact cC
theorem c_Slab_becomeOf {S : sl} {k n : Nat} {x y : Int32} (hs : slS R K N b) (hg : slS R K N g) (hbg : b ≠ g) (hC : slC I J g S) (hx : x = nI k) (hy : y = nI n) (hk : st_ok k n) (hcan : sl_can k n S.1.1) : bl_MC G l (d + 2) mX7_becomeOf [.ref b, .ref g, .int x, .int y] (I, J, R, K, N) (0, 0) (fun o σ' => o = .inl none ∧ ∃ I' J', σ' = (I', J', R, K, N) ∧ slM I I' J J' b ∧ slC I' J' b (sl_step S k n)) := by
  have hk0 := hk
  obtain ⟨h1, h2, h3, h4⟩ := hk
  have hn : n = 0 ∨ n = 1 ∨ n = 2 ∨ n = 3 ∨ n = 4 ∨ 4 < n := by omega
  match k, h1 with
  | 0, _ => exact c_Slab_become_0 hs hg hbg hC hx hy hk0 hcan
  | 1, _ =>
    have h3' := h3 (by omega)
    rcases hn with h | h | h | h | h | h
    · omega
    · omega
    · subst h; exact c_Slab_become_1_2 hs hg hbg hC hx hy hk0 hcan
    · subst h; exact c_Slab_become_1_3 hs hg hbg hC hx hy hk0 hcan
    · subst h; exact c_Slab_become_1_4 hs hg hbg hC hx hy hk0 hcan
    · omega
  | 2, _ => exact c_Slab_become_2 hs hg hbg hC hx hy hk0 hcan
  | 3, _ => exact c_Slab_become_3 hs hg hbg hC hx hy hk0 hcan
  | 4, _ => exact c_Slab_become_4 hs hg hbg hC hx hy hk0 hcan
  | 5, _ => exact c_Slab_become_5 hs hg hbg hC hx hy hk0 hcan
  | 6, _ => exact c_Slab_become_6 hs hg hbg hC hx hy hk0 hcan
  | 7, _ => exact c_Slab_become_7 hs hg hbg hC hx hy hk0 hcan
end SLAB2
