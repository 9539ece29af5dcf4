/-! ===== Side, the rest ===== -/
section SIDE2
variable {G : bl_G} {l : Launch} {d s f v : Nat} {I : Nat → Nat → Int32} {J : Nat → Nat → Int64} {R : Nat → Nat → Option Nat} {K N : Nat → Nat}
theorem c_Side_bookOf {S : sq} (hs : sdS R K N s) (hf : sdS R K N f) (hsf : s ≠ f) (hC : sdC I J f S) (hdv : S.1 % 4 = 0) : bl_MC G l (d + 1) mX6_bookOf [.ref s, .ref f] (I, J, R, K, N) (0, 0) (fun o σ' => o = .inl none ∧ ∃ I' J', σ' = (I', J', R, K, N) ∧ sdM I I' J J' s ∧ sdC I' J' s (S.1 / 4, bo4 S.1 S.2.1, bo4 S.1 S.2.2)) := by
  have hs' := hs; have hf' := hf; have hC' := hC
  obtain ⟨hr1, ks, rs_0, rs_1, kp, np, km, nm⟩ := hs
  obtain ⟨hr2, kf, rf_0, rf_1, kfp, nfp, kfm, nfm⟩ := hf
  obtain ⟨c0, c1, c2⟩ := hC
  refine bl_MC_intro (by decide +kernel) rfl (Nat.le_of_ble_eq_true rfl) ?_
  have L : ∀ i, i ≤ S.1 / 4 → ∀ x y I1 J1, x = nI i → y = nI (S.1 / 4) → sdM I I1 J J1 s → sdC I1 J1 s (S.1 / 4, (fun j => if j < i then bo4 S.1 S.2.1 j else S.2.1 (S.1 / 4 + j)), (fun j => if j < i then bo4 S.1 S.2.2 j else S.2.2 (S.1 / 4 + j))) → bl_WP G l (d + 1) mX6_bookOf 16 [(3, .int x), (2, .int y), (0, .ref s), (1, .ref f)] [] (I1, J1, R, K, N) (0, 0) (fun o σ' => o = .inl none ∧ ∃ I' J', σ' = (I', J', R, K, N) ∧ sdM I I' J J' s ∧ sdC I' J' s (S.1 / 4, bo4 S.1 S.2.1, bo4 S.1 S.2.2)) := by
    refine bl_for (S.1 / 4) ?_ (fun i hi ih => ?_)
    · intro x y I1 J1 hx hy hM hT; subst hx hy
      refine bl_go oX6_bookOf 80 [16] rfl ?_
      refine ⟨fun h18 => ?_, fun h18 => ?_⟩
      · try simp (disch := omega) only [zI_n, zI_o, zI_lit, zI_neg, zI_add, zI_sub, zI_mul, zI_lt, zI_le, zI_eq, zI_clamp, zI_in, zI_div, zI_rem, lg_lt0, lg_gt0, lg_eq0, lg_le0, lg_ge0, Int.toNat_natCast, ge_iff_le, gt_iff_lt, List.length_cons, List.length_nil, bl_up2_at, bl_up2_nk, bl_up2_nx] at h18
        try show _ ∧ _
        try dsimp only [bl_pv]
        refine ⟨rfl, _, _, rfl, hM, hT.congr rfl (fun j hj => ?_)⟩
        have hj' : j < S.1 / 4 := hj
        show (if j < S.1 / 4 then _ else _) = _ ∧ (if j < S.1 / 4 then _ else _) = _
        rw [if_pos hj', if_pos hj']; exact ⟨rfl, rfl⟩
      · try simp (disch := omega) only [zI_n, zI_o, zI_lit, zI_neg, zI_add, zI_sub, zI_mul, zI_lt, zI_le, zI_eq, zI_clamp, zI_in, zI_div, zI_rem, lg_lt0, lg_gt0, lg_eq0, lg_le0, lg_ge0, Int.toNat_natCast, ge_iff_le, gt_iff_lt, List.length_cons, List.length_nil, bl_up2_at, bl_up2_nk, bl_up2_nx] at h18
        exfalso; omega
    · intro x y I1 J1 hx hy hM hT; subst hx hy
      have hF := hC'.other hM hs' hf' hsf
      refine bl_go oX6_bookOf 80 [16] rfl ?_
      refine ⟨fun h18 => ?_, fun h18 => ?_⟩
      · try simp (disch := omega) only [zI_n, zI_o, zI_lit, zI_neg, zI_add, zI_sub, zI_mul, zI_lt, zI_le, zI_eq, zI_clamp, zI_in, zI_div, zI_rem, lg_lt0, lg_gt0, lg_eq0, lg_le0, lg_ge0, Int.toNat_natCast, ge_iff_le, gt_iff_lt, List.length_cons, List.length_nil, bl_up2_at, bl_up2_nk, bl_up2_nx] at h18
        exfalso; omega
      · try simp (disch := omega) only [zI_n, zI_o, zI_lit, zI_neg, zI_add, zI_sub, zI_mul, zI_lt, zI_le, zI_eq, zI_clamp, zI_in, zI_div, zI_rem, lg_lt0, lg_gt0, lg_eq0, lg_le0, lg_ge0, Int.toNat_natCast, ge_iff_le, gt_iff_lt, List.length_cons, List.length_nil, bl_up2_at, bl_up2_nk, bl_up2_nx] at h18
        refine ⟨rfl, rfl, ks, (Nat.le_of_ble_eq_true rfl), (0, 0), Nat.le_refl _, Nat.le_refl _, bl_MC_mono (c_Side_layOn hs' hf' hsf hT hF (to := i) (col := S.1 / 4 - 1 - i) rfl (by first | with_reducible rfl | ((try dsimp only [bl_pv]); simp (disch := omega) only [zI_n, zI_o, zI_lit, zI_neg, zI_add, zI_sub, zI_mul, zI_lt, zI_le, zI_eq, zI_clamp, zI_in, zI_div, zI_rem, lg_lt0, lg_gt0, lg_eq0, lg_le0, lg_ge0, Int.toNat_natCast, ge_iff_le, gt_iff_lt, List.length_cons, List.length_nil, bl_up2_at, bl_up2_nk, bl_up2_nx] <;> omega)) hi (by omega)) (fun o29 σ29 q29 => ?_)⟩
        try dsimp only [bl_pv] at q29
        obtain ⟨rfl, J2, rfl, m2, t2⟩ := q29
        have hF2 := hF.other m2 hs' hf' hsf
        refine bl_go oX6_bookOf 80 [16] rfl ?_
        refine ⟨rfl, rfl, ks, (Nat.le_of_ble_eq_true rfl), (0, 0), Nat.le_refl _, Nat.le_refl _, bl_MC_mono (c_Side_layOn hs' hf' hsf t2 hF2 (to := i) (col := 3 * (S.1 / 4) - 1 - i) rfl (by first | with_reducible rfl | ((try dsimp only [bl_pv]); simp (disch := omega) only [zI_n, zI_o, zI_lit, zI_neg, zI_add, zI_sub, zI_mul, zI_lt, zI_le, zI_eq, zI_clamp, zI_in, zI_div, zI_rem, lg_lt0, lg_gt0, lg_eq0, lg_le0, lg_ge0, Int.toNat_natCast, ge_iff_le, gt_iff_lt, List.length_cons, List.length_nil, bl_up2_at, bl_up2_nk, bl_up2_nx] <;> omega)) hi (by omega)) (fun o42 σ42 q42 => ?_)⟩
        try dsimp only [bl_pv] at q42
        obtain ⟨rfl, J3, rfl, m3, t3⟩ := q42
        have hF3 := hF2.other m3 hs' hf' hsf
        refine bl_go oX6_bookOf 80 [16] rfl ?_
        refine ⟨rfl, rfl, ks, (Nat.le_of_ble_eq_true rfl), (0, 0), Nat.le_refl _, Nat.le_refl _, bl_MC_mono (c_Side_layOn hs' hf' hsf t3 hF3 (to := i) (col := 3 * (S.1 / 4) + i) rfl (by first | with_reducible rfl | ((try dsimp only [bl_pv]); simp (disch := omega) only [zI_n, zI_o, zI_lit, zI_neg, zI_add, zI_sub, zI_mul, zI_lt, zI_le, zI_eq, zI_clamp, zI_in, zI_div, zI_rem, lg_lt0, lg_gt0, lg_eq0, lg_le0, lg_ge0, Int.toNat_natCast, ge_iff_le, gt_iff_lt, List.length_cons, List.length_nil, bl_up2_at, bl_up2_nk, bl_up2_nx] <;> omega)) hi (by omega)) (fun o53 σ53 q53 => ?_)⟩
        try dsimp only [bl_pv] at q53
        obtain ⟨rfl, J4, rfl, m4, t4⟩ := q53
        refine bl_go oX6_bookOf 80 [16] rfl ?_
        try dsimp only [bl_pv]
        refine ih _ _ _ _ (nI_1 i) rfl (((hM.trans m2).trans m3).trans m4) (t4.congr rfl (fun j hj => ?_))
        have hj' : j < S.1 / 4 := hj
        by_cases e : j = i
        · subst e; simp [sd_on, bo4]
        · have e2 : j < i + 1 ↔ j < i := by omega
          simp [sd_on, e, e2]
  refine bl_go oX6_bookOf 80 [16] rfl ?_
  refine ⟨kf, (by first | decide | (simp (disch := omega) only [c0, zI_n, zI_o, zI_lit, zI_neg, zI_add, zI_sub, zI_mul, zI_lt, zI_le, zI_eq, zI_clamp, zI_in, zI_div, zI_rem, lg_lt0, lg_gt0, lg_eq0, lg_le0, lg_ge0, Int.toNat_natCast, ge_iff_le, gt_iff_lt, List.length_cons, List.length_nil, bl_up2_at, bl_up2_nk, bl_up2_nx] <;> omega)), rfl, rfl, ks, (Nat.le_of_ble_eq_true rfl), (0, 0), Nat.le_refl _, Nat.le_refl _, bl_MC_mono (c_Side_partOf hs' hf' hsf hC' (fr := S.1 / 4) (c := S.1 / 4) (by first | with_reducible rfl | ((try dsimp only [bl_pv]); simp (disch := omega) only [c0, zI_n, zI_o, zI_lit, zI_neg, zI_add, zI_sub, zI_mul, zI_lt, zI_le, zI_eq, zI_clamp, zI_in, zI_div, zI_rem, lg_lt0, lg_gt0, lg_eq0, lg_le0, lg_ge0, Int.toNat_natCast, ge_iff_le, gt_iff_lt, List.length_cons, List.length_nil, bl_up2_at, bl_up2_nk, bl_up2_nx] <;> omega)) (by first | with_reducible rfl | ((try dsimp only [bl_pv]); simp (disch := omega) only [c0, zI_n, zI_o, zI_lit, zI_neg, zI_add, zI_sub, zI_mul, zI_lt, zI_le, zI_eq, zI_clamp, zI_in, zI_div, zI_rem, lg_lt0, lg_gt0, lg_eq0, lg_le0, lg_ge0, Int.toNat_natCast, ge_iff_le, gt_iff_lt, List.length_cons, List.length_nil, bl_up2_at, bl_up2_nk, bl_up2_nx] <;> omega)) (by omega)) (fun o11 σ11 q11 => ?_)⟩
  try dsimp only [bl_pv] at q11
  obtain ⟨rfl, I2, J2, rfl, m2, t2⟩ := q11
  refine bl_go oX6_bookOf 80 [16] rfl ?_
  try dsimp only [bl_pv]
  refine L 0 (by omega) _ _ _ _ rfl (by first | with_reducible rfl | ((try dsimp only [bl_pv]); simp (disch := omega) only [c0, zI_n, zI_o, zI_lit, zI_neg, zI_add, zI_sub, zI_mul, zI_lt, zI_le, zI_eq, zI_clamp, zI_in, zI_div, zI_rem, lg_lt0, lg_gt0, lg_eq0, lg_le0, lg_ge0, Int.toNat_natCast, ge_iff_le, gt_iff_lt, List.length_cons, List.length_nil, bl_up2_at, bl_up2_nk, bl_up2_nx] <;> omega)) m2 (t2.congr rfl (fun j hj => ⟨?_, ?_⟩)) <;> simp [sd_part]
theorem c_Side_tuckOf {S : sq} {n : Nat} {x : Int32} (hs : sdS R K N s) (hf : sdS R K N f) (hsf : s ≠ f) (hC : sdC I J f S) (hx : x = nI n) (hdv : 4 * n ≤ S.1) (hn : n ≤ 48) : bl_MC G l (d + 1) mX6_tuckOf [.ref s, .ref f, .int x] (I, J, R, K, N) (0, 0) (fun o σ' => o = .inl none ∧ ∃ I' J', σ' = (I', J', R, K, N) ∧ sdM I I' J J' s ∧ sdC I' J' s (S.1 - 2 * n, tu1 n S.1 S.2.1, tu1 n S.1 S.2.2)) := by
  have hs' := hs; have hf' := hf; have hC' := hC
  obtain ⟨hr1, ks, rs_0, rs_1, kp, np, km, nm⟩ := hs
  obtain ⟨hr2, kf, rf_0, rf_1, kfp, nfp, kfm, nfm⟩ := hf
  obtain ⟨c0, c1, c2⟩ := hC
  subst hx
  refine bl_MC_intro (by decide +kernel) rfl (Nat.le_of_ble_eq_true rfl) ?_
  have L : ∀ i, i ≤ n → ∀ x y I1 J1, x = nI i → y = nI (S.1 - 2 * n) → sdM I I1 J J1 s → sdC I1 J1 s (S.1 - 2 * n, (fun j => if j < i ∨ S.1 - 2 * n - i ≤ j then tu1 n S.1 S.2.1 j else S.2.1 (n + j)), (fun j => if j < i ∨ S.1 - 2 * n - i ≤ j then tu1 n S.1 S.2.2 j else S.2.2 (n + j))) → bl_WP G l (d + 1) mX6_tuckOf 19 [(4, .int x), (3, .int y), (0, .ref s), (1, .ref f), (2, .int (nI n))] [] (I1, J1, R, K, N) (0, 0) (fun o σ' => o = .inl none ∧ ∃ I' J', σ' = (I', J', R, K, N) ∧ sdM I I' J J' s ∧ sdC I' J' s (S.1 - 2 * n, tu1 n S.1 S.2.1, tu1 n S.1 S.2.2)) := by
    refine bl_for n ?_ (fun i hi ih => ?_)
    · intro x y I1 J1 hx hy hM hT; subst hx hy
      refine bl_go oX6_tuckOf 80 [19] rfl ?_
      refine ⟨fun h22 => ?_, fun h22 => ?_⟩
      · try simp (disch := omega) only [zI_n, zI_o, zI_lit, zI_neg, zI_add, zI_sub, zI_mul, zI_lt, zI_le, zI_eq, zI_clamp, zI_in, zI_div, zI_rem, lg_lt0, lg_gt0, lg_eq0, lg_le0, lg_ge0, Int.toNat_natCast, ge_iff_le, gt_iff_lt, List.length_cons, List.length_nil, bl_up2_at, bl_up2_nk, bl_up2_nx] at h22
        try show _ ∧ _
        try dsimp only [bl_pv]
        refine ⟨rfl, _, _, rfl, hM, hT.congr rfl (fun j hj => ?_)⟩
        have hj' : j < S.1 - 2 * n := hj
        show (if j < n ∨ S.1 - 2 * n - n ≤ j then _ else _) = _ ∧ (if j < n ∨ S.1 - 2 * n - n ≤ j then _ else _) = _
        by_cases e : j < n ∨ S.1 - 2 * n - n ≤ j
        · rw [if_pos e, if_pos e]; exact ⟨rfl, rfl⟩
        · rw [if_neg e, if_neg e]
          have e' : ∀ f, tu1 n S.1 f j = f (n + j) := fun f => by unfold tu1; rw [if_neg (by omega), if_neg (by omega)]
          exact ⟨(e' _).symm, (e' _).symm⟩
      · try simp (disch := omega) only [zI_n, zI_o, zI_lit, zI_neg, zI_add, zI_sub, zI_mul, zI_lt, zI_le, zI_eq, zI_clamp, zI_in, zI_div, zI_rem, lg_lt0, lg_gt0, lg_eq0, lg_le0, lg_ge0, Int.toNat_natCast, ge_iff_le, gt_iff_lt, List.length_cons, List.length_nil, bl_up2_at, bl_up2_nk, bl_up2_nx] at h22
        exfalso; omega
    · intro x y I1 J1 hx hy hM hT; subst hx hy
      have hF := hC'.other hM hs' hf' hsf
      refine bl_go oX6_tuckOf 80 [19] rfl ?_
      refine ⟨fun h22 => ?_, fun h22 => ?_⟩
      · try simp (disch := omega) only [hF.1, zI_n, zI_o, zI_lit, zI_neg, zI_add, zI_sub, zI_mul, zI_lt, zI_le, zI_eq, zI_clamp, zI_in, zI_div, zI_rem, lg_lt0, lg_gt0, lg_eq0, lg_le0, lg_ge0, Int.toNat_natCast, ge_iff_le, gt_iff_lt, List.length_cons, List.length_nil, bl_up2_at, bl_up2_nk, bl_up2_nx] at h22
        exfalso; omega
      · try simp (disch := omega) only [hF.1, zI_n, zI_o, zI_lit, zI_neg, zI_add, zI_sub, zI_mul, zI_lt, zI_le, zI_eq, zI_clamp, zI_in, zI_div, zI_rem, lg_lt0, lg_gt0, lg_eq0, lg_le0, lg_ge0, Int.toNat_natCast, ge_iff_le, gt_iff_lt, List.length_cons, List.length_nil, bl_up2_at, bl_up2_nk, bl_up2_nx] at h22
        refine ⟨rfl, rfl, ks, (Nat.le_of_ble_eq_true rfl), (0, 0), Nat.le_refl _, Nat.le_refl _, bl_MC_mono (c_Side_layOn hs' hf' hsf hT hF (to := i) (col := n - 1 - i) rfl (by first | with_reducible rfl | ((try dsimp only [bl_pv]); simp (disch := omega) only [zI_n, zI_o, zI_lit, zI_neg, zI_add, zI_sub, zI_mul, zI_lt, zI_le, zI_eq, zI_clamp, zI_in, zI_div, zI_rem, lg_lt0, lg_gt0, lg_eq0, lg_le0, lg_ge0, Int.toNat_natCast, ge_iff_le, gt_iff_lt, List.length_cons, List.length_nil, bl_up2_at, bl_up2_nk, bl_up2_nx] <;> omega)) (show i < S.1 - 2 * n by omega) (by omega)) (fun o35 σ35 q35 => ?_)⟩
        try dsimp only [bl_pv] at q35
        obtain ⟨rfl, J2, rfl, m2, t2⟩ := q35
        have hF2 := hF.other m2 hs' hf' hsf
        refine bl_go oX6_tuckOf 80 [19] rfl ?_
        refine ⟨kf, rfl, rfl, ks, (Nat.le_of_ble_eq_true rfl), (0, 0), Nat.le_refl _, Nat.le_refl _, bl_MC_mono (c_Side_layOn hs' hf' hsf t2 hF2 (to := S.1 - 2 * n - 1 - i) (col := S.1 - n + i) (by first | with_reducible rfl | ((try dsimp only [bl_pv]); simp (disch := omega) only [zI_n, zI_o, zI_lit, zI_neg, zI_add, zI_sub, zI_mul, zI_lt, zI_le, zI_eq, zI_clamp, zI_in, zI_div, zI_rem, lg_lt0, lg_gt0, lg_eq0, lg_le0, lg_ge0, Int.toNat_natCast, ge_iff_le, gt_iff_lt, List.length_cons, List.length_nil, bl_up2_at, bl_up2_nk, bl_up2_nx] <;> omega)) (by first | with_reducible rfl | ((try dsimp only [bl_pv]); simp (disch := omega) only [hF.1, zI_n, zI_o, zI_lit, zI_neg, zI_add, zI_sub, zI_mul, zI_lt, zI_le, zI_eq, zI_clamp, zI_in, zI_div, zI_rem, lg_lt0, lg_gt0, lg_eq0, lg_le0, lg_ge0, Int.toNat_natCast, ge_iff_le, gt_iff_lt, List.length_cons, List.length_nil, bl_up2_at, bl_up2_nk, bl_up2_nx] <;> omega)) (show S.1 - 2 * n - 1 - i < S.1 - 2 * n by omega) (by omega)) (fun o55 σ55 q55 => ?_)⟩
        try dsimp only [bl_pv] at q55
        obtain ⟨rfl, J3, rfl, m3, t3⟩ := q55
        refine bl_go oX6_tuckOf 80 [19] rfl ?_
        try dsimp only [bl_pv]
        refine ih _ _ _ _ (nI_1 i) rfl ((hM.trans m2).trans m3) (t3.congr rfl (fun j hj => ?_))
        have hj' : j < S.1 - 2 * n := hj
        by_cases e : j = i
        · subst e
          have e1 : j ≠ S.1 - 2 * n - 1 - j := by omega
          have e2 : ¬ (S.1 - 2 * n - j ≤ j) := by omega
          have e' : ∀ f, tu1 n S.1 f j = f (n + j) + f (n - 1 - j) := fun f => by unfold tu1; rw [if_pos hi]
          simp only [sd_on, if_neg e1, if_true, e2, Nat.lt_irrefl, or_self, if_false, Nat.lt_succ_self, true_or, e', and_self]
        · by_cases e1 : j = S.1 - 2 * n - 1 - i
          · have e2 : ¬ j < i := by omega
            have e3 : ¬ (S.1 - 2 * n - i ≤ j) := by omega
            have e4 : ¬ j < n := by omega
            have e5 : S.1 - 3 * n ≤ j := by omega
            have e6 : S.1 - 2 * n - (i + 1) ≤ j := by omega
            have e7 : S.1 - n + i = 2 * S.1 - 3 * n - 1 - j := by omega
            have e8 : ¬ j < i + 1 := by omega
            simp only [sd_on, if_neg e, if_pos e1, e2, e3, tu1, if_neg e4, if_pos e5, e6, e7, or_true, or_false, if_true, if_false, and_self]
          · have e2 : (j < i + 1 ∨ S.1 - 2 * n - (i + 1) ≤ j) ↔ (j < i ∨ S.1 - 2 * n - i ≤ j) := by omega
            simp only [sd_on, if_neg e, if_neg e1, e2, and_self]
  refine bl_go oX6_tuckOf 80 [19] rfl ?_
  refine ⟨kf, rfl, rfl, ks, (Nat.le_of_ble_eq_true rfl), (0, 0), Nat.le_refl _, Nat.le_refl _, bl_MC_mono (c_Side_partOf hs' hf' hsf hC' (fr := n) (c := S.1 - 2 * n) rfl (by first | with_reducible rfl | ((try dsimp only [bl_pv]); simp (disch := omega) only [c0, zI_n, zI_o, zI_lit, zI_neg, zI_add, zI_sub, zI_mul, zI_lt, zI_le, zI_eq, zI_clamp, zI_in, zI_div, zI_rem, lg_lt0, lg_gt0, lg_eq0, lg_le0, lg_ge0, Int.toNat_natCast, ge_iff_le, gt_iff_lt, List.length_cons, List.length_nil, bl_up2_at, bl_up2_nk, bl_up2_nx] <;> omega)) (by omega)) (fun o13 σ13 q13 => ?_)⟩
  try dsimp only [bl_pv] at q13
  obtain ⟨rfl, I2, J2, rfl, m2, t2⟩ := q13
  refine bl_go oX6_tuckOf 80 [19] rfl ?_
  try dsimp only [bl_pv]
  refine L 0 (by omega) _ _ _ _ rfl (by first | with_reducible rfl | ((try dsimp only [bl_pv]); simp (disch := omega) only [c0, zI_n, zI_o, zI_lit, zI_neg, zI_add, zI_sub, zI_mul, zI_lt, zI_le, zI_eq, zI_clamp, zI_in, zI_div, zI_rem, lg_lt0, lg_gt0, lg_eq0, lg_le0, lg_ge0, Int.toNat_natCast, ge_iff_le, gt_iff_lt, List.length_cons, List.length_nil, bl_up2_at, bl_up2_nk, bl_up2_nx] <;> omega)) m2 (t2.congr rfl (fun j hj => ?_))
  have hj' : j < S.1 - 2 * n := hj
  have e2 : ¬ (j < 0 ∨ S.1 - 2 * n - 0 ≤ j) := by omega
  simp only [sd_part, e2, if_false, and_self]
theorem c_Side_sheetsIn {S : sq} {fr c : Nat} {x y : Int32} (hs : sdS R K N s) (hC : sdC I J s S) (hx : x = nI fr) (hy : y = nI c) (hc : fr + c ≤ S.1) : bl_MC G l d mX6_sheetsIn [.ref s, .int x, .int y] (I, J, R, K, N) (0, 0) (fun o σ' => o = .inl (some (.long (nJ (smf (fun i => S.2.1 (fr + i)) c)))) ∧ σ' = (I, J, R, K, N)) := by
  obtain ⟨hr1, ks, rs_0, rs_1, kp, np, km, nm⟩ := hs
  obtain ⟨c0, c1, c2⟩ := hC
  subst hx hy
  refine bl_MC_intro (by decide +kernel) rfl (Nat.le_of_ble_eq_true rfl) ?_
  have L : ∀ i, i ≤ c → ∀ x z, x = nI (fr + i) → z = nJ (smf (fun i => S.2.1 (fr + i)) i) → bl_WP G l d mX6_sheetsIn 5 [(5, .int x), (3, .long z), (0, .ref s), (1, .int (nI fr)), (2, .int (nI c))] [] (I, J, R, K, N) (0, 0) (fun o σ' => o = .inl (some (.long (nJ (smf (fun i => S.2.1 (fr + i)) c)))) ∧ σ' = (I, J, R, K, N)) := by
    refine bl_for c ?_ (fun i hi ih => ?_)
    · intro x z hx hz; subst hx hz
      refine bl_go oX6_sheetsIn 80 [5] rfl ?_
      refine ⟨fun h10 => ?_, fun h10 => ?_⟩
      · try simp (disch := omega) only [zI_n, zI_o, zI_lit, zI_neg, zI_add, zI_sub, zI_mul, zI_lt, zI_le, zI_eq, zI_clamp, zI_in, zI_div, zI_rem, lg_lt0, lg_gt0, lg_eq0, lg_le0, lg_ge0, Int.toNat_natCast, ge_iff_le, gt_iff_lt, List.length_cons, List.length_nil, bl_up2_at, bl_up2_nk, bl_up2_nx] at h10
        first
        | (exfalso; omega)
        | (try show _ ∧ _
           try dsimp only [bl_pv]
           exact ⟨rfl, rfl⟩)
      · try simp (disch := omega) only [zI_n, zI_o, zI_lit, zI_neg, zI_add, zI_sub, zI_mul, zI_lt, zI_le, zI_eq, zI_clamp, zI_in, zI_div, zI_rem, lg_lt0, lg_gt0, lg_eq0, lg_le0, lg_ge0, Int.toNat_natCast, ge_iff_le, gt_iff_lt, List.length_cons, List.length_nil, bl_up2_at, bl_up2_nk, bl_up2_nx] at h10
        first
        | (exfalso; omega)
        | (refine ⟨fun h17 => ?_, fun h17 => ?_⟩
           · try simp (disch := omega) only [zI_n, zI_o, zI_lit, zI_neg, zI_add, zI_sub, zI_mul, zI_lt, zI_le, zI_eq, zI_clamp, zI_in, zI_div, zI_rem, lg_lt0, lg_gt0, lg_eq0, lg_le0, lg_ge0, Int.toNat_natCast, ge_iff_le, gt_iff_lt, List.length_cons, List.length_nil, bl_up2_at, bl_up2_nk, bl_up2_nx] at h17
             first
             | (exfalso; omega)
             | (try show _ ∧ _
                try dsimp only [bl_pv]
                exact ⟨rfl, rfl⟩)
           · try simp (disch := omega) only [zI_n, zI_o, zI_lit, zI_neg, zI_add, zI_sub, zI_mul, zI_lt, zI_le, zI_eq, zI_clamp, zI_in, zI_div, zI_rem, lg_lt0, lg_gt0, lg_eq0, lg_le0, lg_ge0, Int.toNat_natCast, ge_iff_le, gt_iff_lt, List.length_cons, List.length_nil, bl_up2_at, bl_up2_nk, bl_up2_nx] at h17
             first
             | (exfalso; omega)
             | (refine ⟨fun h23 => ?_, fun h23 => ?_⟩
                · try simp (disch := omega) only [zI_n, zI_o, zI_lit, zI_neg, zI_add, zI_sub, zI_mul, zI_lt, zI_le, zI_eq, zI_clamp, zI_in, zI_div, zI_rem, lg_lt0, lg_gt0, lg_eq0, lg_le0, lg_ge0, Int.toNat_natCast, ge_iff_le, gt_iff_lt, List.length_cons, List.length_nil, bl_up2_at, bl_up2_nk, bl_up2_nx] at h23
                  first
                  | (exfalso; omega)
                  | (refine ⟨ks, _, bl_vs rs_0, kp, (by first | exact (by rw [np]; exact vp_in_nI (by omega) (by omega)) | ((try dsimp only [bl_pv]); show vp_in _ (N _); rw [np]; simp (disch := omega) only [zI_n, zI_o, zI_lit, zI_neg, zI_add, zI_sub, zI_mul, zI_lt, zI_le, zI_eq, zI_clamp, zI_in, zI_div, zI_rem, lg_lt0, lg_gt0, lg_eq0, lg_le0, lg_ge0, Int.toNat_natCast, ge_iff_le, gt_iff_lt, List.length_cons, List.length_nil, bl_up2_at, bl_up2_nk, bl_up2_nx] <;> omega)), ?_⟩
                     try dsimp only [bl_pv]
                     fail /- w5 lv=[5, 3, 0, 1, 2] -/)
                · try simp (disch := omega) only [zI_n, zI_o, zI_lit, zI_neg, zI_add, zI_sub, zI_mul, zI_lt, zI_le, zI_eq, zI_clamp, zI_in, zI_div, zI_rem, lg_lt0, lg_gt0, lg_eq0, lg_le0, lg_ge0, Int.toNat_natCast, ge_iff_le, gt_iff_lt, List.length_cons, List.length_nil, bl_up2_at, bl_up2_nk, bl_up2_nx] at h23
                  first
                  | (exfalso; omega)
                  | (try dsimp only [bl_pv]
                     fail /- w5 lv=[5, 3, 0, 1, 2] -/)))
    · intro x z hx hz; subst hx hz
      have ec : (nI (fr + i)).toNatClampNeg = fr + i := nI_clamp (by omega)
      refine bl_go oX6_sheetsIn 80 [5] rfl ?_
      refine ⟨fun h10 => ?_, fun h10 => ?_⟩
      · try simp (disch := omega) only [zI_n, zI_o, zI_lit, zI_neg, zI_add, zI_sub, zI_mul, zI_lt, zI_le, zI_eq, zI_clamp, zI_in, zI_div, zI_rem, lg_lt0, lg_gt0, lg_eq0, lg_le0, lg_ge0, Int.toNat_natCast, ge_iff_le, gt_iff_lt, List.length_cons, List.length_nil, bl_up2_at, bl_up2_nk, bl_up2_nx] at h10
        first
        | (exfalso; omega)
        | (try show _ ∧ _
           try dsimp only [bl_pv]
           fail /- ret46 -/)
      · try simp (disch := omega) only [zI_n, zI_o, zI_lit, zI_neg, zI_add, zI_sub, zI_mul, zI_lt, zI_le, zI_eq, zI_clamp, zI_in, zI_div, zI_rem, lg_lt0, lg_gt0, lg_eq0, lg_le0, lg_ge0, Int.toNat_natCast, ge_iff_le, gt_iff_lt, List.length_cons, List.length_nil, bl_up2_at, bl_up2_nk, bl_up2_nx] at h10
        first
        | (exfalso; omega)
        | (refine ⟨fun h17 => ?_, fun h17 => ?_⟩
           · try simp (disch := omega) only [zI_n, zI_o, zI_lit, zI_neg, zI_add, zI_sub, zI_mul, zI_lt, zI_le, zI_eq, zI_clamp, zI_in, zI_div, zI_rem, lg_lt0, lg_gt0, lg_eq0, lg_le0, lg_ge0, Int.toNat_natCast, ge_iff_le, gt_iff_lt, List.length_cons, List.length_nil, bl_up2_at, bl_up2_nk, bl_up2_nx] at h17
             first
             | (exfalso; omega)
             | (try show _ ∧ _
                try dsimp only [bl_pv]
                fail /- ret46 -/)
           · try simp (disch := omega) only [zI_n, zI_o, zI_lit, zI_neg, zI_add, zI_sub, zI_mul, zI_lt, zI_le, zI_eq, zI_clamp, zI_in, zI_div, zI_rem, lg_lt0, lg_gt0, lg_eq0, lg_le0, lg_ge0, Int.toNat_natCast, ge_iff_le, gt_iff_lt, List.length_cons, List.length_nil, bl_up2_at, bl_up2_nk, bl_up2_nx] at h17
             first
             | (exfalso; omega)
             | (refine ⟨fun h23 => ?_, fun h23 => ?_⟩
                · try simp (disch := omega) only [zI_n, zI_o, zI_lit, zI_neg, zI_add, zI_sub, zI_mul, zI_lt, zI_le, zI_eq, zI_clamp, zI_in, zI_div, zI_rem, lg_lt0, lg_gt0, lg_eq0, lg_le0, lg_ge0, Int.toNat_natCast, ge_iff_le, gt_iff_lt, List.length_cons, List.length_nil, bl_up2_at, bl_up2_nk, bl_up2_nx] at h23
                  first
                  | (exfalso; omega)
                  | (refine ⟨ks, _, bl_vs rs_0, kp, (by first | exact (by rw [np]; exact vp_in_nI (by omega) (by omega)) | ((try dsimp only [bl_pv]); show vp_in _ (N _); rw [np]; simp (disch := omega) only [zI_n, zI_o, zI_lit, zI_neg, zI_add, zI_sub, zI_mul, zI_lt, zI_le, zI_eq, zI_clamp, zI_in, zI_div, zI_rem, lg_lt0, lg_gt0, lg_eq0, lg_le0, lg_ge0, Int.toNat_natCast, ge_iff_le, gt_iff_lt, List.length_cons, List.length_nil, bl_up2_at, bl_up2_nk, bl_up2_nx] <;> omega)), ?_⟩
                     try dsimp only [bl_pv]
                     refine ih _ _ (nI_1 _) ?_
                     rw [ec, (c2 (fr + i) (by omega)).1, nJ_add]; rfl)
                · try simp (disch := omega) only [zI_n, zI_o, zI_lit, zI_neg, zI_add, zI_sub, zI_mul, zI_lt, zI_le, zI_eq, zI_clamp, zI_in, zI_div, zI_rem, lg_lt0, lg_gt0, lg_eq0, lg_le0, lg_ge0, Int.toNat_natCast, ge_iff_le, gt_iff_lt, List.length_cons, List.length_nil, bl_up2_at, bl_up2_nk, bl_up2_nx] at h23
                  first
                  | (exfalso; omega)
                  | (try dsimp only [bl_pv]
                     refine ih _ _ (nI_1 _) ?_
                     rw [ec, (c2 (fr + i) (by omega)).1, nJ_add]; rfl)))
  refine bl_go oX6_sheetsIn 80 [5] rfl ?_
  try dsimp only [bl_pv]
  exact L 0 (by omega) _ _ rfl rfl
theorem c_Side_greatest {S : sq} {g : Nat → Nat} (ks : K s = 7) (c0 : I s 2 = nI S.1) (c1 : S.1 ≤ 48) (kv : K v = 21) (nv : N v = 48) (hv : ∀ i, i < S.1 → J v i = nJ (g i) ∧ g i < 9223372036854775808) : bl_MC G l d mX6_greatest [.ref s, .ref v] (I, J, R, K, N) (0, 0) (fun o σ' => o = .inl (some (.long (nJ (mxf g S.1)))) ∧ σ' = (I, J, R, K, N)) := by
  have hb : ∀ i, i ≤ S.1 → mxf g i < 9223372036854775808 := by
    intro i hi
    induction i with
    | zero => show (0 : Nat) < _; omega
    | succ i ih =>
      have a := (hv i (by omega)).2
      have b := ih (by omega)
      show (if g i > mxf g i then g i else mxf g i) < _
      split <;> assumption
  refine bl_MC_intro (by decide +kernel) rfl (Nat.le_of_ble_eq_true rfl) ?_
  have L : ∀ i, i ≤ S.1 → ∀ x z, x = nI i → z = nJ (mxf g i) → bl_WP G l d mX6_greatest 5 [(4, .int x), (2, .long z), (0, .ref s), (1, .ref v)] [] (I, J, R, K, N) (0, 0) (fun o σ' => o = .inl (some (.long (nJ (mxf g S.1)))) ∧ σ' = (I, J, R, K, N)) := by
    refine bl_for S.1 ?_ (fun i hi ih => ?_)
    · intro x z hx hz; subst hx hz
      refine bl_go oX6_greatest 80 [5] rfl ?_
      refine ⟨ks, fun h11 => ?_, fun h11 => ?_⟩
      · try simp (disch := omega) only [c0, nv, zI_n, zI_o, zI_lit, zI_neg, zI_add, zI_sub, zI_mul, zI_lt, zI_le, zI_eq, zI_clamp, zI_in, zI_div, zI_rem, lg_lt0, lg_gt0, lg_eq0, lg_le0, lg_ge0, Int.toNat_natCast, ge_iff_le, gt_iff_lt, List.length_cons, List.length_nil, bl_up2_at, bl_up2_nk, bl_up2_nx] at h11
        first
        | (exfalso; omega)
        | (try show _ ∧ _
           try dsimp only [bl_pv]
           exact ⟨rfl, rfl⟩)
      · try simp (disch := omega) only [c0, nv, zI_n, zI_o, zI_lit, zI_neg, zI_add, zI_sub, zI_mul, zI_lt, zI_le, zI_eq, zI_clamp, zI_in, zI_div, zI_rem, lg_lt0, lg_gt0, lg_eq0, lg_le0, lg_ge0, Int.toNat_natCast, ge_iff_le, gt_iff_lt, List.length_cons, List.length_nil, bl_up2_at, bl_up2_nk, bl_up2_nx] at h11
        first
        | (exfalso; omega)
        | (refine Or.inl ⟨bl_kr kv, fun h18 => ?_, fun h18 => ?_⟩
           · try simp (disch := omega) only [c0, nv, zI_n, zI_o, zI_lit, zI_neg, zI_add, zI_sub, zI_mul, zI_lt, zI_le, zI_eq, zI_clamp, zI_in, zI_div, zI_rem, lg_lt0, lg_gt0, lg_eq0, lg_le0, lg_ge0, Int.toNat_natCast, ge_iff_le, gt_iff_lt, List.length_cons, List.length_nil, bl_up2_at, bl_up2_nk, bl_up2_nx] at h18
             first
             | (exfalso; omega)
             | (try show _ ∧ _
                try dsimp only [bl_pv]
                exact ⟨rfl, rfl⟩)
           · try simp (disch := omega) only [c0, nv, zI_n, zI_o, zI_lit, zI_neg, zI_add, zI_sub, zI_mul, zI_lt, zI_le, zI_eq, zI_clamp, zI_in, zI_div, zI_rem, lg_lt0, lg_gt0, lg_eq0, lg_le0, lg_ge0, Int.toNat_natCast, ge_iff_le, gt_iff_lt, List.length_cons, List.length_nil, bl_up2_at, bl_up2_nk, bl_up2_nx] at h18
             first
             | (exfalso; omega)
             | (refine ⟨kv, (by first | exact (by rw [nv]; exact vp_in_nI (by omega) (by omega)) | ((try dsimp only [bl_pv]); show vp_in _ (N _); rw [nv]; simp (disch := omega) only [c0, nv, zI_n, zI_o, zI_lit, zI_neg, zI_add, zI_sub, zI_mul, zI_lt, zI_le, zI_eq, zI_clamp, zI_in, zI_div, zI_rem, lg_lt0, lg_gt0, lg_eq0, lg_le0, lg_ge0, Int.toNat_natCast, ge_iff_le, gt_iff_lt, List.length_cons, List.length_nil, bl_up2_at, bl_up2_nk, bl_up2_nx] <;> omega)), (Nat.le_of_ble_eq_true rfl), ?_⟩
                try dsimp only [bl_pv]
                fail /- w5 lv=[4, 2, 0, 1] -/))
    · intro x z hx hz; subst hx hz
      have ec : (nI i).toNatClampNeg = i := nI_clamp (by omega)
      obtain ⟨v1, v2⟩ := hv i hi
      have v3 := hb i (by omega)
      refine bl_go oX6_greatest 80 [5] rfl ?_
      refine ⟨ks, fun h11 => ?_, fun h11 => ?_⟩
      · try simp (disch := omega) only [c0, nv, zI_n, zI_o, zI_lit, zI_neg, zI_add, zI_sub, zI_mul, zI_lt, zI_le, zI_eq, zI_clamp, zI_in, zI_div, zI_rem, lg_lt0, lg_gt0, lg_eq0, lg_le0, lg_ge0, Int.toNat_natCast, ge_iff_le, gt_iff_lt, List.length_cons, List.length_nil, bl_up2_at, bl_up2_nk, bl_up2_nx] at h11
        first
        | (exfalso; omega)
        | (try show _ ∧ _
           try dsimp only [bl_pv]
           fail /- ret37 -/)
      · try simp (disch := omega) only [c0, nv, zI_n, zI_o, zI_lit, zI_neg, zI_add, zI_sub, zI_mul, zI_lt, zI_le, zI_eq, zI_clamp, zI_in, zI_div, zI_rem, lg_lt0, lg_gt0, lg_eq0, lg_le0, lg_ge0, Int.toNat_natCast, ge_iff_le, gt_iff_lt, List.length_cons, List.length_nil, bl_up2_at, bl_up2_nk, bl_up2_nx] at h11
        first
        | (exfalso; omega)
        | (refine Or.inl ⟨bl_kr kv, fun h18 => ?_, fun h18 => ?_⟩
           · try simp (disch := omega) only [c0, nv, zI_n, zI_o, zI_lit, zI_neg, zI_add, zI_sub, zI_mul, zI_lt, zI_le, zI_eq, zI_clamp, zI_in, zI_div, zI_rem, lg_lt0, lg_gt0, lg_eq0, lg_le0, lg_ge0, Int.toNat_natCast, ge_iff_le, gt_iff_lt, List.length_cons, List.length_nil, bl_up2_at, bl_up2_nk, bl_up2_nx] at h18
             first
             | (exfalso; omega)
             | (try show _ ∧ _
                try dsimp only [bl_pv]
                fail /- ret37 -/)
           · try simp (disch := omega) only [c0, nv, zI_n, zI_o, zI_lit, zI_neg, zI_add, zI_sub, zI_mul, zI_lt, zI_le, zI_eq, zI_clamp, zI_in, zI_div, zI_rem, lg_lt0, lg_gt0, lg_eq0, lg_le0, lg_ge0, Int.toNat_natCast, ge_iff_le, gt_iff_lt, List.length_cons, List.length_nil, bl_up2_at, bl_up2_nk, bl_up2_nx] at h18
             first
             | (exfalso; omega)
             | (refine ⟨kv, (by first | exact (by rw [nv]; exact vp_in_nI (by omega) (by omega)) | ((try dsimp only [bl_pv]); show vp_in _ (N _); rw [nv]; simp (disch := omega) only [c0, nv, zI_n, zI_o, zI_lit, zI_neg, zI_add, zI_sub, zI_mul, zI_lt, zI_le, zI_eq, zI_clamp, zI_in, zI_div, zI_rem, lg_lt0, lg_gt0, lg_eq0, lg_le0, lg_ge0, Int.toNat_natCast, ge_iff_le, gt_iff_lt, List.length_cons, List.length_nil, bl_up2_at, bl_up2_nk, bl_up2_nx] <;> omega)), (Nat.le_of_ble_eq_true rfl), ?_⟩
                try dsimp only [bl_pv]
                refine ih _ _ (nI_1 _) ?_
                rw [ec]
                simp only [v1, nJ_lt v2 v3]
                show _ = nJ (if g i > mxf g i then g i else mxf g i)
                by_cases e : mxf g i < g i
                · rw [if_neg (by omega), if_pos e]
                · rw [if_neg e]
                  by_cases e2 : g i < mxf g i
                  · rw [if_pos e2]
                  · rw [if_neg e2, show g i = mxf g i by omega]))
  refine bl_go oX6_greatest 80 [5] rfl ?_
  try dsimp only [bl_pv]
  exact L 0 (by omega) _ _ rfl rfl
theorem c_Side_smallest {S : sq} {g : Nat → Nat} (ks : K s = 7) (c0 : I s 2 = nI S.1) (c1 : S.1 ≤ 48) (kv : K v = 21) (nv : N v = 48) (hv : ∀ i, i < S.1 → J v i = nJ (g i) ∧ g i < 9223372036854775808) : bl_MC G l d mX6_smallest [.ref s, .ref v] (I, J, R, K, N) (0, 0) (fun o σ' => o = .inl (some (.long (nJ (mnf g S.1)))) ∧ σ' = (I, J, R, K, N)) := by
  have hb : ∀ i, i ≤ S.1 → mnf g i < 9223372036854775808 := by
    intro i hi
    induction i with
    | zero => show (1152921504606846976 : Nat) < _; omega
    | succ i ih =>
      have a := (hv i (by omega)).2
      have b := ih (by omega)
      show (if g i < mnf g i then g i else mnf g i) < _
      split <;> assumption
  refine bl_MC_intro (by decide +kernel) rfl (Nat.le_of_ble_eq_true rfl) ?_
  have L : ∀ i, i ≤ S.1 → ∀ x z, x = nI i → z = nJ (mnf g i) → bl_WP G l d mX6_smallest 7 [(4, .int x), (2, .long z), (0, .ref s), (1, .ref v)] [] (I, J, R, K, N) (0, 0) (fun o σ' => o = .inl (some (.long (nJ (mnf g S.1)))) ∧ σ' = (I, J, R, K, N)) := by
    refine bl_for S.1 ?_ (fun i hi ih => ?_)
    · intro x z hx hz; subst hx hz
      refine bl_go oX6_smallest 80 [7] rfl ?_
      refine ⟨ks, fun h13 => ?_, fun h13 => ?_⟩
      · try simp (disch := omega) only [c0, nv, zI_n, zI_o, zI_lit, zI_neg, zI_add, zI_sub, zI_mul, zI_lt, zI_le, zI_eq, zI_clamp, zI_in, zI_div, zI_rem, lg_lt0, lg_gt0, lg_eq0, lg_le0, lg_ge0, Int.toNat_natCast, ge_iff_le, gt_iff_lt, List.length_cons, List.length_nil, bl_up2_at, bl_up2_nk, bl_up2_nx] at h13
        first
        | (exfalso; omega)
        | (try show _ ∧ _
           try dsimp only [bl_pv]
           exact ⟨rfl, rfl⟩)
      · try simp (disch := omega) only [c0, nv, zI_n, zI_o, zI_lit, zI_neg, zI_add, zI_sub, zI_mul, zI_lt, zI_le, zI_eq, zI_clamp, zI_in, zI_div, zI_rem, lg_lt0, lg_gt0, lg_eq0, lg_le0, lg_ge0, Int.toNat_natCast, ge_iff_le, gt_iff_lt, List.length_cons, List.length_nil, bl_up2_at, bl_up2_nk, bl_up2_nx] at h13
        first
        | (exfalso; omega)
        | (refine Or.inl ⟨bl_kr kv, fun h20 => ?_, fun h20 => ?_⟩
           · try simp (disch := omega) only [c0, nv, zI_n, zI_o, zI_lit, zI_neg, zI_add, zI_sub, zI_mul, zI_lt, zI_le, zI_eq, zI_clamp, zI_in, zI_div, zI_rem, lg_lt0, lg_gt0, lg_eq0, lg_le0, lg_ge0, Int.toNat_natCast, ge_iff_le, gt_iff_lt, List.length_cons, List.length_nil, bl_up2_at, bl_up2_nk, bl_up2_nx] at h20
             first
             | (exfalso; omega)
             | (try show _ ∧ _
                try dsimp only [bl_pv]
                exact ⟨rfl, rfl⟩)
           · try simp (disch := omega) only [c0, nv, zI_n, zI_o, zI_lit, zI_neg, zI_add, zI_sub, zI_mul, zI_lt, zI_le, zI_eq, zI_clamp, zI_in, zI_div, zI_rem, lg_lt0, lg_gt0, lg_eq0, lg_le0, lg_ge0, Int.toNat_natCast, ge_iff_le, gt_iff_lt, List.length_cons, List.length_nil, bl_up2_at, bl_up2_nk, bl_up2_nx] at h20
             first
             | (exfalso; omega)
             | (refine ⟨kv, (by first | exact (by rw [nv]; exact vp_in_nI (by omega) (by omega)) | ((try dsimp only [bl_pv]); show vp_in _ (N _); rw [nv]; simp (disch := omega) only [c0, nv, zI_n, zI_o, zI_lit, zI_neg, zI_add, zI_sub, zI_mul, zI_lt, zI_le, zI_eq, zI_clamp, zI_in, zI_div, zI_rem, lg_lt0, lg_gt0, lg_eq0, lg_le0, lg_ge0, Int.toNat_natCast, ge_iff_le, gt_iff_lt, List.length_cons, List.length_nil, bl_up2_at, bl_up2_nk, bl_up2_nx] <;> omega)), (Nat.le_of_ble_eq_true rfl), ?_⟩
                try dsimp only [bl_pv]
                fail /- w7 lv=[4, 2, 0, 1] -/))
    · intro x z hx hz; subst hx hz
      have ec : (nI i).toNatClampNeg = i := nI_clamp (by omega)
      obtain ⟨v1, v2⟩ := hv i hi
      have v3 := hb i (by omega)
      refine bl_go oX6_smallest 80 [7] rfl ?_
      refine ⟨ks, fun h13 => ?_, fun h13 => ?_⟩
      · try simp (disch := omega) only [c0, nv, zI_n, zI_o, zI_lit, zI_neg, zI_add, zI_sub, zI_mul, zI_lt, zI_le, zI_eq, zI_clamp, zI_in, zI_div, zI_rem, lg_lt0, lg_gt0, lg_eq0, lg_le0, lg_ge0, Int.toNat_natCast, ge_iff_le, gt_iff_lt, List.length_cons, List.length_nil, bl_up2_at, bl_up2_nk, bl_up2_nx] at h13
        first
        | (exfalso; omega)
        | (try show _ ∧ _
           try dsimp only [bl_pv]
           fail /- ret39 -/)
      · try simp (disch := omega) only [c0, nv, zI_n, zI_o, zI_lit, zI_neg, zI_add, zI_sub, zI_mul, zI_lt, zI_le, zI_eq, zI_clamp, zI_in, zI_div, zI_rem, lg_lt0, lg_gt0, lg_eq0, lg_le0, lg_ge0, Int.toNat_natCast, ge_iff_le, gt_iff_lt, List.length_cons, List.length_nil, bl_up2_at, bl_up2_nk, bl_up2_nx] at h13
        first
        | (exfalso; omega)
        | (refine Or.inl ⟨bl_kr kv, fun h20 => ?_, fun h20 => ?_⟩
           · try simp (disch := omega) only [c0, nv, zI_n, zI_o, zI_lit, zI_neg, zI_add, zI_sub, zI_mul, zI_lt, zI_le, zI_eq, zI_clamp, zI_in, zI_div, zI_rem, lg_lt0, lg_gt0, lg_eq0, lg_le0, lg_ge0, Int.toNat_natCast, ge_iff_le, gt_iff_lt, List.length_cons, List.length_nil, bl_up2_at, bl_up2_nk, bl_up2_nx] at h20
             first
             | (exfalso; omega)
             | (try show _ ∧ _
                try dsimp only [bl_pv]
                fail /- ret39 -/)
           · try simp (disch := omega) only [c0, nv, zI_n, zI_o, zI_lit, zI_neg, zI_add, zI_sub, zI_mul, zI_lt, zI_le, zI_eq, zI_clamp, zI_in, zI_div, zI_rem, lg_lt0, lg_gt0, lg_eq0, lg_le0, lg_ge0, Int.toNat_natCast, ge_iff_le, gt_iff_lt, List.length_cons, List.length_nil, bl_up2_at, bl_up2_nk, bl_up2_nx] at h20
             first
             | (exfalso; omega)
             | (refine ⟨kv, (by first | exact (by rw [nv]; exact vp_in_nI (by omega) (by omega)) | ((try dsimp only [bl_pv]); show vp_in _ (N _); rw [nv]; simp (disch := omega) only [c0, nv, zI_n, zI_o, zI_lit, zI_neg, zI_add, zI_sub, zI_mul, zI_lt, zI_le, zI_eq, zI_clamp, zI_in, zI_div, zI_rem, lg_lt0, lg_gt0, lg_eq0, lg_le0, lg_ge0, Int.toNat_natCast, ge_iff_le, gt_iff_lt, List.length_cons, List.length_nil, bl_up2_at, bl_up2_nk, bl_up2_nx] <;> omega)), (Nat.le_of_ble_eq_true rfl), ?_⟩
                try dsimp only [bl_pv]
                refine ih _ _ (nI_1 _) ?_
                rw [ec]
                simp only [v1, nJ_lt v2 v3]
                show _ = nJ (if g i < mnf g i then g i else mnf g i)
                by_cases e : g i < mnf g i
                · rw [if_pos e, if_pos e]
                · rw [if_neg e, if_neg e]))
  refine bl_go oX6_smallest 80 [7] rfl ?_
  try dsimp only [bl_pv]
  exact L 0 (by omega) _ _ rfl rfl
theorem c_Side_longestRow {S : sq} {m : Nat} (hs : sdS R K N s) (hC : sdC I J s S) (hm : m < 9223372036854775808) (hv : ∀ i, i < S.1 → S.2.2 i < 9223372036854775808) : bl_MC G l d mX6_longestRow [.ref s, .long (nJ m)] (I, J, R, K, N) (0, 0) (fun o σ' => o = .inl (some (.int (nI (lgf S.2.2 m S.1)))) ∧ σ' = (I, J, R, K, N)) := by
  obtain ⟨hr1, ks, rs_0, rs_1, kp, np, km, nm⟩ := hs
  obtain ⟨c0, c1, c2⟩ := hC
  refine bl_MC_intro (by decide +kernel) rfl (Nat.le_of_ble_eq_true rfl) ?_
  have L : ∀ i, i ≤ S.1 → ∀ x y z, x = nI i → y = nI (rwf S.2.2 m i) → z = nI (lgf S.2.2 m i) → bl_WP G l d mX6_longestRow 8 [(5, .int x), (4, .int y), (3, .int z), (0, .ref s), (1, .long (nJ m))] [] (I, J, R, K, N) (0, 0) (fun o σ' => o = .inl (some (.int (nI (lgf S.2.2 m S.1)))) ∧ σ' = (I, J, R, K, N)) := by
    refine bl_for S.1 ?_ (fun i hi ih => ?_)
    · intro x y z hx hy hz; subst hx hy hz
      refine bl_go oX6_longestRow 80 [8] rfl ?_
      refine ⟨ks, fun h14 => ?_, fun h14 => ?_⟩
      · try simp (disch := omega) only [c0, zI_n, zI_o, zI_lit, zI_neg, zI_add, zI_sub, zI_mul, zI_lt, zI_le, zI_eq, zI_clamp, zI_in, zI_div, zI_rem, lg_lt0, lg_gt0, lg_eq0, lg_le0, lg_ge0, Int.toNat_natCast, ge_iff_le, gt_iff_lt, List.length_cons, List.length_nil, bl_up2_at, bl_up2_nk, bl_up2_nx] at h14
        first
        | (exfalso; omega)
        | (refine ⟨(fun h => by cases h), ?_⟩
           try show _ ∧ _
           try dsimp only [bl_pv]
           exact ⟨rfl, rfl⟩)
      · try simp (disch := omega) only [c0, zI_n, zI_o, zI_lit, zI_neg, zI_add, zI_sub, zI_mul, zI_lt, zI_le, zI_eq, zI_clamp, zI_in, zI_div, zI_rem, lg_lt0, lg_gt0, lg_eq0, lg_le0, lg_ge0, Int.toNat_natCast, ge_iff_le, gt_iff_lt, List.length_cons, List.length_nil, bl_up2_at, bl_up2_nk, bl_up2_nx] at h14
        first
        | (exfalso; omega)
        | (refine ⟨fun h21 => ?_, fun h21 => ?_⟩
           · try simp (disch := omega) only [c0, zI_n, zI_o, zI_lit, zI_neg, zI_add, zI_sub, zI_mul, zI_lt, zI_le, zI_eq, zI_clamp, zI_in, zI_div, zI_rem, lg_lt0, lg_gt0, lg_eq0, lg_le0, lg_ge0, Int.toNat_natCast, ge_iff_le, gt_iff_lt, List.length_cons, List.length_nil, bl_up2_at, bl_up2_nk, bl_up2_nx] at h21
             first
             | (exfalso; omega)
             | (refine ⟨(fun h => by cases h), ?_⟩
                try show _ ∧ _
                try dsimp only [bl_pv]
                exact ⟨rfl, rfl⟩)
           · try simp (disch := omega) only [c0, zI_n, zI_o, zI_lit, zI_neg, zI_add, zI_sub, zI_mul, zI_lt, zI_le, zI_eq, zI_clamp, zI_in, zI_div, zI_rem, lg_lt0, lg_gt0, lg_eq0, lg_le0, lg_ge0, Int.toNat_natCast, ge_iff_le, gt_iff_lt, List.length_cons, List.length_nil, bl_up2_at, bl_up2_nk, bl_up2_nx] at h21
             first
             | (exfalso; omega)
             | (refine ⟨ks, _, bl_vs rs_1, km, (by first | exact (by rw [nm]; exact vp_in_nI (by omega) (by omega)) | ((try dsimp only [bl_pv]); show vp_in _ (N _); rw [nm]; simp (disch := omega) only [c0, zI_n, zI_o, zI_lit, zI_neg, zI_add, zI_sub, zI_mul, zI_lt, zI_le, zI_eq, zI_clamp, zI_in, zI_div, zI_rem, lg_lt0, lg_gt0, lg_eq0, lg_le0, lg_ge0, Int.toNat_natCast, ge_iff_le, gt_iff_lt, List.length_cons, List.length_nil, bl_up2_at, bl_up2_nk, bl_up2_nx] <;> omega)), fun h33 => ?_, fun h33 => ?_⟩
                · try simp (disch := omega) only [c0, zI_n, zI_o, zI_lit, zI_neg, zI_add, zI_sub, zI_mul, zI_lt, zI_le, zI_eq, zI_clamp, zI_in, zI_div, zI_rem, lg_lt0, lg_gt0, lg_eq0, lg_le0, lg_ge0, Int.toNat_natCast, ge_iff_le, gt_iff_lt, List.length_cons, List.length_nil, bl_up2_at, bl_up2_nk, bl_up2_nx] at h33
                  first
                  | (exfalso; omega)
                  | (refine ⟨(Nat.le_of_ble_eq_true rfl), ?_⟩
                     refine bl_lv [0, 2, 1, 3, 4] rfl ?_
                     try dsimp only [bl_pv]
                     fail /- w8 lv=[5, 3, 4, 0, 1] -/)
                · try simp (disch := omega) only [c0, zI_n, zI_o, zI_lit, zI_neg, zI_add, zI_sub, zI_mul, zI_lt, zI_le, zI_eq, zI_clamp, zI_in, zI_div, zI_rem, lg_lt0, lg_gt0, lg_eq0, lg_le0, lg_ge0, Int.toNat_natCast, ge_iff_le, gt_iff_lt, List.length_cons, List.length_nil, bl_up2_at, bl_up2_nk, bl_up2_nx] at h33
                  first
                  | (exfalso; omega)
                  | (refine ⟨(Nat.le_of_ble_eq_true rfl), ?_⟩
                     refine bl_lv [0, 2, 1, 3, 4] rfl ?_
                     try dsimp only [bl_pv]
                     fail /- w8 lv=[5, 3, 4, 0, 1] -/)))
    · intro x y z hx hy hz; subst hx hy hz
      have ec : (nI i).toNatClampNeg = i := nI_clamp (by omega)
      have v1 := (c2 i hi).2
      have v2 := hv i hi
      have b1 := rwf_le S.2.2 m i
      have b2 := lgf_le S.2.2 m i
      refine bl_go oX6_longestRow 80 [8] rfl ?_
      refine ⟨ks, fun h14 => ?_, fun h14 => ?_⟩
      · try simp (disch := omega) only [c0, zI_n, zI_o, zI_lit, zI_neg, zI_add, zI_sub, zI_mul, zI_lt, zI_le, zI_eq, zI_clamp, zI_in, zI_div, zI_rem, lg_lt0, lg_gt0, lg_eq0, lg_le0, lg_ge0, Int.toNat_natCast, ge_iff_le, gt_iff_lt, List.length_cons, List.length_nil, bl_up2_at, bl_up2_nk, bl_up2_nx] at h14
        first
        | (exfalso; omega)
        | (refine ⟨(fun h => by cases h), ?_⟩
           try show _ ∧ _
           try dsimp only [bl_pv]
           fail /- ret60 -/)
      · try simp (disch := omega) only [c0, zI_n, zI_o, zI_lit, zI_neg, zI_add, zI_sub, zI_mul, zI_lt, zI_le, zI_eq, zI_clamp, zI_in, zI_div, zI_rem, lg_lt0, lg_gt0, lg_eq0, lg_le0, lg_ge0, Int.toNat_natCast, ge_iff_le, gt_iff_lt, List.length_cons, List.length_nil, bl_up2_at, bl_up2_nk, bl_up2_nx] at h14
        first
        | (exfalso; omega)
        | (refine ⟨fun h21 => ?_, fun h21 => ?_⟩
           · try simp (disch := omega) only [c0, zI_n, zI_o, zI_lit, zI_neg, zI_add, zI_sub, zI_mul, zI_lt, zI_le, zI_eq, zI_clamp, zI_in, zI_div, zI_rem, lg_lt0, lg_gt0, lg_eq0, lg_le0, lg_ge0, Int.toNat_natCast, ge_iff_le, gt_iff_lt, List.length_cons, List.length_nil, bl_up2_at, bl_up2_nk, bl_up2_nx] at h21
             first
             | (exfalso; omega)
             | (refine ⟨(fun h => by cases h), ?_⟩
                try show _ ∧ _
                try dsimp only [bl_pv]
                fail /- ret60 -/)
           · try simp (disch := omega) only [c0, zI_n, zI_o, zI_lit, zI_neg, zI_add, zI_sub, zI_mul, zI_lt, zI_le, zI_eq, zI_clamp, zI_in, zI_div, zI_rem, lg_lt0, lg_gt0, lg_eq0, lg_le0, lg_ge0, Int.toNat_natCast, ge_iff_le, gt_iff_lt, List.length_cons, List.length_nil, bl_up2_at, bl_up2_nk, bl_up2_nx] at h21
             first
             | (exfalso; omega)
             | (refine ⟨ks, _, bl_vs rs_1, km, (by first | exact (by rw [nm]; exact vp_in_nI (by omega) (by omega)) | ((try dsimp only [bl_pv]); show vp_in _ (N _); rw [nm]; simp (disch := omega) only [c0, zI_n, zI_o, zI_lit, zI_neg, zI_add, zI_sub, zI_mul, zI_lt, zI_le, zI_eq, zI_clamp, zI_in, zI_div, zI_rem, lg_lt0, lg_gt0, lg_eq0, lg_le0, lg_ge0, Int.toNat_natCast, ge_iff_le, gt_iff_lt, List.length_cons, List.length_nil, bl_up2_at, bl_up2_nk, bl_up2_nx] <;> omega)), fun h33 => ?_, fun h33 => ?_⟩
                · try simp (disch := omega) only [c0, zI_n, zI_o, zI_lit, zI_neg, zI_add, zI_sub, zI_mul, zI_lt, zI_le, zI_eq, zI_clamp, zI_in, zI_div, zI_rem, lg_lt0, lg_gt0, lg_eq0, lg_le0, lg_ge0, Int.toNat_natCast, ge_iff_le, gt_iff_lt, List.length_cons, List.length_nil, bl_up2_at, bl_up2_nk, bl_up2_nx] at h33
                  simp only [v1, nJ_eq v2 hm] at h33
                  first
                  | (exfalso; omega)
                  | (refine ⟨(Nat.le_of_ble_eq_true rfl), ?_⟩
                     refine bl_lv [0, 2, 1, 3, 4] rfl ?_
                     try dsimp only [bl_pv]
                     have er : rwf S.2.2 m (i + 1) = if S.2.2 i = m then rwf S.2.2 m i + 1 else 0 := rfl
                     have el : lgf S.2.2 m (i + 1) = if lgf S.2.2 m i < rwf S.2.2 m (i + 1) then rwf S.2.2 m (i + 1) else lgf S.2.2 m i := rfl
                     first
                     | (rw [if_pos h33] at er
                        refine ih _ _ _ (nI_1 _) (by rw [er, nI_1]) ?_
                        rw [el, er]
                        by_cases e : lgf S.2.2 m i < rwf S.2.2 m i + 1
                        · rw [if_pos e, if_pos (by rw [nI_1]; exact nI_lt e (by omega))]; exact nI_1 _
                        · rw [if_neg e, if_neg (by rw [nI_1]; exact nI_nlt (by omega) (by omega))])
                     | (rw [if_neg h33] at er
                        refine ih _ _ _ (nI_1 _) (by rw [er]; rfl) ?_
                        rw [el, er]
                        have : ¬ nI (lgf S.2.2 m i) < 0 := nI_pos (by omega)
                        rw [if_neg this, if_neg (by omega)]))
                · try simp (disch := omega) only [c0, zI_n, zI_o, zI_lit, zI_neg, zI_add, zI_sub, zI_mul, zI_lt, zI_le, zI_eq, zI_clamp, zI_in, zI_div, zI_rem, lg_lt0, lg_gt0, lg_eq0, lg_le0, lg_ge0, Int.toNat_natCast, ge_iff_le, gt_iff_lt, List.length_cons, List.length_nil, bl_up2_at, bl_up2_nk, bl_up2_nx] at h33
                  simp only [v1, nJ_eq v2 hm] at h33
                  first
                  | (exfalso; omega)
                  | (refine ⟨(Nat.le_of_ble_eq_true rfl), ?_⟩
                     refine bl_lv [0, 2, 1, 3, 4] rfl ?_
                     try dsimp only [bl_pv]
                     have er : rwf S.2.2 m (i + 1) = if S.2.2 i = m then rwf S.2.2 m i + 1 else 0 := rfl
                     have el : lgf S.2.2 m (i + 1) = if lgf S.2.2 m i < rwf S.2.2 m (i + 1) then rwf S.2.2 m (i + 1) else lgf S.2.2 m i := rfl
                     first
                     | (rw [if_pos h33] at er
                        refine ih _ _ _ (nI_1 _) (by rw [er, nI_1]) ?_
                        rw [el, er]
                        by_cases e : lgf S.2.2 m i < rwf S.2.2 m i + 1
                        · rw [if_pos e, if_pos (by rw [nI_1]; exact nI_lt e (by omega))]; exact nI_1 _
                        · rw [if_neg e, if_neg (by rw [nI_1]; exact nI_nlt (by omega) (by omega))])
                     | (rw [if_neg h33] at er
                        refine ih _ _ _ (nI_1 _) (by rw [er]; rfl) ?_
                        rw [el, er]
                        have : ¬ nI (lgf S.2.2 m i) < 0 := nI_pos (by omega)
                        rw [if_neg this, if_neg (by omega)]))))
  refine bl_go oX6_longestRow 80 [8] rfl ?_
  try dsimp only [bl_pv]
  exact L 0 (by omega) _ _ _ rfl rfl rfl
end SIDE2
