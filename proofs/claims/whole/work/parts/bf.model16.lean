/-! ===== Model: folding in three ===== -/
section MODEL16
variable {G : bl_G} {l : Launch} {d m : Nat} {I : Nat → Nat → Int32} {J : Nat → Nat → Int64} {R : Nat → Nat → Option Nat} {K N : Nat → Nat} {n w h : Nat} {B S : Nat → Nat → Nat}
theorem c_Model_folds3 (hm : mdS R K N m) (hw : w ≤ 48) (hh : h ≤ 48) (hs : msC I J m w h B S) : bl_MC G l (d + 2) mX11_folds3 [.ref m] (I, J, R, K, N) (0, 0) (fun o σ' => o = .inl none ∧ ∃ I' J', σ' = (I', J', R, K, N) ∧ smF I I' J J' m ∧ J' m = J m ∧ jnC J J' m (2 * (w / 3 * h)) ∧ msC I' J' m (w / 3) h (fun x y => B (w / 3 + x) y + B (w - 1 - x) y + B (w / 3 - 1 - x) y) (fun x y => S (w / 3 + x) y + S (w - 1 - x) y + S (w / 3 - 1 - x) y)) := by
  have km := hm.2.1
  obtain ⟨hs1, hs2, hs3⟩ := hs
  refine bl_MC_intro (by decide +kernel) rfl (Nat.le_of_ble_eq_true rfl) ?_
  have L9 : ∀ i, i ≤ w / 3 → ∀ z I1 J1, z = nI i → lpF I I1 J J1 m → jnC J J1 m (2 * (i * h)) → (∀ x y, x < i → y < h → cN I1 J1 m (48 * y + x) (B (w / 3 + x) y + B (w - 1 - x) y + B (w / 3 - 1 - x) y) (S (w / 3 + x) y + S (w - 1 - x) y + S (w / 3 - 1 - x) y)) → bl_WP G l (d + 2) mX11_folds3 9 [(2, .int z), (1, .int (nI (w / 3))), (0, .ref m)] [] (I1, J1, R, K, N) (0, 0) (fun o σ' => o = .inl none ∧ ∃ I' J', σ' = (I', J', R, K, N) ∧ smF I I' J J' m ∧ J' m = J m ∧ jnC J J' m (2 * (w / 3 * h)) ∧ msC I' J' m (w / 3) h (fun x y => B (w / 3 + x) y + B (w - 1 - x) y + B (w / 3 - 1 - x) y) (fun x y => S (w / 3 + x) y + S (w - 1 - x) y + S (w / 3 - 1 - x) y)) := by
    refine bl_for (w / 3) ?_ (fun i hi ih => ?_)
    · intro z I1 J1 hz f1 f2 f3; subst hz
      have e22 : I1 m 22 = nI h := (congrFun (f1.1 m (by omega) (by omega)) 22).trans hs2
      refine bl_go oX11_folds3 80 [9, 16] rfl ?_
      refine ⟨fun h11 => ?_, fun h11 => ?_⟩
      · try simp (disch := omega) only [zI_n, zI_o, zI_lit, zI_neg, zI_add, zI_sub, zI_mul, zI_lt, zI_le, zI_eq, zI_clamp, zI_in, zI_div, zI_rem, lg_lt0, lg_gt0, lg_eq0, lg_le0, lg_ge0, Int.toNat_natCast, ge_iff_le, gt_iff_lt, List.length_cons, List.length_nil, bl_up2_at, bl_up2_nk, bl_up2_nx] at h11
        refine ⟨km, rfl, rfl, km, (Nat.le_of_ble_eq_true rfl), (0, 0), Nat.le_of_ble_eq_true rfl, Nat.le_of_ble_eq_true rfl, bl_MC_mono (c_Model_becomes (d := d) (w := w / 3) (h := h) (B := (fun x y => B (w / 3 + x) y + B (w - 1 - x) y + B (w / 3 - 1 - x) y)) (S := (fun x y => S (w / 3 + x) y + S (w - 1 - x) y + S (w / 3 - 1 - x) y)) hm rfl e22 (by omega) hh f3) (fun o97 σ97 q97 => ?_)⟩
        try dsimp only [bl_pv] at q97
        obtain ⟨rfl, I2, J2, rfl, g1, g2, g3, g4⟩ := q97
        refine bl_go oX11_folds3 80 [9, 16] rfl ?_
        try show _ ∧ _
        try dsimp only [bl_pv]
        refine ⟨rfl, I2, J2, rfl, smF_of f1 g1, ?_, ?_, g2, g3, g4⟩
        · rw [g1.2.2 m (by omega) (by omega) (by omega), f1.2 m (by omega) (by omega) (by omega) (by omega)]
        · exact f2.same (g1.2.2 _ (by omega) (by omega) (by omega))
      · try simp (disch := omega) only [zI_n, zI_o, zI_lit, zI_neg, zI_add, zI_sub, zI_mul, zI_lt, zI_le, zI_eq, zI_clamp, zI_in, zI_div, zI_rem, lg_lt0, lg_gt0, lg_eq0, lg_le0, lg_ge0, Int.toNat_natCast, ge_iff_le, gt_iff_lt, List.length_cons, List.length_nil, bl_up2_at, bl_up2_nk, bl_up2_nx] at h11
        exfalso; omega
    · intro z I1 J1 hz f1 f2 f3; subst hz
      have L16 : ∀ j, j ≤ h → ∀ z I1 J1, z = nI j → lpF I I1 J J1 m → jnC J J1 m (2 * (i * h + j)) → (∀ x y, x < i → y < h → cN I1 J1 m (48 * y + x) (B (w / 3 + x) y + B (w - 1 - x) y + B (w / 3 - 1 - x) y) (S (w / 3 + x) y + S (w - 1 - x) y + S (w / 3 - 1 - x) y)) → (∀ y, y < j → cN I1 J1 m (48 * y + i) (B (w / 3 + i) y + B (w - 1 - i) y + B (w / 3 - 1 - i) y) (S (w / 3 + i) y + S (w - 1 - i) y + S (w / 3 - 1 - i) y)) → bl_WP G l (d + 2) mX11_folds3 16 [(3, .int z), (2, .int (nI i)), (1, .int (nI (w / 3))), (0, .ref m)] [] (I1, J1, R, K, N) (0, 0) (fun o σ' => o = .inl none ∧ ∃ I' J', σ' = (I', J', R, K, N) ∧ smF I I' J J' m ∧ J' m = J m ∧ jnC J J' m (2 * (w / 3 * h)) ∧ msC I' J' m (w / 3) h (fun x y => B (w / 3 + x) y + B (w - 1 - x) y + B (w / 3 - 1 - x) y) (fun x y => S (w / 3 + x) y + S (w - 1 - x) y + S (w / 3 - 1 - x) y)) := by
        refine bl_for h ?_ (fun j hj ih2 => ?_)
        · intro z I1 J1 hz f1 f2 f3 f4; subst hz
          have e22 : I1 m 22 = nI h := (congrFun (f1.1 m (by omega) (by omega)) 22).trans hs2
          refine bl_go oX11_folds3 80 [9, 16] rfl ?_
          refine ⟨km, fun h21 => ?_, fun h21 => ?_⟩
          · try simp (disch := omega) only [e22, zI_n, zI_o, zI_lit, zI_neg, zI_add, zI_sub, zI_mul, zI_lt, zI_le, zI_eq, zI_clamp, zI_in, zI_div, zI_rem, lg_lt0, lg_gt0, lg_eq0, lg_le0, lg_ge0, Int.toNat_natCast, ge_iff_le, gt_iff_lt, List.length_cons, List.length_nil, bl_up2_at, bl_up2_nk, bl_up2_nx] at h21
            refine bl_lv [0, 2, 3] rfl ?_
            try dsimp only [bl_pv]
            refine ih _ _ _ (nI_1 _) f1 (by rw [Nat.succ_mul i h]; exact f2) (fun x y hx hy => ?_)
            by_cases ex : x = i
            · subst ex; exact f4 y hy
            · exact f3 x y (by omega) hy
          · try simp (disch := omega) only [e22, zI_n, zI_o, zI_lit, zI_neg, zI_add, zI_sub, zI_mul, zI_lt, zI_le, zI_eq, zI_clamp, zI_in, zI_div, zI_rem, lg_lt0, lg_gt0, lg_eq0, lg_le0, lg_ge0, Int.toNat_natCast, ge_iff_le, gt_iff_lt, List.length_cons, List.length_nil, bl_up2_at, bl_up2_nk, bl_up2_nx] at h21
            exfalso; omega
        · intro z I1 J1 hz f1 f2 f3 f4; subst hz
          have e22 : I1 m 22 = nI h := (congrFun (f1.1 m (by omega) (by omega)) 22).trans hs2
          refine bl_go oX11_folds3 80 [9, 16] rfl ?_
          refine ⟨km, fun h21 => ?_, fun h21 => ?_⟩
          · try simp (disch := omega) only [e22, zI_n, zI_o, zI_lit, zI_neg, zI_add, zI_sub, zI_mul, zI_lt, zI_le, zI_eq, zI_clamp, zI_in, zI_div, zI_rem, lg_lt0, lg_gt0, lg_eq0, lg_le0, lg_ge0, Int.toNat_natCast, ge_iff_le, gt_iff_lt, List.length_cons, List.length_nil, bl_up2_at, bl_up2_nk, bl_up2_nx] at h21
            exfalso; omega
          · try simp (disch := omega) only [e22, zI_n, zI_o, zI_lit, zI_neg, zI_add, zI_sub, zI_mul, zI_lt, zI_le, zI_eq, zI_clamp, zI_in, zI_div, zI_rem, lg_lt0, lg_gt0, lg_eq0, lg_le0, lg_ge0, Int.toNat_natCast, ge_iff_le, gt_iff_lt, List.length_cons, List.length_nil, bl_up2_at, bl_up2_nk, bl_up2_nx] at h21
            refine ⟨rfl, (Nat.le_of_ble_eq_true rfl), (0, 0), Nat.le_of_ble_eq_true rfl, Nat.le_of_ble_eq_true rfl, bl_MC_mono (c_Model_cell (d := d + 1) (x := i) (y := j) rfl rfl) (fun o27 σ27 q27 => ?_)⟩
            try dsimp only [bl_pv] at q27
            obtain ⟨rfl, rfl⟩ := q27
            refine bl_go oX11_folds3 80 [9, 16] rfl ?_
            refine ⟨rfl, (Nat.le_of_ble_eq_true rfl), (0, 0), Nat.le_of_ble_eq_true rfl, Nat.le_of_ble_eq_true rfl, bl_MC_mono (c_Model_cell (d := d + 1) (x := w / 3 + i) (y := j) (Int32.ofNat_add _ _).symm rfl) (fun o34 σ34 q34 => ?_)⟩
            try dsimp only [bl_pv] at q34
            obtain ⟨rfl, rfl⟩ := q34
            refine bl_go oX11_folds3 80 [9, 16] rfl ?_
            refine ⟨rfl, rfl, km, (Nat.le_of_ble_eq_true rfl), (0, 0), Nat.le_of_ble_eq_true rfl, Nat.le_of_ble_eq_true rfl, bl_MC_mono (c_Model_takes (d := d + 1) (x := 48 * j + i) (y := 48 * j + (w / 3 + i)) hm rfl rfl (by omega) (by omega) (f1.O (hs3 (w / 3 + i) j (by omega) hj))) (fun o37 σ37 q37 => ?_)⟩
            try dsimp only [bl_pv] at q37
            obtain ⟨rfl, I2, J2, rfl, g1, g2, g3⟩ := q37
            have e21 : I2 m 21 = nI w := (congrFun ((f1.step g1).1 m (by omega) (by omega)) 21).trans hs1
            have e21' : I2 m 21 - 1 - nI i = nI (w - 1 - i) := by rw [e21]; exact nI_sub2 (by omega)
            refine bl_go oX11_folds3 80 [9, 16] rfl ?_
            refine ⟨rfl, (Nat.le_of_ble_eq_true rfl), (0, 0), Nat.le_of_ble_eq_true rfl, Nat.le_of_ble_eq_true rfl, bl_MC_mono (c_Model_cell (d := d + 1) (x := i) (y := j) rfl rfl) (fun o43 σ43 q43 => ?_)⟩
            try dsimp only [bl_pv] at q43
            obtain ⟨rfl, rfl⟩ := q43
            refine bl_go oX11_folds3 80 [9, 16] rfl ?_
            refine ⟨km, rfl, (Nat.le_of_ble_eq_true rfl), (0, 0), Nat.le_of_ble_eq_true rfl, Nat.le_of_ble_eq_true rfl, bl_MC_mono (c_Model_cell (d := d + 1) (x := w - 1 - i) (y := j) e21' rfl) (fun o55 σ55 q55 => ?_)⟩
            try dsimp only [bl_pv] at q55
            obtain ⟨rfl, rfl⟩ := q55
            refine bl_go oX11_folds3 80 [9, 16] rfl ?_
            refine ⟨rfl, rfl, km, (Nat.le_of_ble_eq_true rfl), (0, 0), Nat.le_of_ble_eq_true rfl, Nat.le_of_ble_eq_true rfl, bl_MC_mono (c_Model_lays (d := d + 1) (x := 48 * j + i) (y := 48 * j + (w - 1 - i)) hm rfl rfl (by omega) (by omega) ((f1.step g1).O (hs3 (w - 1 - i) j (by omega) hj)) g3) (fun o58 σ58 q58 => ?_)⟩
            try dsimp only [bl_pv] at q58
            obtain ⟨rfl, I3, J3, rfl, k1, k2, k3, k4⟩ := q58
            refine bl_go oX11_folds3 80 [9, 16] rfl ?_
            refine ⟨rfl, (Nat.le_of_ble_eq_true rfl), (0, 0), Nat.le_of_ble_eq_true rfl, Nat.le_of_ble_eq_true rfl, bl_MC_mono (c_Model_cell (d := d + 1) (x := i) (y := j) rfl rfl) (fun o64 σ64 q64 => ?_)⟩
            try dsimp only [bl_pv] at q64
            obtain ⟨rfl, rfl⟩ := q64
            refine bl_go oX11_folds3 80 [9, 16] rfl ?_
            refine ⟨rfl, (Nat.le_of_ble_eq_true rfl), (0, 0), Nat.le_of_ble_eq_true rfl, Nat.le_of_ble_eq_true rfl, bl_MC_mono (c_Model_cell (d := d + 1) (x := w / 3 - 1 - i) (y := j) (nI_sub2 (by omega)) rfl) (fun o73 σ73 q73 => ?_)⟩
            try dsimp only [bl_pv] at q73
            obtain ⟨rfl, rfl⟩ := q73
            refine bl_go oX11_folds3 80 [9, 16] rfl ?_
            refine ⟨rfl, rfl, km, (Nat.le_of_ble_eq_true rfl), (0, 0), Nat.le_of_ble_eq_true rfl, Nat.le_of_ble_eq_true rfl, bl_MC_mono (c_Model_lays (d := d + 1) (x := 48 * j + i) (y := 48 * j + (w / 3 - 1 - i)) hm rfl rfl (by omega) (by omega) (((f1.step g1).step k1).O (hs3 (w / 3 - 1 - i) j (by omega) hj)) k4) (fun o76 σ76 q76 => ?_)⟩
            try dsimp only [bl_pv] at q76
            obtain ⟨rfl, I4, J4, rfl, m1, m2, m3, m4⟩ := q76
            refine bl_go oX11_folds3 80 [9, 16] rfl ?_
            try dsimp only [bl_pv]
            refine ih2 _ _ _ (nI_1 _) (((f1.step g1).step k1).step m1) (((f2.same g2).one k2 k3).one m2 m3) (fun x y hx hy => m1.2.2 _ _ _ (by omega) (k1.2.2 _ _ _ (by omega) (g1.2.2 _ _ _ (by omega) (f3 x y hx hy)))) (fun y hy => ?_)
            by_cases ey : y = j
            · subst ey; exact m4
            · exact m1.2.2 _ _ _ (by omega) (k1.2.2 _ _ _ (by omega) (g1.2.2 _ _ _ (by omega) (f4 y (by omega))))
      refine bl_go oX11_folds3 80 [9, 16] rfl ?_
      refine ⟨fun h11 => ?_, fun h11 => ?_⟩
      · try simp (disch := omega) only [zI_n, zI_o, zI_lit, zI_neg, zI_add, zI_sub, zI_mul, zI_lt, zI_le, zI_eq, zI_clamp, zI_in, zI_div, zI_rem, lg_lt0, lg_gt0, lg_eq0, lg_le0, lg_ge0, Int.toNat_natCast, ge_iff_le, gt_iff_lt, List.length_cons, List.length_nil, bl_up2_at, bl_up2_nk, bl_up2_nx] at h11
        exfalso; omega
      · try simp (disch := omega) only [zI_n, zI_o, zI_lit, zI_neg, zI_add, zI_sub, zI_mul, zI_lt, zI_le, zI_eq, zI_clamp, zI_in, zI_div, zI_rem, lg_lt0, lg_gt0, lg_eq0, lg_le0, lg_ge0, Int.toNat_natCast, ge_iff_le, gt_iff_lt, List.length_cons, List.length_nil, bl_up2_at, bl_up2_nk, bl_up2_nx] at h11
        try dsimp only [bl_pv]
        exact L16 0 (by omega) _ _ _ rfl f1 f2 f3 (fun y hy => absurd hy (by omega))
  refine bl_go oX11_folds3 80 [9, 16] rfl ?_
  refine ⟨km, (by first | decide | (simp (disch := omega) only [zI_n, zI_o, zI_lit, zI_neg, zI_add, zI_sub, zI_mul, zI_lt, zI_le, zI_eq, zI_clamp, zI_in, zI_div, zI_rem, lg_lt0, lg_gt0, lg_eq0, lg_le0, lg_ge0, Int.toNat_natCast, ge_iff_le, gt_iff_lt, List.length_cons, List.length_nil, bl_up2_at, bl_up2_nk, bl_up2_nx] <;> omega)), ?_⟩
  try dsimp only [bl_pv]
  rw [hs1, show (nI w / 3 : Int32) = nI (w / 3) from nI_div (b := 3) (by omega) (by omega)]
  exact L9 0 (by omega) _ _ _ rfl lpF.refl (by rw [Nat.zero_mul]; exact jnC.zero) (fun x y hx => absurd hx (by omega))
end MODEL16
