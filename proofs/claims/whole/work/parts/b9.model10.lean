/-! ===== Model: feed and small questions ===== -/
section MODEL10
variable {G : bl_G} {l : Launch} {d m : Nat} {I : Nat → Nat → Int32} {J : Nat → Nat → Int64} {R : Nat → Nat → Option Nat} {K N : Nat → Nat} {fa : Int32} {n r t : Nat}
theorem fd_sh : ∀ k : Nat, k < 20 → (24 : Int32) - 8 * (nI k - nI k / 4 * 4) = zI (24 - 8 * ((k % 4 : Nat) : Int)) := by decide +kernel
theorem c_Model_feed {v1 v2 v3 v4 v5 : Int32} (hm : mdS R K N m) (ht : I m 1 = nI t) (ht4 : t ≤ 400) : bl_MC G l d mX11_feed [.ref m, .int v1, .int v2, .int v3, .int v4, .int v5] (I, J, R, K, N) (0, 0) (fun o σ' => (380 < t ∧ o = .inl (some (.int (zI (-1)))) ∧ σ' = (bl_up2 I m 0 0, J, R, K, N)) ∨ (t ≤ 380 ∧ o = .inl (some (.int (nI (t + 20)))) ∧ ∃ I', σ' = (I', J, R, K, N) ∧ (∀ x, x ≠ m → x ≠ m + 8 → I' x = I x) ∧ (∀ j, j ≠ 0 → j ≠ 1 → I' m j = I m j) ∧ I' m 0 = 0 ∧ I' m 1 = nI (t + 20) ∧ ∀ j, I' (m + 8) j = if t ≤ j ∧ j < t + 20 then fd20 v1 v2 v3 v4 v5 (j - t) else I (m + 8) j)) := by
  have km := hm.2.1
  obtain ⟨rm_8, km8, nm8⟩ := hm.f8
  refine bl_MC_intro (by decide +kernel) rfl (Nat.le_of_ble_eq_true rfl) ?_
  have L23 : t ≤ 380 → ∀ k, k ≤ 20 → ∀ z I2, z = nI k → (∀ x, x ≠ m → x ≠ m + 8 → I2 x = I x) → (∀ j, j ≠ 0 → j ≠ 1 → I2 m j = I m j) → I2 m 0 = 0 → I2 m 1 = nI (t + k) → (∀ j, I2 (m + 8) j = if t ≤ j ∧ j < t + k then fd20 v1 v2 v3 v4 v5 (j - t) else I (m + 8) j) → bl_WP G l d mX11_feed 23 [(6, .int z), (0, .ref m), (1, .int v1), (2, .int v2), (3, .int v3), (4, .int v4), (5, .int v5)] [] (I2, J, R, K, N) (0, 0) (fun o σ' => (380 < t ∧ o = .inl (some (.int (zI (-1)))) ∧ σ' = (bl_up2 I m 0 0, J, R, K, N)) ∨ (t ≤ 380 ∧ o = .inl (some (.int (nI (t + 20)))) ∧ ∃ I', σ' = (I', J, R, K, N) ∧ (∀ x, x ≠ m → x ≠ m + 8 → I' x = I x) ∧ (∀ j, j ≠ 0 → j ≠ 1 → I' m j = I m j) ∧ I' m 0 = 0 ∧ I' m 1 = nI (t + 20) ∧ ∀ j, I' (m + 8) j = if t ≤ j ∧ j < t + 20 then fd20 v1 v2 v3 v4 v5 (j - t) else I (m + 8) j)) := by
    intro h380
    refine bl_for 20 ?_ (fun k hk ih => ?_)
    · intro z I2 hz a1 a2 a3 a4 a5; subst hz
      refine bl_go oX11_feed 80 [23, 78] rfl ?_
      refine ⟨fun h27 => ?_, fun h27 => ?_⟩
      · try simp (disch := omega) only [zI_n, zI_o, zI_lit, zI_neg, zI_add, zI_sub, zI_mul, zI_lt, zI_le, zI_eq, zI_clamp, zI_in, zI_div, zI_rem, lg_lt0, lg_gt0, lg_eq0, lg_le0, lg_ge0, Int.toNat_natCast, ge_iff_le, gt_iff_lt, List.length_cons, List.length_nil, bl_up2_at, bl_up2_nk, bl_up2_nx] at h27
        refine ⟨km, (fun h => by cases h), ?_⟩
        try show _ ∧ _
        try dsimp only [bl_pv]
        exact Or.inr ⟨h380, by rw [a4], I2, rfl, a1, a2, a3, a4, a5⟩
      · try simp (disch := omega) only [zI_n, zI_o, zI_lit, zI_neg, zI_add, zI_sub, zI_mul, zI_lt, zI_le, zI_eq, zI_clamp, zI_in, zI_div, zI_rem, lg_lt0, lg_gt0, lg_eq0, lg_le0, lg_ge0, Int.toNat_natCast, ge_iff_le, gt_iff_lt, List.length_cons, List.length_nil, bl_up2_at, bl_up2_nk, bl_up2_nx] at h27
        exfalso; omega
    · intro z I2 hz a1 a2 a3 a4 a5; subst hz
      have ect : (nI (t + k)).toNatClampNeg = t + k := nI_clamp (by omega)
      have L78 : ∀ w, w = (if k < 4 then v1 else if k < 8 then v2 else if k < 12 then v3 else if k < 16 then v4 else v5) → bl_WP G l d mX11_feed 78 [(7, .int w), (6, .int (nI k)), (0, .ref m), (1, .int v1), (2, .int v2), (3, .int v3), (4, .int v4), (5, .int v5)] [] (I2, J, R, K, N) (0, 0) (fun o σ' => (380 < t ∧ o = .inl (some (.int (zI (-1)))) ∧ σ' = (bl_up2 I m 0 0, J, R, K, N)) ∨ (t ≤ 380 ∧ o = .inl (some (.int (nI (t + 20)))) ∧ ∃ I', σ' = (I', J, R, K, N) ∧ (∀ x, x ≠ m → x ≠ m + 8 → I' x = I x) ∧ (∀ j, j ≠ 0 → j ≠ 1 → I' m j = I m j) ∧ I' m 0 = 0 ∧ I' m 1 = nI (t + 20) ∧ ∀ j, I' (m + 8) j = if t ≤ j ∧ j < t + 20 then fd20 v1 v2 v3 v4 v5 (j - t) else I (m + 8) j)) := by
        intro w hw
        refine bl_go oX11_feed 80 [23, 78] rfl ?_
        refine ⟨km, _, bl_vs rm_8, km, (by first | decide | (simp (disch := omega) only [a4, zI_n, zI_o, zI_lit, zI_neg, zI_add, zI_sub, zI_mul, zI_lt, zI_le, zI_eq, zI_clamp, zI_in, zI_div, zI_rem, lg_lt0, lg_gt0, lg_eq0, lg_le0, lg_ge0, Int.toNat_natCast, ge_iff_le, gt_iff_lt, List.length_cons, List.length_nil, bl_up2_at, bl_up2_nk, bl_up2_nx] <;> omega)), km8, (by first | exact (by rw [nm8]; exact vp_in_nI (by omega) (by omega)) | ((try dsimp only [bl_pv]); show vp_in _ (N _); rw [nm8]; simp (disch := omega) only [a4, zI_n, zI_o, zI_lit, zI_neg, zI_add, zI_sub, zI_mul, zI_lt, zI_le, zI_eq, zI_clamp, zI_in, zI_div, zI_rem, lg_lt0, lg_gt0, lg_eq0, lg_le0, lg_ge0, Int.toNat_natCast, ge_iff_le, gt_iff_lt, List.length_cons, List.length_nil, bl_up2_at, bl_up2_nk, bl_up2_nx] <;> omega)), rfl, km, km, Or.inr (Or.inr ⟨rfl, rfl, _, rfl⟩), (fun h => by cases h), ?_⟩
        refine bl_lv [0, 2, 3, 4, 5, 6, 7] rfl ?_
        try dsimp only [bl_pv]
        rw [a4, ect, bl_up2_ne (show m ≠ m + 8 by omega), a4, nI_1, nI_1, fd_sh k hk]
        refine ih _ _ rfl (fun x x1 x2 => by rw [bl_up2_ne x1, bl_up2_ne x2]; exact a1 x x1 x2) (fun j j0 j1 => by rw [bl_up2_nk j1, bl_up2_ne (by omega)]; exact a2 j j0 j1) (by rw [bl_up2_nk (by omega), bl_up2_ne (by omega)]; exact a3) (by rw [bl_up2_at]; rfl) (fun j => ?_)
        rw [bl_up2_ne (show m + 8 ≠ m by omega)]
        by_cases e : j = t + k
        · subst e
          rw [bl_up2_at, if_pos (by omega), show t + k - t = k by omega]
          subst hw
          rfl
        · rw [bl_up2_nk e, a5]
          by_cases e2 : t ≤ j ∧ j < t + k
          · rw [if_pos e2, if_pos (by omega)]
          · rw [if_neg e2, if_neg (by omega)]
      refine bl_go oX11_feed 80 [23, 78] rfl ?_
      refine ⟨fun h27 => ?_, fun h27 => ?_⟩
      · try simp (disch := omega) only [zI_n, zI_o, zI_lit, zI_neg, zI_add, zI_sub, zI_mul, zI_lt, zI_le, zI_eq, zI_clamp, zI_in, zI_div, zI_rem, lg_lt0, lg_gt0, lg_eq0, lg_le0, lg_ge0, Int.toNat_natCast, ge_iff_le, gt_iff_lt, List.length_cons, List.length_nil, bl_up2_at, bl_up2_nk, bl_up2_nx] at h27
        exfalso; omega
      · try simp (disch := omega) only [zI_n, zI_o, zI_lit, zI_neg, zI_add, zI_sub, zI_mul, zI_lt, zI_le, zI_eq, zI_clamp, zI_in, zI_div, zI_rem, lg_lt0, lg_gt0, lg_eq0, lg_le0, lg_ge0, Int.toNat_natCast, ge_iff_le, gt_iff_lt, List.length_cons, List.length_nil, bl_up2_at, bl_up2_nk, bl_up2_nx] at h27
        refine ⟨fun h33 => ?_, fun h33 => ?_⟩
        · try simp (disch := omega) only [zI_n, zI_o, zI_lit, zI_neg, zI_add, zI_sub, zI_mul, zI_lt, zI_le, zI_eq, zI_clamp, zI_in, zI_div, zI_rem, lg_lt0, lg_gt0, lg_eq0, lg_le0, lg_ge0, Int.toNat_natCast, ge_iff_le, gt_iff_lt, List.length_cons, List.length_nil, bl_up2_at, bl_up2_nk, bl_up2_nx] at h33
          first
          | (exfalso; first | omega | exact h33 trivial)
          | (refine ⟨fun h44 => ?_, fun h44 => ?_⟩
             · try simp (disch := omega) only [zI_n, zI_o, zI_lit, zI_neg, zI_add, zI_sub, zI_mul, zI_lt, zI_le, zI_eq, zI_clamp, zI_in, zI_div, zI_rem, lg_lt0, lg_gt0, lg_eq0, lg_le0, lg_ge0, Int.toNat_natCast, ge_iff_le, gt_iff_lt, List.length_cons, List.length_nil, bl_up2_at, bl_up2_nk, bl_up2_nx] at h44
               first
               | (exfalso; first | omega | exact h44 trivial)
               | (refine ⟨fun h55 => ?_, fun h55 => ?_⟩
                  · try simp (disch := omega) only [zI_n, zI_o, zI_lit, zI_neg, zI_add, zI_sub, zI_mul, zI_lt, zI_le, zI_eq, zI_clamp, zI_in, zI_div, zI_rem, lg_lt0, lg_gt0, lg_eq0, lg_le0, lg_ge0, Int.toNat_natCast, ge_iff_le, gt_iff_lt, List.length_cons, List.length_nil, bl_up2_at, bl_up2_nk, bl_up2_nx] at h55
                    first
                    | (exfalso; first | omega | exact h55 trivial)
                    | (refine ⟨fun h66 => ?_, fun h66 => ?_⟩
                       · try simp (disch := omega) only [zI_n, zI_o, zI_lit, zI_neg, zI_add, zI_sub, zI_mul, zI_lt, zI_le, zI_eq, zI_clamp, zI_in, zI_div, zI_rem, lg_lt0, lg_gt0, lg_eq0, lg_le0, lg_ge0, Int.toNat_natCast, ge_iff_le, gt_iff_lt, List.length_cons, List.length_nil, bl_up2_at, bl_up2_nk, bl_up2_nx] at h66
                         first
                         | (exfalso; first | omega | exact h66 trivial)
                         | (try dsimp only [bl_pv]
                            refine L78 _ ?_
                            first
                            | rw [if_pos (by omega)]
                            | rw [if_neg (by omega), if_pos (by omega)]
                            | rw [if_neg (by omega), if_neg (by omega), if_pos (by omega)]
                            | rw [if_neg (by omega), if_neg (by omega), if_neg (by omega), if_pos (by omega)]
                            | rw [if_neg (by omega), if_neg (by omega), if_neg (by omega), if_neg (by omega)])
                       · try simp (disch := omega) only [zI_n, zI_o, zI_lit, zI_neg, zI_add, zI_sub, zI_mul, zI_lt, zI_le, zI_eq, zI_clamp, zI_in, zI_div, zI_rem, lg_lt0, lg_gt0, lg_eq0, lg_le0, lg_ge0, Int.toNat_natCast, ge_iff_le, gt_iff_lt, List.length_cons, List.length_nil, bl_up2_at, bl_up2_nk, bl_up2_nx] at h66
                         first
                         | (exfalso; first | omega | exact h66 trivial)
                         | (try dsimp only [bl_pv]
                            refine L78 _ ?_
                            first
                            | rw [if_pos (by omega)]
                            | rw [if_neg (by omega), if_pos (by omega)]
                            | rw [if_neg (by omega), if_neg (by omega), if_pos (by omega)]
                            | rw [if_neg (by omega), if_neg (by omega), if_neg (by omega), if_pos (by omega)]
                            | rw [if_neg (by omega), if_neg (by omega), if_neg (by omega), if_neg (by omega)]))
                  · try simp (disch := omega) only [zI_n, zI_o, zI_lit, zI_neg, zI_add, zI_sub, zI_mul, zI_lt, zI_le, zI_eq, zI_clamp, zI_in, zI_div, zI_rem, lg_lt0, lg_gt0, lg_eq0, lg_le0, lg_ge0, Int.toNat_natCast, ge_iff_le, gt_iff_lt, List.length_cons, List.length_nil, bl_up2_at, bl_up2_nk, bl_up2_nx] at h55
                    first
                    | (exfalso; first | omega | exact h55 trivial)
                    | (try dsimp only [bl_pv]
                       refine L78 _ ?_
                       first
                       | rw [if_pos (by omega)]
                       | rw [if_neg (by omega), if_pos (by omega)]
                       | rw [if_neg (by omega), if_neg (by omega), if_pos (by omega)]
                       | rw [if_neg (by omega), if_neg (by omega), if_neg (by omega), if_pos (by omega)]
                       | rw [if_neg (by omega), if_neg (by omega), if_neg (by omega), if_neg (by omega)]))
             · try simp (disch := omega) only [zI_n, zI_o, zI_lit, zI_neg, zI_add, zI_sub, zI_mul, zI_lt, zI_le, zI_eq, zI_clamp, zI_in, zI_div, zI_rem, lg_lt0, lg_gt0, lg_eq0, lg_le0, lg_ge0, Int.toNat_natCast, ge_iff_le, gt_iff_lt, List.length_cons, List.length_nil, bl_up2_at, bl_up2_nk, bl_up2_nx] at h44
               first
               | (exfalso; first | omega | exact h44 trivial)
               | (try dsimp only [bl_pv]
                  refine L78 _ ?_
                  first
                  | rw [if_pos (by omega)]
                  | rw [if_neg (by omega), if_pos (by omega)]
                  | rw [if_neg (by omega), if_neg (by omega), if_pos (by omega)]
                  | rw [if_neg (by omega), if_neg (by omega), if_neg (by omega), if_pos (by omega)]
                  | rw [if_neg (by omega), if_neg (by omega), if_neg (by omega), if_neg (by omega)]))
        · try simp (disch := omega) only [zI_n, zI_o, zI_lit, zI_neg, zI_add, zI_sub, zI_mul, zI_lt, zI_le, zI_eq, zI_clamp, zI_in, zI_div, zI_rem, lg_lt0, lg_gt0, lg_eq0, lg_le0, lg_ge0, Int.toNat_natCast, ge_iff_le, gt_iff_lt, List.length_cons, List.length_nil, bl_up2_at, bl_up2_nk, bl_up2_nx] at h33
          first
          | (exfalso; first | omega | exact h33 trivial)
          | (try dsimp only [bl_pv]
             refine L78 _ ?_
             first
             | rw [if_pos (by omega)]
             | rw [if_neg (by omega), if_pos (by omega)]
             | rw [if_neg (by omega), if_neg (by omega), if_pos (by omega)]
             | rw [if_neg (by omega), if_neg (by omega), if_neg (by omega), if_pos (by omega)]
             | rw [if_neg (by omega), if_neg (by omega), if_neg (by omega), if_neg (by omega)])
  have ht' : bl_up2 I m 0 0 m 1 = nI t := (bl_up2_nk (by omega)).trans ht
  refine bl_go oX11_feed 80 [23, 78] rfl ?_
  refine ⟨km, Or.inr (Or.inr ⟨rfl, rfl, _, rfl⟩), (fun h => by cases h), km, fun h15 => ?_, fun h15 => ?_⟩
  · try simp (disch := omega) only [bl_pv, cl0, cl1, cl2, cl3, cl4, cl5, cl6, cl7, cl8, cl9, bl_up2_at, bl_up2_nk, bl_up2_nx] at h15
    first
    | (exfalso; first | omega | exact h15 trivial)
    | (try dsimp only [bl_pv]
       simp (disch := omega) only [ht, zI_n, zI_o, zI_lit, zI_neg, zI_add, zI_sub, zI_mul, zI_lt, zI_le, zI_eq, zI_clamp, zI_in, zI_div, zI_rem, lg_lt0, lg_gt0, lg_eq0, lg_le0, lg_ge0, Int.toNat_natCast, ge_iff_le, gt_iff_lt, List.length_cons, List.length_nil, bl_up2_at, bl_up2_nk, bl_up2_nx] at h15
       refine L23 (by omega) 0 (by omega) _ _ rfl (fun x x1 x2 => bl_up2_ne x1) (fun j j0 j1 => bl_up2_nk j0) bl_up2_at ht' (fun j => ?_)
       rw [if_neg (by omega), bl_up2_ne (by omega)])
  · try simp (disch := omega) only [bl_pv, cl0, cl1, cl2, cl3, cl4, cl5, cl6, cl7, cl8, cl9, bl_up2_at, bl_up2_nk, bl_up2_nx] at h15
    first
    | (exfalso; first | omega | exact h15 trivial)
    | (refine ⟨(fun h => by cases h), ?_⟩
       try show _ ∧ _
       try dsimp only [bl_pv]
       simp (disch := omega) only [ht, zI_n, zI_o, zI_lit, zI_neg, zI_add, zI_sub, zI_mul, zI_lt, zI_le, zI_eq, zI_clamp, zI_in, zI_div, zI_rem, lg_lt0, lg_gt0, lg_eq0, lg_le0, lg_ge0, Int.toNat_natCast, ge_iff_le, gt_iff_lt, List.length_cons, List.length_nil, bl_up2_at, bl_up2_nk, bl_up2_nx] at h15
       exact Or.inl ⟨by omega, rfl, rfl⟩)
end MODEL10
