/-! ===== Model: thin, behind, joins, leaf and others ===== -/
section MODEL24
variable {G : bl_G} {l : Launch} {d m : Nat} {I : Nat → Nat → Int32} {J : Nat → Nat → Int64} {R : Nat → Nat → Option Nat} {K N : Nat → Nat} {A : aS} {x y w a b : Int32}
theorem askW_t (h : askE A x y = 0) {hi : Int32} (hw : 0 ≤ w ∧ w ≤ hi) : askW A x y w hi = 0 := by unfold askW; rw [if_pos h, if_pos (wb_t hw)]
theorem askW_f (h : askE A x y = 0) {hi : Int32} (hw : ¬ (0 ≤ w ∧ w ≤ hi)) : askW A x y w hi = 3 := by unfold askW; rw [if_pos h, if_neg (wb_f hw)]
theorem askW_n (h : ¬ askE A x y = 0) {hi : Int32} : askW A x y w hi = askE A x y := by unfold askW; rw [if_neg h]
theorem askE_k (hK : mdK I m A) (h : askE A x y = 0) : ∃ r k, r < A.2.2.1 ∧ x = nI r ∧ rn x = r ∧ k ≤ aD A r ∧ y = nI k ∧ rn y = k := by
  have hc4 := hK.2.2.1.2.1
  unfold askE at h
  by_cases hz : rb A.2.2.1 x = true
  · obtain ⟨r, hr, e, er⟩ := rb_n (by omega) hz
    have hle := aD_le hK hr
    rw [if_pos hz, er] at h
    by_cases hy : rb (aD A r + 1) y = true
    · obtain ⟨k, hk, e', ek⟩ := rb_n (by omega) hy
      exact ⟨r, k, hr, e, er, by omega, e', ek⟩
    · rw [if_neg hy] at h; exact absurd h (by decide)
  · rw [if_neg hz] at h; exact absurd h (by decide)
theorem slOk_A (hK : mdK I m A) {r k : Nat} (hr : r < A.2.2.1) (hk : k ≤ aD A r) : slOk (aSl A r k) := slOk_at (slOk_first hK.2.1) (hK.2.2.1.2.2 r hr).2.2.1 (dnf_is _ _) k hk

theorem c_Model_thin (hm : mdS R K N m) (hK : mdK I m A) : bl_MC G l (d + 7) mX11_thin [.ref m, .int x, .int y] (I, J, R, K, N) (0, 0) (fun o σ' => ∃ I' J' v, σ' = (I', J', R, K, N) ∧ gtG I I' J J' m ∧ I' m 0 = nI (askE A x y) ∧ o = .inl (some (.long v)) ∧ (askE A x y = 0 → v = nJ (aSl A (rn x) (rn y)).2.2.1)) := by
  have km := hm.2.1
  have hK0 : mdK (bl_up2 I m 0 0) m A := hK.G (J := J) (J' := J) gtG.up
  by_cases hE : askE A x y = 0
  · skip
    refine bl_MC_intro (by decide +kernel) rfl (Nat.le_of_ble_eq_true rfl) ?_
    refine bl_go oX11_thin 80 [] rfl ?_
    refine ⟨km, Or.inr (Or.inr ⟨rfl, rfl, _, rfl⟩), (fun h => by cases h), rfl, rfl, km, (Nat.le_of_ble_eq_true rfl), (0, 0), Nat.le_of_ble_eq_true rfl, Nat.le_of_ble_eq_true rfl, bl_MC_mono (c_Model_asks (d := d) hm hK0 bl_up2_at) (fun o8 σ8 q8 => ?_)⟩
    try dsimp only [bl_pv] at q8
    obtain ⟨I1, J1, rfl, f1, f2, rfl, f3⟩ := q8
    have f4 := f3 hE
    have f5 := gtG.trans gtG.up f1
    rw [if_pos hE]
    refine bl_go oX11_thin 80 [] rfl ?_
    refine ⟨fun h11 => ?_, fun h11 => ?_⟩
    · try simp (disch := omega) only [bl_pv, cl0, cl1, cl2, cl3, cl4, cl5, cl6, cl7, cl8, cl9, bl_up2_at, bl_up2_nk, bl_up2_nx] at h11
      first
      | (exfalso; first | omega | exact h11 trivial)
      | (refine ⟨km, ?_⟩
         try show _ ∧ _
         try dsimp only [bl_pv]
         exact ⟨I1, J1, _, rfl, f5, f2, rfl, fun _ => f4.1.2.1⟩)
    · try simp (disch := omega) only [bl_pv, cl0, cl1, cl2, cl3, cl4, cl5, cl6, cl7, cl8, cl9, bl_up2_at, bl_up2_nk, bl_up2_nx] at h11
      (first | exact absurd rfl h11 | exact absurd trivial h11 | exact absurd h11 (by decide))
  · skip
    refine bl_MC_intro (by decide +kernel) rfl (Nat.le_of_ble_eq_true rfl) ?_
    refine bl_go oX11_thin 80 [16] rfl ?_
    refine ⟨km, Or.inr (Or.inr ⟨rfl, rfl, _, rfl⟩), (fun h => by cases h), rfl, rfl, km, (Nat.le_of_ble_eq_true rfl), (0, 0), Nat.le_of_ble_eq_true rfl, Nat.le_of_ble_eq_true rfl, bl_MC_mono (c_Model_asks (d := d) hm hK0 bl_up2_at) (fun o8 σ8 q8 => ?_)⟩
    try dsimp only [bl_pv] at q8
    obtain ⟨I1, J1, rfl, f1, f2, rfl, f3⟩ := q8
    rw [if_neg hE]
    refine bl_go oX11_thin 80 [16] rfl ?_
    refine ⟨fun h11 => ?_, fun h11 => ?_⟩
    · try simp (disch := omega) only [bl_pv, cl0, cl1, cl2, cl3, cl4, cl5, cl6, cl7, cl8, cl9, bl_up2_at, bl_up2_nk, bl_up2_nx] at h11
      first
      | (exfalso; first | omega | exact h11 trivial)
      | (try dsimp only [bl_pv]
         (first | exact absurd rfl h11 | exact absurd trivial h11 | exact absurd h11 (by decide)))
    · try simp (disch := omega) only [bl_pv, cl0, cl1, cl2, cl3, cl4, cl5, cl6, cl7, cl8, cl9, bl_up2_at, bl_up2_nk, bl_up2_nx] at h11
      first
      | (exfalso; first | omega | exact h11 trivial)
      | (try show _ ∧ _
         try dsimp only [bl_pv]
         exact ⟨I1, J1, _, rfl, gtG.trans gtG.up f1, f2, rfl, fun h => absurd h hE⟩)

theorem c_Model_behind (hm : mdS R K N m) (hK : mdK I m A) : bl_MC G l (d + 7) mX11_behind [.ref m, .int x, .int y, .int w] (I, J, R, K, N) (0, 0) (fun o σ' => ∃ I' J' v, σ' = (I', J', R, K, N) ∧ gtG I I' J J' m ∧ I' m 0 = nI (askW A x y w 3) ∧ o = .inl (some (.int v)) ∧ (askW A x y w 3 = 0 → v = if w = 0 then nI (aSl A (rn x) (rn y)).1.1 else if w = 1 then nI (aSl A (rn x) (rn y)).2.1.1 else if w = 2 then nI (fwU (A.2.2.2.1 (rn x)) A.2.2.2.2 (rn y)) - nI A.2.2.2.2 else fwW A.1 A.2.1 (A.2.2.2.1 (rn x)) A.2.2.2.2 (rn y))) := by
  have km := hm.2.1
  have hK0 : mdK (bl_up2 I m 0 0) m A := hK.G (J := J) (J' := J) gtG.up
  by_cases hE : askE A x y = 0
  · by_cases hw : 0 ≤ w ∧ w ≤ 3
    · have hW := askW_t hE hw
      obtain ⟨v, hv, rfl⟩ := i32_nat (b := 3) (by omega) hw.1 hw.2
      refine bl_MC_intro (by decide +kernel) rfl (Nat.le_of_ble_eq_true rfl) ?_
      refine bl_go oX11_behind 80 [] rfl ?_
      refine ⟨km, Or.inr (Or.inr ⟨rfl, rfl, _, rfl⟩), (fun h => by cases h), rfl, rfl, km, (Nat.le_of_ble_eq_true rfl), (0, 0), Nat.le_of_ble_eq_true rfl, Nat.le_of_ble_eq_true rfl, bl_MC_mono (c_Model_asks (d := d) hm hK0 bl_up2_at) (fun o8 σ8 q8 => ?_)⟩
      try dsimp only [bl_pv] at q8
      obtain ⟨I1, J1, rfl, f1, f2, rfl, f3⟩ := q8
      have f4 := f3 hE
      have f5 := gtG.trans gtG.up f1
      rw [hE] at f2
      rw [if_pos hE]
      refine bl_go oX11_behind 80 [] rfl ?_
      refine ⟨fun h11 => ?_, fun h11 => ?_⟩
      · try simp (disch := omega) only [bl_pv, cl0, cl1, cl2, cl3, cl4, cl5, cl6, cl7, cl8, cl9, bl_up2_at, bl_up2_nk, bl_up2_nx] at h11
        (first | exact absurd rfl h11 | exact absurd trivial h11 | exact absurd h11 (by decide))
      · try simp (disch := omega) only [bl_pv, cl0, cl1, cl2, cl3, cl4, cl5, cl6, cl7, cl8, cl9, bl_up2_at, bl_up2_nk, bl_up2_nx] at h11
        first
        | (exfalso; first | omega | exact h11 trivial)
        | (refine ⟨rfl, (Nat.le_of_ble_eq_true rfl), (0, 0), Nat.le_of_ble_eq_true rfl, Nat.le_of_ble_eq_true rfl, bl_MC_mono (c_Model_inT (d := d + 6) hw) (fun o18 σ18 q18 => ?_)⟩
           try dsimp only [bl_pv] at q18
           obtain ⟨rfl, rfl⟩ := q18
           refine bl_go oX11_behind 80 [] rfl ?_
           refine ⟨fun h21 => ?_, fun h21 => ?_⟩
           · try simp (disch := omega) only [bl_pv, cl0, cl1, cl2, cl3, cl4, cl5, cl6, cl7, cl8, cl9, bl_up2_at, bl_up2_nk, bl_up2_nx] at h21
             first
             | (exfalso; first | omega | exact h21 trivial)
             | (refine ⟨rfl, rfl, km, (Nat.le_of_ble_eq_true rfl), (0, 0), Nat.le_of_ble_eq_true rfl, Nat.le_of_ble_eq_true rfl, bl_MC_mono (c_Model_badF (d := d + 6) km f2) (fun o30 σ30 q30 => ?_)⟩
                try dsimp only [bl_pv] at q30
                obtain ⟨rfl, rfl⟩ := q30
                refine bl_go oX11_behind 80 [] rfl ?_
                refine ⟨fun h33 => ?_, fun h33 => ?_⟩
                · try simp (disch := omega) only [bl_pv, cl0, cl1, cl2, cl3, cl4, cl5, cl6, cl7, cl8, cl9, bl_up2_at, bl_up2_nk, bl_up2_nx] at h33
                  first
                  | (exfalso; first | omega | exact h33 trivial)
                  | (refine ⟨fun h39 => ?_, fun h39 => ?_⟩
                     · try simp (disch := omega) only [zI_n, zI_o, zI_lit, zI_neg, zI_add, zI_sub, zI_mul, zI_lt, zI_le, zI_eq, zI_clamp, zI_in, zI_div, zI_rem, lg_lt0, lg_gt0, lg_eq0, lg_le0, lg_ge0, Int.toNat_natCast, ge_iff_le, gt_iff_lt, List.length_cons, List.length_nil, bl_up2_at, bl_up2_nk, bl_up2_nx] at h39
                       first
                       | (exfalso; first | omega | exact h39 trivial)
                       | (refine ⟨fun h51 => ?_, fun h51 => ?_⟩
                          · try simp (disch := omega) only [zI_n, zI_o, zI_lit, zI_neg, zI_add, zI_sub, zI_mul, zI_lt, zI_le, zI_eq, zI_clamp, zI_in, zI_div, zI_rem, lg_lt0, lg_gt0, lg_eq0, lg_le0, lg_ge0, Int.toNat_natCast, ge_iff_le, gt_iff_lt, List.length_cons, List.length_nil, bl_up2_at, bl_up2_nk, bl_up2_nx] at h51
                            first
                            | (exfalso; first | omega | exact h51 trivial)
                            | (refine ⟨fun h63 => ?_, fun h63 => ?_⟩
                               · try simp (disch := omega) only [zI_n, zI_o, zI_lit, zI_neg, zI_add, zI_sub, zI_mul, zI_lt, zI_le, zI_eq, zI_clamp, zI_in, zI_div, zI_rem, lg_lt0, lg_gt0, lg_eq0, lg_le0, lg_ge0, Int.toNat_natCast, ge_iff_le, gt_iff_lt, List.length_cons, List.length_nil, bl_up2_at, bl_up2_nk, bl_up2_nx] at h63
                                 first
                                 | (exfalso; first | omega | exact h63 trivial)
                                 | (refine ⟨km, (fun h => by cases h), ?_⟩
                                    try show _ ∧ _
                                    try dsimp only [bl_pv]
                                    refine ⟨I1, J1, _, rfl, f5, by rw [hW]; exact f2, rfl, fun _ => ?_⟩
                                    first
                                    | (have hq : v = 0 := by omega
                                       subst hq; rw [if_pos (show nI 0 = 0 from rfl)]; exact f4.1.1.1)
                                    | (have hq : v = 1 := by omega
                                       subst hq; rw [if_neg (by decide), if_pos (show nI 1 = 1 from rfl)]; exact f4.1.1.2.1)
                                    | (have hq : v = 2 := by omega
                                       subst hq; rw [if_neg (by decide), if_neg (by decide), if_pos (show nI 2 = 2 from rfl), f4.2.2.2.2.1, (f5.2.1 14 (by omega) (by omega)).trans hK.2.2.2.1])
                                    | (have hq : v = 3 := by omega
                                       subst hq; rw [if_neg (by decide), if_neg (by decide), if_neg (by decide)]; exact f4.2.2.2.2.2))
                               · try simp (disch := omega) only [zI_n, zI_o, zI_lit, zI_neg, zI_add, zI_sub, zI_mul, zI_lt, zI_le, zI_eq, zI_clamp, zI_in, zI_div, zI_rem, lg_lt0, lg_gt0, lg_eq0, lg_le0, lg_ge0, Int.toNat_natCast, ge_iff_le, gt_iff_lt, List.length_cons, List.length_nil, bl_up2_at, bl_up2_nk, bl_up2_nx] at h63
                                 first
                                 | (exfalso; first | omega | exact h63 trivial)
                                 | (refine ⟨km, km, (fun h => by cases h), ?_⟩
                                    try show _ ∧ _
                                    try dsimp only [bl_pv]
                                    refine ⟨I1, J1, _, rfl, f5, by rw [hW]; exact f2, rfl, fun _ => ?_⟩
                                    first
                                    | (have hq : v = 0 := by omega
                                       subst hq; rw [if_pos (show nI 0 = 0 from rfl)]; exact f4.1.1.1)
                                    | (have hq : v = 1 := by omega
                                       subst hq; rw [if_neg (by decide), if_pos (show nI 1 = 1 from rfl)]; exact f4.1.1.2.1)
                                    | (have hq : v = 2 := by omega
                                       subst hq; rw [if_neg (by decide), if_neg (by decide), if_pos (show nI 2 = 2 from rfl), f4.2.2.2.2.1, (f5.2.1 14 (by omega) (by omega)).trans hK.2.2.2.1])
                                    | (have hq : v = 3 := by omega
                                       subst hq; rw [if_neg (by decide), if_neg (by decide), if_neg (by decide)]; exact f4.2.2.2.2.2)))
                          · try simp (disch := omega) only [zI_n, zI_o, zI_lit, zI_neg, zI_add, zI_sub, zI_mul, zI_lt, zI_le, zI_eq, zI_clamp, zI_in, zI_div, zI_rem, lg_lt0, lg_gt0, lg_eq0, lg_le0, lg_ge0, Int.toNat_natCast, ge_iff_le, gt_iff_lt, List.length_cons, List.length_nil, bl_up2_at, bl_up2_nk, bl_up2_nx] at h51
                            first
                            | (exfalso; first | omega | exact h51 trivial)
                            | (refine ⟨km, (fun h => by cases h), ?_⟩
                               try show _ ∧ _
                               try dsimp only [bl_pv]
                               refine ⟨I1, J1, _, rfl, f5, by rw [hW]; exact f2, rfl, fun _ => ?_⟩
                               first
                               | (have hq : v = 0 := by omega
                                  subst hq; rw [if_pos (show nI 0 = 0 from rfl)]; exact f4.1.1.1)
                               | (have hq : v = 1 := by omega
                                  subst hq; rw [if_neg (by decide), if_pos (show nI 1 = 1 from rfl)]; exact f4.1.1.2.1)
                               | (have hq : v = 2 := by omega
                                  subst hq; rw [if_neg (by decide), if_neg (by decide), if_pos (show nI 2 = 2 from rfl), f4.2.2.2.2.1, (f5.2.1 14 (by omega) (by omega)).trans hK.2.2.2.1])
                               | (have hq : v = 3 := by omega
                                  subst hq; rw [if_neg (by decide), if_neg (by decide), if_neg (by decide)]; exact f4.2.2.2.2.2)))
                     · try simp (disch := omega) only [zI_n, zI_o, zI_lit, zI_neg, zI_add, zI_sub, zI_mul, zI_lt, zI_le, zI_eq, zI_clamp, zI_in, zI_div, zI_rem, lg_lt0, lg_gt0, lg_eq0, lg_le0, lg_ge0, Int.toNat_natCast, ge_iff_le, gt_iff_lt, List.length_cons, List.length_nil, bl_up2_at, bl_up2_nk, bl_up2_nx] at h39
                       first
                       | (exfalso; first | omega | exact h39 trivial)
                       | (refine ⟨km, (fun h => by cases h), ?_⟩
                          try show _ ∧ _
                          try dsimp only [bl_pv]
                          refine ⟨I1, J1, _, rfl, f5, by rw [hW]; exact f2, rfl, fun _ => ?_⟩
                          first
                          | (have hq : v = 0 := by omega
                             subst hq; rw [if_pos (show nI 0 = 0 from rfl)]; exact f4.1.1.1)
                          | (have hq : v = 1 := by omega
                             subst hq; rw [if_neg (by decide), if_pos (show nI 1 = 1 from rfl)]; exact f4.1.1.2.1)
                          | (have hq : v = 2 := by omega
                             subst hq; rw [if_neg (by decide), if_neg (by decide), if_pos (show nI 2 = 2 from rfl), f4.2.2.2.2.1, (f5.2.1 14 (by omega) (by omega)).trans hK.2.2.2.1])
                          | (have hq : v = 3 := by omega
                             subst hq; rw [if_neg (by decide), if_neg (by decide), if_neg (by decide)]; exact f4.2.2.2.2.2)))
                · try simp (disch := omega) only [bl_pv, cl0, cl1, cl2, cl3, cl4, cl5, cl6, cl7, cl8, cl9, bl_up2_at, bl_up2_nk, bl_up2_nx] at h33
                  (first | exact absurd rfl h33 | exact absurd trivial h33 | exact absurd h33 (by decide)))
           · try simp (disch := omega) only [bl_pv, cl0, cl1, cl2, cl3, cl4, cl5, cl6, cl7, cl8, cl9, bl_up2_at, bl_up2_nk, bl_up2_nx] at h21
             (first | exact absurd rfl h21 | exact absurd trivial h21 | exact absurd h21 (by decide)))
    · have hW := askW_f hE hw
      refine bl_MC_intro (by decide +kernel) rfl (Nat.le_of_ble_eq_true rfl) ?_
      refine bl_go oX11_behind 80 [38] rfl ?_
      refine ⟨km, Or.inr (Or.inr ⟨rfl, rfl, _, rfl⟩), (fun h => by cases h), rfl, rfl, km, (Nat.le_of_ble_eq_true rfl), (0, 0), Nat.le_of_ble_eq_true rfl, Nat.le_of_ble_eq_true rfl, bl_MC_mono (c_Model_asks (d := d) hm hK0 bl_up2_at) (fun o8 σ8 q8 => ?_)⟩
      try dsimp only [bl_pv] at q8
      obtain ⟨I1, J1, rfl, f1, f2, rfl, f3⟩ := q8
      have f5 := gtG.trans gtG.up f1
      rw [hE] at f2
      rw [if_pos hE]
      refine bl_go oX11_behind 80 [38] rfl ?_
      refine ⟨fun h11 => ?_, fun h11 => ?_⟩
      · try simp (disch := omega) only [bl_pv, cl0, cl1, cl2, cl3, cl4, cl5, cl6, cl7, cl8, cl9, bl_up2_at, bl_up2_nk, bl_up2_nx] at h11
        (first | exact absurd rfl h11 | exact absurd trivial h11 | exact absurd h11 (by decide))
      · try simp (disch := omega) only [bl_pv, cl0, cl1, cl2, cl3, cl4, cl5, cl6, cl7, cl8, cl9, bl_up2_at, bl_up2_nk, bl_up2_nx] at h11
        first
        | (exfalso; first | omega | exact h11 trivial)
        | (refine ⟨rfl, (Nat.le_of_ble_eq_true rfl), (0, 0), Nat.le_of_ble_eq_true rfl, Nat.le_of_ble_eq_true rfl, bl_MC_mono (c_Model_inF (d := d + 6) hw) (fun o18 σ18 q18 => ?_)⟩
           try dsimp only [bl_pv] at q18
           obtain ⟨rfl, rfl⟩ := q18
           refine bl_go oX11_behind 80 [38] rfl ?_
           refine ⟨fun h21 => ?_, fun h21 => ?_⟩
           · try simp (disch := omega) only [bl_pv, cl0, cl1, cl2, cl3, cl4, cl5, cl6, cl7, cl8, cl9, bl_up2_at, bl_up2_nk, bl_up2_nx] at h21
             (first | exact absurd rfl h21 | exact absurd trivial h21 | exact absurd h21 (by decide))
           · try simp (disch := omega) only [bl_pv, cl0, cl1, cl2, cl3, cl4, cl5, cl6, cl7, cl8, cl9, bl_up2_at, bl_up2_nk, bl_up2_nx] at h21
             first
             | (exfalso; first | omega | exact h21 trivial)
             | (refine ⟨rfl, rfl, km, (Nat.le_of_ble_eq_true rfl), (0, 0), Nat.le_of_ble_eq_true rfl, Nat.le_of_ble_eq_true rfl, bl_MC_mono (c_Model_badT (d := d + 6) km f2 (by decide) (by decide)) (fun o30 σ30 q30 => ?_)⟩
                try dsimp only [bl_pv] at q30
                obtain ⟨rfl, rfl⟩ := q30
                refine bl_go oX11_behind 80 [38] rfl ?_
                refine ⟨fun h33 => ?_, fun h33 => ?_⟩
                · try simp (disch := omega) only [bl_pv, cl0, cl1, cl2, cl3, cl4, cl5, cl6, cl7, cl8, cl9, bl_up2_at, bl_up2_nk, bl_up2_nx] at h33
                  first
                  | (exfalso; first | omega | exact h33 trivial)
                  | (try dsimp only [bl_pv]
                     (first | exact absurd rfl h33 | exact absurd trivial h33 | exact absurd h33 (by decide)))
                · try simp (disch := omega) only [bl_pv, cl0, cl1, cl2, cl3, cl4, cl5, cl6, cl7, cl8, cl9, bl_up2_at, bl_up2_nk, bl_up2_nx] at h33
                  first
                  | (exfalso; first | omega | exact h33 trivial)
                  | (refine ⟨(fun h => by cases h), ?_⟩
                     try show _ ∧ _
                     try dsimp only [bl_pv]
                     exact ⟨_, J1, _, rfl, f5.trans gtG.up, by rw [hW]; exact bl_up2_at, rfl, fun h => absurd (hW.symm.trans h) (by decide)⟩)))
  · have hW := askW_n (w := w) (hi := 3) hE
    refine bl_MC_intro (by decide +kernel) rfl (Nat.le_of_ble_eq_true rfl) ?_
    refine bl_go oX11_behind 80 [14] rfl ?_
    refine ⟨km, Or.inr (Or.inr ⟨rfl, rfl, _, rfl⟩), (fun h => by cases h), rfl, rfl, km, (Nat.le_of_ble_eq_true rfl), (0, 0), Nat.le_of_ble_eq_true rfl, Nat.le_of_ble_eq_true rfl, bl_MC_mono (c_Model_asks (d := d) hm hK0 bl_up2_at) (fun o8 σ8 q8 => ?_)⟩
    try dsimp only [bl_pv] at q8
    obtain ⟨I1, J1, rfl, f1, f2, rfl, f3⟩ := q8
    rw [if_neg hE]
    refine bl_go oX11_behind 80 [14] rfl ?_
    refine ⟨fun h11 => ?_, fun h11 => ?_⟩
    · try simp (disch := omega) only [bl_pv, cl0, cl1, cl2, cl3, cl4, cl5, cl6, cl7, cl8, cl9, bl_up2_at, bl_up2_nk, bl_up2_nx] at h11
      first
      | (exfalso; first | omega | exact h11 trivial)
      | (refine ⟨(fun h => by cases h), ?_⟩
         try show _ ∧ _
         try dsimp only [bl_pv]
         exact ⟨I1, J1, _, rfl, gtG.trans gtG.up f1, by rw [hW]; exact f2, rfl, fun h => absurd (hW.symm.trans h) hE⟩)
    · try simp (disch := omega) only [bl_pv, cl0, cl1, cl2, cl3, cl4, cl5, cl6, cl7, cl8, cl9, bl_up2_at, bl_up2_nk, bl_up2_nx] at h11
      first
      | (exfalso; first | omega | exact h11 trivial)
      | (try dsimp only [bl_pv]
         (first | exact absurd rfl h11 | exact absurd trivial h11 | exact absurd h11 (by decide)))

theorem c_Model_joins (hm : mdS R K N m) (hK : mdK I m A) : bl_MC G l (d + 7) mX11_joins [.ref m, .int x, .int y, .int w] (I, J, R, K, N) (0, 0) (fun o σ' => ∃ I' J' v, σ' = (I', J', R, K, N) ∧ gtG I I' J J' m ∧ I' m 0 = nI (askW A x y w 1) ∧ o = .inl (some (.long v)) ∧ (askW A x y w 1 = 0 → v = if w = 0 then nJ (aSl A (rn x) (rn y)).2.2.2.1 else 0)) := by
  have km := hm.2.1
  obtain ⟨rm_41, km41, nm41⟩ := hm.f41
  have hK0 : mdK (bl_up2 I m 0 0) m A := hK.G (J := J) (J' := J) gtG.up
  by_cases hE : askE A x y = 0
  · by_cases hw : 0 ≤ w ∧ w ≤ 1
    · have hW := askW_t hE hw
      obtain ⟨v, hv, rfl⟩ := i32_nat (b := 1) (by omega) hw.1 hw.2
      refine bl_MC_intro (by decide +kernel) rfl (Nat.le_of_ble_eq_true rfl) ?_
      refine bl_go oX11_joins 80 [] rfl ?_
      refine ⟨km, Or.inr (Or.inr ⟨rfl, rfl, _, rfl⟩), (fun h => by cases h), rfl, rfl, km, (Nat.le_of_ble_eq_true rfl), (0, 0), Nat.le_of_ble_eq_true rfl, Nat.le_of_ble_eq_true rfl, bl_MC_mono (c_Model_asks (d := d) hm hK0 bl_up2_at) (fun o8 σ8 q8 => ?_)⟩
      try dsimp only [bl_pv] at q8
      obtain ⟨I1, J1, rfl, f1, f2, rfl, f3⟩ := q8
      have f4 := f3 hE
      have f5 := gtG.trans gtG.up f1
      rw [hE] at f2
      rw [if_pos hE]
      refine bl_go oX11_joins 80 [] rfl ?_
      refine ⟨fun h11 => ?_, fun h11 => ?_⟩
      · try simp (disch := omega) only [bl_pv, cl0, cl1, cl2, cl3, cl4, cl5, cl6, cl7, cl8, cl9, bl_up2_at, bl_up2_nk, bl_up2_nx] at h11
        (first | exact absurd rfl h11 | exact absurd trivial h11 | exact absurd h11 (by decide))
      · try simp (disch := omega) only [bl_pv, cl0, cl1, cl2, cl3, cl4, cl5, cl6, cl7, cl8, cl9, bl_up2_at, bl_up2_nk, bl_up2_nx] at h11
        first
        | (exfalso; first | omega | exact h11 trivial)
        | (refine ⟨rfl, (Nat.le_of_ble_eq_true rfl), (0, 0), Nat.le_of_ble_eq_true rfl, Nat.le_of_ble_eq_true rfl, bl_MC_mono (c_Model_inT (d := d + 6) hw) (fun o18 σ18 q18 => ?_)⟩
           try dsimp only [bl_pv] at q18
           obtain ⟨rfl, rfl⟩ := q18
           refine bl_go oX11_joins 80 [] rfl ?_
           refine ⟨fun h21 => ?_, fun h21 => ?_⟩
           · try simp (disch := omega) only [bl_pv, cl0, cl1, cl2, cl3, cl4, cl5, cl6, cl7, cl8, cl9, bl_up2_at, bl_up2_nk, bl_up2_nx] at h21
             first
             | (exfalso; first | omega | exact h21 trivial)
             | (refine ⟨rfl, rfl, km, (Nat.le_of_ble_eq_true rfl), (0, 0), Nat.le_of_ble_eq_true rfl, Nat.le_of_ble_eq_true rfl, bl_MC_mono (c_Model_badF (d := d + 6) km f2) (fun o30 σ30 q30 => ?_)⟩
                try dsimp only [bl_pv] at q30
                obtain ⟨rfl, rfl⟩ := q30
                refine bl_go oX11_joins 80 [] rfl ?_
                refine ⟨fun h33 => ?_, fun h33 => ?_⟩
                · try simp (disch := omega) only [bl_pv, cl0, cl1, cl2, cl3, cl4, cl5, cl6, cl7, cl8, cl9, bl_up2_at, bl_up2_nk, bl_up2_nx] at h33
                  first
                  | (exfalso; first | omega | exact h33 trivial)
                  | (refine ⟨km, _, bl_vs rm_41, km41, (by first | exact (by rw [nm41]; exact vp_in_nI (by omega) (by omega)) | ((try dsimp only [bl_pv]); show vp_in _ (N _); rw [nm41]; simp (disch := omega) only [zI_n, zI_o, zI_lit, zI_neg, zI_add, zI_sub, zI_mul, zI_lt, zI_le, zI_eq, zI_clamp, zI_in, zI_div, zI_rem, lg_lt0, lg_gt0, lg_eq0, lg_le0, lg_ge0, Int.toNat_natCast, ge_iff_le, gt_iff_lt, List.length_cons, List.length_nil, bl_up2_at, bl_up2_nk, bl_up2_nx] <;> omega)), ?_⟩
                     try show _ ∧ _
                     try dsimp only [bl_pv]
                     refine ⟨I1, J1, _, rfl, f5, by rw [hW]; exact f2, rfl, fun _ => ?_⟩
                     rw [show (nI v).toNatClampNeg = v from nI_clamp (by omega)]
                     have hv2 : v = 0 ∨ v = 1 := by omega
                     rcases hv2 with rfl | rfl
                     · rw [if_pos (show nI 0 = 0 from rfl)]; exact f4.1.2.2.2.1
                     · rw [if_neg (by decide)]; exact f4.1.2.2.2.2)
                · try simp (disch := omega) only [bl_pv, cl0, cl1, cl2, cl3, cl4, cl5, cl6, cl7, cl8, cl9, bl_up2_at, bl_up2_nk, bl_up2_nx] at h33
                  (first | exact absurd rfl h33 | exact absurd trivial h33 | exact absurd h33 (by decide)))
           · try simp (disch := omega) only [bl_pv, cl0, cl1, cl2, cl3, cl4, cl5, cl6, cl7, cl8, cl9, bl_up2_at, bl_up2_nk, bl_up2_nx] at h21
             (first | exact absurd rfl h21 | exact absurd trivial h21 | exact absurd h21 (by decide)))
    · have hW := askW_f hE hw
      refine bl_MC_intro (by decide +kernel) rfl (Nat.le_of_ble_eq_true rfl) ?_
      refine bl_go oX11_joins 80 [38] rfl ?_
      refine ⟨km, Or.inr (Or.inr ⟨rfl, rfl, _, rfl⟩), (fun h => by cases h), rfl, rfl, km, (Nat.le_of_ble_eq_true rfl), (0, 0), Nat.le_of_ble_eq_true rfl, Nat.le_of_ble_eq_true rfl, bl_MC_mono (c_Model_asks (d := d) hm hK0 bl_up2_at) (fun o8 σ8 q8 => ?_)⟩
      try dsimp only [bl_pv] at q8
      obtain ⟨I1, J1, rfl, f1, f2, rfl, f3⟩ := q8
      have f5 := gtG.trans gtG.up f1
      rw [hE] at f2
      rw [if_pos hE]
      refine bl_go oX11_joins 80 [38] rfl ?_
      refine ⟨fun h11 => ?_, fun h11 => ?_⟩
      · try simp (disch := omega) only [bl_pv, cl0, cl1, cl2, cl3, cl4, cl5, cl6, cl7, cl8, cl9, bl_up2_at, bl_up2_nk, bl_up2_nx] at h11
        (first | exact absurd rfl h11 | exact absurd trivial h11 | exact absurd h11 (by decide))
      · try simp (disch := omega) only [bl_pv, cl0, cl1, cl2, cl3, cl4, cl5, cl6, cl7, cl8, cl9, bl_up2_at, bl_up2_nk, bl_up2_nx] at h11
        first
        | (exfalso; first | omega | exact h11 trivial)
        | (refine ⟨rfl, (Nat.le_of_ble_eq_true rfl), (0, 0), Nat.le_of_ble_eq_true rfl, Nat.le_of_ble_eq_true rfl, bl_MC_mono (c_Model_inF (d := d + 6) hw) (fun o18 σ18 q18 => ?_)⟩
           try dsimp only [bl_pv] at q18
           obtain ⟨rfl, rfl⟩ := q18
           refine bl_go oX11_joins 80 [38] rfl ?_
           refine ⟨fun h21 => ?_, fun h21 => ?_⟩
           · try simp (disch := omega) only [bl_pv, cl0, cl1, cl2, cl3, cl4, cl5, cl6, cl7, cl8, cl9, bl_up2_at, bl_up2_nk, bl_up2_nx] at h21
             (first | exact absurd rfl h21 | exact absurd trivial h21 | exact absurd h21 (by decide))
           · try simp (disch := omega) only [bl_pv, cl0, cl1, cl2, cl3, cl4, cl5, cl6, cl7, cl8, cl9, bl_up2_at, bl_up2_nk, bl_up2_nx] at h21
             first
             | (exfalso; first | omega | exact h21 trivial)
             | (refine ⟨rfl, rfl, km, (Nat.le_of_ble_eq_true rfl), (0, 0), Nat.le_of_ble_eq_true rfl, Nat.le_of_ble_eq_true rfl, bl_MC_mono (c_Model_badT (d := d + 6) km f2 (by decide) (by decide)) (fun o30 σ30 q30 => ?_)⟩
                try dsimp only [bl_pv] at q30
                obtain ⟨rfl, rfl⟩ := q30
                refine bl_go oX11_joins 80 [38] rfl ?_
                refine ⟨fun h33 => ?_, fun h33 => ?_⟩
                · try simp (disch := omega) only [bl_pv, cl0, cl1, cl2, cl3, cl4, cl5, cl6, cl7, cl8, cl9, bl_up2_at, bl_up2_nk, bl_up2_nx] at h33
                  first
                  | (exfalso; first | omega | exact h33 trivial)
                  | (try dsimp only [bl_pv]
                     (first | exact absurd rfl h33 | exact absurd trivial h33 | exact absurd h33 (by decide)))
                · try simp (disch := omega) only [bl_pv, cl0, cl1, cl2, cl3, cl4, cl5, cl6, cl7, cl8, cl9, bl_up2_at, bl_up2_nk, bl_up2_nx] at h33
                  first
                  | (exfalso; first | omega | exact h33 trivial)
                  | (try show _ ∧ _
                     try dsimp only [bl_pv]
                     exact ⟨_, J1, _, rfl, f5.trans gtG.up, by rw [hW]; exact bl_up2_at, rfl, fun h => absurd (hW.symm.trans h) (by decide)⟩)))
  · have hW := askW_n (w := w) (hi := 1) hE
    refine bl_MC_intro (by decide +kernel) rfl (Nat.le_of_ble_eq_true rfl) ?_
    refine bl_go oX11_joins 80 [14] rfl ?_
    refine ⟨km, Or.inr (Or.inr ⟨rfl, rfl, _, rfl⟩), (fun h => by cases h), rfl, rfl, km, (Nat.le_of_ble_eq_true rfl), (0, 0), Nat.le_of_ble_eq_true rfl, Nat.le_of_ble_eq_true rfl, bl_MC_mono (c_Model_asks (d := d) hm hK0 bl_up2_at) (fun o8 σ8 q8 => ?_)⟩
    try dsimp only [bl_pv] at q8
    obtain ⟨I1, J1, rfl, f1, f2, rfl, f3⟩ := q8
    rw [if_neg hE]
    refine bl_go oX11_joins 80 [14] rfl ?_
    refine ⟨fun h11 => ?_, fun h11 => ?_⟩
    · try simp (disch := omega) only [bl_pv, cl0, cl1, cl2, cl3, cl4, cl5, cl6, cl7, cl8, cl9, bl_up2_at, bl_up2_nk, bl_up2_nx] at h11
      first
      | (exfalso; first | omega | exact h11 trivial)
      | (try show _ ∧ _
         try dsimp only [bl_pv]
         exact ⟨I1, J1, _, rfl, gtG.trans gtG.up f1, by rw [hW]; exact f2, rfl, fun h => absurd (hW.symm.trans h) hE⟩)
    · try simp (disch := omega) only [bl_pv, cl0, cl1, cl2, cl3, cl4, cl5, cl6, cl7, cl8, cl9, bl_up2_at, bl_up2_nk, bl_up2_nx] at h11
      first
      | (exfalso; first | omega | exact h11 trivial)
      | (try dsimp only [bl_pv]
         (first | exact absurd rfl h11 | exact absurd trivial h11 | exact absurd h11 (by decide)))

/-- the cell is there -/
def cb (S : sl) (a b : Int32) : Bool := rb S.1.1 a && rb S.2.1.1 b
noncomputable def askC (A : aS) (x y a b w hi : Int32) : Nat := if askE A x y = 0 then (if cb (aSl A (rn x) (rn y)) a b then (if wb hi w then 0 else 3) else 2) else askE A x y
theorem askC_t (h : askE A x y = 0) (hc : cb (aSl A (rn x) (rn y)) a b = true) {hi : Int32} (hw : 0 ≤ w ∧ w ≤ hi) : askC A x y a b w hi = 0 := by unfold askC; rw [if_pos h, if_pos hc, if_pos (wb_t hw)]
theorem askC_w (h : askE A x y = 0) (hc : cb (aSl A (rn x) (rn y)) a b = true) {hi : Int32} (hw : ¬ (0 ≤ w ∧ w ≤ hi)) : askC A x y a b w hi = 3 := by unfold askC; rw [if_pos h, if_pos hc, if_neg (wb_f hw)]
theorem askC_c (h : askE A x y = 0) (hc : ¬ cb (aSl A (rn x) (rn y)) a b = true) {hi : Int32} : askC A x y a b w hi = 2 := by unfold askC; rw [if_pos h, if_neg hc]
theorem askC_n (h : ¬ askE A x y = 0) {hi : Int32} : askC A x y a b w hi = askE A x y := by unfold askC; rw [if_neg h]
theorem askE_ok (hK : mdK I m A) (h : askE A x y = 0) : slOk (aSl A (rn x) (rn y)) := by
  obtain ⟨r, k, hr, -, er, hk, -, ek⟩ := askE_k hK h
  rw [er, ek]; exact slOk_A hK hr hk
theorem cb_n {S : sl} (hS : slOk S) (h : cb S a b = true) : ∃ p q, p < S.1.1 ∧ q < S.2.1.1 ∧ a = nI p ∧ b = nI q ∧ rn a = p ∧ rn b = q := by
  obtain ⟨⟨-, h1⟩, -, h2⟩ := hS
  unfold cb at h
  rw [Bool.and_eq_true] at h
  obtain ⟨p, p1, p2, p3⟩ := rb_n (by omega) h.1
  obtain ⟨q, q1, q2, q3⟩ := rb_n (by omega) h.2
  exact ⟨p, q, p1, q1, p2, q2, p3, q3⟩
theorem c_Model_isCell {S : sl} (km : K m = 12) (h1 : I m 21 = nI S.1.1) (h2 : I m 22 = nI S.2.1.1) (hS : slOk S) : bl_MC G l (d + 1) mX11_isCell [.ref m, .int a, .int b] (I, J, R, K, N) (0, 0) (fun o σ' => o = .inl (some (.int (if cb S a b then 1 else 0))) ∧ σ' = (I, J, R, K, N)) := by
  have e1 : I m 21 - 1 = zI ((S.1.1 : Int) - 1) := by rw [h1, zI_n, show (1 : Int32) = zI 1 from rfl, zI_sub]
  have e2 : I m 22 - 1 = zI ((S.2.1.1 : Int) - 1) := by rw [h2, zI_n, show (1 : Int32) = zI 1 from rfl, zI_sub]
  by_cases ha : rb S.1.1 a = true
  · have ha' : 0 ≤ a ∧ a ≤ I m 21 - 1 := by rw [e1]; exact rb_t.mp ha
    by_cases hb : rb S.2.1.1 b = true
    · have hb' : 0 ≤ b ∧ b ≤ I m 22 - 1 := by rw [e2]; exact rb_t.mp hb
      have hc : cb S a b = true := by unfold cb; rw [ha, hb]; rfl
      refine bl_MC_intro (by decide +kernel) rfl (Nat.le_of_ble_eq_true rfl) ?_
      refine bl_go oX11_isCell 80 [] rfl ?_
      refine ⟨km, rfl, (Nat.le_of_ble_eq_true rfl), (0, 0), Nat.le_of_ble_eq_true rfl, Nat.le_of_ble_eq_true rfl, bl_MC_mono (c_Model_inT (d := d) ha') (fun o8 σ8 q8 => ?_)⟩
      try dsimp only [bl_pv] at q8
      obtain ⟨rfl, rfl⟩ := q8
      refine bl_go oX11_isCell 80 [] rfl ?_
      refine ⟨fun h11 => ?_, fun h11 => ?_⟩
      · try simp (disch := omega) only [bl_pv, cl0, cl1, cl2, cl3, cl4, cl5, cl6, cl7, cl8, cl9, bl_up2_at, bl_up2_nk, bl_up2_nx] at h11
        (first | exact absurd rfl h11 | exact absurd trivial h11 | exact absurd h11 (by decide))
      · try simp (disch := omega) only [bl_pv, cl0, cl1, cl2, cl3, cl4, cl5, cl6, cl7, cl8, cl9, bl_up2_at, bl_up2_nk, bl_up2_nx] at h11
        first
        | (exfalso; first | omega | exact h11 trivial)
        | (refine ⟨km, rfl, (Nat.le_of_ble_eq_true rfl), (0, 0), Nat.le_of_ble_eq_true rfl, Nat.le_of_ble_eq_true rfl, bl_MC_mono (c_Model_inT (d := d) hb') (fun o22 σ22 q22 => ?_)⟩
           try dsimp only [bl_pv] at q22
           obtain ⟨rfl, rfl⟩ := q22
           refine bl_go oX11_isCell 80 [] rfl ?_
           refine ⟨fun h25 => ?_, fun h25 => ?_⟩
           · try simp (disch := omega) only [bl_pv, cl0, cl1, cl2, cl3, cl4, cl5, cl6, cl7, cl8, cl9, bl_up2_at, bl_up2_nk, bl_up2_nx] at h25
             (first | exact absurd rfl h25 | exact absurd trivial h25 | exact absurd h25 (by decide))
           · try simp (disch := omega) only [bl_pv, cl0, cl1, cl2, cl3, cl4, cl5, cl6, cl7, cl8, cl9, bl_up2_at, bl_up2_nk, bl_up2_nx] at h25
             first
             | (exfalso; first | omega | exact h25 trivial)
             | (refine ⟨(fun _ => by first | exact Or.inl rfl | exact Or.inr rfl), ?_⟩
                try show _ ∧ _
                try dsimp only [bl_pv]
                rw [if_pos hc]; exact ⟨rfl, rfl⟩))
    · have hb' : ¬ (0 ≤ b ∧ b ≤ I m 22 - 1) := by rw [e2]; exact fun h => hb (rb_t.mpr h)
      have hc : ¬ cb S a b = true := fun h => by unfold cb at h; rw [Bool.and_eq_true] at h; exact hb h.2
      refine bl_MC_intro (by decide +kernel) rfl (Nat.le_of_ble_eq_true rfl) ?_
      refine bl_go oX11_isCell 80 [] rfl ?_
      refine ⟨km, rfl, (Nat.le_of_ble_eq_true rfl), (0, 0), Nat.le_of_ble_eq_true rfl, Nat.le_of_ble_eq_true rfl, bl_MC_mono (c_Model_inT (d := d) ha') (fun o8 σ8 q8 => ?_)⟩
      try dsimp only [bl_pv] at q8
      obtain ⟨rfl, rfl⟩ := q8
      refine bl_go oX11_isCell 80 [] rfl ?_
      refine ⟨fun h11 => ?_, fun h11 => ?_⟩
      · try simp (disch := omega) only [bl_pv, cl0, cl1, cl2, cl3, cl4, cl5, cl6, cl7, cl8, cl9, bl_up2_at, bl_up2_nk, bl_up2_nx] at h11
        (first | exact absurd rfl h11 | exact absurd trivial h11 | exact absurd h11 (by decide))
      · try simp (disch := omega) only [bl_pv, cl0, cl1, cl2, cl3, cl4, cl5, cl6, cl7, cl8, cl9, bl_up2_at, bl_up2_nk, bl_up2_nx] at h11
        first
        | (exfalso; first | omega | exact h11 trivial)
        | (refine ⟨km, rfl, (Nat.le_of_ble_eq_true rfl), (0, 0), Nat.le_of_ble_eq_true rfl, Nat.le_of_ble_eq_true rfl, bl_MC_mono (c_Model_inF (d := d) hb') (fun o22 σ22 q22 => ?_)⟩
           try dsimp only [bl_pv] at q22
           obtain ⟨rfl, rfl⟩ := q22
           refine bl_go oX11_isCell 80 [] rfl ?_
           refine ⟨fun h25 => ?_, fun h25 => ?_⟩
           · try simp (disch := omega) only [bl_pv, cl0, cl1, cl2, cl3, cl4, cl5, cl6, cl7, cl8, cl9, bl_up2_at, bl_up2_nk, bl_up2_nx] at h25
             first
             | (exfalso; first | omega | exact h25 trivial)
             | (refine ⟨(fun _ => by first | exact Or.inl rfl | exact Or.inr rfl), ?_⟩
                try show _ ∧ _
                try dsimp only [bl_pv]
                rw [if_neg hc]; exact ⟨rfl, rfl⟩)
           · try simp (disch := omega) only [bl_pv, cl0, cl1, cl2, cl3, cl4, cl5, cl6, cl7, cl8, cl9, bl_up2_at, bl_up2_nk, bl_up2_nx] at h25
             (first | exact absurd rfl h25 | exact absurd trivial h25 | exact absurd h25 (by decide)))
  · have ha' : ¬ (0 ≤ a ∧ a ≤ I m 21 - 1) := by rw [e1]; exact fun h => ha (rb_t.mpr h)
    have hc : ¬ cb S a b = true := fun h => by unfold cb at h; rw [Bool.and_eq_true] at h; exact ha h.1
    refine bl_MC_intro (by decide +kernel) rfl (Nat.le_of_ble_eq_true rfl) ?_
    refine bl_go oX11_isCell 80 [] rfl ?_
    refine ⟨km, rfl, (Nat.le_of_ble_eq_true rfl), (0, 0), Nat.le_of_ble_eq_true rfl, Nat.le_of_ble_eq_true rfl, bl_MC_mono (c_Model_inF (d := d) ha') (fun o8 σ8 q8 => ?_)⟩
    try dsimp only [bl_pv] at q8
    obtain ⟨rfl, rfl⟩ := q8
    refine bl_go oX11_isCell 80 [] rfl ?_
    refine ⟨fun h11 => ?_, fun h11 => ?_⟩
    · try simp (disch := omega) only [bl_pv, cl0, cl1, cl2, cl3, cl4, cl5, cl6, cl7, cl8, cl9, bl_up2_at, bl_up2_nk, bl_up2_nx] at h11
      first
      | (exfalso; first | omega | exact h11 trivial)
      | (refine ⟨(fun _ => by first | exact Or.inl rfl | exact Or.inr rfl), ?_⟩
         try show _ ∧ _
         try dsimp only [bl_pv]
         rw [if_neg hc]; exact ⟨rfl, rfl⟩)
    · try simp (disch := omega) only [bl_pv, cl0, cl1, cl2, cl3, cl4, cl5, cl6, cl7, cl8, cl9, bl_up2_at, bl_up2_nk, bl_up2_nx] at h11
      (first | exact absurd rfl h11 | exact absurd trivial h11 | exact absurd h11 (by decide))
/-- what leaf answers -/
def lfv (S : sl) (p q : Nat) (w : Int32) : Int64 := if w = 0 then nJ (slP S p q + 1) else if w = 1 then nJ (slP S p q) else if w = 4 then nJ (slQ S p q) else 0
theorem c_Model_leaf (hm : mdS R K N m) (hK : mdK I m A) : bl_MC G l (d + 7) mX11_leaf [.ref m, .int x, .int y, .int a, .int b, .int w] (I, J, R, K, N) (0, 0) (fun o σ' => ∃ I' J' v, σ' = (I', J', R, K, N) ∧ gtG I I' J J' m ∧ I' m 0 = nI (askC A x y a b w 4) ∧ o = .inl (some (.long v)) ∧ (askC A x y a b w 4 = 0 → v = lfv (aSl A (rn x) (rn y)) (rn a) (rn b) w)) := by
  have km := hm.2.1
  obtain ⟨rm_31, km31, nm31⟩ := hm.f31
  obtain ⟨rm_32, km32, nm32⟩ := hm.f32
  obtain ⟨rm_33, km33, nm33⟩ := hm.f33
  obtain ⟨rm_37, km37, nm37⟩ := hm.f37
  obtain ⟨rm_38, km38, nm38⟩ := hm.f38
  have hK0 : mdK (bl_up2 I m 0 0) m A := hK.G (J := J) (J' := J) gtG.up
  by_cases hE : askE A x y = 0
  · by_cases hc : cb (aSl A (rn x) (rn y)) a b = true
    · by_cases hw : 0 ≤ w ∧ w ≤ 4
      · have hW := askC_t hE hc hw
        obtain ⟨v, hv, rfl⟩ := i32_nat (b := 4) (by omega) hw.1 hw.2
        have hok := askE_ok hK hE
        obtain ⟨p, q, hp, hq, rfl, rfl, ep, eq⟩ := cb_n hok hc
        refine bl_MC_intro (by decide +kernel) rfl (Nat.le_of_ble_eq_true rfl) ?_
        refine bl_go oX11_leaf 80 [] rfl ?_
        refine ⟨km, Or.inr (Or.inr ⟨rfl, rfl, _, rfl⟩), (fun h => by cases h), rfl, rfl, km, (Nat.le_of_ble_eq_true rfl), (0, 0), Nat.le_of_ble_eq_true rfl, Nat.le_of_ble_eq_true rfl, bl_MC_mono (c_Model_asks (d := d) hm hK0 bl_up2_at) (fun o8 σ8 q8 => ?_)⟩
        try dsimp only [bl_pv] at q8
        obtain ⟨I1, J1, rfl, f1, f2, rfl, f3⟩ := q8
        have f4 := f3 hE
        have f5 := gtG.trans gtG.up f1
        rw [hE] at f2
        rw [if_pos hE]
        refine bl_go oX11_leaf 80 [] rfl ?_
        refine ⟨fun h11 => ?_, fun h11 => ?_⟩
        · try simp (disch := omega) only [bl_pv, cl0, cl1, cl2, cl3, cl4, cl5, cl6, cl7, cl8, cl9, bl_up2_at, bl_up2_nk, bl_up2_nx] at h11
          (first | exact absurd rfl h11 | exact absurd trivial h11 | exact absurd h11 (by decide))
        · try simp (disch := omega) only [bl_pv, cl0, cl1, cl2, cl3, cl4, cl5, cl6, cl7, cl8, cl9, bl_up2_at, bl_up2_nk, bl_up2_nx] at h11
          first
          | (exfalso; first | omega | exact h11 trivial)
          | (refine ⟨rfl, rfl, km, (Nat.le_of_ble_eq_true rfl), (0, 0), Nat.le_of_ble_eq_true rfl, Nat.le_of_ble_eq_true rfl, bl_MC_mono (c_Model_isCell (d := d + 5) (S := aSl A (rn x) (rn y)) km f4.1.1.1 f4.1.1.2.1 hok) (fun o19 σ19 q19 => ?_)⟩
             try dsimp only [bl_pv] at q19
             obtain ⟨rfl, rfl⟩ := q19
             rw [if_pos hc]
             refine bl_go oX11_leaf 80 [] rfl ?_
             refine ⟨fun h22 => ?_, fun h22 => ?_⟩
             · try simp (disch := omega) only [bl_pv, cl0, cl1, cl2, cl3, cl4, cl5, cl6, cl7, cl8, cl9, bl_up2_at, bl_up2_nk, bl_up2_nx] at h22
               first
               | (exfalso; first | omega | exact h22 trivial)
               | (refine ⟨rfl, rfl, km, (Nat.le_of_ble_eq_true rfl), (0, 0), Nat.le_of_ble_eq_true rfl, Nat.le_of_ble_eq_true rfl, bl_MC_mono (c_Model_badF (d := d + 6) km f2) (fun o31 σ31 q31 => ?_)⟩
                  try dsimp only [bl_pv] at q31
                  obtain ⟨rfl, rfl⟩ := q31
                  refine bl_go oX11_leaf 80 [] rfl ?_
                  refine ⟨fun h34 => ?_, fun h34 => ?_⟩
                  · try simp (disch := omega) only [bl_pv, cl0, cl1, cl2, cl3, cl4, cl5, cl6, cl7, cl8, cl9, bl_up2_at, bl_up2_nk, bl_up2_nx] at h34
                    (first | exact absurd rfl h34 | exact absurd trivial h34 | exact absurd h34 (by decide))
                  · try simp (disch := omega) only [bl_pv, cl0, cl1, cl2, cl3, cl4, cl5, cl6, cl7, cl8, cl9, bl_up2_at, bl_up2_nk, bl_up2_nx] at h34
                    first
                    | (exfalso; first | omega | exact h34 trivial)
                    | (refine ⟨rfl, (Nat.le_of_ble_eq_true rfl), (0, 0), Nat.le_of_ble_eq_true rfl, Nat.le_of_ble_eq_true rfl, bl_MC_mono (c_Model_inT (d := d + 6) hw) (fun o42 σ42 q42 => ?_)⟩
                       try dsimp only [bl_pv] at q42
                       obtain ⟨rfl, rfl⟩ := q42
                       refine bl_go oX11_leaf 80 [] rfl ?_
                       refine ⟨fun h45 => ?_, fun h45 => ?_⟩
                       · try simp (disch := omega) only [bl_pv, cl0, cl1, cl2, cl3, cl4, cl5, cl6, cl7, cl8, cl9, bl_up2_at, bl_up2_nk, bl_up2_nx] at h45
                         first
                         | (exfalso; first | omega | exact h45 trivial)
                         | (refine ⟨rfl, rfl, km, (Nat.le_of_ble_eq_true rfl), (0, 0), Nat.le_of_ble_eq_true rfl, Nat.le_of_ble_eq_true rfl, bl_MC_mono (c_Model_badF (d := d + 6) km f2) (fun o54 σ54 q54 => ?_)⟩
                            try dsimp only [bl_pv] at q54
                            obtain ⟨rfl, rfl⟩ := q54
                            refine bl_go oX11_leaf 80 [] rfl ?_
                            refine ⟨fun h57 => ?_, fun h57 => ?_⟩
                            · try simp (disch := omega) only [bl_pv, cl0, cl1, cl2, cl3, cl4, cl5, cl6, cl7, cl8, cl9, bl_up2_at, bl_up2_nk, bl_up2_nx] at h57
                              first
                              | (exfalso; first | omega | exact h57 trivial)
                              | (refine ⟨rfl, (Nat.le_of_ble_eq_true rfl), (0, 0), Nat.le_of_ble_eq_true rfl, Nat.le_of_ble_eq_true rfl, bl_MC_mono (c_Model_cell (d := d + 6) (x := p) (y := q) rfl rfl) (fun o65 σ65 q65 => ?_)⟩
                                 try dsimp only [bl_pv] at q65
                                 obtain ⟨rfl, rfl⟩ := q65
                                 have hok' := hok
                                 obtain ⟨⟨-, o1⟩, -, o2⟩ := hok'
                                 have ec : (nI (48 * q + p)).toNatClampNeg = 48 * q + p := nI_clamp (by omega)
                                 obtain ⟨z1, z2, z3, z4, z5⟩ := f4.1.1.2.2 p q hp hq
                                 refine bl_go oX11_leaf 80 [] rfl ?_
                                 refine ⟨fun h72 => ?_, fun h72 => ?_⟩
                                 · try simp (disch := omega) only [zI_n, zI_o, zI_lit, zI_neg, zI_add, zI_sub, zI_mul, zI_lt, zI_le, zI_eq, zI_clamp, zI_in, zI_div, zI_rem, lg_lt0, lg_gt0, lg_eq0, lg_le0, lg_ge0, Int.toNat_natCast, ge_iff_le, gt_iff_lt, List.length_cons, List.length_nil, bl_up2_at, bl_up2_nk, bl_up2_nx] at h72
                                   first
                                   | (exfalso; first | omega | exact h72 trivial)
                                   | (refine ⟨fun h88 => ?_, fun h88 => ?_⟩
                                      · try simp (disch := omega) only [zI_n, zI_o, zI_lit, zI_neg, zI_add, zI_sub, zI_mul, zI_lt, zI_le, zI_eq, zI_clamp, zI_in, zI_div, zI_rem, lg_lt0, lg_gt0, lg_eq0, lg_le0, lg_ge0, Int.toNat_natCast, ge_iff_le, gt_iff_lt, List.length_cons, List.length_nil, bl_up2_at, bl_up2_nk, bl_up2_nx] at h88
                                        first
                                        | (exfalso; first | omega | exact h88 trivial)
                                        | (refine ⟨fun h104 => ?_, fun h104 => ?_⟩
                                           · try simp (disch := omega) only [zI_n, zI_o, zI_lit, zI_neg, zI_add, zI_sub, zI_mul, zI_lt, zI_le, zI_eq, zI_clamp, zI_in, zI_div, zI_rem, lg_lt0, lg_gt0, lg_eq0, lg_le0, lg_ge0, Int.toNat_natCast, ge_iff_le, gt_iff_lt, List.length_cons, List.length_nil, bl_up2_at, bl_up2_nk, bl_up2_nx] at h104
                                             first
                                             | (exfalso; first | omega | exact h104 trivial)
                                             | (refine ⟨fun h121 => ?_, fun h121 => ?_⟩
                                                · try simp (disch := omega) only [zI_n, zI_o, zI_lit, zI_neg, zI_add, zI_sub, zI_mul, zI_lt, zI_le, zI_eq, zI_clamp, zI_in, zI_div, zI_rem, lg_lt0, lg_gt0, lg_eq0, lg_le0, lg_ge0, Int.toNat_natCast, ge_iff_le, gt_iff_lt, List.length_cons, List.length_nil, bl_up2_at, bl_up2_nk, bl_up2_nx] at h121
                                                  first
                                                  | (exfalso; first | omega | exact h121 trivial)
                                                  | (refine ⟨km, _, bl_vs rm_33, km33, (by first | exact (by rw [nm33]; exact vp_in_nI (by omega) (by omega)) | ((try dsimp only [bl_pv]); show vp_in _ (N _); rw [nm33]; simp (disch := omega) only [zI_n, zI_o, zI_lit, zI_neg, zI_add, zI_sub, zI_mul, zI_lt, zI_le, zI_eq, zI_clamp, zI_in, zI_div, zI_rem, lg_lt0, lg_gt0, lg_eq0, lg_le0, lg_ge0, Int.toNat_natCast, ge_iff_le, gt_iff_lt, List.length_cons, List.length_nil, bl_up2_at, bl_up2_nk, bl_up2_nx] <;> omega)), ?_⟩
                                                     try show _ ∧ _
                                                     try dsimp only [bl_pv]
                                                     refine ⟨I1, J1, _, rfl, f5, by rw [hW]; exact f2, rfl, fun _ => ?_⟩
                                                     unfold lfv
                                                     rw [ec, show rn (nI p) = p from ep, show rn (nI q) = q from eq]
                                                     first
                                                     | (have hq : v = 0 := by omega
                                                        subst hq; rw [if_pos (show nI 0 = 0 from rfl)]; exact z1)
                                                     | (have hq : v = 1 := by omega
                                                        subst hq; rw [if_neg (by decide), if_pos (show nI 1 = 1 from rfl)]; exact z2)
                                                     | (have hq : v = 2 := by omega
                                                        subst hq; rw [if_neg (by decide), if_neg (by decide), if_neg (by decide), z4]; rfl)
                                                     | (have hq : v = 3 := by omega
                                                        subst hq; rw [if_neg (by decide), if_neg (by decide), if_neg (by decide), z5]; rfl)
                                                     | (have hq : v = 4 := by omega
                                                        subst hq; rw [if_neg (by decide), if_neg (by decide), if_pos (show nI 4 = 4 from rfl)]; exact z3))
                                                · try simp (disch := omega) only [zI_n, zI_o, zI_lit, zI_neg, zI_add, zI_sub, zI_mul, zI_lt, zI_le, zI_eq, zI_clamp, zI_in, zI_div, zI_rem, lg_lt0, lg_gt0, lg_eq0, lg_le0, lg_ge0, Int.toNat_natCast, ge_iff_le, gt_iff_lt, List.length_cons, List.length_nil, bl_up2_at, bl_up2_nk, bl_up2_nx] at h121
                                                  first
                                                  | (exfalso; first | omega | exact h121 trivial)
                                                  | (refine ⟨km, _, bl_vs rm_38, Or.inl ⟨km38, (by first | exact (by rw [nm38]; exact vp_in_nI (by omega) (by omega)) | ((try dsimp only [bl_pv]); show vp_in _ (N _); rw [nm38]; simp (disch := omega) only [zI_n, zI_o, zI_lit, zI_neg, zI_add, zI_sub, zI_mul, zI_lt, zI_le, zI_eq, zI_clamp, zI_in, zI_div, zI_rem, lg_lt0, lg_gt0, lg_eq0, lg_le0, lg_ge0, Int.toNat_natCast, ge_iff_le, gt_iff_lt, List.length_cons, List.length_nil, bl_up2_at, bl_up2_nk, bl_up2_nx] <;> omega)), ?_⟩⟩
                                                     try show _ ∧ _
                                                     try dsimp only [bl_pv]
                                                     refine ⟨I1, J1, _, rfl, f5, by rw [hW]; exact f2, rfl, fun _ => ?_⟩
                                                     unfold lfv
                                                     rw [ec, show rn (nI p) = p from ep, show rn (nI q) = q from eq]
                                                     first
                                                     | (have hq : v = 0 := by omega
                                                        subst hq; rw [if_pos (show nI 0 = 0 from rfl)]; exact z1)
                                                     | (have hq : v = 1 := by omega
                                                        subst hq; rw [if_neg (by decide), if_pos (show nI 1 = 1 from rfl)]; exact z2)
                                                     | (have hq : v = 2 := by omega
                                                        subst hq; rw [if_neg (by decide), if_neg (by decide), if_neg (by decide), z4]; rfl)
                                                     | (have hq : v = 3 := by omega
                                                        subst hq; rw [if_neg (by decide), if_neg (by decide), if_neg (by decide), z5]; rfl)
                                                     | (have hq : v = 4 := by omega
                                                        subst hq; rw [if_neg (by decide), if_neg (by decide), if_pos (show nI 4 = 4 from rfl)]; exact z3)))
                                           · try simp (disch := omega) only [zI_n, zI_o, zI_lit, zI_neg, zI_add, zI_sub, zI_mul, zI_lt, zI_le, zI_eq, zI_clamp, zI_in, zI_div, zI_rem, lg_lt0, lg_gt0, lg_eq0, lg_le0, lg_ge0, Int.toNat_natCast, ge_iff_le, gt_iff_lt, List.length_cons, List.length_nil, bl_up2_at, bl_up2_nk, bl_up2_nx] at h104
                                             first
                                             | (exfalso; first | omega | exact h104 trivial)
                                             | (refine ⟨km, _, bl_vs rm_37, Or.inl ⟨km37, (by first | exact (by rw [nm37]; exact vp_in_nI (by omega) (by omega)) | ((try dsimp only [bl_pv]); show vp_in _ (N _); rw [nm37]; simp (disch := omega) only [zI_n, zI_o, zI_lit, zI_neg, zI_add, zI_sub, zI_mul, zI_lt, zI_le, zI_eq, zI_clamp, zI_in, zI_div, zI_rem, lg_lt0, lg_gt0, lg_eq0, lg_le0, lg_ge0, Int.toNat_natCast, ge_iff_le, gt_iff_lt, List.length_cons, List.length_nil, bl_up2_at, bl_up2_nk, bl_up2_nx] <;> omega)), ?_⟩⟩
                                                try show _ ∧ _
                                                try dsimp only [bl_pv]
                                                refine ⟨I1, J1, _, rfl, f5, by rw [hW]; exact f2, rfl, fun _ => ?_⟩
                                                unfold lfv
                                                rw [ec, show rn (nI p) = p from ep, show rn (nI q) = q from eq]
                                                first
                                                | (have hq : v = 0 := by omega
                                                   subst hq; rw [if_pos (show nI 0 = 0 from rfl)]; exact z1)
                                                | (have hq : v = 1 := by omega
                                                   subst hq; rw [if_neg (by decide), if_pos (show nI 1 = 1 from rfl)]; exact z2)
                                                | (have hq : v = 2 := by omega
                                                   subst hq; rw [if_neg (by decide), if_neg (by decide), if_neg (by decide), z4]; rfl)
                                                | (have hq : v = 3 := by omega
                                                   subst hq; rw [if_neg (by decide), if_neg (by decide), if_neg (by decide), z5]; rfl)
                                                | (have hq : v = 4 := by omega
                                                   subst hq; rw [if_neg (by decide), if_neg (by decide), if_pos (show nI 4 = 4 from rfl)]; exact z3)))
                                      · try simp (disch := omega) only [zI_n, zI_o, zI_lit, zI_neg, zI_add, zI_sub, zI_mul, zI_lt, zI_le, zI_eq, zI_clamp, zI_in, zI_div, zI_rem, lg_lt0, lg_gt0, lg_eq0, lg_le0, lg_ge0, Int.toNat_natCast, ge_iff_le, gt_iff_lt, List.length_cons, List.length_nil, bl_up2_at, bl_up2_nk, bl_up2_nx] at h88
                                        first
                                        | (exfalso; first | omega | exact h88 trivial)
                                        | (refine ⟨km, _, bl_vs rm_32, km32, (by first | exact (by rw [nm32]; exact vp_in_nI (by omega) (by omega)) | ((try dsimp only [bl_pv]); show vp_in _ (N _); rw [nm32]; simp (disch := omega) only [zI_n, zI_o, zI_lit, zI_neg, zI_add, zI_sub, zI_mul, zI_lt, zI_le, zI_eq, zI_clamp, zI_in, zI_div, zI_rem, lg_lt0, lg_gt0, lg_eq0, lg_le0, lg_ge0, Int.toNat_natCast, ge_iff_le, gt_iff_lt, List.length_cons, List.length_nil, bl_up2_at, bl_up2_nk, bl_up2_nx] <;> omega)), ?_⟩
                                           try show _ ∧ _
                                           try dsimp only [bl_pv]
                                           refine ⟨I1, J1, _, rfl, f5, by rw [hW]; exact f2, rfl, fun _ => ?_⟩
                                           unfold lfv
                                           rw [ec, show rn (nI p) = p from ep, show rn (nI q) = q from eq]
                                           first
                                           | (have hq : v = 0 := by omega
                                              subst hq; rw [if_pos (show nI 0 = 0 from rfl)]; exact z1)
                                           | (have hq : v = 1 := by omega
                                              subst hq; rw [if_neg (by decide), if_pos (show nI 1 = 1 from rfl)]; exact z2)
                                           | (have hq : v = 2 := by omega
                                              subst hq; rw [if_neg (by decide), if_neg (by decide), if_neg (by decide), z4]; rfl)
                                           | (have hq : v = 3 := by omega
                                              subst hq; rw [if_neg (by decide), if_neg (by decide), if_neg (by decide), z5]; rfl)
                                           | (have hq : v = 4 := by omega
                                              subst hq; rw [if_neg (by decide), if_neg (by decide), if_pos (show nI 4 = 4 from rfl)]; exact z3)))
                                 · try simp (disch := omega) only [zI_n, zI_o, zI_lit, zI_neg, zI_add, zI_sub, zI_mul, zI_lt, zI_le, zI_eq, zI_clamp, zI_in, zI_div, zI_rem, lg_lt0, lg_gt0, lg_eq0, lg_le0, lg_ge0, Int.toNat_natCast, ge_iff_le, gt_iff_lt, List.length_cons, List.length_nil, bl_up2_at, bl_up2_nk, bl_up2_nx] at h72
                                   first
                                   | (exfalso; first | omega | exact h72 trivial)
                                   | (refine ⟨km, _, bl_vs rm_31, km31, (by first | exact (by rw [nm31]; exact vp_in_nI (by omega) (by omega)) | ((try dsimp only [bl_pv]); show vp_in _ (N _); rw [nm31]; simp (disch := omega) only [zI_n, zI_o, zI_lit, zI_neg, zI_add, zI_sub, zI_mul, zI_lt, zI_le, zI_eq, zI_clamp, zI_in, zI_div, zI_rem, lg_lt0, lg_gt0, lg_eq0, lg_le0, lg_ge0, Int.toNat_natCast, ge_iff_le, gt_iff_lt, List.length_cons, List.length_nil, bl_up2_at, bl_up2_nk, bl_up2_nx] <;> omega)), ?_⟩
                                      try show _ ∧ _
                                      try dsimp only [bl_pv]
                                      refine ⟨I1, J1, _, rfl, f5, by rw [hW]; exact f2, rfl, fun _ => ?_⟩
                                      unfold lfv
                                      rw [ec, show rn (nI p) = p from ep, show rn (nI q) = q from eq]
                                      first
                                      | (have hq : v = 0 := by omega
                                         subst hq; rw [if_pos (show nI 0 = 0 from rfl)]; exact z1)
                                      | (have hq : v = 1 := by omega
                                         subst hq; rw [if_neg (by decide), if_pos (show nI 1 = 1 from rfl)]; exact z2)
                                      | (have hq : v = 2 := by omega
                                         subst hq; rw [if_neg (by decide), if_neg (by decide), if_neg (by decide), z4]; rfl)
                                      | (have hq : v = 3 := by omega
                                         subst hq; rw [if_neg (by decide), if_neg (by decide), if_neg (by decide), z5]; rfl)
                                      | (have hq : v = 4 := by omega
                                         subst hq; rw [if_neg (by decide), if_neg (by decide), if_pos (show nI 4 = 4 from rfl)]; exact z3)))
                            · try simp (disch := omega) only [bl_pv, cl0, cl1, cl2, cl3, cl4, cl5, cl6, cl7, cl8, cl9, bl_up2_at, bl_up2_nk, bl_up2_nx] at h57
                              (first | exact absurd rfl h57 | exact absurd trivial h57 | exact absurd h57 (by decide)))
                       · try simp (disch := omega) only [bl_pv, cl0, cl1, cl2, cl3, cl4, cl5, cl6, cl7, cl8, cl9, bl_up2_at, bl_up2_nk, bl_up2_nx] at h45
                         (first | exact absurd rfl h45 | exact absurd trivial h45 | exact absurd h45 (by decide))))
             · try simp (disch := omega) only [bl_pv, cl0, cl1, cl2, cl3, cl4, cl5, cl6, cl7, cl8, cl9, bl_up2_at, bl_up2_nk, bl_up2_nx] at h22
               (first | exact absurd rfl h22 | exact absurd trivial h22 | exact absurd h22 (by decide)))
      · have hW := askC_w hE hc hw
        have hok := askE_ok hK hE
        refine bl_MC_intro (by decide +kernel) rfl (Nat.le_of_ble_eq_true rfl) ?_
        refine bl_go oX11_leaf 80 [62] rfl ?_
        refine ⟨km, Or.inr (Or.inr ⟨rfl, rfl, _, rfl⟩), (fun h => by cases h), rfl, rfl, km, (Nat.le_of_ble_eq_true rfl), (0, 0), Nat.le_of_ble_eq_true rfl, Nat.le_of_ble_eq_true rfl, bl_MC_mono (c_Model_asks (d := d) hm hK0 bl_up2_at) (fun o8 σ8 q8 => ?_)⟩
        try dsimp only [bl_pv] at q8
        obtain ⟨I1, J1, rfl, f1, f2, rfl, f3⟩ := q8
        have f4 := f3 hE
        have f5 := gtG.trans gtG.up f1
        rw [hE] at f2
        rw [if_pos hE]
        refine bl_go oX11_leaf 80 [62] rfl ?_
        refine ⟨fun h11 => ?_, fun h11 => ?_⟩
        · try simp (disch := omega) only [bl_pv, cl0, cl1, cl2, cl3, cl4, cl5, cl6, cl7, cl8, cl9, bl_up2_at, bl_up2_nk, bl_up2_nx] at h11
          (first | exact absurd rfl h11 | exact absurd trivial h11 | exact absurd h11 (by decide))
        · try simp (disch := omega) only [bl_pv, cl0, cl1, cl2, cl3, cl4, cl5, cl6, cl7, cl8, cl9, bl_up2_at, bl_up2_nk, bl_up2_nx] at h11
          first
          | (exfalso; first | omega | exact h11 trivial)
          | (refine ⟨rfl, rfl, km, (Nat.le_of_ble_eq_true rfl), (0, 0), Nat.le_of_ble_eq_true rfl, Nat.le_of_ble_eq_true rfl, bl_MC_mono (c_Model_isCell (d := d + 5) (S := aSl A (rn x) (rn y)) km f4.1.1.1 f4.1.1.2.1 hok) (fun o19 σ19 q19 => ?_)⟩
             try dsimp only [bl_pv] at q19
             obtain ⟨rfl, rfl⟩ := q19
             rw [if_pos hc]
             refine bl_go oX11_leaf 80 [62] rfl ?_
             refine ⟨fun h22 => ?_, fun h22 => ?_⟩
             · try simp (disch := omega) only [bl_pv, cl0, cl1, cl2, cl3, cl4, cl5, cl6, cl7, cl8, cl9, bl_up2_at, bl_up2_nk, bl_up2_nx] at h22
               first
               | (exfalso; first | omega | exact h22 trivial)
               | (refine ⟨rfl, rfl, km, (Nat.le_of_ble_eq_true rfl), (0, 0), Nat.le_of_ble_eq_true rfl, Nat.le_of_ble_eq_true rfl, bl_MC_mono (c_Model_badF (d := d + 6) km f2) (fun o31 σ31 q31 => ?_)⟩
                  try dsimp only [bl_pv] at q31
                  obtain ⟨rfl, rfl⟩ := q31
                  refine bl_go oX11_leaf 80 [62] rfl ?_
                  refine ⟨fun h34 => ?_, fun h34 => ?_⟩
                  · try simp (disch := omega) only [bl_pv, cl0, cl1, cl2, cl3, cl4, cl5, cl6, cl7, cl8, cl9, bl_up2_at, bl_up2_nk, bl_up2_nx] at h34
                    (first | exact absurd rfl h34 | exact absurd trivial h34 | exact absurd h34 (by decide))
                  · try simp (disch := omega) only [bl_pv, cl0, cl1, cl2, cl3, cl4, cl5, cl6, cl7, cl8, cl9, bl_up2_at, bl_up2_nk, bl_up2_nx] at h34
                    first
                    | (exfalso; first | omega | exact h34 trivial)
                    | (refine ⟨rfl, (Nat.le_of_ble_eq_true rfl), (0, 0), Nat.le_of_ble_eq_true rfl, Nat.le_of_ble_eq_true rfl, bl_MC_mono (c_Model_inF (d := d + 6) hw) (fun o42 σ42 q42 => ?_)⟩
                       try dsimp only [bl_pv] at q42
                       obtain ⟨rfl, rfl⟩ := q42
                       refine bl_go oX11_leaf 80 [62] rfl ?_
                       refine ⟨fun h45 => ?_, fun h45 => ?_⟩
                       · try simp (disch := omega) only [bl_pv, cl0, cl1, cl2, cl3, cl4, cl5, cl6, cl7, cl8, cl9, bl_up2_at, bl_up2_nk, bl_up2_nx] at h45
                         (first | exact absurd rfl h45 | exact absurd trivial h45 | exact absurd h45 (by decide))
                       · try simp (disch := omega) only [bl_pv, cl0, cl1, cl2, cl3, cl4, cl5, cl6, cl7, cl8, cl9, bl_up2_at, bl_up2_nk, bl_up2_nx] at h45
                         first
                         | (exfalso; first | omega | exact h45 trivial)
                         | (refine ⟨rfl, rfl, km, (Nat.le_of_ble_eq_true rfl), (0, 0), Nat.le_of_ble_eq_true rfl, Nat.le_of_ble_eq_true rfl, bl_MC_mono (c_Model_badT (d := d + 6) km f2 (by decide) (by decide)) (fun o54 σ54 q54 => ?_)⟩
                            try dsimp only [bl_pv] at q54
                            obtain ⟨rfl, rfl⟩ := q54
                            refine bl_go oX11_leaf 80 [62] rfl ?_
                            refine ⟨fun h57 => ?_, fun h57 => ?_⟩
                            · try simp (disch := omega) only [bl_pv, cl0, cl1, cl2, cl3, cl4, cl5, cl6, cl7, cl8, cl9, bl_up2_at, bl_up2_nk, bl_up2_nx] at h57
                              first
                              | (exfalso; first | omega | exact h57 trivial)
                              | (try dsimp only [bl_pv]
                                 (first | exact absurd rfl h57 | exact absurd trivial h57 | exact absurd h57 (by decide)))
                            · try simp (disch := omega) only [bl_pv, cl0, cl1, cl2, cl3, cl4, cl5, cl6, cl7, cl8, cl9, bl_up2_at, bl_up2_nk, bl_up2_nx] at h57
                              first
                              | (exfalso; first | omega | exact h57 trivial)
                              | (try show _ ∧ _
                                 try dsimp only [bl_pv]
                                 exact ⟨_, J1, _, rfl, f5.trans gtG.up, by rw [hW]; exact bl_up2_at, rfl, fun h => absurd (hW.symm.trans h) (by decide)⟩))))
             · try simp (disch := omega) only [bl_pv, cl0, cl1, cl2, cl3, cl4, cl5, cl6, cl7, cl8, cl9, bl_up2_at, bl_up2_nk, bl_up2_nx] at h22
               (first | exact absurd rfl h22 | exact absurd trivial h22 | exact absurd h22 (by decide)))
    · have hW := askC_c (w := w) (hi := 4) hE hc
      have hok := askE_ok hK hE
      refine bl_MC_intro (by decide +kernel) rfl (Nat.le_of_ble_eq_true rfl) ?_
      refine bl_go oX11_leaf 80 [37] rfl ?_
      refine ⟨km, Or.inr (Or.inr ⟨rfl, rfl, _, rfl⟩), (fun h => by cases h), rfl, rfl, km, (Nat.le_of_ble_eq_true rfl), (0, 0), Nat.le_of_ble_eq_true rfl, Nat.le_of_ble_eq_true rfl, bl_MC_mono (c_Model_asks (d := d) hm hK0 bl_up2_at) (fun o8 σ8 q8 => ?_)⟩
      try dsimp only [bl_pv] at q8
      obtain ⟨I1, J1, rfl, f1, f2, rfl, f3⟩ := q8
      have f4 := f3 hE
      have f5 := gtG.trans gtG.up f1
      rw [hE] at f2
      rw [if_pos hE]
      refine bl_go oX11_leaf 80 [37] rfl ?_
      refine ⟨fun h11 => ?_, fun h11 => ?_⟩
      · try simp (disch := omega) only [bl_pv, cl0, cl1, cl2, cl3, cl4, cl5, cl6, cl7, cl8, cl9, bl_up2_at, bl_up2_nk, bl_up2_nx] at h11
        (first | exact absurd rfl h11 | exact absurd trivial h11 | exact absurd h11 (by decide))
      · try simp (disch := omega) only [bl_pv, cl0, cl1, cl2, cl3, cl4, cl5, cl6, cl7, cl8, cl9, bl_up2_at, bl_up2_nk, bl_up2_nx] at h11
        first
        | (exfalso; first | omega | exact h11 trivial)
        | (refine ⟨rfl, rfl, km, (Nat.le_of_ble_eq_true rfl), (0, 0), Nat.le_of_ble_eq_true rfl, Nat.le_of_ble_eq_true rfl, bl_MC_mono (c_Model_isCell (d := d + 5) (S := aSl A (rn x) (rn y)) km f4.1.1.1 f4.1.1.2.1 hok) (fun o19 σ19 q19 => ?_)⟩
           try dsimp only [bl_pv] at q19
           obtain ⟨rfl, rfl⟩ := q19
           rw [if_neg hc]
           refine bl_go oX11_leaf 80 [37] rfl ?_
           refine ⟨fun h22 => ?_, fun h22 => ?_⟩
           · try simp (disch := omega) only [bl_pv, cl0, cl1, cl2, cl3, cl4, cl5, cl6, cl7, cl8, cl9, bl_up2_at, bl_up2_nk, bl_up2_nx] at h22
             (first | exact absurd rfl h22 | exact absurd trivial h22 | exact absurd h22 (by decide))
           · try simp (disch := omega) only [bl_pv, cl0, cl1, cl2, cl3, cl4, cl5, cl6, cl7, cl8, cl9, bl_up2_at, bl_up2_nk, bl_up2_nx] at h22
             first
             | (exfalso; first | omega | exact h22 trivial)
             | (refine ⟨rfl, rfl, km, (Nat.le_of_ble_eq_true rfl), (0, 0), Nat.le_of_ble_eq_true rfl, Nat.le_of_ble_eq_true rfl, bl_MC_mono (c_Model_badT (d := d + 6) km f2 (by decide) (by decide)) (fun o31 σ31 q31 => ?_)⟩
                try dsimp only [bl_pv] at q31
                obtain ⟨rfl, rfl⟩ := q31
                refine bl_go oX11_leaf 80 [37] rfl ?_
                refine ⟨fun h34 => ?_, fun h34 => ?_⟩
                · try simp (disch := omega) only [bl_pv, cl0, cl1, cl2, cl3, cl4, cl5, cl6, cl7, cl8, cl9, bl_up2_at, bl_up2_nk, bl_up2_nx] at h34
                  first
                  | (exfalso; first | omega | exact h34 trivial)
                  | (try show _ ∧ _
                     try dsimp only [bl_pv]
                     exact ⟨_, J1, _, rfl, f5.trans gtG.up, by rw [hW]; exact bl_up2_at, rfl, fun h => absurd (hW.symm.trans h) (by decide)⟩)
                · try simp (disch := omega) only [bl_pv, cl0, cl1, cl2, cl3, cl4, cl5, cl6, cl7, cl8, cl9, bl_up2_at, bl_up2_nk, bl_up2_nx] at h34
                  first
                  | (exfalso; first | omega | exact h34 trivial)
                  | (try dsimp only [bl_pv]
                     (first | exact absurd rfl h34 | exact absurd trivial h34 | exact absurd h34 (by decide)))))
  · have hW := askC_n (a := a) (b := b) (w := w) (hi := 4) hE
    refine bl_MC_intro (by decide +kernel) rfl (Nat.le_of_ble_eq_true rfl) ?_
    refine bl_go oX11_leaf 80 [14] rfl ?_
    refine ⟨km, Or.inr (Or.inr ⟨rfl, rfl, _, rfl⟩), (fun h => by cases h), rfl, rfl, km, (Nat.le_of_ble_eq_true rfl), (0, 0), Nat.le_of_ble_eq_true rfl, Nat.le_of_ble_eq_true rfl, bl_MC_mono (c_Model_asks (d := d) hm hK0 bl_up2_at) (fun o8 σ8 q8 => ?_)⟩
    try dsimp only [bl_pv] at q8
    obtain ⟨I1, J1, rfl, f1, f2, rfl, f3⟩ := q8
    rw [if_neg hE]
    refine bl_go oX11_leaf 80 [14] rfl ?_
    refine ⟨fun h11 => ?_, fun h11 => ?_⟩
    · try simp (disch := omega) only [bl_pv, cl0, cl1, cl2, cl3, cl4, cl5, cl6, cl7, cl8, cl9, bl_up2_at, bl_up2_nk, bl_up2_nx] at h11
      first
      | (exfalso; first | omega | exact h11 trivial)
      | (try show _ ∧ _
         try dsimp only [bl_pv]
         exact ⟨I1, J1, _, rfl, gtG.trans gtG.up f1, by rw [hW]; exact f2, rfl, fun h => absurd (hW.symm.trans h) hE⟩)
    · try simp (disch := omega) only [bl_pv, cl0, cl1, cl2, cl3, cl4, cl5, cl6, cl7, cl8, cl9, bl_up2_at, bl_up2_nk, bl_up2_nx] at h11
      first
      | (exfalso; first | omega | exact h11 trivial)
      | (try dsimp only [bl_pv]
         (first | exact absurd rfl h11 | exact absurd trivial h11 | exact absurd h11 (by decide)))

end MODEL24
