/-! ===== Model: makes ===== -/
section MODEL20
variable {G : bl_G} {l : Launch} {d m : Nat} {I : Nat → Nat → Int32} {J : Nat → Nat → Int64} {R : Nat → Nat → Option Nat} {K N : Nat → Nat} {S : sl}
theorem c_Model_makes_0 {n : Nat} {x y : Int32} (hm : mdS R K N m) (hx : x = nI 0) (hy : y = nI n) (hk : st_ok 0 n) (hcan : sl_can 0 n S.1.1) (hS : slOk S) (h : msl I J m S) : bl_MC G l (d + 3) mX11_makes [.ref m, .int x, .int y] (I, J, R, K, N) (0, 0) (fun o σ' => o = .inl none ∧ ∃ I' J', σ' = (I', J', R, K, N) ∧ smF I I' J J' m ∧ msl I' J' m (sl_step S 0 n)) := by
  have km := hm.2.1
  obtain ⟨z1, z2, z3, z4, z5⟩ := h
  obtain ⟨⟨a1, a2⟩, b1, b2⟩ := hS
  have hn := hk.2.2.1 (by omega)
  subst hx hy
  refine bl_MC_intro (by decide +kernel) rfl (Nat.le_of_ble_eq_true rfl) ?_
  refine bl_go oX11_makes 80 [] rfl ?_
  refine ⟨fun h1 => ?_, fun j1 o1 ho1 h1 _ => ?_⟩
  · try simp (disch := omega) only [zI_n, zI_o, zI_lit, zI_neg, zI_add, zI_sub, zI_mul, zI_lt, zI_le, zI_eq, zI_clamp, zI_in, zI_div, zI_rem, lg_lt0, lg_gt0, lg_eq0, lg_le0, lg_ge0, Int.toNat_natCast, ge_iff_le, gt_iff_lt, List.length_cons, List.length_nil, bl_up2_at, bl_up2_nk, bl_up2_nx, zI_toInt] at h1
    first
    | (exfalso; first | omega | exact h1 trivial)
    | (try show _ ∧ _
       try dsimp only [bl_pv]
       refine ⟨rfl, I1, J1, rfl, f1, g4, ?_, ?_, ?_⟩
       · rw [g1, z2, nJ_mul]; rfl
       · rw [g2, z3, nJ_mul]; rfl
       · rw [g3]; exact ⟨z4, z5⟩)
  · try simp (disch := omega) only [zI_n, zI_o, zI_lit, zI_neg, zI_add, zI_sub, zI_mul, zI_lt, zI_le, zI_eq, zI_clamp, zI_in, zI_div, zI_rem, lg_lt0, lg_gt0, lg_eq0, lg_le0, lg_ge0, Int.toNat_natCast, ge_iff_le, gt_iff_lt, List.length_cons, List.length_nil, bl_up2_at, bl_up2_nk, bl_up2_nx, zI_toInt] at h1
    match j1, ho1, h1 with
    | 0, ho1, h1 =>
      cases ho1
      first
      | (exfalso; omega)
      | (refine ⟨rfl, rfl, km, (Nat.le_of_ble_eq_true rfl), (0, 0), Nat.le_of_ble_eq_true rfl, Nat.le_of_ble_eq_true rfl, bl_MC_mono (c_Model_rolls (d := d) (n := n) hm rfl (by omega) hcan a1 a2 b2 z1) (fun o42 σ42 q42 => ?_)⟩
         try dsimp only [bl_pv] at q42
         obtain ⟨rfl, I1, J1, rfl, f1, g1, g2, g3, g4⟩ := q42
         refine bl_go oX11_makes 80 [] rfl ?_
         try show _ ∧ _
         try dsimp only [bl_pv]
         refine ⟨rfl, I1, J1, rfl, f1, g4, ?_, ?_, ?_⟩
         · rw [g1, z2, nJ_mul]; rfl
         · rw [g2, z3, nJ_mul]; rfl
         · rw [g3]; exact ⟨z4, z5⟩)
    | 1, ho1, h1 =>
      cases ho1
      first
      | (exfalso; omega)
      | (refine ⟨fun h50 => ?_, fun h50 => ?_⟩
         · try simp (disch := omega) only [zI_n, zI_o, zI_lit, zI_neg, zI_add, zI_sub, zI_mul, zI_lt, zI_le, zI_eq, zI_clamp, zI_in, zI_div, zI_rem, lg_lt0, lg_gt0, lg_eq0, lg_le0, lg_ge0, Int.toNat_natCast, ge_iff_le, gt_iff_lt, List.length_cons, List.length_nil, bl_up2_at, bl_up2_nk, bl_up2_nx] at h50
           first
           | (exfalso; first | omega | exact h50 trivial)
           | (refine ⟨rfl, rfl, km, (Nat.le_of_ble_eq_true rfl), (0, 0), Nat.le_of_ble_eq_true rfl, Nat.le_of_ble_eq_true rfl, ?_⟩
              fail /- c61: mX11_folds2 -/)
         · try simp (disch := omega) only [zI_n, zI_o, zI_lit, zI_neg, zI_add, zI_sub, zI_mul, zI_lt, zI_le, zI_eq, zI_clamp, zI_in, zI_div, zI_rem, lg_lt0, lg_gt0, lg_eq0, lg_le0, lg_ge0, Int.toNat_natCast, ge_iff_le, gt_iff_lt, List.length_cons, List.length_nil, bl_up2_at, bl_up2_nk, bl_up2_nx] at h50
           first
           | (exfalso; first | omega | exact h50 trivial)
           | (refine ⟨rfl, rfl, km, (Nat.le_of_ble_eq_true rfl), (0, 0), Nat.le_of_ble_eq_true rfl, Nat.le_of_ble_eq_true rfl, ?_⟩
              fail /- c54: mX11_folds3 -/))
    | 2, ho1, h1 =>
      cases ho1
      first
      | (exfalso; omega)
      | (refine ⟨km, (by first | decide | (simp (disch := omega) only [zI_n, zI_o, zI_lit, zI_neg, zI_add, zI_sub, zI_mul, zI_lt, zI_le, zI_eq, zI_clamp, zI_in, zI_div, zI_rem, lg_lt0, lg_gt0, lg_eq0, lg_le0, lg_ge0, Int.toNat_natCast, ge_iff_le, gt_iff_lt, List.length_cons, List.length_nil, bl_up2_at, bl_up2_nk, bl_up2_nx] <;> omega)), rfl, rfl, km, (Nat.le_of_ble_eq_true rfl), (0, 0), Nat.le_of_ble_eq_true rfl, Nat.le_of_ble_eq_true rfl, ?_⟩
         fail /- c83: mX11_tucks -/)
    | 3, ho1, h1 =>
      cases ho1
      first
      | (exfalso; omega)
      | (refine ⟨rfl, rfl, km, (Nat.le_of_ble_eq_true rfl), (0, 0), Nat.le_of_ble_eq_true rfl, Nat.le_of_ble_eq_true rfl, ?_⟩
         fail /- c95: mX11_tucks -/)
    | 4, ho1, h1 =>
      cases ho1
      first
      | (exfalso; omega)
      | (refine ⟨rfl, rfl, km, (Nat.le_of_ble_eq_true rfl), (0, 0), Nat.le_of_ble_eq_true rfl, Nat.le_of_ble_eq_true rfl, ?_⟩
         fail /- c103: mX11_cuts -/)
    | 5, ho1, h1 =>
      cases ho1
      first
      | (exfalso; omega)
      | (refine ⟨rfl, rfl, km, (Nat.le_of_ble_eq_true rfl), (0, 0), Nat.le_of_ble_eq_true rfl, Nat.le_of_ble_eq_true rfl, ?_⟩
         fail /- c110: mX11_turns -/)
    | _ + 6, ho1, _ => exact absurd ho1 (by simp)
theorem c_Model_makes_1_2 {x y : Int32} (hm : mdS R K N m) (hx : x = nI 1) (hy : y = nI 2) (hcan : sl_can 1 2 S.1.1) (hS : slOk S) (h : msl I J m S) : bl_MC G l (d + 3) mX11_makes [.ref m, .int x, .int y] (I, J, R, K, N) (0, 0) (fun o σ' => o = .inl none ∧ ∃ I' J', σ' = (I', J', R, K, N) ∧ smF I I' J J' m ∧ msl I' J' m (sl_step S 1 2)) := by
  have km := hm.2.1
  obtain ⟨z1, z2, z3, z4, z5⟩ := h
  obtain ⟨⟨a1, a2⟩, b1, b2⟩ := hS
  subst hx hy
  refine bl_MC_intro (by decide +kernel) rfl (Nat.le_of_ble_eq_true rfl) ?_
  refine bl_go oX11_makes 80 [] rfl ?_
  refine ⟨fun h1 => ?_, fun j1 o1 ho1 h1 _ => ?_⟩
  · try simp (disch := omega) only [zI_n, zI_o, zI_lit, zI_neg, zI_add, zI_sub, zI_mul, zI_lt, zI_le, zI_eq, zI_clamp, zI_in, zI_div, zI_rem, lg_lt0, lg_gt0, lg_eq0, lg_le0, lg_ge0, Int.toNat_natCast, ge_iff_le, gt_iff_lt, List.length_cons, List.length_nil, bl_up2_at, bl_up2_nk, bl_up2_nx, zI_toInt] at h1
    first
    | (exfalso; first | omega | exact h1 trivial)
    | (try show _ ∧ _
       try dsimp only [bl_pv]
       refine ⟨rfl, I1, J1, rfl, f1, msC.congr g3 (fun x y _ _ => ⟨?_, ?_⟩), ?_, ?_, jn_nJ g2 z4 z5 ?_⟩
       · exact (Nat.add_mul _ _ _).symm
       · exact (Nat.add_mul _ _ _).symm
       · rw [g1]; exact z2
       · rw [g1]; exact z3
       · show _ = S.2.2.2.1 + 1 * (S.1.1 / 2) * S.2.1.1
         rw [Nat.one_mul])
  · try simp (disch := omega) only [zI_n, zI_o, zI_lit, zI_neg, zI_add, zI_sub, zI_mul, zI_lt, zI_le, zI_eq, zI_clamp, zI_in, zI_div, zI_rem, lg_lt0, lg_gt0, lg_eq0, lg_le0, lg_ge0, Int.toNat_natCast, ge_iff_le, gt_iff_lt, List.length_cons, List.length_nil, bl_up2_at, bl_up2_nk, bl_up2_nx, zI_toInt] at h1
    match j1, ho1, h1 with
    | 0, ho1, h1 =>
      cases ho1
      first
      | (exfalso; omega)
      | (refine ⟨rfl, rfl, km, (Nat.le_of_ble_eq_true rfl), (0, 0), Nat.le_of_ble_eq_true rfl, Nat.le_of_ble_eq_true rfl, ?_⟩
         fail /- c42: mX11_rolls -/)
    | 1, ho1, h1 =>
      cases ho1
      first
      | (exfalso; omega)
      | (refine ⟨fun h50 => ?_, fun h50 => ?_⟩
         · try simp (disch := omega) only [zI_n, zI_o, zI_lit, zI_neg, zI_add, zI_sub, zI_mul, zI_lt, zI_le, zI_eq, zI_clamp, zI_in, zI_div, zI_rem, lg_lt0, lg_gt0, lg_eq0, lg_le0, lg_ge0, Int.toNat_natCast, ge_iff_le, gt_iff_lt, List.length_cons, List.length_nil, bl_up2_at, bl_up2_nk, bl_up2_nx] at h50
           first
           | (exfalso; first | omega | exact h50 trivial)
           | (refine ⟨rfl, rfl, km, (Nat.le_of_ble_eq_true rfl), (0, 0), Nat.le_of_ble_eq_true rfl, Nat.le_of_ble_eq_true rfl, bl_MC_mono (c_Model_folds2 (d := d) hm a2 b2 z1) (fun o61 σ61 q61 => ?_)⟩
              try dsimp only [bl_pv] at q61
              obtain ⟨rfl, I1, J1, rfl, f1, g1, g2, g3⟩ := q61
              refine bl_go oX11_makes 80 [] rfl ?_
              refine ⟨fun h66 => ?_, fun h66 => ?_⟩
              · try simp (disch := omega) only [zI_n, zI_o, zI_lit, zI_neg, zI_add, zI_sub, zI_mul, zI_lt, zI_le, zI_eq, zI_clamp, zI_in, zI_div, zI_rem, lg_lt0, lg_gt0, lg_eq0, lg_le0, lg_ge0, Int.toNat_natCast, ge_iff_le, gt_iff_lt, List.length_cons, List.length_nil, bl_up2_at, bl_up2_nk, bl_up2_nx] at h66
                first
                | (exfalso; first | omega | exact h66 trivial)
                | (try show _ ∧ _
                   try dsimp only [bl_pv]
                   refine ⟨rfl, I1, J1, rfl, f1, msC.congr g3 (fun x y _ _ => ⟨?_, ?_⟩), ?_, ?_, jn_nJ g2 z4 z5 ?_⟩
                   · exact (Nat.add_mul _ _ _).symm
                   · exact (Nat.add_mul _ _ _).symm
                   · rw [g1]; exact z2
                   · rw [g1]; exact z3
                   · show _ = S.2.2.2.1 + 1 * (S.1.1 / 2) * S.2.1.1
                     rw [Nat.one_mul])
              · try simp (disch := omega) only [zI_n, zI_o, zI_lit, zI_neg, zI_add, zI_sub, zI_mul, zI_lt, zI_le, zI_eq, zI_clamp, zI_in, zI_div, zI_rem, lg_lt0, lg_gt0, lg_eq0, lg_le0, lg_ge0, Int.toNat_natCast, ge_iff_le, gt_iff_lt, List.length_cons, List.length_nil, bl_up2_at, bl_up2_nk, bl_up2_nx] at h66
                first
                | (exfalso; first | omega | exact h66 trivial)
                | (refine ⟨rfl, rfl, km, (Nat.le_of_ble_eq_true rfl), (0, 0), Nat.le_of_ble_eq_true rfl, Nat.le_of_ble_eq_true rfl, ?_⟩
                   fail /- c70: mX11_folds2 -/))
         · try simp (disch := omega) only [zI_n, zI_o, zI_lit, zI_neg, zI_add, zI_sub, zI_mul, zI_lt, zI_le, zI_eq, zI_clamp, zI_in, zI_div, zI_rem, lg_lt0, lg_gt0, lg_eq0, lg_le0, lg_ge0, Int.toNat_natCast, ge_iff_le, gt_iff_lt, List.length_cons, List.length_nil, bl_up2_at, bl_up2_nk, bl_up2_nx] at h50
           first
           | (exfalso; first | omega | exact h50 trivial)
           | (refine ⟨rfl, rfl, km, (Nat.le_of_ble_eq_true rfl), (0, 0), Nat.le_of_ble_eq_true rfl, Nat.le_of_ble_eq_true rfl, ?_⟩
              fail /- c54: mX11_folds3 -/))
    | 2, ho1, h1 =>
      cases ho1
      first
      | (exfalso; omega)
      | (refine ⟨km, (by first | decide | (simp (disch := omega) only [zI_n, zI_o, zI_lit, zI_neg, zI_add, zI_sub, zI_mul, zI_lt, zI_le, zI_eq, zI_clamp, zI_in, zI_div, zI_rem, lg_lt0, lg_gt0, lg_eq0, lg_le0, lg_ge0, Int.toNat_natCast, ge_iff_le, gt_iff_lt, List.length_cons, List.length_nil, bl_up2_at, bl_up2_nk, bl_up2_nx] <;> omega)), rfl, rfl, km, (Nat.le_of_ble_eq_true rfl), (0, 0), Nat.le_of_ble_eq_true rfl, Nat.le_of_ble_eq_true rfl, ?_⟩
         fail /- c83: mX11_tucks -/)
    | 3, ho1, h1 =>
      cases ho1
      first
      | (exfalso; omega)
      | (refine ⟨rfl, rfl, km, (Nat.le_of_ble_eq_true rfl), (0, 0), Nat.le_of_ble_eq_true rfl, Nat.le_of_ble_eq_true rfl, ?_⟩
         fail /- c95: mX11_tucks -/)
    | 4, ho1, h1 =>
      cases ho1
      first
      | (exfalso; omega)
      | (refine ⟨rfl, rfl, km, (Nat.le_of_ble_eq_true rfl), (0, 0), Nat.le_of_ble_eq_true rfl, Nat.le_of_ble_eq_true rfl, ?_⟩
         fail /- c103: mX11_cuts -/)
    | 5, ho1, h1 =>
      cases ho1
      first
      | (exfalso; omega)
      | (refine ⟨rfl, rfl, km, (Nat.le_of_ble_eq_true rfl), (0, 0), Nat.le_of_ble_eq_true rfl, Nat.le_of_ble_eq_true rfl, ?_⟩
         fail /- c110: mX11_turns -/)
    | _ + 6, ho1, _ => exact absurd ho1 (by simp)
theorem c_Model_makes_1_3 {x y : Int32} (hm : mdS R K N m) (hx : x = nI 1) (hy : y = nI 3) (hcan : sl_can 1 3 S.1.1) (hS : slOk S) (h : msl I J m S) : bl_MC G l (d + 3) mX11_makes [.ref m, .int x, .int y] (I, J, R, K, N) (0, 0) (fun o σ' => o = .inl none ∧ ∃ I' J', σ' = (I', J', R, K, N) ∧ smF I I' J J' m ∧ msl I' J' m (sl_step S 1 3)) := by
  have km := hm.2.1
  obtain ⟨z1, z2, z3, z4, z5⟩ := h
  obtain ⟨⟨a1, a2⟩, b1, b2⟩ := hS
  subst hx hy
  refine bl_MC_intro (by decide +kernel) rfl (Nat.le_of_ble_eq_true rfl) ?_
  refine bl_go oX11_makes 80 [] rfl ?_
  refine ⟨fun h1 => ?_, fun j1 o1 ho1 h1 _ => ?_⟩
  · try simp (disch := omega) only [zI_n, zI_o, zI_lit, zI_neg, zI_add, zI_sub, zI_mul, zI_lt, zI_le, zI_eq, zI_clamp, zI_in, zI_div, zI_rem, lg_lt0, lg_gt0, lg_eq0, lg_le0, lg_ge0, Int.toNat_natCast, ge_iff_le, gt_iff_lt, List.length_cons, List.length_nil, bl_up2_at, bl_up2_nk, bl_up2_nx, zI_toInt] at h1
    first
    | (exfalso; first | omega | exact h1 trivial)
    | (try show _ ∧ _
       try dsimp only [bl_pv]
       refine ⟨rfl, I1, J1, rfl, f1, msC.congr g3 (fun x y _ _ => ⟨?_, ?_⟩), ?_, ?_, jn_nJ g2 z4 z5 ?_⟩
       · show _ = (S.1.2.2 (S.1.1 / 3 + x) + S.1.2.2 (S.1.1 - 1 - x) + S.1.2.2 (S.1.1 / 3 - 1 - x)) * S.2.1.2.2 y
         rw [Nat.add_mul, Nat.add_mul]; rfl
       · show _ = (S.1.2.1 (S.1.1 / 3 + x) + S.1.2.1 (S.1.1 - 1 - x) + S.1.2.1 (S.1.1 / 3 - 1 - x)) * S.2.1.2.1 y
         rw [Nat.add_mul, Nat.add_mul]; rfl
       · rw [g1]; exact z2
       · rw [g1]; exact z3
       · show _ = S.2.2.2.1 + 2 * (S.1.1 / 3) * S.2.1.1
         rw [Nat.mul_assoc])
  · try simp (disch := omega) only [zI_n, zI_o, zI_lit, zI_neg, zI_add, zI_sub, zI_mul, zI_lt, zI_le, zI_eq, zI_clamp, zI_in, zI_div, zI_rem, lg_lt0, lg_gt0, lg_eq0, lg_le0, lg_ge0, Int.toNat_natCast, ge_iff_le, gt_iff_lt, List.length_cons, List.length_nil, bl_up2_at, bl_up2_nk, bl_up2_nx, zI_toInt] at h1
    match j1, ho1, h1 with
    | 0, ho1, h1 =>
      cases ho1
      first
      | (exfalso; omega)
      | (refine ⟨rfl, rfl, km, (Nat.le_of_ble_eq_true rfl), (0, 0), Nat.le_of_ble_eq_true rfl, Nat.le_of_ble_eq_true rfl, ?_⟩
         fail /- c42: mX11_rolls -/)
    | 1, ho1, h1 =>
      cases ho1
      first
      | (exfalso; omega)
      | (refine ⟨fun h50 => ?_, fun h50 => ?_⟩
         · try simp (disch := omega) only [zI_n, zI_o, zI_lit, zI_neg, zI_add, zI_sub, zI_mul, zI_lt, zI_le, zI_eq, zI_clamp, zI_in, zI_div, zI_rem, lg_lt0, lg_gt0, lg_eq0, lg_le0, lg_ge0, Int.toNat_natCast, ge_iff_le, gt_iff_lt, List.length_cons, List.length_nil, bl_up2_at, bl_up2_nk, bl_up2_nx] at h50
           first
           | (exfalso; first | omega | exact h50 trivial)
           | (refine ⟨rfl, rfl, km, (Nat.le_of_ble_eq_true rfl), (0, 0), Nat.le_of_ble_eq_true rfl, Nat.le_of_ble_eq_true rfl, ?_⟩
              fail /- c61: mX11_folds2 -/)
         · try simp (disch := omega) only [zI_n, zI_o, zI_lit, zI_neg, zI_add, zI_sub, zI_mul, zI_lt, zI_le, zI_eq, zI_clamp, zI_in, zI_div, zI_rem, lg_lt0, lg_gt0, lg_eq0, lg_le0, lg_ge0, Int.toNat_natCast, ge_iff_le, gt_iff_lt, List.length_cons, List.length_nil, bl_up2_at, bl_up2_nk, bl_up2_nx] at h50
           first
           | (exfalso; first | omega | exact h50 trivial)
           | (refine ⟨rfl, rfl, km, (Nat.le_of_ble_eq_true rfl), (0, 0), Nat.le_of_ble_eq_true rfl, Nat.le_of_ble_eq_true rfl, bl_MC_mono (c_Model_folds3 (d := d) hm a2 b2 z1) (fun o54 σ54 q54 => ?_)⟩
              try dsimp only [bl_pv] at q54
              obtain ⟨rfl, I1, J1, rfl, f1, g1, g2, g3⟩ := q54
              refine bl_go oX11_makes 80 [] rfl ?_
              refine ⟨fun h66 => ?_, fun h66 => ?_⟩
              · try simp (disch := omega) only [zI_n, zI_o, zI_lit, zI_neg, zI_add, zI_sub, zI_mul, zI_lt, zI_le, zI_eq, zI_clamp, zI_in, zI_div, zI_rem, lg_lt0, lg_gt0, lg_eq0, lg_le0, lg_ge0, Int.toNat_natCast, ge_iff_le, gt_iff_lt, List.length_cons, List.length_nil, bl_up2_at, bl_up2_nk, bl_up2_nx] at h66
                first
                | (exfalso; first | omega | exact h66 trivial)
                | (try show _ ∧ _
                   try dsimp only [bl_pv]
                   refine ⟨rfl, I1, J1, rfl, f1, msC.congr g3 (fun x y _ _ => ⟨?_, ?_⟩), ?_, ?_, jn_nJ g2 z4 z5 ?_⟩
                   · show _ = (S.1.2.2 (S.1.1 / 3 + x) + S.1.2.2 (S.1.1 - 1 - x) + S.1.2.2 (S.1.1 / 3 - 1 - x)) * S.2.1.2.2 y
                     rw [Nat.add_mul, Nat.add_mul]; rfl
                   · show _ = (S.1.2.1 (S.1.1 / 3 + x) + S.1.2.1 (S.1.1 - 1 - x) + S.1.2.1 (S.1.1 / 3 - 1 - x)) * S.2.1.2.1 y
                     rw [Nat.add_mul, Nat.add_mul]; rfl
                   · rw [g1]; exact z2
                   · rw [g1]; exact z3
                   · show _ = S.2.2.2.1 + 2 * (S.1.1 / 3) * S.2.1.1
                     rw [Nat.mul_assoc])
              · try simp (disch := omega) only [zI_n, zI_o, zI_lit, zI_neg, zI_add, zI_sub, zI_mul, zI_lt, zI_le, zI_eq, zI_clamp, zI_in, zI_div, zI_rem, lg_lt0, lg_gt0, lg_eq0, lg_le0, lg_ge0, Int.toNat_natCast, ge_iff_le, gt_iff_lt, List.length_cons, List.length_nil, bl_up2_at, bl_up2_nk, bl_up2_nx] at h66
                first
                | (exfalso; first | omega | exact h66 trivial)
                | (refine ⟨rfl, rfl, km, (Nat.le_of_ble_eq_true rfl), (0, 0), Nat.le_of_ble_eq_true rfl, Nat.le_of_ble_eq_true rfl, ?_⟩
                   fail /- c70: mX11_folds2 -/)))
    | 2, ho1, h1 =>
      cases ho1
      first
      | (exfalso; omega)
      | (refine ⟨km, (by first | decide | (simp (disch := omega) only [zI_n, zI_o, zI_lit, zI_neg, zI_add, zI_sub, zI_mul, zI_lt, zI_le, zI_eq, zI_clamp, zI_in, zI_div, zI_rem, lg_lt0, lg_gt0, lg_eq0, lg_le0, lg_ge0, Int.toNat_natCast, ge_iff_le, gt_iff_lt, List.length_cons, List.length_nil, bl_up2_at, bl_up2_nk, bl_up2_nx] <;> omega)), rfl, rfl, km, (Nat.le_of_ble_eq_true rfl), (0, 0), Nat.le_of_ble_eq_true rfl, Nat.le_of_ble_eq_true rfl, ?_⟩
         fail /- c83: mX11_tucks -/)
    | 3, ho1, h1 =>
      cases ho1
      first
      | (exfalso; omega)
      | (refine ⟨rfl, rfl, km, (Nat.le_of_ble_eq_true rfl), (0, 0), Nat.le_of_ble_eq_true rfl, Nat.le_of_ble_eq_true rfl, ?_⟩
         fail /- c95: mX11_tucks -/)
    | 4, ho1, h1 =>
      cases ho1
      first
      | (exfalso; omega)
      | (refine ⟨rfl, rfl, km, (Nat.le_of_ble_eq_true rfl), (0, 0), Nat.le_of_ble_eq_true rfl, Nat.le_of_ble_eq_true rfl, ?_⟩
         fail /- c103: mX11_cuts -/)
    | 5, ho1, h1 =>
      cases ho1
      first
      | (exfalso; omega)
      | (refine ⟨rfl, rfl, km, (Nat.le_of_ble_eq_true rfl), (0, 0), Nat.le_of_ble_eq_true rfl, Nat.le_of_ble_eq_true rfl, ?_⟩
         fail /- c110: mX11_turns -/)
    | _ + 6, ho1, _ => exact absurd ho1 (by simp)
theorem c_Model_makes_1_4 {x y : Int32} (hm : mdS R K N m) (hx : x = nI 1) (hy : y = nI 4) (hcan : sl_can 1 4 S.1.1) (hS : slOk S) (h : msl I J m S) : bl_MC G l (d + 3) mX11_makes [.ref m, .int x, .int y] (I, J, R, K, N) (0, 0) (fun o σ' => o = .inl none ∧ ∃ I' J', σ' = (I', J', R, K, N) ∧ smF I I' J J' m ∧ msl I' J' m (sl_step S 1 4)) := by
  have km := hm.2.1
  obtain ⟨z1, z2, z3, z4, z5⟩ := h
  obtain ⟨⟨a1, a2⟩, b1, b2⟩ := hS
  have hc' : S.1.1 % 4 = 0 := hcan
  subst hx hy
  refine bl_MC_intro (by decide +kernel) rfl (Nat.le_of_ble_eq_true rfl) ?_
  refine bl_go oX11_makes 80 [] rfl ?_
  refine ⟨fun h1 => ?_, fun j1 o1 ho1 h1 _ => ?_⟩
  · try simp (disch := omega) only [zI_n, zI_o, zI_lit, zI_neg, zI_add, zI_sub, zI_mul, zI_lt, zI_le, zI_eq, zI_clamp, zI_in, zI_div, zI_rem, lg_lt0, lg_gt0, lg_eq0, lg_le0, lg_ge0, Int.toNat_natCast, ge_iff_le, gt_iff_lt, List.length_cons, List.length_nil, bl_up2_at, bl_up2_nk, bl_up2_nx, zI_toInt] at h1
    first
    | (exfalso; first | omega | exact h1 trivial)
    | (try show _ ∧ _
       try dsimp only [bl_pv]
       rw [show S.1.1 / 2 / 2 = S.1.1 / 4 by omega] at k3 k2
       refine ⟨rfl, I2, J2, rfl, f1.trans f2, msC.congr k3 (fun x y (hx : x < S.1.1 / 4) _ => ⟨?_, ?_⟩), ?_, ?_, ?_⟩
       · show _ = (S.1.2.2 x + S.1.2.2 (S.1.1 - 1 - x) + S.1.2.2 (2 * (S.1.1 / 4) - 1 - x) + S.1.2.2 (2 * (S.1.1 / 4) + x)) * S.2.1.2.2 y
         rw [Nat.add_mul, Nat.add_mul, Nat.add_mul]
         show S.1.2.2 x * S.2.1.2.2 y + S.1.2.2 (S.1.1 - 1 - x) * S.2.1.2.2 y + (S.1.2.2 (S.1.1 / 2 - 1 - x) * S.2.1.2.2 y + S.1.2.2 (S.1.1 - 1 - (S.1.1 / 2 - 1 - x)) * S.2.1.2.2 y) = _
         rw [show S.1.1 / 2 - 1 - x = 2 * (S.1.1 / 4) - 1 - x by omega, show S.1.1 - 1 - (2 * (S.1.1 / 4) - 1 - x) = 2 * (S.1.1 / 4) + x by omega]
         exact (Nat.add_assoc _ _ _).symm
       · show _ = (S.1.2.1 x + S.1.2.1 (S.1.1 - 1 - x) + S.1.2.1 (2 * (S.1.1 / 4) - 1 - x) + S.1.2.1 (2 * (S.1.1 / 4) + x)) * S.2.1.2.1 y
         rw [Nat.add_mul, Nat.add_mul, Nat.add_mul]
         show S.1.2.1 x * S.2.1.2.1 y + S.1.2.1 (S.1.1 - 1 - x) * S.2.1.2.1 y + (S.1.2.1 (S.1.1 / 2 - 1 - x) * S.2.1.2.1 y + S.1.2.1 (S.1.1 - 1 - (S.1.1 / 2 - 1 - x)) * S.2.1.2.1 y) = _
         rw [show S.1.1 / 2 - 1 - x = 2 * (S.1.1 / 4) - 1 - x by omega, show S.1.1 - 1 - (2 * (S.1.1 / 4) - 1 - x) = 2 * (S.1.1 / 4) + x by omega]
         exact (Nat.add_assoc _ _ _).symm
       · rw [k1, g1]; exact z2
       · rw [k1, g1]; exact z3
       · obtain ⟨j1, j2⟩ := jn_nJ g2 z4 z5 rfl
         refine jn_nJ k2 j1 j2 ?_
         show _ = S.2.2.2.1 + 3 * (S.1.1 / 4) * S.2.1.1
         rw [show S.1.1 / 2 = 2 * (S.1.1 / 4) by omega, Nat.add_assoc, ← Nat.add_mul]
         congr 2; omega)
  · try simp (disch := omega) only [zI_n, zI_o, zI_lit, zI_neg, zI_add, zI_sub, zI_mul, zI_lt, zI_le, zI_eq, zI_clamp, zI_in, zI_div, zI_rem, lg_lt0, lg_gt0, lg_eq0, lg_le0, lg_ge0, Int.toNat_natCast, ge_iff_le, gt_iff_lt, List.length_cons, List.length_nil, bl_up2_at, bl_up2_nk, bl_up2_nx, zI_toInt] at h1
    match j1, ho1, h1 with
    | 0, ho1, h1 =>
      cases ho1
      first
      | (exfalso; omega)
      | (refine ⟨rfl, rfl, km, (Nat.le_of_ble_eq_true rfl), (0, 0), Nat.le_of_ble_eq_true rfl, Nat.le_of_ble_eq_true rfl, ?_⟩
         fail /- c42: mX11_rolls -/)
    | 1, ho1, h1 =>
      cases ho1
      first
      | (exfalso; omega)
      | (refine ⟨fun h50 => ?_, fun h50 => ?_⟩
         · try simp (disch := omega) only [zI_n, zI_o, zI_lit, zI_neg, zI_add, zI_sub, zI_mul, zI_lt, zI_le, zI_eq, zI_clamp, zI_in, zI_div, zI_rem, lg_lt0, lg_gt0, lg_eq0, lg_le0, lg_ge0, Int.toNat_natCast, ge_iff_le, gt_iff_lt, List.length_cons, List.length_nil, bl_up2_at, bl_up2_nk, bl_up2_nx] at h50
           first
           | (exfalso; first | omega | exact h50 trivial)
           | (refine ⟨rfl, rfl, km, (Nat.le_of_ble_eq_true rfl), (0, 0), Nat.le_of_ble_eq_true rfl, Nat.le_of_ble_eq_true rfl, bl_MC_mono (c_Model_folds2 (d := d) hm a2 b2 z1) (fun o61 σ61 q61 => ?_)⟩
              try dsimp only [bl_pv] at q61
              obtain ⟨rfl, I1, J1, rfl, f1, g1, g2, g3⟩ := q61
              refine bl_go oX11_makes 80 [] rfl ?_
              refine ⟨fun h66 => ?_, fun h66 => ?_⟩
              · try simp (disch := omega) only [zI_n, zI_o, zI_lit, zI_neg, zI_add, zI_sub, zI_mul, zI_lt, zI_le, zI_eq, zI_clamp, zI_in, zI_div, zI_rem, lg_lt0, lg_gt0, lg_eq0, lg_le0, lg_ge0, Int.toNat_natCast, ge_iff_le, gt_iff_lt, List.length_cons, List.length_nil, bl_up2_at, bl_up2_nk, bl_up2_nx] at h66
                first
                | (exfalso; first | omega | exact h66 trivial)
                | (try show _ ∧ _
                   try dsimp only [bl_pv]
                   rw [show S.1.1 / 2 / 2 = S.1.1 / 4 by omega] at k3 k2
                   refine ⟨rfl, I2, J2, rfl, f1.trans f2, msC.congr k3 (fun x y (hx : x < S.1.1 / 4) _ => ⟨?_, ?_⟩), ?_, ?_, ?_⟩
                   · show _ = (S.1.2.2 x + S.1.2.2 (S.1.1 - 1 - x) + S.1.2.2 (2 * (S.1.1 / 4) - 1 - x) + S.1.2.2 (2 * (S.1.1 / 4) + x)) * S.2.1.2.2 y
                     rw [Nat.add_mul, Nat.add_mul, Nat.add_mul]
                     show S.1.2.2 x * S.2.1.2.2 y + S.1.2.2 (S.1.1 - 1 - x) * S.2.1.2.2 y + (S.1.2.2 (S.1.1 / 2 - 1 - x) * S.2.1.2.2 y + S.1.2.2 (S.1.1 - 1 - (S.1.1 / 2 - 1 - x)) * S.2.1.2.2 y) = _
                     rw [show S.1.1 / 2 - 1 - x = 2 * (S.1.1 / 4) - 1 - x by omega, show S.1.1 - 1 - (2 * (S.1.1 / 4) - 1 - x) = 2 * (S.1.1 / 4) + x by omega]
                     exact (Nat.add_assoc _ _ _).symm
                   · show _ = (S.1.2.1 x + S.1.2.1 (S.1.1 - 1 - x) + S.1.2.1 (2 * (S.1.1 / 4) - 1 - x) + S.1.2.1 (2 * (S.1.1 / 4) + x)) * S.2.1.2.1 y
                     rw [Nat.add_mul, Nat.add_mul, Nat.add_mul]
                     show S.1.2.1 x * S.2.1.2.1 y + S.1.2.1 (S.1.1 - 1 - x) * S.2.1.2.1 y + (S.1.2.1 (S.1.1 / 2 - 1 - x) * S.2.1.2.1 y + S.1.2.1 (S.1.1 - 1 - (S.1.1 / 2 - 1 - x)) * S.2.1.2.1 y) = _
                     rw [show S.1.1 / 2 - 1 - x = 2 * (S.1.1 / 4) - 1 - x by omega, show S.1.1 - 1 - (2 * (S.1.1 / 4) - 1 - x) = 2 * (S.1.1 / 4) + x by omega]
                     exact (Nat.add_assoc _ _ _).symm
                   · rw [k1, g1]; exact z2
                   · rw [k1, g1]; exact z3
                   · obtain ⟨j1, j2⟩ := jn_nJ g2 z4 z5 rfl
                     refine jn_nJ k2 j1 j2 ?_
                     show _ = S.2.2.2.1 + 3 * (S.1.1 / 4) * S.2.1.1
                     rw [show S.1.1 / 2 = 2 * (S.1.1 / 4) by omega, Nat.add_assoc, ← Nat.add_mul]
                     congr 2; omega)
              · try simp (disch := omega) only [zI_n, zI_o, zI_lit, zI_neg, zI_add, zI_sub, zI_mul, zI_lt, zI_le, zI_eq, zI_clamp, zI_in, zI_div, zI_rem, lg_lt0, lg_gt0, lg_eq0, lg_le0, lg_ge0, Int.toNat_natCast, ge_iff_le, gt_iff_lt, List.length_cons, List.length_nil, bl_up2_at, bl_up2_nk, bl_up2_nx] at h66
                first
                | (exfalso; first | omega | exact h66 trivial)
                | (refine ⟨rfl, rfl, km, (Nat.le_of_ble_eq_true rfl), (0, 0), Nat.le_of_ble_eq_true rfl, Nat.le_of_ble_eq_true rfl, bl_MC_mono (c_Model_folds2 (d := d) hm (by omega) b2 g3) (fun o70 σ70 q70 => ?_)⟩
                   try dsimp only [bl_pv] at q70
                   obtain ⟨rfl, I2, J2, rfl, f2, k1, k2, k3⟩ := q70
                   refine bl_go oX11_makes 80 [] rfl ?_
                   try show _ ∧ _
                   try dsimp only [bl_pv]
                   rw [show S.1.1 / 2 / 2 = S.1.1 / 4 by omega] at k3 k2
                   refine ⟨rfl, I2, J2, rfl, f1.trans f2, msC.congr k3 (fun x y (hx : x < S.1.1 / 4) _ => ⟨?_, ?_⟩), ?_, ?_, ?_⟩
                   · show _ = (S.1.2.2 x + S.1.2.2 (S.1.1 - 1 - x) + S.1.2.2 (2 * (S.1.1 / 4) - 1 - x) + S.1.2.2 (2 * (S.1.1 / 4) + x)) * S.2.1.2.2 y
                     rw [Nat.add_mul, Nat.add_mul, Nat.add_mul]
                     show S.1.2.2 x * S.2.1.2.2 y + S.1.2.2 (S.1.1 - 1 - x) * S.2.1.2.2 y + (S.1.2.2 (S.1.1 / 2 - 1 - x) * S.2.1.2.2 y + S.1.2.2 (S.1.1 - 1 - (S.1.1 / 2 - 1 - x)) * S.2.1.2.2 y) = _
                     rw [show S.1.1 / 2 - 1 - x = 2 * (S.1.1 / 4) - 1 - x by omega, show S.1.1 - 1 - (2 * (S.1.1 / 4) - 1 - x) = 2 * (S.1.1 / 4) + x by omega]
                     exact (Nat.add_assoc _ _ _).symm
                   · show _ = (S.1.2.1 x + S.1.2.1 (S.1.1 - 1 - x) + S.1.2.1 (2 * (S.1.1 / 4) - 1 - x) + S.1.2.1 (2 * (S.1.1 / 4) + x)) * S.2.1.2.1 y
                     rw [Nat.add_mul, Nat.add_mul, Nat.add_mul]
                     show S.1.2.1 x * S.2.1.2.1 y + S.1.2.1 (S.1.1 - 1 - x) * S.2.1.2.1 y + (S.1.2.1 (S.1.1 / 2 - 1 - x) * S.2.1.2.1 y + S.1.2.1 (S.1.1 - 1 - (S.1.1 / 2 - 1 - x)) * S.2.1.2.1 y) = _
                     rw [show S.1.1 / 2 - 1 - x = 2 * (S.1.1 / 4) - 1 - x by omega, show S.1.1 - 1 - (2 * (S.1.1 / 4) - 1 - x) = 2 * (S.1.1 / 4) + x by omega]
                     exact (Nat.add_assoc _ _ _).symm
                   · rw [k1, g1]; exact z2
                   · rw [k1, g1]; exact z3
                   · obtain ⟨j1, j2⟩ := jn_nJ g2 z4 z5 rfl
                     refine jn_nJ k2 j1 j2 ?_
                     show _ = S.2.2.2.1 + 3 * (S.1.1 / 4) * S.2.1.1
                     rw [show S.1.1 / 2 = 2 * (S.1.1 / 4) by omega, Nat.add_assoc, ← Nat.add_mul]
                     congr 2; omega))
         · try simp (disch := omega) only [zI_n, zI_o, zI_lit, zI_neg, zI_add, zI_sub, zI_mul, zI_lt, zI_le, zI_eq, zI_clamp, zI_in, zI_div, zI_rem, lg_lt0, lg_gt0, lg_eq0, lg_le0, lg_ge0, Int.toNat_natCast, ge_iff_le, gt_iff_lt, List.length_cons, List.length_nil, bl_up2_at, bl_up2_nk, bl_up2_nx] at h50
           first
           | (exfalso; first | omega | exact h50 trivial)
           | (refine ⟨rfl, rfl, km, (Nat.le_of_ble_eq_true rfl), (0, 0), Nat.le_of_ble_eq_true rfl, Nat.le_of_ble_eq_true rfl, ?_⟩
              fail /- c54: mX11_folds3 -/))
    | 2, ho1, h1 =>
      cases ho1
      first
      | (exfalso; omega)
      | (refine ⟨km, (by first | decide | (simp (disch := omega) only [zI_n, zI_o, zI_lit, zI_neg, zI_add, zI_sub, zI_mul, zI_lt, zI_le, zI_eq, zI_clamp, zI_in, zI_div, zI_rem, lg_lt0, lg_gt0, lg_eq0, lg_le0, lg_ge0, Int.toNat_natCast, ge_iff_le, gt_iff_lt, List.length_cons, List.length_nil, bl_up2_at, bl_up2_nk, bl_up2_nx] <;> omega)), rfl, rfl, km, (Nat.le_of_ble_eq_true rfl), (0, 0), Nat.le_of_ble_eq_true rfl, Nat.le_of_ble_eq_true rfl, ?_⟩
         fail /- c83: mX11_tucks -/)
    | 3, ho1, h1 =>
      cases ho1
      first
      | (exfalso; omega)
      | (refine ⟨rfl, rfl, km, (Nat.le_of_ble_eq_true rfl), (0, 0), Nat.le_of_ble_eq_true rfl, Nat.le_of_ble_eq_true rfl, ?_⟩
         fail /- c95: mX11_tucks -/)
    | 4, ho1, h1 =>
      cases ho1
      first
      | (exfalso; omega)
      | (refine ⟨rfl, rfl, km, (Nat.le_of_ble_eq_true rfl), (0, 0), Nat.le_of_ble_eq_true rfl, Nat.le_of_ble_eq_true rfl, ?_⟩
         fail /- c103: mX11_cuts -/)
    | 5, ho1, h1 =>
      cases ho1
      first
      | (exfalso; omega)
      | (refine ⟨rfl, rfl, km, (Nat.le_of_ble_eq_true rfl), (0, 0), Nat.le_of_ble_eq_true rfl, Nat.le_of_ble_eq_true rfl, ?_⟩
         fail /- c110: mX11_turns -/)
    | _ + 6, ho1, _ => exact absurd ho1 (by simp)
theorem c_Model_makes_2 {n : Nat} {x y : Int32} (hm : mdS R K N m) (hx : x = nI 2) (hy : y = nI n) (hcan : sl_can 2 n S.1.1) (hS : slOk S) (h : msl I J m S) : bl_MC G l (d + 3) mX11_makes [.ref m, .int x, .int y] (I, J, R, K, N) (0, 0) (fun o σ' => o = .inl none ∧ ∃ I' J', σ' = (I', J', R, K, N) ∧ smF I I' J J' m ∧ msl I' J' m (sl_step S 2 n)) := by
  have km := hm.2.1
  obtain ⟨z1, z2, z3, z4, z5⟩ := h
  obtain ⟨⟨a1, a2⟩, b1, b2⟩ := hS
  have hc' : S.1.1 % 4 = 0 := hcan
  subst hx hy
  have e4 : I m 21 / 4 = nI (S.1.1 / 4) := by rw [z1.1]; exact nI_div (b := 4) (by omega) (by omega)
  have tq : ∀ (f : Nat → Nat) x, x < S.1.1 / 4 → tu1 (S.1.1 / 4) S.1.1 f x + tu1 (S.1.1 / 4) S.1.1 f (S.1.1 - 2 * (S.1.1 / 4) - 1 - x) = bo4 S.1.1 f x := by
    intro f x hx
    unfold tu1 bo4
    rw [if_pos hx, if_neg (by omega), if_pos (by omega)]
    rw [show S.1.1 / 4 + (S.1.1 - 2 * (S.1.1 / 4) - 1 - x) = 3 * (S.1.1 / 4) - 1 - x by omega, show 2 * S.1.1 - 3 * (S.1.1 / 4) - 1 - (S.1.1 - 2 * (S.1.1 / 4) - 1 - x) = 3 * (S.1.1 / 4) + x by omega]
    omega
  have tm : ∀ (f : Nat → Nat) (c x : Nat), tu1 (S.1.1 / 4) S.1.1 (fun k => f k * c) x = tu1 (S.1.1 / 4) S.1.1 f x * c := by
    intro f c x
    unfold tu1
    split
    · rw [Nat.add_mul]
    · split
      · rw [Nat.add_mul]
      · rfl
  refine bl_MC_intro (by decide +kernel) rfl (Nat.le_of_ble_eq_true rfl) ?_
  refine bl_go oX11_makes 80 [] rfl ?_
  refine ⟨fun h1 => ?_, fun j1 o1 ho1 h1 _ => ?_⟩
  · try simp (disch := omega) only [zI_n, zI_o, zI_lit, zI_neg, zI_add, zI_sub, zI_mul, zI_lt, zI_le, zI_eq, zI_clamp, zI_in, zI_div, zI_rem, lg_lt0, lg_gt0, lg_eq0, lg_le0, lg_ge0, Int.toNat_natCast, ge_iff_le, gt_iff_lt, List.length_cons, List.length_nil, bl_up2_at, bl_up2_nk, bl_up2_nx, zI_toInt] at h1
    first
    | (exfalso; first | omega | exact h1 trivial)
    | (try show _ ∧ _
       try dsimp only [bl_pv]
       rw [show (S.1.1 - 2 * (S.1.1 / 4)) / 2 = S.1.1 / 4 by omega] at k3 k2
       refine ⟨rfl, I2, J2, rfl, f1.trans f2, msC.congr k3 (fun x y (hx : x < S.1.1 / 4) _ => ⟨?_, ?_⟩), ?_, ?_, ?_⟩
       · show tu1 (S.1.1 / 4) S.1.1 (fun k => S.1.2.2 k * S.2.1.2.2 y) x + tu1 (S.1.1 / 4) S.1.1 (fun k => S.1.2.2 k * S.2.1.2.2 y) (S.1.1 - 2 * (S.1.1 / 4) - 1 - x) = bo4 S.1.1 S.1.2.2 x * S.2.1.2.2 y
         rw [tm, tm, ← Nat.add_mul, tq _ _ hx]
       · show tu1 (S.1.1 / 4) S.1.1 (fun k => S.1.2.1 k * S.2.1.2.1 y) x + tu1 (S.1.1 / 4) S.1.1 (fun k => S.1.2.1 k * S.2.1.2.1 y) (S.1.1 - 2 * (S.1.1 / 4) - 1 - x) = bo4 S.1.1 S.1.2.1 x * S.2.1.2.1 y
         rw [tm, tm, ← Nat.add_mul, tq _ _ hx]
       · rw [k1, g1]; exact z2
       · rw [k1, g1]; exact z3
       · obtain ⟨j1, j2⟩ := jn_nJ g2 z4 z5 rfl
         refine jn_nJ k2 j1 j2 ?_
         show _ = S.2.2.2.1 + 3 * (S.1.1 / 4) * S.2.1.1
         rw [Nat.add_assoc, ← Nat.add_mul]
         congr 2; omega)
  · try simp (disch := omega) only [zI_n, zI_o, zI_lit, zI_neg, zI_add, zI_sub, zI_mul, zI_lt, zI_le, zI_eq, zI_clamp, zI_in, zI_div, zI_rem, lg_lt0, lg_gt0, lg_eq0, lg_le0, lg_ge0, Int.toNat_natCast, ge_iff_le, gt_iff_lt, List.length_cons, List.length_nil, bl_up2_at, bl_up2_nk, bl_up2_nx, zI_toInt] at h1
    match j1, ho1, h1 with
    | 0, ho1, h1 =>
      cases ho1
      first
      | (exfalso; omega)
      | (refine ⟨rfl, rfl, km, (Nat.le_of_ble_eq_true rfl), (0, 0), Nat.le_of_ble_eq_true rfl, Nat.le_of_ble_eq_true rfl, ?_⟩
         fail /- c42: mX11_rolls -/)
    | 1, ho1, h1 =>
      cases ho1
      first
      | (exfalso; omega)
      | (refine ⟨fun h50 => ?_, fun h50 => ?_⟩
         · try simp (disch := omega) only [zI_n, zI_o, zI_lit, zI_neg, zI_add, zI_sub, zI_mul, zI_lt, zI_le, zI_eq, zI_clamp, zI_in, zI_div, zI_rem, lg_lt0, lg_gt0, lg_eq0, lg_le0, lg_ge0, Int.toNat_natCast, ge_iff_le, gt_iff_lt, List.length_cons, List.length_nil, bl_up2_at, bl_up2_nk, bl_up2_nx] at h50
           first
           | (exfalso; first | omega | exact h50 trivial)
           | (refine ⟨rfl, rfl, km, (Nat.le_of_ble_eq_true rfl), (0, 0), Nat.le_of_ble_eq_true rfl, Nat.le_of_ble_eq_true rfl, ?_⟩
              fail /- c61: mX11_folds2 -/)
         · try simp (disch := omega) only [zI_n, zI_o, zI_lit, zI_neg, zI_add, zI_sub, zI_mul, zI_lt, zI_le, zI_eq, zI_clamp, zI_in, zI_div, zI_rem, lg_lt0, lg_gt0, lg_eq0, lg_le0, lg_ge0, Int.toNat_natCast, ge_iff_le, gt_iff_lt, List.length_cons, List.length_nil, bl_up2_at, bl_up2_nk, bl_up2_nx] at h50
           first
           | (exfalso; first | omega | exact h50 trivial)
           | (refine ⟨rfl, rfl, km, (Nat.le_of_ble_eq_true rfl), (0, 0), Nat.le_of_ble_eq_true rfl, Nat.le_of_ble_eq_true rfl, ?_⟩
              fail /- c54: mX11_folds3 -/))
    | 2, ho1, h1 =>
      cases ho1
      first
      | (exfalso; omega)
      | (refine ⟨km, (by first | decide | (simp (disch := omega) only [zI_n, zI_o, zI_lit, zI_neg, zI_add, zI_sub, zI_mul, zI_lt, zI_le, zI_eq, zI_clamp, zI_in, zI_div, zI_rem, lg_lt0, lg_gt0, lg_eq0, lg_le0, lg_ge0, Int.toNat_natCast, ge_iff_le, gt_iff_lt, List.length_cons, List.length_nil, bl_up2_at, bl_up2_nk, bl_up2_nx] <;> omega)), rfl, rfl, km, (Nat.le_of_ble_eq_true rfl), (0, 0), Nat.le_of_ble_eq_true rfl, Nat.le_of_ble_eq_true rfl, bl_MC_mono (c_Model_tucks (d := d) (n := S.1.1 / 4) hm e4 (by omega) (by omega) a2 b2 z1) (fun o83 σ83 q83 => ?_)⟩
         try dsimp only [bl_pv] at q83
         obtain ⟨rfl, I1, J1, rfl, f1, g1, g2, g3⟩ := q83
         refine bl_go oX11_makes 80 [] rfl ?_
         refine ⟨rfl, rfl, km, (Nat.le_of_ble_eq_true rfl), (0, 0), Nat.le_of_ble_eq_true rfl, Nat.le_of_ble_eq_true rfl, bl_MC_mono (c_Model_folds2 (d := d) hm (by omega) b2 g3) (fun o87 σ87 q87 => ?_)⟩
         try dsimp only [bl_pv] at q87
         obtain ⟨rfl, I2, J2, rfl, f2, k1, k2, k3⟩ := q87
         refine bl_go oX11_makes 80 [] rfl ?_
         try show _ ∧ _
         try dsimp only [bl_pv]
         rw [show (S.1.1 - 2 * (S.1.1 / 4)) / 2 = S.1.1 / 4 by omega] at k3 k2
         refine ⟨rfl, I2, J2, rfl, f1.trans f2, msC.congr k3 (fun x y (hx : x < S.1.1 / 4) _ => ⟨?_, ?_⟩), ?_, ?_, ?_⟩
         · show tu1 (S.1.1 / 4) S.1.1 (fun k => S.1.2.2 k * S.2.1.2.2 y) x + tu1 (S.1.1 / 4) S.1.1 (fun k => S.1.2.2 k * S.2.1.2.2 y) (S.1.1 - 2 * (S.1.1 / 4) - 1 - x) = bo4 S.1.1 S.1.2.2 x * S.2.1.2.2 y
           rw [tm, tm, ← Nat.add_mul, tq _ _ hx]
         · show tu1 (S.1.1 / 4) S.1.1 (fun k => S.1.2.1 k * S.2.1.2.1 y) x + tu1 (S.1.1 / 4) S.1.1 (fun k => S.1.2.1 k * S.2.1.2.1 y) (S.1.1 - 2 * (S.1.1 / 4) - 1 - x) = bo4 S.1.1 S.1.2.1 x * S.2.1.2.1 y
           rw [tm, tm, ← Nat.add_mul, tq _ _ hx]
         · rw [k1, g1]; exact z2
         · rw [k1, g1]; exact z3
         · obtain ⟨j1, j2⟩ := jn_nJ g2 z4 z5 rfl
           refine jn_nJ k2 j1 j2 ?_
           show _ = S.2.2.2.1 + 3 * (S.1.1 / 4) * S.2.1.1
           rw [Nat.add_assoc, ← Nat.add_mul]
           congr 2; omega)
    | 3, ho1, h1 =>
      cases ho1
      first
      | (exfalso; omega)
      | (refine ⟨rfl, rfl, km, (Nat.le_of_ble_eq_true rfl), (0, 0), Nat.le_of_ble_eq_true rfl, Nat.le_of_ble_eq_true rfl, ?_⟩
         fail /- c95: mX11_tucks -/)
    | 4, ho1, h1 =>
      cases ho1
      first
      | (exfalso; omega)
      | (refine ⟨rfl, rfl, km, (Nat.le_of_ble_eq_true rfl), (0, 0), Nat.le_of_ble_eq_true rfl, Nat.le_of_ble_eq_true rfl, ?_⟩
         fail /- c103: mX11_cuts -/)
    | 5, ho1, h1 =>
      cases ho1
      first
      | (exfalso; omega)
      | (refine ⟨rfl, rfl, km, (Nat.le_of_ble_eq_true rfl), (0, 0), Nat.le_of_ble_eq_true rfl, Nat.le_of_ble_eq_true rfl, ?_⟩
         fail /- c110: mX11_turns -/)
    | _ + 6, ho1, _ => exact absurd ho1 (by simp)
theorem c_Model_makes_3 {n : Nat} {x y : Int32} (hm : mdS R K N m) (hx : x = nI 3) (hy : y = nI n) (hk : st_ok 3 n) (hcan : sl_can 3 n S.1.1) (hS : slOk S) (h : msl I J m S) : bl_MC G l (d + 3) mX11_makes [.ref m, .int x, .int y] (I, J, R, K, N) (0, 0) (fun o σ' => o = .inl none ∧ ∃ I' J', σ' = (I', J', R, K, N) ∧ smF I I' J J' m ∧ msl I' J' m (sl_step S 3 n)) := by
  have km := hm.2.1
  obtain ⟨z1, z2, z3, z4, z5⟩ := h
  obtain ⟨⟨a1, a2⟩, b1, b2⟩ := hS
  have hn := hk.2.2.2 (by omega)
  subst hx hy
  have tm : ∀ (f : Nat → Nat) (c x : Nat), tu1 n S.1.1 (fun k => f k * c) x = tu1 n S.1.1 f x * c := by
    intro f c x
    unfold tu1
    split
    · rw [Nat.add_mul]
    · split
      · rw [Nat.add_mul]
      · rfl
  refine bl_MC_intro (by decide +kernel) rfl (Nat.le_of_ble_eq_true rfl) ?_
  refine bl_go oX11_makes 80 [] rfl ?_
  refine ⟨fun h1 => ?_, fun j1 o1 ho1 h1 _ => ?_⟩
  · try simp (disch := omega) only [zI_n, zI_o, zI_lit, zI_neg, zI_add, zI_sub, zI_mul, zI_lt, zI_le, zI_eq, zI_clamp, zI_in, zI_div, zI_rem, lg_lt0, lg_gt0, lg_eq0, lg_le0, lg_ge0, Int.toNat_natCast, ge_iff_le, gt_iff_lt, List.length_cons, List.length_nil, bl_up2_at, bl_up2_nk, bl_up2_nx, zI_toInt] at h1
    first
    | (exfalso; first | omega | exact h1 trivial)
    | (try show _ ∧ _
       try dsimp only [bl_pv]
       refine ⟨rfl, I1, J1, rfl, f1, msC.congr g3 (fun x y hx _ => ⟨?_, ?_⟩), ?_, ?_, jn_nJ g2 z4 z5 rfl⟩
       · exact tm S.1.2.2 (S.2.1.2.2 y) x
       · exact tm S.1.2.1 (S.2.1.2.1 y) x
       · rw [g1]; exact z2
       · rw [g1]; exact z3)
  · try simp (disch := omega) only [zI_n, zI_o, zI_lit, zI_neg, zI_add, zI_sub, zI_mul, zI_lt, zI_le, zI_eq, zI_clamp, zI_in, zI_div, zI_rem, lg_lt0, lg_gt0, lg_eq0, lg_le0, lg_ge0, Int.toNat_natCast, ge_iff_le, gt_iff_lt, List.length_cons, List.length_nil, bl_up2_at, bl_up2_nk, bl_up2_nx, zI_toInt] at h1
    match j1, ho1, h1 with
    | 0, ho1, h1 =>
      cases ho1
      first
      | (exfalso; omega)
      | (refine ⟨rfl, rfl, km, (Nat.le_of_ble_eq_true rfl), (0, 0), Nat.le_of_ble_eq_true rfl, Nat.le_of_ble_eq_true rfl, ?_⟩
         fail /- c42: mX11_rolls -/)
    | 1, ho1, h1 =>
      cases ho1
      first
      | (exfalso; omega)
      | (refine ⟨fun h50 => ?_, fun h50 => ?_⟩
         · try simp (disch := omega) only [zI_n, zI_o, zI_lit, zI_neg, zI_add, zI_sub, zI_mul, zI_lt, zI_le, zI_eq, zI_clamp, zI_in, zI_div, zI_rem, lg_lt0, lg_gt0, lg_eq0, lg_le0, lg_ge0, Int.toNat_natCast, ge_iff_le, gt_iff_lt, List.length_cons, List.length_nil, bl_up2_at, bl_up2_nk, bl_up2_nx] at h50
           first
           | (exfalso; first | omega | exact h50 trivial)
           | (refine ⟨rfl, rfl, km, (Nat.le_of_ble_eq_true rfl), (0, 0), Nat.le_of_ble_eq_true rfl, Nat.le_of_ble_eq_true rfl, ?_⟩
              fail /- c61: mX11_folds2 -/)
         · try simp (disch := omega) only [zI_n, zI_o, zI_lit, zI_neg, zI_add, zI_sub, zI_mul, zI_lt, zI_le, zI_eq, zI_clamp, zI_in, zI_div, zI_rem, lg_lt0, lg_gt0, lg_eq0, lg_le0, lg_ge0, Int.toNat_natCast, ge_iff_le, gt_iff_lt, List.length_cons, List.length_nil, bl_up2_at, bl_up2_nk, bl_up2_nx] at h50
           first
           | (exfalso; first | omega | exact h50 trivial)
           | (refine ⟨rfl, rfl, km, (Nat.le_of_ble_eq_true rfl), (0, 0), Nat.le_of_ble_eq_true rfl, Nat.le_of_ble_eq_true rfl, ?_⟩
              fail /- c54: mX11_folds3 -/))
    | 2, ho1, h1 =>
      cases ho1
      first
      | (exfalso; omega)
      | (refine ⟨km, (by first | decide | (simp (disch := omega) only [zI_n, zI_o, zI_lit, zI_neg, zI_add, zI_sub, zI_mul, zI_lt, zI_le, zI_eq, zI_clamp, zI_in, zI_div, zI_rem, lg_lt0, lg_gt0, lg_eq0, lg_le0, lg_ge0, Int.toNat_natCast, ge_iff_le, gt_iff_lt, List.length_cons, List.length_nil, bl_up2_at, bl_up2_nk, bl_up2_nx] <;> omega)), rfl, rfl, km, (Nat.le_of_ble_eq_true rfl), (0, 0), Nat.le_of_ble_eq_true rfl, Nat.le_of_ble_eq_true rfl, ?_⟩
         fail /- c83: mX11_tucks -/)
    | 3, ho1, h1 =>
      cases ho1
      first
      | (exfalso; omega)
      | (refine ⟨rfl, rfl, km, (Nat.le_of_ble_eq_true rfl), (0, 0), Nat.le_of_ble_eq_true rfl, Nat.le_of_ble_eq_true rfl, bl_MC_mono (c_Model_tucks (d := d) (n := n) hm rfl (by omega) hcan a2 b2 z1) (fun o95 σ95 q95 => ?_)⟩
         try dsimp only [bl_pv] at q95
         obtain ⟨rfl, I1, J1, rfl, f1, g1, g2, g3⟩ := q95
         refine bl_go oX11_makes 80 [] rfl ?_
         try show _ ∧ _
         try dsimp only [bl_pv]
         refine ⟨rfl, I1, J1, rfl, f1, msC.congr g3 (fun x y hx _ => ⟨?_, ?_⟩), ?_, ?_, jn_nJ g2 z4 z5 rfl⟩
         · exact tm S.1.2.2 (S.2.1.2.2 y) x
         · exact tm S.1.2.1 (S.2.1.2.1 y) x
         · rw [g1]; exact z2
         · rw [g1]; exact z3)
    | 4, ho1, h1 =>
      cases ho1
      first
      | (exfalso; omega)
      | (refine ⟨rfl, rfl, km, (Nat.le_of_ble_eq_true rfl), (0, 0), Nat.le_of_ble_eq_true rfl, Nat.le_of_ble_eq_true rfl, ?_⟩
         fail /- c103: mX11_cuts -/)
    | 5, ho1, h1 =>
      cases ho1
      first
      | (exfalso; omega)
      | (refine ⟨rfl, rfl, km, (Nat.le_of_ble_eq_true rfl), (0, 0), Nat.le_of_ble_eq_true rfl, Nat.le_of_ble_eq_true rfl, ?_⟩
         fail /- c110: mX11_turns -/)
    | _ + 6, ho1, _ => exact absurd ho1 (by simp)
theorem c_Model_makes_4 {n : Nat} {x y : Int32} (hm : mdS R K N m) (hx : x = nI 4) (hy : y = nI n) (hk : st_ok 4 n) (hcan : sl_can 4 n S.1.1) (hS : slOk S) (h : msl I J m S) : bl_MC G l (d + 3) mX11_makes [.ref m, .int x, .int y] (I, J, R, K, N) (0, 0) (fun o σ' => o = .inl none ∧ ∃ I' J', σ' = (I', J', R, K, N) ∧ smF I I' J J' m ∧ msl I' J' m (sl_step S 4 n)) := by
  have km := hm.2.1
  obtain ⟨z1, z2, z3, z4, z5⟩ := h
  obtain ⟨⟨a1, a2⟩, b1, b2⟩ := hS
  have hn := hk.2.2.2 (by omega)
  subst hx hy
  refine bl_MC_intro (by decide +kernel) rfl (Nat.le_of_ble_eq_true rfl) ?_
  refine bl_go oX11_makes 80 [] rfl ?_
  refine ⟨fun h1 => ?_, fun j1 o1 ho1 h1 _ => ?_⟩
  · try simp (disch := omega) only [zI_n, zI_o, zI_lit, zI_neg, zI_add, zI_sub, zI_mul, zI_lt, zI_le, zI_eq, zI_clamp, zI_in, zI_div, zI_rem, lg_lt0, lg_gt0, lg_eq0, lg_le0, lg_ge0, Int.toNat_natCast, ge_iff_le, gt_iff_lt, List.length_cons, List.length_nil, bl_up2_at, bl_up2_nk, bl_up2_nx, zI_toInt] at h1
    first
    | (exfalso; first | omega | exact h1 trivial)
    | (try show _ ∧ _
       try dsimp only [bl_pv]
       refine ⟨rfl, I1, J1, rfl, f1, g4, ?_, ?_, ?_⟩
       · rw [g1]; exact z2
       · rw [g2, z3, nJ_add, ctT_cut hcan]; rfl
       · rw [g3]; exact ⟨z4, z5⟩)
  · try simp (disch := omega) only [zI_n, zI_o, zI_lit, zI_neg, zI_add, zI_sub, zI_mul, zI_lt, zI_le, zI_eq, zI_clamp, zI_in, zI_div, zI_rem, lg_lt0, lg_gt0, lg_eq0, lg_le0, lg_ge0, Int.toNat_natCast, ge_iff_le, gt_iff_lt, List.length_cons, List.length_nil, bl_up2_at, bl_up2_nk, bl_up2_nx, zI_toInt] at h1
    match j1, ho1, h1 with
    | 0, ho1, h1 =>
      cases ho1
      first
      | (exfalso; omega)
      | (refine ⟨rfl, rfl, km, (Nat.le_of_ble_eq_true rfl), (0, 0), Nat.le_of_ble_eq_true rfl, Nat.le_of_ble_eq_true rfl, ?_⟩
         fail /- c42: mX11_rolls -/)
    | 1, ho1, h1 =>
      cases ho1
      first
      | (exfalso; omega)
      | (refine ⟨fun h50 => ?_, fun h50 => ?_⟩
         · try simp (disch := omega) only [zI_n, zI_o, zI_lit, zI_neg, zI_add, zI_sub, zI_mul, zI_lt, zI_le, zI_eq, zI_clamp, zI_in, zI_div, zI_rem, lg_lt0, lg_gt0, lg_eq0, lg_le0, lg_ge0, Int.toNat_natCast, ge_iff_le, gt_iff_lt, List.length_cons, List.length_nil, bl_up2_at, bl_up2_nk, bl_up2_nx] at h50
           first
           | (exfalso; first | omega | exact h50 trivial)
           | (refine ⟨rfl, rfl, km, (Nat.le_of_ble_eq_true rfl), (0, 0), Nat.le_of_ble_eq_true rfl, Nat.le_of_ble_eq_true rfl, ?_⟩
              fail /- c61: mX11_folds2 -/)
         · try simp (disch := omega) only [zI_n, zI_o, zI_lit, zI_neg, zI_add, zI_sub, zI_mul, zI_lt, zI_le, zI_eq, zI_clamp, zI_in, zI_div, zI_rem, lg_lt0, lg_gt0, lg_eq0, lg_le0, lg_ge0, Int.toNat_natCast, ge_iff_le, gt_iff_lt, List.length_cons, List.length_nil, bl_up2_at, bl_up2_nk, bl_up2_nx] at h50
           first
           | (exfalso; first | omega | exact h50 trivial)
           | (refine ⟨rfl, rfl, km, (Nat.le_of_ble_eq_true rfl), (0, 0), Nat.le_of_ble_eq_true rfl, Nat.le_of_ble_eq_true rfl, ?_⟩
              fail /- c54: mX11_folds3 -/))
    | 2, ho1, h1 =>
      cases ho1
      first
      | (exfalso; omega)
      | (refine ⟨km, (by first | decide | (simp (disch := omega) only [zI_n, zI_o, zI_lit, zI_neg, zI_add, zI_sub, zI_mul, zI_lt, zI_le, zI_eq, zI_clamp, zI_in, zI_div, zI_rem, lg_lt0, lg_gt0, lg_eq0, lg_le0, lg_ge0, Int.toNat_natCast, ge_iff_le, gt_iff_lt, List.length_cons, List.length_nil, bl_up2_at, bl_up2_nk, bl_up2_nx] <;> omega)), rfl, rfl, km, (Nat.le_of_ble_eq_true rfl), (0, 0), Nat.le_of_ble_eq_true rfl, Nat.le_of_ble_eq_true rfl, ?_⟩
         fail /- c83: mX11_tucks -/)
    | 3, ho1, h1 =>
      cases ho1
      first
      | (exfalso; omega)
      | (refine ⟨rfl, rfl, km, (Nat.le_of_ble_eq_true rfl), (0, 0), Nat.le_of_ble_eq_true rfl, Nat.le_of_ble_eq_true rfl, ?_⟩
         fail /- c95: mX11_tucks -/)
    | 4, ho1, h1 =>
      cases ho1
      first
      | (exfalso; omega)
      | (refine ⟨rfl, rfl, km, (Nat.le_of_ble_eq_true rfl), (0, 0), Nat.le_of_ble_eq_true rfl, Nat.le_of_ble_eq_true rfl, bl_MC_mono (c_Model_cuts (d := d) (n := n) hm rfl (by omega) hcan a2 b2 z1) (fun o103 σ103 q103 => ?_)⟩
         try dsimp only [bl_pv] at q103
         obtain ⟨rfl, I1, J1, rfl, f1, g1, g2, g3, g4⟩ := q103
         refine bl_go oX11_makes 80 [] rfl ?_
         try show _ ∧ _
         try dsimp only [bl_pv]
         refine ⟨rfl, I1, J1, rfl, f1, g4, ?_, ?_, ?_⟩
         · rw [g1]; exact z2
         · rw [g2, z3, nJ_add, ctT_cut hcan]; rfl
         · rw [g3]; exact ⟨z4, z5⟩)
    | 5, ho1, h1 =>
      cases ho1
      first
      | (exfalso; omega)
      | (refine ⟨rfl, rfl, km, (Nat.le_of_ble_eq_true rfl), (0, 0), Nat.le_of_ble_eq_true rfl, Nat.le_of_ble_eq_true rfl, ?_⟩
         fail /- c110: mX11_turns -/)
    | _ + 6, ho1, _ => exact absurd ho1 (by simp)
theorem c_Model_makes_5 {n : Nat} {x y : Int32} (hm : mdS R K N m) (hx : x = nI 5) (hy : y = nI n) (hS : slOk S) (h : msl I J m S) : bl_MC G l (d + 3) mX11_makes [.ref m, .int x, .int y] (I, J, R, K, N) (0, 0) (fun o σ' => o = .inl none ∧ ∃ I' J', σ' = (I', J', R, K, N) ∧ smF I I' J J' m ∧ msl I' J' m (sl_step S 5 n)) := by
  have km := hm.2.1
  obtain ⟨z1, z2, z3, z4, z5⟩ := h
  obtain ⟨⟨a1, a2⟩, b1, b2⟩ := hS
  subst hx hy
  refine bl_MC_intro (by decide +kernel) rfl (Nat.le_of_ble_eq_true rfl) ?_
  refine bl_go oX11_makes 80 [] rfl ?_
  refine ⟨fun h1 => ?_, fun j1 o1 ho1 h1 _ => ?_⟩
  · try simp (disch := omega) only [zI_n, zI_o, zI_lit, zI_neg, zI_add, zI_sub, zI_mul, zI_lt, zI_le, zI_eq, zI_clamp, zI_in, zI_div, zI_rem, lg_lt0, lg_gt0, lg_eq0, lg_le0, lg_ge0, Int.toNat_natCast, ge_iff_le, gt_iff_lt, List.length_cons, List.length_nil, bl_up2_at, bl_up2_nk, bl_up2_nx, zI_toInt] at h1
    first
    | (exfalso; first | omega | exact h1 trivial)
    | (try show _ ∧ _
       try dsimp only [bl_pv]
       refine ⟨rfl, I1, J1, rfl, f1, msC.congr g3 (fun x y hx _ => ⟨?_, ?_⟩), ?_, ?_, ?_⟩
       · exact Nat.mul_comm _ _
       · exact Nat.mul_comm _ _
       · rw [g1]; exact z2
       · rw [g1]; exact z3
       · rw [g2]; exact ⟨z4, z5⟩)
  · try simp (disch := omega) only [zI_n, zI_o, zI_lit, zI_neg, zI_add, zI_sub, zI_mul, zI_lt, zI_le, zI_eq, zI_clamp, zI_in, zI_div, zI_rem, lg_lt0, lg_gt0, lg_eq0, lg_le0, lg_ge0, Int.toNat_natCast, ge_iff_le, gt_iff_lt, List.length_cons, List.length_nil, bl_up2_at, bl_up2_nk, bl_up2_nx, zI_toInt] at h1
    match j1, ho1, h1 with
    | 0, ho1, h1 =>
      cases ho1
      first
      | (exfalso; omega)
      | (refine ⟨rfl, rfl, km, (Nat.le_of_ble_eq_true rfl), (0, 0), Nat.le_of_ble_eq_true rfl, Nat.le_of_ble_eq_true rfl, ?_⟩
         fail /- c42: mX11_rolls -/)
    | 1, ho1, h1 =>
      cases ho1
      first
      | (exfalso; omega)
      | (refine ⟨fun h50 => ?_, fun h50 => ?_⟩
         · try simp (disch := omega) only [zI_n, zI_o, zI_lit, zI_neg, zI_add, zI_sub, zI_mul, zI_lt, zI_le, zI_eq, zI_clamp, zI_in, zI_div, zI_rem, lg_lt0, lg_gt0, lg_eq0, lg_le0, lg_ge0, Int.toNat_natCast, ge_iff_le, gt_iff_lt, List.length_cons, List.length_nil, bl_up2_at, bl_up2_nk, bl_up2_nx] at h50
           first
           | (exfalso; first | omega | exact h50 trivial)
           | (refine ⟨rfl, rfl, km, (Nat.le_of_ble_eq_true rfl), (0, 0), Nat.le_of_ble_eq_true rfl, Nat.le_of_ble_eq_true rfl, ?_⟩
              fail /- c61: mX11_folds2 -/)
         · try simp (disch := omega) only [zI_n, zI_o, zI_lit, zI_neg, zI_add, zI_sub, zI_mul, zI_lt, zI_le, zI_eq, zI_clamp, zI_in, zI_div, zI_rem, lg_lt0, lg_gt0, lg_eq0, lg_le0, lg_ge0, Int.toNat_natCast, ge_iff_le, gt_iff_lt, List.length_cons, List.length_nil, bl_up2_at, bl_up2_nk, bl_up2_nx] at h50
           first
           | (exfalso; first | omega | exact h50 trivial)
           | (refine ⟨rfl, rfl, km, (Nat.le_of_ble_eq_true rfl), (0, 0), Nat.le_of_ble_eq_true rfl, Nat.le_of_ble_eq_true rfl, ?_⟩
              fail /- c54: mX11_folds3 -/))
    | 2, ho1, h1 =>
      cases ho1
      first
      | (exfalso; omega)
      | (refine ⟨km, (by first | decide | (simp (disch := omega) only [zI_n, zI_o, zI_lit, zI_neg, zI_add, zI_sub, zI_mul, zI_lt, zI_le, zI_eq, zI_clamp, zI_in, zI_div, zI_rem, lg_lt0, lg_gt0, lg_eq0, lg_le0, lg_ge0, Int.toNat_natCast, ge_iff_le, gt_iff_lt, List.length_cons, List.length_nil, bl_up2_at, bl_up2_nk, bl_up2_nx] <;> omega)), rfl, rfl, km, (Nat.le_of_ble_eq_true rfl), (0, 0), Nat.le_of_ble_eq_true rfl, Nat.le_of_ble_eq_true rfl, ?_⟩
         fail /- c83: mX11_tucks -/)
    | 3, ho1, h1 =>
      cases ho1
      first
      | (exfalso; omega)
      | (refine ⟨rfl, rfl, km, (Nat.le_of_ble_eq_true rfl), (0, 0), Nat.le_of_ble_eq_true rfl, Nat.le_of_ble_eq_true rfl, ?_⟩
         fail /- c95: mX11_tucks -/)
    | 4, ho1, h1 =>
      cases ho1
      first
      | (exfalso; omega)
      | (refine ⟨rfl, rfl, km, (Nat.le_of_ble_eq_true rfl), (0, 0), Nat.le_of_ble_eq_true rfl, Nat.le_of_ble_eq_true rfl, ?_⟩
         fail /- c103: mX11_cuts -/)
    | 5, ho1, h1 =>
      cases ho1
      first
      | (exfalso; omega)
      | (refine ⟨rfl, rfl, km, (Nat.le_of_ble_eq_true rfl), (0, 0), Nat.le_of_ble_eq_true rfl, Nat.le_of_ble_eq_true rfl, bl_MC_mono (c_Model_turns (d := d) hm a2 b2 z1) (fun o110 σ110 q110 => ?_)⟩
         try dsimp only [bl_pv] at q110
         obtain ⟨rfl, I1, J1, rfl, f1, g1, g2, g3⟩ := q110
         refine bl_go oX11_makes 80 [] rfl ?_
         try show _ ∧ _
         try dsimp only [bl_pv]
         refine ⟨rfl, I1, J1, rfl, f1, msC.congr g3 (fun x y hx _ => ⟨?_, ?_⟩), ?_, ?_, ?_⟩
         · exact Nat.mul_comm _ _
         · exact Nat.mul_comm _ _
         · rw [g1]; exact z2
         · rw [g1]; exact z3
         · rw [g2]; exact ⟨z4, z5⟩)
    | _ + 6, ho1, _ => exact absurd ho1 (by simp)
theorem c_Model_makes_6 {n : Nat} {x y : Int32} (hm : mdS R K N m) (hx : x = nI 6) (hy : y = nI n) (h : msl I J m S) : bl_MC G l (d + 3) mX11_makes [.ref m, .int x, .int y] (I, J, R, K, N) (0, 0) (fun o σ' => o = .inl none ∧ ∃ I' J', σ' = (I', J', R, K, N) ∧ smF I I' J J' m ∧ msl I' J' m (sl_step S 6 n)) := by
  have km := hm.2.1
  subst hx hy
  refine bl_MC_intro (by decide +kernel) rfl (Nat.le_of_ble_eq_true rfl) ?_
  refine bl_go oX11_makes 80 [] rfl ?_
  refine ⟨fun h1 => ?_, fun j1 o1 ho1 h1 _ => ?_⟩
  · try simp (disch := omega) only [zI_n, zI_o, zI_lit, zI_neg, zI_add, zI_sub, zI_mul, zI_lt, zI_le, zI_eq, zI_clamp, zI_in, zI_div, zI_rem, lg_lt0, lg_gt0, lg_eq0, lg_le0, lg_ge0, Int.toNat_natCast, ge_iff_le, gt_iff_lt, List.length_cons, List.length_nil, bl_up2_at, bl_up2_nk, bl_up2_nx, zI_toInt] at h1
    first
    | (exfalso; first | omega | exact h1 trivial)
    | (try show _ ∧ _
       try dsimp only [bl_pv]
       exact ⟨rfl, I, J, rfl, smF.refl, h⟩)
  · try simp (disch := omega) only [zI_n, zI_o, zI_lit, zI_neg, zI_add, zI_sub, zI_mul, zI_lt, zI_le, zI_eq, zI_clamp, zI_in, zI_div, zI_rem, lg_lt0, lg_gt0, lg_eq0, lg_le0, lg_ge0, Int.toNat_natCast, ge_iff_le, gt_iff_lt, List.length_cons, List.length_nil, bl_up2_at, bl_up2_nk, bl_up2_nx, zI_toInt] at h1
    match j1, ho1, h1 with
    | 0, ho1, h1 =>
      cases ho1
      first
      | (exfalso; omega)
      | (refine ⟨rfl, rfl, km, (Nat.le_of_ble_eq_true rfl), (0, 0), Nat.le_of_ble_eq_true rfl, Nat.le_of_ble_eq_true rfl, ?_⟩
         fail /- c42: mX11_rolls -/)
    | 1, ho1, h1 =>
      cases ho1
      first
      | (exfalso; omega)
      | (refine ⟨fun h50 => ?_, fun h50 => ?_⟩
         · try simp (disch := omega) only [zI_n, zI_o, zI_lit, zI_neg, zI_add, zI_sub, zI_mul, zI_lt, zI_le, zI_eq, zI_clamp, zI_in, zI_div, zI_rem, lg_lt0, lg_gt0, lg_eq0, lg_le0, lg_ge0, Int.toNat_natCast, ge_iff_le, gt_iff_lt, List.length_cons, List.length_nil, bl_up2_at, bl_up2_nk, bl_up2_nx] at h50
           first
           | (exfalso; first | omega | exact h50 trivial)
           | (refine ⟨rfl, rfl, km, (Nat.le_of_ble_eq_true rfl), (0, 0), Nat.le_of_ble_eq_true rfl, Nat.le_of_ble_eq_true rfl, ?_⟩
              fail /- c61: mX11_folds2 -/)
         · try simp (disch := omega) only [zI_n, zI_o, zI_lit, zI_neg, zI_add, zI_sub, zI_mul, zI_lt, zI_le, zI_eq, zI_clamp, zI_in, zI_div, zI_rem, lg_lt0, lg_gt0, lg_eq0, lg_le0, lg_ge0, Int.toNat_natCast, ge_iff_le, gt_iff_lt, List.length_cons, List.length_nil, bl_up2_at, bl_up2_nk, bl_up2_nx] at h50
           first
           | (exfalso; first | omega | exact h50 trivial)
           | (refine ⟨rfl, rfl, km, (Nat.le_of_ble_eq_true rfl), (0, 0), Nat.le_of_ble_eq_true rfl, Nat.le_of_ble_eq_true rfl, ?_⟩
              fail /- c54: mX11_folds3 -/))
    | 2, ho1, h1 =>
      cases ho1
      first
      | (exfalso; omega)
      | (refine ⟨km, (by first | decide | (simp (disch := omega) only [zI_n, zI_o, zI_lit, zI_neg, zI_add, zI_sub, zI_mul, zI_lt, zI_le, zI_eq, zI_clamp, zI_in, zI_div, zI_rem, lg_lt0, lg_gt0, lg_eq0, lg_le0, lg_ge0, Int.toNat_natCast, ge_iff_le, gt_iff_lt, List.length_cons, List.length_nil, bl_up2_at, bl_up2_nk, bl_up2_nx] <;> omega)), rfl, rfl, km, (Nat.le_of_ble_eq_true rfl), (0, 0), Nat.le_of_ble_eq_true rfl, Nat.le_of_ble_eq_true rfl, ?_⟩
         fail /- c83: mX11_tucks -/)
    | 3, ho1, h1 =>
      cases ho1
      first
      | (exfalso; omega)
      | (refine ⟨rfl, rfl, km, (Nat.le_of_ble_eq_true rfl), (0, 0), Nat.le_of_ble_eq_true rfl, Nat.le_of_ble_eq_true rfl, ?_⟩
         fail /- c95: mX11_tucks -/)
    | 4, ho1, h1 =>
      cases ho1
      first
      | (exfalso; omega)
      | (refine ⟨rfl, rfl, km, (Nat.le_of_ble_eq_true rfl), (0, 0), Nat.le_of_ble_eq_true rfl, Nat.le_of_ble_eq_true rfl, ?_⟩
         fail /- c103: mX11_cuts -/)
    | 5, ho1, h1 =>
      cases ho1
      first
      | (exfalso; omega)
      | (refine ⟨rfl, rfl, km, (Nat.le_of_ble_eq_true rfl), (0, 0), Nat.le_of_ble_eq_true rfl, Nat.le_of_ble_eq_true rfl, ?_⟩
         fail /- c110: mX11_turns -/)
    | _ + 6, ho1, _ => exact absurd ho1 (by simp)
theorem c_Model_makes_7 {n : Nat} {x y : Int32} (hm : mdS R K N m) (hx : x = nI 7) (hy : y = nI n) (h : msl I J m S) : bl_MC G l (d + 3) mX11_makes [.ref m, .int x, .int y] (I, J, R, K, N) (0, 0) (fun o σ' => o = .inl none ∧ ∃ I' J', σ' = (I', J', R, K, N) ∧ smF I I' J J' m ∧ msl I' J' m (sl_step S 7 n)) := by
  have km := hm.2.1
  subst hx hy
  refine bl_MC_intro (by decide +kernel) rfl (Nat.le_of_ble_eq_true rfl) ?_
  refine bl_go oX11_makes 80 [] rfl ?_
  refine ⟨fun h1 => ?_, fun j1 o1 ho1 h1 _ => ?_⟩
  · try simp (disch := omega) only [zI_n, zI_o, zI_lit, zI_neg, zI_add, zI_sub, zI_mul, zI_lt, zI_le, zI_eq, zI_clamp, zI_in, zI_div, zI_rem, lg_lt0, lg_gt0, lg_eq0, lg_le0, lg_ge0, Int.toNat_natCast, ge_iff_le, gt_iff_lt, List.length_cons, List.length_nil, bl_up2_at, bl_up2_nk, bl_up2_nx, zI_toInt] at h1
    first
    | (exfalso; first | omega | exact h1 trivial)
    | (try show _ ∧ _
       try dsimp only [bl_pv]
       exact ⟨rfl, I, J, rfl, smF.refl, h⟩)
  · try simp (disch := omega) only [zI_n, zI_o, zI_lit, zI_neg, zI_add, zI_sub, zI_mul, zI_lt, zI_le, zI_eq, zI_clamp, zI_in, zI_div, zI_rem, lg_lt0, lg_gt0, lg_eq0, lg_le0, lg_ge0, Int.toNat_natCast, ge_iff_le, gt_iff_lt, List.length_cons, List.length_nil, bl_up2_at, bl_up2_nk, bl_up2_nx, zI_toInt] at h1
    match j1, ho1, h1 with
    | 0, ho1, h1 =>
      cases ho1
      first
      | (exfalso; omega)
      | (refine ⟨rfl, rfl, km, (Nat.le_of_ble_eq_true rfl), (0, 0), Nat.le_of_ble_eq_true rfl, Nat.le_of_ble_eq_true rfl, ?_⟩
         fail /- c42: mX11_rolls -/)
    | 1, ho1, h1 =>
      cases ho1
      first
      | (exfalso; omega)
      | (refine ⟨fun h50 => ?_, fun h50 => ?_⟩
         · try simp (disch := omega) only [zI_n, zI_o, zI_lit, zI_neg, zI_add, zI_sub, zI_mul, zI_lt, zI_le, zI_eq, zI_clamp, zI_in, zI_div, zI_rem, lg_lt0, lg_gt0, lg_eq0, lg_le0, lg_ge0, Int.toNat_natCast, ge_iff_le, gt_iff_lt, List.length_cons, List.length_nil, bl_up2_at, bl_up2_nk, bl_up2_nx] at h50
           first
           | (exfalso; first | omega | exact h50 trivial)
           | (refine ⟨rfl, rfl, km, (Nat.le_of_ble_eq_true rfl), (0, 0), Nat.le_of_ble_eq_true rfl, Nat.le_of_ble_eq_true rfl, ?_⟩
              fail /- c61: mX11_folds2 -/)
         · try simp (disch := omega) only [zI_n, zI_o, zI_lit, zI_neg, zI_add, zI_sub, zI_mul, zI_lt, zI_le, zI_eq, zI_clamp, zI_in, zI_div, zI_rem, lg_lt0, lg_gt0, lg_eq0, lg_le0, lg_ge0, Int.toNat_natCast, ge_iff_le, gt_iff_lt, List.length_cons, List.length_nil, bl_up2_at, bl_up2_nk, bl_up2_nx] at h50
           first
           | (exfalso; first | omega | exact h50 trivial)
           | (refine ⟨rfl, rfl, km, (Nat.le_of_ble_eq_true rfl), (0, 0), Nat.le_of_ble_eq_true rfl, Nat.le_of_ble_eq_true rfl, ?_⟩
              fail /- c54: mX11_folds3 -/))
    | 2, ho1, h1 =>
      cases ho1
      first
      | (exfalso; omega)
      | (refine ⟨km, (by first | decide | (simp (disch := omega) only [zI_n, zI_o, zI_lit, zI_neg, zI_add, zI_sub, zI_mul, zI_lt, zI_le, zI_eq, zI_clamp, zI_in, zI_div, zI_rem, lg_lt0, lg_gt0, lg_eq0, lg_le0, lg_ge0, Int.toNat_natCast, ge_iff_le, gt_iff_lt, List.length_cons, List.length_nil, bl_up2_at, bl_up2_nk, bl_up2_nx] <;> omega)), rfl, rfl, km, (Nat.le_of_ble_eq_true rfl), (0, 0), Nat.le_of_ble_eq_true rfl, Nat.le_of_ble_eq_true rfl, ?_⟩
         fail /- c83: mX11_tucks -/)
    | 3, ho1, h1 =>
      cases ho1
      first
      | (exfalso; omega)
      | (refine ⟨rfl, rfl, km, (Nat.le_of_ble_eq_true rfl), (0, 0), Nat.le_of_ble_eq_true rfl, Nat.le_of_ble_eq_true rfl, ?_⟩
         fail /- c95: mX11_tucks -/)
    | 4, ho1, h1 =>
      cases ho1
      first
      | (exfalso; omega)
      | (refine ⟨rfl, rfl, km, (Nat.le_of_ble_eq_true rfl), (0, 0), Nat.le_of_ble_eq_true rfl, Nat.le_of_ble_eq_true rfl, ?_⟩
         fail /- c103: mX11_cuts -/)
    | 5, ho1, h1 =>
      cases ho1
      first
      | (exfalso; omega)
      | (refine ⟨rfl, rfl, km, (Nat.le_of_ble_eq_true rfl), (0, 0), Nat.le_of_ble_eq_true rfl, Nat.le_of_ble_eq_true rfl, ?_⟩
         fail /- c110: mX11_turns -/)
    | _ + 6, ho1, _ => exact absurd ho1 (by simp)
theorem c_Model_makes {k n : Nat} {x y : Int32} (hm : mdS R K N m) (hx : x = nI k) (hy : y = nI n) (hk : st_ok k n) (hcan : sl_can k n S.1.1) (hS : slOk S) (h : msl I J m S) : bl_MC G l (d + 3) mX11_makes [.ref m, .int x, .int y] (I, J, R, K, N) (0, 0) (fun o σ' => o = .inl none ∧ ∃ I' J', σ' = (I', J', R, K, N) ∧ smF I I' J J' m ∧ msl I' J' m (sl_step S k n)) := by
  match k, hk, hx, hcan with
  | 0, hk, hx, hcan => exact c_Model_makes_0 hm hx hy hk hcan hS h
  | 1, hk, hx, hcan =>
    rcases st_n1 hk with rfl | rfl | rfl
    · exact c_Model_makes_1_2 hm hx hy hcan hS h
    · exact c_Model_makes_1_3 hm hx hy hcan hS h
    · exact c_Model_makes_1_4 hm hx hy hcan hS h
  | 2, hk, hx, hcan => exact c_Model_makes_2 hm hx hy hcan hS h
  | 3, hk, hx, hcan => exact c_Model_makes_3 hm hx hy hk hcan hS h
  | 4, hk, hx, hcan => exact c_Model_makes_4 hm hx hy hk hcan hS h
  | 5, hk, hx, hcan => exact c_Model_makes_5 hm hx hy hS h
  | 6, hk, hx, hcan => exact c_Model_makes_6 hm hx hy h
  | 7, hk, hx, hcan => exact c_Model_makes_7 hm hx hy h
  | k + 8, hk, _, _ => exact absurd hk.1 (by omega)
end MODEL20
