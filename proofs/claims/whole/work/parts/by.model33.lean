/-! ===== Model: waits, passes, isMade ===== -/
section MODEL33
variable {G : bl_G} {l : Launch} {d m : Nat} {I : Nat → Nat → Int32} {J : Nat → Nat → Int64} {R : Nat → Nat → Option Nat} {K N : Nat → Nat} {tf g : Nat → Nat} {dg : Nat → Int32} {u0 : Nat}
def kgC (I : Nat → Nat → Int32) (m : Nat) (tf g : Nat → Nat) (dg : Nat → Int32) (u0 : Nat) : Prop := mkC I m tf dg ∧ (∀ h, h < 24 → dg h = nI (g h)) ∧ kiO tf g ∧ I m 14 = nI u0 ∧ u0 < 288
theorem kgC.same {I' : Nat → Nat → Int32} (h : kgC I m tf g dg u0) (h1 : I' (m + 10) = I (m + 10)) (h2 : I' (m + 12) = I (m + 12)) (h3 : I' m 14 = I m 14) : kgC I' m tf g dg u0 := ⟨h.1.same h1 h2, h.2.1, h.2.2.1, h3.trans h.2.2.2.1, h.2.2.2.2⟩
theorem wgo_le {P : pP} (hP : pPok P) {b : Bool} {u n x : Nat} (hx : x ≤ 499) : wgo P b u n x ≤ 499 := by
  unfold wgo
  refine tw_le hx ?_ ?_
  · cases b
    · exact Nat.le_trans (hP.2.2.2.2 _) (by omega)
    · exact Nat.le_trans hP.1 (by omega)
  · cases b
    · exact Or.inr rfl
    · exact Or.inl rfl
theorem c_Model_unitW {b : Bool} {u i y : Nat} {w x bx : Int32} (hm : mdS R K N m) (hC : kgC I m tf g dg u0) (hw : w = nI y) (hy : y ≤ 499) (hx : x = nI (u0 + (u + i))) (hu : u + i ≤ 200) (hb : (b = true ∧ bx = 1) ∨ (b = false ∧ bx = 0)) : bl_MC G l (d + 1) mX11_unitBy [.ref m, .int w, .int x, .int bx] (I, J, R, K, N) (0, 0) (fun o σ' => o = .inl (some (.int (nI (wgo (pPk tf g u0) b u i y)))) ∧ σ' = (I, J, R, K, N)) := by
  obtain ⟨h1, h2, h3, h4, h5⟩ := hC
  obtain ⟨o4, o5, o6, o7, og⟩ := h3
  rcases hb with ⟨rfl, rfl⟩ | ⟨rfl, rfl⟩
  · refine bl_MC_mono (c_Model_unitBy (k := 6) hm h1 hx (by omega) (Or.inl ⟨rfl, rfl⟩)) (fun o σ' q => ⟨?_, q.2⟩)
    rw [q.1]
    unfold wu wgo pPk
    rw [if_pos rfl, hw, show (10 : Int32) * nI (tf 4) = nI (10 * tf 4) from (Int32.ofNat_mul 10 _).symm]
    exact congrArg (fun z => Sum.inl (some (Value.int z))) (tw_I (m := 5) (by omega) (by omega) (Or.inl rfl))
  · refine bl_MC_mono (c_Model_unitBy (k := 0) hm h1 hx (by omega) (Or.inr ⟨by omega, rfl⟩)) (fun o σ' q => ⟨?_, q.2⟩)
    rw [q.1]
    have hg := og ((u0 + (u + i)) / 12 % 24) (by omega)
    unfold wu wgo pPk
    rw [if_neg (by omega), hw, h2 _ (by omega), show (10 : Int32) * nI (g ((u0 + (u + i)) / 12 % 24)) = nI (10 * g ((u0 + (u + i)) / 12 % 24)) from (Int32.ofNat_mul 10 _).symm]
    exact congrArg (fun z => Sum.inl (some (Value.int z))) (tw_I (m := 10) (by omega) (by omega) (Or.inr rfl))
theorem tenI (a : Nat) : (10 : Int32) * nI a = nI (10 * a) := (Int32.ofNat_mul 10 a).symm
def wtN (x : Nat) : Nat := if 12 < x then x - 12 else x
theorem c_Model_waits {u w x : Nat} {x1 x2 x3 : Int32} (hm : mdS R K N m) (hC : kgC I m tf g dg u0) (h1 : x1 = nI u) (h2 : x2 = nI w) (h3 : x3 = nI x) (hu : u ≤ 120) (hw : w ≤ 400) (hx : x < 25) : bl_MC G l (d + 2) mX11_waits [.ref m, .int x1, .int x2, .int x3] (I, J, R, K, N) (0, 0) (fun o σ' => o = .inl none ∧ ∃ I', σ' = (I', J, R, K, N) ∧ (∀ y, y ≠ m → I' y = I y) ∧ (∀ j, j ≠ 47 → j ≠ 48 → I' m j = I m j) ∧ ((wts (pPk tf g u0) (decide (x ≤ 12)) u w (wtN x) = none ∧ I' m 48 = zI (-1)) ∨ (∃ y, wts (pPk tf g u0) (decide (x ≤ 12)) u w (wtN x) = some y ∧ I' m 47 = nI y ∧ I' m 48 = nI (u + wtN x)))) := by
  have km := hm.2.1
  obtain ⟨rm_10, km10, nm10⟩ := hm.f10
  have hP := pPk_ok (u0 := u0) hC.2.2.1
  have e6 := hC.1.1 6 (by omega)
  have ho6 := hC.2.2.1.2.2.1
  have hu0 := hC.2.2.2.2
  subst h1 h2 h3
  have hn : wtN x ≤ 12 := by unfold wtN; split <;> omega
  refine bl_MC_intro (by decide +kernel) rfl (Nat.le_of_ble_eq_true rfl) ?_
  have L29x : wts (pPk tf g u0) (decide (x ≤ 12)) u w (wtN x) = none → ∀ i z I1, z = nI i → i ≤ 13 → (∀ y, y ≠ m → I1 y = I y) → (∀ j, j ≠ 47 → j ≠ 48 → I1 m j = I m j) → I1 m 48 = zI (-1) → bl_WP G l (d + 2) mX11_waits 29 [(5, .int z), (4, .int (nI (wtN x))), (0, .ref m), (1, .int (nI u)), (2, .int (nI w)), (3, .int (nI x))] [] (I1, J, R, K, N) (0, 0) (fun o σ' => o = .inl none ∧ ∃ I', σ' = (I', J, R, K, N) ∧ (∀ y, y ≠ m → I' y = I y) ∧ (∀ j, j ≠ 47 → j ≠ 48 → I' m j = I m j) ∧ ((wts (pPk tf g u0) (decide (x ≤ 12)) u w (wtN x) = none ∧ I' m 48 = zI (-1)) ∨ (∃ y, wts (pPk tf g u0) (decide (x ≤ 12)) u w (wtN x) = some y ∧ I' m 47 = nI y ∧ I' m 48 = nI (u + wtN x)))) := by
    intro hnone i z I1 hz hi f1 f2 f3; subst hz
    refine bl_go oX11_waits 80 [29] rfl ?_
    refine ⟨fun h33 => ?_, fun h33 => ?_⟩
    · try simp (disch := omega) only [f3, zI_n, zI_o, zI_lit, zI_neg, zI_add, zI_sub, zI_mul, zI_lt, zI_le, zI_eq, zI_clamp, zI_in, zI_div, zI_rem, lg_lt0, lg_gt0, lg_eq0, lg_le0, lg_ge0, Int.toNat_natCast, ge_iff_le, gt_iff_lt, List.length_cons, List.length_nil, bl_up2_at, bl_up2_nk, bl_up2_nx] at h33
      first
      | (exfalso; first | omega | exact h33 trivial)
      | (try show _ ∧ _
         try dsimp only [bl_pv]
         exact ⟨rfl, I1, rfl, f1, f2, Or.inl ⟨hnone, f3⟩⟩)
    · try simp (disch := omega) only [f3, zI_n, zI_o, zI_lit, zI_neg, zI_add, zI_sub, zI_mul, zI_lt, zI_le, zI_eq, zI_clamp, zI_in, zI_div, zI_rem, lg_lt0, lg_gt0, lg_eq0, lg_le0, lg_ge0, Int.toNat_natCast, ge_iff_le, gt_iff_lt, List.length_cons, List.length_nil, bl_up2_at, bl_up2_nk, bl_up2_nx] at h33
      first
      | (exfalso; first | omega | exact h33 trivial)
      | (refine ⟨km, fun h41 => ?_, fun h41 => ?_⟩
         · try simp (disch := omega) only [f3, zI_n, zI_o, zI_lit, zI_neg, zI_add, zI_sub, zI_mul, zI_lt, zI_le, zI_eq, zI_clamp, zI_in, zI_div, zI_rem, lg_lt0, lg_gt0, lg_eq0, lg_le0, lg_ge0, Int.toNat_natCast, ge_iff_le, gt_iff_lt, List.length_cons, List.length_nil, bl_up2_at, bl_up2_nk, bl_up2_nx] at h41
           first
           | (exfalso; first | omega | exact h41 trivial)
           | (try show _ ∧ _
              try dsimp only [bl_pv]
              exact ⟨rfl, I1, rfl, f1, f2, Or.inl ⟨hnone, f3⟩⟩)
         · try simp (disch := omega) only [f3, zI_n, zI_o, zI_lit, zI_neg, zI_add, zI_sub, zI_mul, zI_lt, zI_le, zI_eq, zI_clamp, zI_in, zI_div, zI_rem, lg_lt0, lg_gt0, lg_eq0, lg_le0, lg_ge0, Int.toNat_natCast, ge_iff_le, gt_iff_lt, List.length_cons, List.length_nil, bl_up2_at, bl_up2_nk, bl_up2_nx] at h41
           exfalso; first | omega | exact h41 trivial)
  have L29 : ∀ i, i ≤ wtN x → ∀ z y I1, z = nI i → y ≤ 400 → (∀ y, y ≠ m → I1 y = I y) → (∀ j, j ≠ 47 → j ≠ 48 → I1 m j = I m j) → wts (pPk tf g u0) (decide (x ≤ 12)) u w i = some y → I1 m 47 = nI y → I1 m 48 = nI (u + i) → bl_WP G l (d + 2) mX11_waits 29 [(5, .int z), (4, .int (nI (wtN x))), (0, .ref m), (1, .int (nI u)), (2, .int (nI w)), (3, .int (nI x))] [] (I1, J, R, K, N) (0, 0) (fun o σ' => o = .inl none ∧ ∃ I', σ' = (I', J, R, K, N) ∧ (∀ y, y ≠ m → I' y = I y) ∧ (∀ j, j ≠ 47 → j ≠ 48 → I' m j = I m j) ∧ ((wts (pPk tf g u0) (decide (x ≤ 12)) u w (wtN x) = none ∧ I' m 48 = zI (-1)) ∨ (∃ y, wts (pPk tf g u0) (decide (x ≤ 12)) u w (wtN x) = some y ∧ I' m 47 = nI y ∧ I' m 48 = nI (u + wtN x)))) := by
    refine bl_for (wtN x) ?_ (fun i hi ih => ?_)
    · intro z y I1 hz hy f1 f2 f3 f4 f5; subst hz
      refine bl_go oX11_waits 80 [29] rfl ?_
      refine ⟨fun h33 => ?_, fun h33 => ?_⟩
      · try simp (disch := omega) only [zI_n, zI_o, zI_lit, zI_neg, zI_add, zI_sub, zI_mul, zI_lt, zI_le, zI_eq, zI_clamp, zI_in, zI_div, zI_rem, lg_lt0, lg_gt0, lg_eq0, lg_le0, lg_ge0, Int.toNat_natCast, ge_iff_le, gt_iff_lt, List.length_cons, List.length_nil, bl_up2_at, bl_up2_nk, bl_up2_nx] at h33
        try show _ ∧ _
        try dsimp only [bl_pv]
        exact ⟨rfl, I1, rfl, f1, f2, Or.inr ⟨y, f3, f4, f5⟩⟩
      · try simp (disch := omega) only [zI_n, zI_o, zI_lit, zI_neg, zI_add, zI_sub, zI_mul, zI_lt, zI_le, zI_eq, zI_clamp, zI_in, zI_div, zI_rem, lg_lt0, lg_gt0, lg_eq0, lg_le0, lg_ge0, Int.toNat_natCast, ge_iff_le, gt_iff_lt, List.length_cons, List.length_nil, bl_up2_at, bl_up2_nk, bl_up2_nx] at h33
        exfalso; first | omega | exact h33 trivial
    · intro z y I1 hz hy f1 f2 f3 f4 f5; subst hz
      have hC1 : kgC I1 m tf g dg u0 := hC.same (f1 _ (by omega)) (f1 _ (by omega)) (f2 14 (by omega) (by omega))
      have e6' := hC1.1.1 6 (by omega)
      have ex : I1 m 14 + I1 m 48 = nI (u0 + (u + i)) := by rw [hC1.2.2.2.1, f5]; exact (Int32.ofNat_add _ _).symm
      have hwl := wgo_le hP (b := decide (x ≤ 12)) (u := u) (n := i) (show y ≤ 499 by omega)
      have hst : wts (pPk tf g u0) (decide (x ≤ 12)) u w (i + 1) = if (pPk tf g u0).2.2.1 < wgo (pPk tf g u0) (decide (x ≤ 12)) u i y then none else some (wgo (pPk tf g u0) (decide (x ≤ 12)) u i y) := by
        show (match wts (pPk tf g u0) (decide (x ≤ 12)) u w i with | none => none | some x_1 => _) = _
        rw [f3]
      have hh : (pPk tf g u0).2.2.1 = 10 * tf 6 := rfl
      generalize hW : wgo (pPk tf g u0) (decide (x ≤ 12)) u i y = W at *
      refine bl_go oX11_waits 80 [29] rfl ?_
      refine ⟨fun h33 => ?_, fun h33 => ?_⟩
      · try simp (disch := omega) only [f5, zI_n, zI_o, zI_lit, zI_neg, zI_add, zI_sub, zI_mul, zI_lt, zI_le, zI_eq, zI_clamp, zI_in, zI_div, zI_rem, lg_lt0, lg_gt0, lg_eq0, lg_le0, lg_ge0, Int.toNat_natCast, ge_iff_le, gt_iff_lt, List.length_cons, List.length_nil, bl_up2_at, bl_up2_nk, bl_up2_nx] at h33
        exfalso; first | omega | exact h33 trivial
      · try simp (disch := omega) only [f5, zI_n, zI_o, zI_lit, zI_neg, zI_add, zI_sub, zI_mul, zI_lt, zI_le, zI_eq, zI_clamp, zI_in, zI_div, zI_rem, lg_lt0, lg_gt0, lg_eq0, lg_le0, lg_ge0, Int.toNat_natCast, ge_iff_le, gt_iff_lt, List.length_cons, List.length_nil, bl_up2_at, bl_up2_nk, bl_up2_nx] at h33
        refine ⟨km, fun h41 => ?_, fun h41 => ?_⟩
        · try simp (disch := omega) only [f5, zI_n, zI_o, zI_lit, zI_neg, zI_add, zI_sub, zI_mul, zI_lt, zI_le, zI_eq, zI_clamp, zI_in, zI_div, zI_rem, lg_lt0, lg_gt0, lg_eq0, lg_le0, lg_ge0, Int.toNat_natCast, ge_iff_le, gt_iff_lt, List.length_cons, List.length_nil, bl_up2_at, bl_up2_nk, bl_up2_nx] at h41
          exfalso; first | omega | exact h41 trivial
        · try simp (disch := omega) only [f5, zI_n, zI_o, zI_lit, zI_neg, zI_add, zI_sub, zI_mul, zI_lt, zI_le, zI_eq, zI_clamp, zI_in, zI_div, zI_rem, lg_lt0, lg_gt0, lg_eq0, lg_le0, lg_ge0, Int.toNat_natCast, ge_iff_le, gt_iff_lt, List.length_cons, List.length_nil, bl_up2_at, bl_up2_nk, bl_up2_nx] at h41
          refine ⟨km, km, km, fun h62 => ?_, fun h62 => ?_⟩
          · try simp (disch := omega) only [f5, zI_n, zI_o, zI_lit, zI_neg, zI_add, zI_sub, zI_mul, zI_lt, zI_le, zI_eq, zI_clamp, zI_in, zI_div, zI_rem, lg_lt0, lg_gt0, lg_eq0, lg_le0, lg_ge0, Int.toNat_natCast, ge_iff_le, gt_iff_lt, List.length_cons, List.length_nil, bl_up2_at, bl_up2_nk, bl_up2_nx] at h62
            refine ⟨rfl, rfl, km, (Nat.le_of_ble_eq_true rfl), (0, 0), Nat.le_of_ble_eq_true rfl, Nat.le_of_ble_eq_true rfl, bl_MC_mono (c_Model_unitW (d := d) (b := decide (x ≤ 12)) (u := u) (i := i) (y := y) hm hC1 f4 (by omega) ex (by omega) (by first | exact Or.inl ⟨decide_eq_true (by omega), rfl⟩ | exact Or.inr ⟨decide_eq_false (by omega), rfl⟩)) (fun o70 σ70 q70 => ?_)⟩
            try dsimp only [bl_pv] at q70
            obtain ⟨rfl, rfl⟩ := q70
            rw [hW]
            refine bl_go oX11_waits 80 [29] rfl ?_
            refine ⟨km, Or.inr (Or.inr ⟨rfl, rfl, _, rfl⟩), (fun h => by cases h), km, km, _, bl_vs rm_10, Or.inl ⟨km10, (by first | exact (by rw [nm10]; exact vp_in_nI (by omega) (by omega)) | ((try dsimp only [bl_pv]); show vp_in _ (N _); rw [nm10]; simp (disch := omega) only [f5, zI_n, zI_o, zI_lit, zI_neg, zI_add, zI_sub, zI_mul, zI_lt, zI_le, zI_eq, zI_clamp, zI_in, zI_div, zI_rem, lg_lt0, lg_gt0, lg_eq0, lg_le0, lg_ge0, Int.toNat_natCast, ge_iff_le, gt_iff_lt, List.length_cons, List.length_nil, bl_up2_at, bl_up2_nk, bl_up2_nx] <;> omega)), fun h91 => ?_, fun h91 => ?_⟩⟩
            · try simp (disch := omega) only [bl_pv, cl0, cl1, cl2, cl3, cl4, cl5, cl6, cl7, cl8, cl9, bl_up2_at, bl_up2_nk, bl_up2_nx] at h91
              refine ⟨km, km, Or.inr (Or.inr ⟨rfl, rfl, _, rfl⟩), (fun h => by cases h), ?_⟩
              try dsimp only [bl_pv]
              rw [e6', tenI, nI_lek (by omega) (by omega)] at h91
              first
              | (rw [if_neg (by omega)] at hst
                 refine ih _ _ _ (nI_1 _) (by omega) (fun y hy => ?_) (fun j j1 j2 => ?_) hst ?_ ?_
                 · rw [bl_up2_ne hy, bl_up2_ne hy]; exact f1 y hy
                 · rw [bl_up2_nk j2, bl_up2_nk j1]; exact f2 j j1 j2
                 · rw [bl_up2_nk (by omega), bl_up2_at]
                 · rw [bl_up2_at, bl_up2_nk (by omega), f5, nI_1, Nat.add_assoc])
              | (rw [if_pos (by omega)] at hst
                 obtain ⟨k, hk⟩ : ∃ k, wtN x = i + 1 + k := ⟨wtN x - (i + 1), by omega⟩
                 refine L29x (by rw [hk]; exact wts_none hst k) (i + 1) _ _ (nI_1 _) (by omega) (fun y hy => ?_) (fun j j1 j2 => ?_) ?_
                 · rw [bl_up2_ne hy, bl_up2_ne hy]; exact f1 y hy
                 · rw [bl_up2_nk j2, bl_up2_nk j1]; exact f2 j j1 j2
                 · rw [bl_up2_at]; rfl)
            · try simp (disch := omega) only [bl_pv, cl0, cl1, cl2, cl3, cl4, cl5, cl6, cl7, cl8, cl9, bl_up2_at, bl_up2_nk, bl_up2_nx] at h91
              refine ⟨km, Or.inr (Or.inr ⟨rfl, rfl, _, rfl⟩), (fun h => by cases h), ?_⟩
              try dsimp only [bl_pv]
              rw [e6', tenI, nI_lek (by omega) (by omega)] at h91
              first
              | (rw [if_neg (by omega)] at hst
                 refine ih _ _ _ (nI_1 _) (by omega) (fun y hy => ?_) (fun j j1 j2 => ?_) hst ?_ ?_
                 · rw [bl_up2_ne hy, bl_up2_ne hy]; exact f1 y hy
                 · rw [bl_up2_nk j2, bl_up2_nk j1]; exact f2 j j1 j2
                 · rw [bl_up2_nk (by omega), bl_up2_at]
                 · rw [bl_up2_at, bl_up2_nk (by omega), f5, nI_1, Nat.add_assoc])
              | (rw [if_pos (by omega)] at hst
                 obtain ⟨k, hk⟩ : ∃ k, wtN x = i + 1 + k := ⟨wtN x - (i + 1), by omega⟩
                 refine L29x (by rw [hk]; exact wts_none hst k) (i + 1) _ _ (nI_1 _) (by omega) (fun y hy => ?_) (fun j j1 j2 => ?_) ?_
                 · rw [bl_up2_ne hy, bl_up2_ne hy]; exact f1 y hy
                 · rw [bl_up2_nk j2, bl_up2_nk j1]; exact f2 j j1 j2
                 · rw [bl_up2_at]; rfl)
          · try simp (disch := omega) only [f5, zI_n, zI_o, zI_lit, zI_neg, zI_add, zI_sub, zI_mul, zI_lt, zI_le, zI_eq, zI_clamp, zI_in, zI_div, zI_rem, lg_lt0, lg_gt0, lg_eq0, lg_le0, lg_ge0, Int.toNat_natCast, ge_iff_le, gt_iff_lt, List.length_cons, List.length_nil, bl_up2_at, bl_up2_nk, bl_up2_nx] at h62
            refine ⟨rfl, rfl, km, (Nat.le_of_ble_eq_true rfl), (0, 0), Nat.le_of_ble_eq_true rfl, Nat.le_of_ble_eq_true rfl, bl_MC_mono (c_Model_unitW (d := d) (b := decide (x ≤ 12)) (u := u) (i := i) (y := y) hm hC1 f4 (by omega) ex (by omega) (by first | exact Or.inl ⟨decide_eq_true (by omega), rfl⟩ | exact Or.inr ⟨decide_eq_false (by omega), rfl⟩)) (fun o70 σ70 q70 => ?_)⟩
            try dsimp only [bl_pv] at q70
            obtain ⟨rfl, rfl⟩ := q70
            rw [hW]
            refine bl_go oX11_waits 80 [29] rfl ?_
            refine ⟨km, Or.inr (Or.inr ⟨rfl, rfl, _, rfl⟩), (fun h => by cases h), km, km, _, bl_vs rm_10, Or.inl ⟨km10, (by first | exact (by rw [nm10]; exact vp_in_nI (by omega) (by omega)) | ((try dsimp only [bl_pv]); show vp_in _ (N _); rw [nm10]; simp (disch := omega) only [f5, zI_n, zI_o, zI_lit, zI_neg, zI_add, zI_sub, zI_mul, zI_lt, zI_le, zI_eq, zI_clamp, zI_in, zI_div, zI_rem, lg_lt0, lg_gt0, lg_eq0, lg_le0, lg_ge0, Int.toNat_natCast, ge_iff_le, gt_iff_lt, List.length_cons, List.length_nil, bl_up2_at, bl_up2_nk, bl_up2_nx] <;> omega)), fun h91 => ?_, fun h91 => ?_⟩⟩
            · try simp (disch := omega) only [bl_pv, cl0, cl1, cl2, cl3, cl4, cl5, cl6, cl7, cl8, cl9, bl_up2_at, bl_up2_nk, bl_up2_nx] at h91
              refine ⟨km, km, Or.inr (Or.inr ⟨rfl, rfl, _, rfl⟩), (fun h => by cases h), ?_⟩
              try dsimp only [bl_pv]
              rw [e6', tenI, nI_lek (by omega) (by omega)] at h91
              first
              | (rw [if_neg (by omega)] at hst
                 refine ih _ _ _ (nI_1 _) (by omega) (fun y hy => ?_) (fun j j1 j2 => ?_) hst ?_ ?_
                 · rw [bl_up2_ne hy, bl_up2_ne hy]; exact f1 y hy
                 · rw [bl_up2_nk j2, bl_up2_nk j1]; exact f2 j j1 j2
                 · rw [bl_up2_nk (by omega), bl_up2_at]
                 · rw [bl_up2_at, bl_up2_nk (by omega), f5, nI_1, Nat.add_assoc])
              | (rw [if_pos (by omega)] at hst
                 obtain ⟨k, hk⟩ : ∃ k, wtN x = i + 1 + k := ⟨wtN x - (i + 1), by omega⟩
                 refine L29x (by rw [hk]; exact wts_none hst k) (i + 1) _ _ (nI_1 _) (by omega) (fun y hy => ?_) (fun j j1 j2 => ?_) ?_
                 · rw [bl_up2_ne hy, bl_up2_ne hy]; exact f1 y hy
                 · rw [bl_up2_nk j2, bl_up2_nk j1]; exact f2 j j1 j2
                 · rw [bl_up2_at]; rfl)
            · try simp (disch := omega) only [bl_pv, cl0, cl1, cl2, cl3, cl4, cl5, cl6, cl7, cl8, cl9, bl_up2_at, bl_up2_nk, bl_up2_nx] at h91
              refine ⟨km, Or.inr (Or.inr ⟨rfl, rfl, _, rfl⟩), (fun h => by cases h), ?_⟩
              try dsimp only [bl_pv]
              rw [e6', tenI, nI_lek (by omega) (by omega)] at h91
              first
              | (rw [if_neg (by omega)] at hst
                 refine ih _ _ _ (nI_1 _) (by omega) (fun y hy => ?_) (fun j j1 j2 => ?_) hst ?_ ?_
                 · rw [bl_up2_ne hy, bl_up2_ne hy]; exact f1 y hy
                 · rw [bl_up2_nk j2, bl_up2_nk j1]; exact f2 j j1 j2
                 · rw [bl_up2_nk (by omega), bl_up2_at]
                 · rw [bl_up2_at, bl_up2_nk (by omega), f5, nI_1, Nat.add_assoc])
              | (rw [if_pos (by omega)] at hst
                 obtain ⟨k, hk⟩ : ∃ k, wtN x = i + 1 + k := ⟨wtN x - (i + 1), by omega⟩
                 refine L29x (by rw [hk]; exact wts_none hst k) (i + 1) _ _ (nI_1 _) (by omega) (fun y hy => ?_) (fun j j1 j2 => ?_) ?_
                 · rw [bl_up2_ne hy, bl_up2_ne hy]; exact f1 y hy
                 · rw [bl_up2_nk j2, bl_up2_nk j1]; exact f2 j j1 j2
                 · rw [bl_up2_at]; rfl)
  have L0 : ∀ q, q = nI (wtN x) → bl_WP G l (d + 2) mX11_waits 29 [(5, .int (nI 0)), (4, .int q), (0, .ref m), (1, .int (nI u)), (2, .int (nI w)), (3, .int (nI x))] [] (bl_up2 (bl_up2 I m 47 (nI w)) m 48 (nI u), J, R, K, N) (0, 0) (fun o σ' => o = .inl none ∧ ∃ I', σ' = (I', J, R, K, N) ∧ (∀ y, y ≠ m → I' y = I y) ∧ (∀ j, j ≠ 47 → j ≠ 48 → I' m j = I m j) ∧ ((wts (pPk tf g u0) (decide (x ≤ 12)) u w (wtN x) = none ∧ I' m 48 = zI (-1)) ∨ (∃ y, wts (pPk tf g u0) (decide (x ≤ 12)) u w (wtN x) = some y ∧ I' m 47 = nI y ∧ I' m 48 = nI (u + wtN x)))) := by
    intro q hq; subst hq
    exact L29 0 (by omega) _ w (bl_up2 (bl_up2 I m 47 (nI w)) m 48 (nI u)) rfl hw (fun y hy => by rw [bl_up2_ne hy, bl_up2_ne hy]) (fun j j1 j2 => by rw [bl_up2_nk j2, bl_up2_nk j1]) rfl (by rw [bl_up2_nk (by omega), bl_up2_at]) (by rw [bl_up2_at]; rfl)
  refine bl_go oX11_waits 80 [29] rfl ?_
  refine ⟨fun h3 => ?_, fun h3 => ?_⟩
  · try simp (disch := omega) only [zI_n, zI_o, zI_lit, zI_neg, zI_add, zI_sub, zI_mul, zI_lt, zI_le, zI_eq, zI_clamp, zI_in, zI_div, zI_rem, lg_lt0, lg_gt0, lg_eq0, lg_le0, lg_ge0, Int.toNat_natCast, ge_iff_le, gt_iff_lt, List.length_cons, List.length_nil, bl_up2_at, bl_up2_nk, bl_up2_nx] at h3
    refine ⟨km, Or.inr (Or.inr ⟨rfl, rfl, _, rfl⟩), (fun h => by cases h), km, Or.inr (Or.inr ⟨rfl, rfl, _, rfl⟩), (fun h => by cases h), ?_⟩
    try dsimp only [bl_pv]
    refine L0 _ ?_
    unfold wtN
    first
    | rw [if_neg (by omega)]
    | (rw [if_pos (by omega), ← nI_subs (by omega)]; rfl)
  · try simp (disch := omega) only [zI_n, zI_o, zI_lit, zI_neg, zI_add, zI_sub, zI_mul, zI_lt, zI_le, zI_eq, zI_clamp, zI_in, zI_div, zI_rem, lg_lt0, lg_gt0, lg_eq0, lg_le0, lg_ge0, Int.toNat_natCast, ge_iff_le, gt_iff_lt, List.length_cons, List.length_nil, bl_up2_at, bl_up2_nk, bl_up2_nx] at h3
    refine ⟨km, Or.inr (Or.inr ⟨rfl, rfl, _, rfl⟩), (fun h => by cases h), km, Or.inr (Or.inr ⟨rfl, rfl, _, rfl⟩), (fun h => by cases h), ?_⟩
    try dsimp only [bl_pv]
    refine L0 _ ?_
    unfold wtN
    first
    | rw [if_neg (by omega)]
    | (rw [if_pos (by omega), ← nI_subs (by omega)]; rfl)
theorem c_Model_passesN (km : K m = 12) (k48 : I m 48 = zI (-1)) : bl_MC G l (d + 2) mX11_passes [.ref m] (I, J, R, K, N) (0, 0) (fun o σ' => o = .inl (some (.int 0)) ∧ ∃ I', σ' = (I', J, R, K, N) ∧ (∀ y, y ≠ m → I' y = I y) ∧ (∀ j, j ≠ 49 → j ≠ 50 → I' m j = I m j)) := by
  refine bl_MC_intro (by decide +kernel) rfl (Nat.le_of_ble_eq_true rfl) ?_
  refine bl_go oX11_passes 80 [24] rfl ?_
  refine ⟨km, km, Or.inr (Or.inr ⟨rfl, rfl, _, rfl⟩), (fun h => by cases h), km, km, Or.inr (Or.inr ⟨rfl, rfl, _, rfl⟩), (fun h => by cases h), km, fun h21 => ?_, fun h21 => ?_⟩
  · try simp (disch := omega) only [bl_pv, cl0, cl1, cl2, cl3, cl4, cl5, cl6, cl7, cl8, cl9, bl_up2_at, bl_up2_nk, bl_up2_nx] at h21
    first
    | (exfalso; first | omega | exact h21 trivial)
    | (refine ⟨(fun _ => by first | exact Or.inl rfl | exact Or.inr rfl), ?_⟩
       try show _ ∧ _
       try dsimp only [bl_pv]
       refine ⟨rfl, _, rfl, fun y hy => ?_, fun j j1 j2 => ?_⟩
       · rw [bl_up2_ne hy, bl_up2_ne hy]
       · rw [bl_up2_nk j2, bl_up2_nk j1])
  · try simp (disch := omega) only [bl_pv, cl0, cl1, cl2, cl3, cl4, cl5, cl6, cl7, cl8, cl9, bl_up2_at, bl_up2_nk, bl_up2_nx] at h21
    first
    | (exfalso; first | omega | exact h21 trivial)
    | (try dsimp only [bl_pv]
       exact absurd k48 h21)
theorem c_Model_passes {u y : Nat} (hm : mdS R K N m) (hC : kgC I m tf g dg u0) (k47 : I m 47 = nI y) (k48 : I m 48 = nI u) (hu : u ≤ 140) (hy : y ≤ 400) : bl_MC G l (d + 2) mX11_passes [.ref m] (I, J, R, K, N) (0, 0) (fun o σ' => ∃ I', σ' = (I', J, R, K, N) ∧ (∀ y, y ≠ m → I' y = I y) ∧ (∀ j, j ≠ 49 → j ≠ 50 → I' m j = I m j) ∧ ((pss (pPk tf g u0) u y = none ∧ o = .inl (some (.int 0))) ∨ (∃ z, pss (pPk tf g u0) u y = some z ∧ o = .inl (some (.int 1)) ∧ I' m 49 = nI z ∧ I' m 50 = nI (u + 3)))) := by
  have km := hm.2.1
  obtain ⟨rm_10, km10, nm10⟩ := hm.f10
  have hP := pPk_ok (u0 := u0) hC.2.2.1
  have e5 := hC.1.1 5 (by omega)
  have ho5 := hC.2.2.1.2.1
  have ho6 := hC.2.2.1.2.2.1
  have ho7 := hC.2.2.1.2.2.2.1
  have hu0 := hC.2.2.2.2
  obtain ⟨t0, ht0⟩ : ∃ t, t = wgo (pPk tf g u0) false u 0 y := ⟨_, rfl⟩
  obtain ⟨t1, ht1⟩ : ∃ t, t = wgo (pPk tf g u0) false u 1 t0 := ⟨_, rfl⟩
  obtain ⟨t2, ht2⟩ : ∃ t, t = wgo (pPk tf g u0) false u 2 (t1 + tf 7) := ⟨_, rfl⟩
  have b0 : t0 ≤ 499 := by rw [ht0]; exact wgo_le hP (by omega)
  have b1 : t1 ≤ 499 := by rw [ht1]; exact wgo_le hP b0
  have hps : pss (pPk tf g u0) u y = if y < 10 * tf 5 ∨ 120 < u + 3 then none else if 10 * tf 6 < t0 then none else if 10 * tf 6 < t1 ∨ 10 * tf 6 < t1 + tf 7 then none else if 10 * tf 6 < t2 then none else some t2 := by
    rw [ht2, ht1, ht0]; rfl
  refine bl_MC_intro (by decide +kernel) rfl (Nat.le_of_ble_eq_true rfl) ?_
  have L55 : ∀ i I1, i ≤ 2 → ∀ w, w ≤ 499 → (∀ y, y ≠ m → I1 y = I y) → (∀ j, j ≠ 49 → j ≠ 50 → I1 m j = I m j) → I1 m 49 = nI w → I1 m 50 = nI (u + i) → (∀ (I2 : Nat → Nat → Int32), (∀ y, y ≠ m → I2 y = I y) → (∀ j, j ≠ 49 → j ≠ 50 → I2 m j = I m j) → I2 m 50 = nI (u + i) → I2 m 49 = nI (if i = 1 ∧ wgo (pPk tf g u0) false u i w ≤ 10 * tf 6 then wgo (pPk tf g u0) false u i w + tf 7 else wgo (pPk tf g u0) false u i w) → bl_WP G l (d + 2) mX11_passes 120 [(1, .int (nI i)), (0, .ref m)] [] (I2, J, R, K, N) (0, 0) (fun o σ' => ∃ I', σ' = (I', J, R, K, N) ∧ (∀ y, y ≠ m → I' y = I y) ∧ (∀ j, j ≠ 49 → j ≠ 50 → I' m j = I m j) ∧ ((pss (pPk tf g u0) u y = none ∧ o = .inl (some (.int 0))) ∨ (∃ z, pss (pPk tf g u0) u y = some z ∧ o = .inl (some (.int 1)) ∧ I' m 49 = nI z ∧ I' m 50 = nI (u + 3))))) → bl_WP G l (d + 2) mX11_passes 55 [(1, .int (nI i)), (0, .ref m)] [] (I1, J, R, K, N) (0, 0) (fun o σ' => ∃ I', σ' = (I', J, R, K, N) ∧ (∀ y, y ≠ m → I' y = I y) ∧ (∀ j, j ≠ 49 → j ≠ 50 → I' m j = I m j) ∧ ((pss (pPk tf g u0) u y = none ∧ o = .inl (some (.int 0))) ∨ (∃ z, pss (pPk tf g u0) u y = some z ∧ o = .inl (some (.int 1)) ∧ I' m 49 = nI z ∧ I' m 50 = nI (u + 3)))) := by
    intro i I1 hi w hw f1 f2 f3 f4 H
    have hC1 : kgC I1 m tf g dg u0 := hC.same (f1 _ (by omega)) (f1 _ (by omega)) (f2 14 (by omega) (by omega))
    have e6' := hC1.1.1 6 (by omega)
    have e7' := hC1.1.1 7 (by omega)
    have ex : I1 m 14 + I1 m 50 = nI (u0 + (u + i)) := by rw [hC1.2.2.2.1, f4]; exact (Int32.ofNat_add _ _).symm
    have hwl := wgo_le hP (b := false) (u := u) (n := i) hw
    generalize hW : wgo (pPk tf g u0) false u i w = W at *
    refine bl_go oX11_passes 80 [55, 120] rfl ?_
    refine ⟨fun h57 => ?_, fun h57 => ?_⟩
    · try simp (disch := omega) only [zI_n, zI_o, zI_lit, zI_neg, zI_add, zI_sub, zI_mul, zI_lt, zI_le, zI_eq, zI_clamp, zI_in, zI_div, zI_rem, lg_lt0, lg_gt0, lg_eq0, lg_le0, lg_ge0, Int.toNat_natCast, ge_iff_le, gt_iff_lt, List.length_cons, List.length_nil, bl_up2_at, bl_up2_nk, bl_up2_nx] at h57
      exfalso; first | omega | exact h57 trivial
    · try simp (disch := omega) only [zI_n, zI_o, zI_lit, zI_neg, zI_add, zI_sub, zI_mul, zI_lt, zI_le, zI_eq, zI_clamp, zI_in, zI_div, zI_rem, lg_lt0, lg_gt0, lg_eq0, lg_le0, lg_ge0, Int.toNat_natCast, ge_iff_le, gt_iff_lt, List.length_cons, List.length_nil, bl_up2_at, bl_up2_nk, bl_up2_nx] at h57
      refine ⟨km, km, km, rfl, rfl, km, (Nat.le_of_ble_eq_true rfl), (0, 0), Nat.le_of_ble_eq_true rfl, Nat.le_of_ble_eq_true rfl, bl_MC_mono (c_Model_unitW (d := d) (b := false) (u := u) (i := i) (y := w) hm hC1 f3 (by omega) ex (by omega) (Or.inr ⟨rfl, rfl⟩)) (fun o76 σ76 q76 => ?_)⟩
      try dsimp only [bl_pv] at q76
      obtain ⟨rfl, rfl⟩ := q76
      rw [hW]
      refine bl_go oX11_passes 80 [55, 120] rfl ?_
      refine ⟨km, Or.inr (Or.inr ⟨rfl, rfl, _, rfl⟩), (fun h => by cases h), fun h84 => ?_, fun h84 => ?_⟩
      · try simp (disch := omega) only [zI_n, zI_o, zI_lit, zI_neg, zI_add, zI_sub, zI_mul, zI_lt, zI_le, zI_eq, zI_clamp, zI_in, zI_div, zI_rem, lg_lt0, lg_gt0, lg_eq0, lg_le0, lg_ge0, Int.toNat_natCast, ge_iff_le, gt_iff_lt, List.length_cons, List.length_nil, bl_up2_at, bl_up2_nk, bl_up2_nx] at h84
        try dsimp only [bl_pv]
        first
        | (rw [e6', tenI, nI_ltk (by omega) (by omega)] at h101
           refine H _ (fun y hy => ?_) (fun j j1 j2 => ?_) ?_ ?_
           · rw [bl_up2_ne hy]; exact f1 y hy
           · rw [bl_up2_nk j1]; exact f2 j j1 j2
           · rw [bl_up2_nk (by omega)]; exact f4
           · rw [bl_up2_at, if_neg (by omega)])
        | (rw [e6', tenI, nI_ltk (by omega) (by omega)] at h101
           refine H _ (fun y hy => ?_) (fun j j1 j2 => ?_) ?_ ?_
           · rw [bl_up2_ne hy, bl_up2_ne hy]; exact f1 y hy
           · rw [bl_up2_nk j1, bl_up2_nk j1]; exact f2 j j1 j2
           · rw [bl_up2_nk (by omega), bl_up2_nk (by omega)]; exact f4
           · rw [bl_up2_at, bl_up2_at, if_pos (by omega), cl7, bl_up2_nx (by omega), e7']; exact (Int32.ofNat_add _ _).symm)
        | (refine H _ (fun y hy => ?_) (fun j j1 j2 => ?_) ?_ ?_
           · rw [bl_up2_ne hy]; exact f1 y hy
           · rw [bl_up2_nk j1]; exact f2 j j1 j2
           · rw [bl_up2_nk (by omega)]; exact f4
           · rw [bl_up2_at, if_neg (by omega)])
      · try simp (disch := omega) only [zI_n, zI_o, zI_lit, zI_neg, zI_add, zI_sub, zI_mul, zI_lt, zI_le, zI_eq, zI_clamp, zI_in, zI_div, zI_rem, lg_lt0, lg_gt0, lg_eq0, lg_le0, lg_ge0, Int.toNat_natCast, ge_iff_le, gt_iff_lt, List.length_cons, List.length_nil, bl_up2_at, bl_up2_nk, bl_up2_nx] at h84
        refine ⟨km, km, _, bl_vs rm_10, Or.inl ⟨km10, (by first | exact (by rw [nm10]; exact vp_in_nI (by omega) (by omega)) | ((try dsimp only [bl_pv]); show vp_in _ (N _); rw [nm10]; simp (disch := omega) only [zI_n, zI_o, zI_lit, zI_neg, zI_add, zI_sub, zI_mul, zI_lt, zI_le, zI_eq, zI_clamp, zI_in, zI_div, zI_rem, lg_lt0, lg_gt0, lg_eq0, lg_le0, lg_ge0, Int.toNat_natCast, ge_iff_le, gt_iff_lt, List.length_cons, List.length_nil, bl_up2_at, bl_up2_nk, bl_up2_nx] <;> omega)), fun h101 => ?_, fun h101 => ?_⟩⟩
        · try simp (disch := omega) only [bl_pv, cl0, cl1, cl2, cl3, cl4, cl5, cl6, cl7, cl8, cl9, bl_up2_at, bl_up2_nk, bl_up2_nx] at h101
          try dsimp only [bl_pv]
          first
          | (rw [e6', tenI, nI_ltk (by omega) (by omega)] at h101
             refine H _ (fun y hy => ?_) (fun j j1 j2 => ?_) ?_ ?_
             · rw [bl_up2_ne hy]; exact f1 y hy
             · rw [bl_up2_nk j1]; exact f2 j j1 j2
             · rw [bl_up2_nk (by omega)]; exact f4
             · rw [bl_up2_at, if_neg (by omega)])
          | (rw [e6', tenI, nI_ltk (by omega) (by omega)] at h101
             refine H _ (fun y hy => ?_) (fun j j1 j2 => ?_) ?_ ?_
             · rw [bl_up2_ne hy, bl_up2_ne hy]; exact f1 y hy
             · rw [bl_up2_nk j1, bl_up2_nk j1]; exact f2 j j1 j2
             · rw [bl_up2_nk (by omega), bl_up2_nk (by omega)]; exact f4
             · rw [bl_up2_at, bl_up2_at, if_pos (by omega), cl7, bl_up2_nx (by omega), e7']; exact (Int32.ofNat_add _ _).symm)
          | (refine H _ (fun y hy => ?_) (fun j j1 j2 => ?_) ?_ ?_
             · rw [bl_up2_ne hy]; exact f1 y hy
             · rw [bl_up2_nk j1]; exact f2 j j1 j2
             · rw [bl_up2_nk (by omega)]; exact f4
             · rw [bl_up2_at, if_neg (by omega)])
        · try simp (disch := omega) only [bl_pv, cl0, cl1, cl2, cl3, cl4, cl5, cl6, cl7, cl8, cl9, bl_up2_at, bl_up2_nk, bl_up2_nx] at h101
          refine ⟨rfl, km, km, _, bl_vs rm_10, Or.inl ⟨km10, (by first | exact (by rw [nm10]; exact vp_in_nI (by omega) (by omega)) | ((try dsimp only [bl_pv]); show vp_in _ (N _); rw [nm10]; simp (disch := omega) only [zI_n, zI_o, zI_lit, zI_neg, zI_add, zI_sub, zI_mul, zI_lt, zI_le, zI_eq, zI_clamp, zI_in, zI_div, zI_rem, lg_lt0, lg_gt0, lg_eq0, lg_le0, lg_ge0, Int.toNat_natCast, ge_iff_le, gt_iff_lt, List.length_cons, List.length_nil, bl_up2_at, bl_up2_nk, bl_up2_nx] <;> omega)), km, Or.inr (Or.inr ⟨rfl, rfl, _, rfl⟩), (fun h => by cases h), ?_⟩⟩
          try dsimp only [bl_pv]
          first
          | (rw [e6', tenI, nI_ltk (by omega) (by omega)] at h101
             refine H _ (fun y hy => ?_) (fun j j1 j2 => ?_) ?_ ?_
             · rw [bl_up2_ne hy]; exact f1 y hy
             · rw [bl_up2_nk j1]; exact f2 j j1 j2
             · rw [bl_up2_nk (by omega)]; exact f4
             · rw [bl_up2_at, if_neg (by omega)])
          | (rw [e6', tenI, nI_ltk (by omega) (by omega)] at h101
             refine H _ (fun y hy => ?_) (fun j j1 j2 => ?_) ?_ ?_
             · rw [bl_up2_ne hy, bl_up2_ne hy]; exact f1 y hy
             · rw [bl_up2_nk j1, bl_up2_nk j1]; exact f2 j j1 j2
             · rw [bl_up2_nk (by omega), bl_up2_nk (by omega)]; exact f4
             · rw [bl_up2_at, bl_up2_at, if_pos (by omega), cl7, bl_up2_nx (by omega), e7']; exact (Int32.ofNat_add _ _).symm)
          | (refine H _ (fun y hy => ?_) (fun j j1 j2 => ?_) ?_ ?_
             · rw [bl_up2_ne hy]; exact f1 y hy
             · rw [bl_up2_nk j1]; exact f2 j j1 j2
             · rw [bl_up2_nk (by omega)]; exact f4
             · rw [bl_up2_at, if_neg (by omega)])
  have L120 : ∀ i I2, i ≤ 2 → ∀ W, W ≤ 700 → (∀ y, y ≠ m → I2 y = I y) → (∀ j, j ≠ 49 → j ≠ 50 → I2 m j = I m j) → I2 m 50 = nI (u + i) → I2 m 49 = nI W → (10 * tf 6 < W → pss (pPk tf g u0) u y = none) → (¬ 10 * tf 6 < W → ∀ (z : Int32) (I3 : Nat → Nat → Int32), z = nI i + 1 → (∀ y, y ≠ m → I3 y = I y) → (∀ j, j ≠ 49 → j ≠ 50 → I3 m j = I m j) → I3 m 49 = nI W → I3 m 50 = nI (u + (i + 1)) → bl_WP G l (d + 2) mX11_passes 55 [(1, .int z), (0, .ref m)] [] (I3, J, R, K, N) (0, 0) (fun o σ' => ∃ I', σ' = (I', J, R, K, N) ∧ (∀ y, y ≠ m → I' y = I y) ∧ (∀ j, j ≠ 49 → j ≠ 50 → I' m j = I m j) ∧ ((pss (pPk tf g u0) u y = none ∧ o = .inl (some (.int 0))) ∨ (∃ z, pss (pPk tf g u0) u y = some z ∧ o = .inl (some (.int 1)) ∧ I' m 49 = nI z ∧ I' m 50 = nI (u + 3))))) → bl_WP G l (d + 2) mX11_passes 120 [(1, .int (nI i)), (0, .ref m)] [] (I2, J, R, K, N) (0, 0) (fun o σ' => ∃ I', σ' = (I', J, R, K, N) ∧ (∀ y, y ≠ m → I' y = I y) ∧ (∀ j, j ≠ 49 → j ≠ 50 → I' m j = I m j) ∧ ((pss (pPk tf g u0) u y = none ∧ o = .inl (some (.int 0))) ∨ (∃ z, pss (pPk tf g u0) u y = some z ∧ o = .inl (some (.int 1)) ∧ I' m 49 = nI z ∧ I' m 50 = nI (u + 3)))) := by
    intro i I2 hi W hWb f1 f2 f3 f4 H1 H2
    have e6' : I2 (m + 10) 6 = nI (tf 6) := by rw [f1 _ (by omega)]; exact hC.1.1 6 (by omega)
    refine bl_go oX11_passes 80 [55, 120] rfl ?_
    refine ⟨km, km, _, bl_vs rm_10, Or.inl ⟨km10, (by first | exact (by rw [nm10]; exact vp_in_nI (by omega) (by omega)) | ((try dsimp only [bl_pv]); show vp_in _ (N _); rw [nm10]; simp (disch := omega) only [zI_n, zI_o, zI_lit, zI_neg, zI_add, zI_sub, zI_mul, zI_lt, zI_le, zI_eq, zI_clamp, zI_in, zI_div, zI_rem, lg_lt0, lg_gt0, lg_eq0, lg_le0, lg_ge0, Int.toNat_natCast, ge_iff_le, gt_iff_lt, List.length_cons, List.length_nil, bl_up2_at, bl_up2_nk, bl_up2_nx] <;> omega)), fun h134 => ?_, fun h134 => ?_⟩⟩
    · try simp (disch := omega) only [bl_pv, cl0, cl1, cl2, cl3, cl4, cl5, cl6, cl7, cl8, cl9, bl_up2_at, bl_up2_nk, bl_up2_nx] at h134
      refine ⟨rfl, km, km, Or.inr (Or.inr ⟨rfl, rfl, _, rfl⟩), (fun h => by cases h), ?_⟩
      try dsimp only [bl_pv]
      rw [e6', f4, tenI, nI_lek (by omega) (by omega)] at h134
      refine H2 (by omega) _ _ rfl (fun y hy => ?_) (fun j j1 j2 => ?_) ?_ ?_
      · rw [bl_up2_ne hy]; exact f1 y hy
      · rw [bl_up2_nk j2]; exact f2 j j1 j2
      · rw [bl_up2_nk (by omega)]; exact f4
      · rw [bl_up2_at, f3, nI_1, Nat.add_assoc]
    · try simp (disch := omega) only [bl_pv, cl0, cl1, cl2, cl3, cl4, cl5, cl6, cl7, cl8, cl9, bl_up2_at, bl_up2_nk, bl_up2_nx] at h134
      refine ⟨(fun _ => by first | exact Or.inl rfl | exact Or.inr rfl), ?_⟩
      try show _ ∧ _
      try dsimp only [bl_pv]
      rw [e6', f4, tenI, nI_lek (by omega) (by omega)] at h134
      exact ⟨I2, rfl, f1, f2, Or.inl ⟨H1 (by omega), rfl⟩⟩
  have L53 : ¬ (y < 10 * tf 5 ∨ 120 < u + 3) → ∀ I1, (∀ y, y ≠ m → I1 y = I y) → (∀ j, j ≠ 49 → j ≠ 50 → I1 m j = I m j) → I1 m 49 = nI y → I1 m 50 = nI u → bl_WP G l (d + 2) mX11_passes 55 [(1, .int (nI 0)), (0, .ref m)] [] (I1, J, R, K, N) (0, 0) (fun o σ' => ∃ I', σ' = (I', J, R, K, N) ∧ (∀ y, y ≠ m → I' y = I y) ∧ (∀ j, j ≠ 49 → j ≠ 50 → I' m j = I m j) ∧ ((pss (pPk tf g u0) u y = none ∧ o = .inl (some (.int 0))) ∨ (∃ z, pss (pPk tf g u0) u y = some z ∧ o = .inl (some (.int 1)) ∧ I' m 49 = nI z ∧ I' m 50 = nI (u + 3)))) := by
    intro hok I1 f1 f2 f3 f4
    rw [if_neg hok] at hps
    refine L55 0 I1 (by omega) y (by omega) f1 f2 f3 f4 (fun I2 g1 g2 g3 g4 => ?_)
    rw [if_neg (fun h => absurd h.1 (by omega)), ← ht0] at g4
    refine L120 0 I2 (by omega) t0 (by omega) g1 g2 g3 g4 (fun h => by rw [hps, if_pos h]) (fun h0 z I3 hz k1 k2 k3 k4 => ?_)
    have hz' : z = nI 1 := hz.trans (nI_1 0)
    subst hz'
    rw [if_neg h0] at hps
    refine L55 1 I3 (by omega) t0 (by omega) k1 k2 k3 k4 (fun I4 n1 n2 n3 n4 => ?_)
    rw [← ht1] at n4
    by_cases hc : t1 ≤ 10 * tf 6
    · rw [if_pos ⟨rfl, hc⟩] at n4
      refine L120 1 I4 (by omega) (t1 + tf 7) (by omega) n1 n2 n3 n4 (fun h => by rw [hps, if_pos (Or.inr h)]) (fun h1 z I5 hz a1 a2 a3 a4 => ?_)
      have hz' : z = nI 2 := hz.trans (nI_1 1)
      subst hz'
      rw [if_neg (by omega)] at hps
      refine L55 2 I5 (by omega) (t1 + tf 7) (by omega) a1 a2 a3 a4 (fun I6 c1 c2 c3 c4 => ?_)
      rw [if_neg (fun h => absurd h.1 (by omega)), ← ht2] at c4
      have b2 : t2 ≤ 499 := by rw [ht2]; exact wgo_le hP (by omega)
      refine L120 2 I6 (by omega) t2 (by omega) c1 c2 c3 c4 (fun h => by rw [hps, if_pos h]) (fun h2 z I7 hz e1 e2 e3 e4 => ?_)
      have hz' : z = nI 3 := hz.trans (nI_1 2)
      subst hz'
      rw [if_neg h2] at hps
      refine bl_go oX11_passes 80 [55, 120] rfl ?_
      refine ⟨fun h57 => ?_, fun h57 => ?_⟩
      · try simp (disch := omega) only [zI_n, zI_o, zI_lit, zI_neg, zI_add, zI_sub, zI_mul, zI_lt, zI_le, zI_eq, zI_clamp, zI_in, zI_div, zI_rem, lg_lt0, lg_gt0, lg_eq0, lg_le0, lg_ge0, Int.toNat_natCast, ge_iff_le, gt_iff_lt, List.length_cons, List.length_nil, bl_up2_at, bl_up2_nk, bl_up2_nx] at h57
        first
        | (exfalso; first | omega | exact h57 trivial)
        | (refine ⟨(fun _ => by first | exact Or.inl rfl | exact Or.inr rfl), ?_⟩
           try show _ ∧ _
           try dsimp only [bl_pv]
           exact ⟨I7, rfl, e1, e2, Or.inr ⟨t2, hps, rfl, e3, e4⟩⟩)
      · try simp (disch := omega) only [zI_n, zI_o, zI_lit, zI_neg, zI_add, zI_sub, zI_mul, zI_lt, zI_le, zI_eq, zI_clamp, zI_in, zI_div, zI_rem, lg_lt0, lg_gt0, lg_eq0, lg_le0, lg_ge0, Int.toNat_natCast, ge_iff_le, gt_iff_lt, List.length_cons, List.length_nil, bl_up2_at, bl_up2_nk, bl_up2_nx] at h57
        exfalso; first | omega | exact h57 trivial
    · rw [if_neg (fun h => hc h.2)] at n4
      exact L120 1 I4 (by omega) t1 (by omega) n1 n2 n3 n4 (fun h => by rw [hps, if_pos (Or.inl h)]) (fun h => absurd hc (by omega))
  refine bl_go oX11_passes 80 [55, 120] rfl ?_
  refine ⟨km, km, Or.inr (Or.inr ⟨rfl, rfl, _, rfl⟩), (fun h => by cases h), km, km, Or.inr (Or.inr ⟨rfl, rfl, _, rfl⟩), (fun h => by cases h), km, fun h21 => ?_, fun h21 => ?_⟩
  · try simp (disch := omega) only [bl_pv, cl0, cl1, cl2, cl3, cl4, cl5, cl6, cl7, cl8, cl9, bl_up2_at, bl_up2_nk, bl_up2_nx] at h21
    exact absurd (k48.symm.trans h21) (by rw [zI_n]; show ¬ zI (u : Int) = zI (-1); rw [zI_eq (by omega) (by omega) (by omega) (by omega)]; omega)
  · try simp (disch := omega) only [bl_pv, cl0, cl1, cl2, cl3, cl4, cl5, cl6, cl7, cl8, cl9, bl_up2_at, bl_up2_nk, bl_up2_nx] at h21
    first
    | (exfalso; first | omega | exact h21 trivial)
    | (refine ⟨km, km, _, bl_vs rm_10, Or.inl ⟨km10, (by first | exact (by rw [nm10]; exact vp_in_nI (by omega) (by omega)) | ((try dsimp only [bl_pv]); show vp_in _ (N _); rw [nm10]; simp (disch := omega) only [zI_n, zI_o, zI_lit, zI_neg, zI_add, zI_sub, zI_mul, zI_lt, zI_le, zI_eq, zI_clamp, zI_in, zI_div, zI_rem, lg_lt0, lg_gt0, lg_eq0, lg_le0, lg_ge0, Int.toNat_natCast, ge_iff_le, gt_iff_lt, List.length_cons, List.length_nil, bl_up2_at, bl_up2_nk, bl_up2_nx] <;> omega)), fun h37 => ?_, fun h37 => ?_⟩⟩
       · try simp (disch := omega) only [bl_pv, cl0, cl1, cl2, cl3, cl4, cl5, cl6, cl7, cl8, cl9, bl_up2_at, bl_up2_nk, bl_up2_nx] at h37
         refine ⟨(fun _ => by first | exact Or.inl rfl | exact Or.inr rfl), ?_⟩
         try show _ ∧ _
         try dsimp only [bl_pv]
         rw [k47, e5, tenI, nI_ltk (by omega) (by omega)] at h37
         refine ⟨_, rfl, fun y hy => ?_, fun j j1 j2 => ?_, Or.inl ⟨?_, rfl⟩⟩
         · rw [bl_up2_ne hy, bl_up2_ne hy]
         · rw [bl_up2_nk j2, bl_up2_nk j1]
         · rw [hps]
           first
           | (rw [k48, show nI u + 3 = nI (u + 3) from (Int32.ofNat_add u 3).symm, show (120 : Int32) = nI 120 from rfl, nI_lek (by omega) (by omega)] at h48
              rw [if_pos (by omega)])
           | rw [if_pos (by omega)]
       · try simp (disch := omega) only [bl_pv, cl0, cl1, cl2, cl3, cl4, cl5, cl6, cl7, cl8, cl9, bl_up2_at, bl_up2_nk, bl_up2_nx] at h37
         refine ⟨km, fun h48 => ?_, fun h48 => ?_⟩
         · try simp (disch := omega) only [bl_pv, cl0, cl1, cl2, cl3, cl4, cl5, cl6, cl7, cl8, cl9, bl_up2_at, bl_up2_nk, bl_up2_nx] at h48
           try dsimp only [bl_pv]
           rw [k47, e5, tenI, nI_ltk (by omega) (by omega)] at h37
           rw [k48, show nI u + 3 = nI (u + 3) from (Int32.ofNat_add u 3).symm, show (120 : Int32) = nI 120 from rfl, nI_lek (by omega) (by omega)] at h48
           exact L53 (by omega) _ (fun y hy => by rw [bl_up2_ne hy, bl_up2_ne hy]) (fun j j1 j2 => by rw [bl_up2_nk j2, bl_up2_nk j1]) (by rw [bl_up2_nk (by omega), bl_up2_at]; exact k47) (by rw [bl_up2_at, bl_up2_nk (by omega)]; exact k48)
         · try simp (disch := omega) only [bl_pv, cl0, cl1, cl2, cl3, cl4, cl5, cl6, cl7, cl8, cl9, bl_up2_at, bl_up2_nk, bl_up2_nx] at h48
           refine ⟨(fun _ => by first | exact Or.inl rfl | exact Or.inr rfl), ?_⟩
           try show _ ∧ _
           try dsimp only [bl_pv]
           rw [k47, e5, tenI, nI_ltk (by omega) (by omega)] at h37
           refine ⟨_, rfl, fun y hy => ?_, fun j j1 j2 => ?_, Or.inl ⟨?_, rfl⟩⟩
           · rw [bl_up2_ne hy, bl_up2_ne hy]
           · rw [bl_up2_nk j2, bl_up2_nk j1]
           · rw [hps]
             first
             | (rw [k48, show nI u + 3 = nI (u + 3) from (Int32.ofNat_add u 3).symm, show (120 : Int32) = nI 120 from rfl, nI_lek (by omega) (by omega)] at h48
                rw [if_pos (by omega)])
             | rw [if_pos (by omega)])
theorem st2_le : ∀ f n, st2 f n ≤ n ∧ (1 ≤ n → n < 2 ^ f → 1 ≤ st2 f n)
  | 0, n => ⟨Nat.le_refl _, fun h h2 => absurd h2 (by omega)⟩
  | f + 1, n => by
    have ih := st2_le f (n / 2)
    show (if n % 2 = 0 then st2 f (n / 2) else n) ≤ n ∧ (1 ≤ n → n < 2 ^ (f + 1) → 1 ≤ (if n % 2 = 0 then st2 f (n / 2) else n))
    by_cases h : n % 2 = 0
    · rw [if_pos h]
      refine ⟨by omega, fun h1 h2 => ih.2 (by omega) ?_⟩
      rw [Nat.pow_succ] at h2; omega
    · rw [if_neg h]; exact ⟨Nat.le_refl _, fun h1 _ => h1⟩
theorem c_Model_isMade {n : Nat} {x : Int32} (hx : x = nI n) (h1 : 1 ≤ n) (h2 : n ≤ 1024) : bl_MC G l d mX11_isMade [.int x] (I, J, R, K, N) (0, 0) (fun o σ' => o = .inl (some (.int (bI (mdb n)))) ∧ σ' = (I, J, R, K, N)) := by
  subst hx
  have hms := made_st h1 h2
  have hs2 := st2_le 31 n
  refine bl_MC_intro (by decide +kernel) rfl (Nat.le_of_ble_eq_true rfl) ?_
  have L15 : ∀ f k, 1 ≤ k → k < 2 ^ f → k ≤ 1024 → st3 f k = st3 31 (st2 31 n) → bl_WP G l d mX11_isMade 15 [(1, .int (nI k))] [] (I, J, R, K, N) (0, 0) (fun o σ' => o = .inl (some (.int (bI (mdb n)))) ∧ σ' = (I, J, R, K, N)) := by
    intro f
    induction f with
    | zero => intro k hk hk2; exact absurd hk2 (by simp; omega)
    | succ f ih =>
      intro k hk hk2 hk3 he
      have he' : (if k % 3 = 0 then st3 f (k / 3) else k) = st3 31 (st2 31 n) := he
      have ed : nI k / 3 = nI (k / 3) := nI_div (b := 3) (by omega) (by omega)
      refine bl_go oX11_isMade 80 [2, 15] rfl ?_
      refine ⟨(by first | decide | (simp (disch := omega) only [zI_n, zI_o, zI_lit, zI_neg, zI_add, zI_sub, zI_mul, zI_lt, zI_le, zI_eq, zI_clamp, zI_in, zI_div, zI_rem, lg_lt0, lg_gt0, lg_eq0, lg_le0, lg_ge0, Int.toNat_natCast, ge_iff_le, gt_iff_lt, List.length_cons, List.length_nil, bl_up2_at, bl_up2_nk, bl_up2_nx] <;> omega)), fun h18 => ?_, fun h18 => ?_⟩
      · try simp (disch := omega) only [zI_n, zI_o, zI_lit, zI_neg, zI_add, zI_sub, zI_mul, zI_lt, zI_le, zI_eq, zI_clamp, zI_in, zI_div, zI_rem, lg_lt0, lg_gt0, lg_eq0, lg_le0, lg_ge0, Int.toNat_natCast, ge_iff_le, gt_iff_lt, List.length_cons, List.length_nil, bl_up2_at, bl_up2_nk, bl_up2_nx] at h18
        refine ⟨fun h30 => ?_, fun h30 => ?_⟩
        · try simp (disch := omega) only [zI_n, zI_o, zI_lit, zI_neg, zI_add, zI_sub, zI_mul, zI_lt, zI_le, zI_eq, zI_clamp, zI_in, zI_div, zI_rem, lg_lt0, lg_gt0, lg_eq0, lg_le0, lg_ge0, Int.toNat_natCast, ge_iff_le, gt_iff_lt, List.length_cons, List.length_nil, bl_up2_at, bl_up2_nk, bl_up2_nx] at h30
          refine ⟨(fun _ => by first | exact Or.inl rfl | exact Or.inr rfl), ?_⟩
          try show _ ∧ _
          try dsimp only [bl_pv]
          rw [if_neg (by omega)] at he'
          refine ⟨?_, rfl⟩
          first
          | (have : mdb n = true := mdb_t.mpr (hms.mp (by omega))
             rw [this]; rfl)
          | (have : mdb n = false := by
               cases hh : mdb n
               · rfl
               · have := hms.mpr (mdb_t.mp hh); omega
             rw [this]; rfl)
        · try simp (disch := omega) only [zI_n, zI_o, zI_lit, zI_neg, zI_add, zI_sub, zI_mul, zI_lt, zI_le, zI_eq, zI_clamp, zI_in, zI_div, zI_rem, lg_lt0, lg_gt0, lg_eq0, lg_le0, lg_ge0, Int.toNat_natCast, ge_iff_le, gt_iff_lt, List.length_cons, List.length_nil, bl_up2_at, bl_up2_nk, bl_up2_nx] at h30
          refine ⟨(fun _ => by first | exact Or.inl rfl | exact Or.inr rfl), ?_⟩
          try show _ ∧ _
          try dsimp only [bl_pv]
          rw [if_neg (by omega)] at he'
          refine ⟨?_, rfl⟩
          first
          | (have : mdb n = true := mdb_t.mpr (hms.mp (by omega))
             rw [this]; rfl)
          | (have : mdb n = false := by
               cases hh : mdb n
               · rfl
               · have := hms.mpr (mdb_t.mp hh); omega
             rw [this]; rfl)
      · try simp (disch := omega) only [zI_n, zI_o, zI_lit, zI_neg, zI_add, zI_sub, zI_mul, zI_lt, zI_le, zI_eq, zI_clamp, zI_in, zI_div, zI_rem, lg_lt0, lg_gt0, lg_eq0, lg_le0, lg_ge0, Int.toNat_natCast, ge_iff_le, gt_iff_lt, List.length_cons, List.length_nil, bl_up2_at, bl_up2_nk, bl_up2_nx] at h18
        refine ⟨(by first | decide | (simp (disch := omega) only [zI_n, zI_o, zI_lit, zI_neg, zI_add, zI_sub, zI_mul, zI_lt, zI_le, zI_eq, zI_clamp, zI_in, zI_div, zI_rem, lg_lt0, lg_gt0, lg_eq0, lg_le0, lg_ge0, Int.toNat_natCast, ge_iff_le, gt_iff_lt, List.length_cons, List.length_nil, bl_up2_at, bl_up2_nk, bl_up2_nx] <;> omega)), ?_⟩
        try dsimp only [bl_pv]
        rw [ed]
        rw [if_pos (by omega)] at he'
        refine ih (k / 3) (by omega) ?_ (by omega) he'
        rw [Nat.pow_succ] at hk2; omega
  have L2 : ∀ f k, 1 ≤ k → k < 2 ^ f → k ≤ 1024 → st2 f k = st2 31 n → bl_WP G l d mX11_isMade 2 [(1, .int (nI k))] [] (I, J, R, K, N) (0, 0) (fun o σ' => o = .inl (some (.int (bI (mdb n)))) ∧ σ' = (I, J, R, K, N)) := by
    intro f
    induction f with
    | zero => intro k hk hk2; exact absurd hk2 (by simp; omega)
    | succ f ih =>
      intro k hk hk2 hk3 he
      have he' : (if k % 2 = 0 then st2 f (k / 2) else k) = st2 31 n := he
      have ed : nI k / 2 = nI (k / 2) := nI_div (b := 2) (by omega) (by omega)
      refine bl_go oX11_isMade 80 [2, 15] rfl ?_
      refine ⟨(by first | decide | (simp (disch := omega) only [zI_n, zI_o, zI_lit, zI_neg, zI_add, zI_sub, zI_mul, zI_lt, zI_le, zI_eq, zI_clamp, zI_in, zI_div, zI_rem, lg_lt0, lg_gt0, lg_eq0, lg_le0, lg_ge0, Int.toNat_natCast, ge_iff_le, gt_iff_lt, List.length_cons, List.length_nil, bl_up2_at, bl_up2_nk, bl_up2_nx] <;> omega)), fun h5 => ?_, fun h5 => ?_⟩
      · try simp (disch := omega) only [zI_n, zI_o, zI_lit, zI_neg, zI_add, zI_sub, zI_mul, zI_lt, zI_le, zI_eq, zI_clamp, zI_in, zI_div, zI_rem, lg_lt0, lg_gt0, lg_eq0, lg_le0, lg_ge0, Int.toNat_natCast, ge_iff_le, gt_iff_lt, List.length_cons, List.length_nil, bl_up2_at, bl_up2_nk, bl_up2_nx] at h5
        try dsimp only [bl_pv]
        rw [if_neg (by omega)] at he'
        rw [he']
        exact L15 31 _ (hs2.2 h1 (by omega)) (by omega) (by omega) rfl
      · try simp (disch := omega) only [zI_n, zI_o, zI_lit, zI_neg, zI_add, zI_sub, zI_mul, zI_lt, zI_le, zI_eq, zI_clamp, zI_in, zI_div, zI_rem, lg_lt0, lg_gt0, lg_eq0, lg_le0, lg_ge0, Int.toNat_natCast, ge_iff_le, gt_iff_lt, List.length_cons, List.length_nil, bl_up2_at, bl_up2_nk, bl_up2_nx] at h5
        refine ⟨(by first | decide | (simp (disch := omega) only [zI_n, zI_o, zI_lit, zI_neg, zI_add, zI_sub, zI_mul, zI_lt, zI_le, zI_eq, zI_clamp, zI_in, zI_div, zI_rem, lg_lt0, lg_gt0, lg_eq0, lg_le0, lg_ge0, Int.toNat_natCast, ge_iff_le, gt_iff_lt, List.length_cons, List.length_nil, bl_up2_at, bl_up2_nk, bl_up2_nx] <;> omega)), ?_⟩
        try dsimp only [bl_pv]
        rw [ed]
        rw [if_pos (by omega)] at he'
        refine ih (k / 2) (by omega) ?_ (by omega) he'
        rw [Nat.pow_succ] at hk2; omega
  refine bl_go oX11_isMade 80 [2, 15] rfl ?_
  refine bl_lv [0] rfl ?_
  try dsimp only [bl_pv]
  exact L2 31 n h1 (by omega) h2 rfl
theorem c_Model_indexOf {n : Nat} {x : Int32} (hm : mdS R K N m) (hx : x = nI n) (hk : ∃ k, k < 32 ∧ I (m + 44) k = nI n) : bl_MC G l d mX11_indexOf [.ref m, .int x] (I, J, R, K, N) (0, 0) (fun o σ' => (∃ k, k < 32 ∧ I (m + 44) k = nI n ∧ o = .inl (some (.int (nI k)))) ∧ σ' = (I, J, R, K, N)) := by
  have km := hm.2.1
  obtain ⟨rm_44, km44, nm44⟩ := hm.f44
  subst hx
  obtain ⟨k0, hk0, he0⟩ := hk
  refine bl_MC_intro (by decide +kernel) rfl (Nat.le_of_ble_eq_true rfl) ?_
  have L2 : ∀ i, i ≤ k0 → ∀ z, z = nI i → bl_WP G l d mX11_indexOf 2 [(2, .int z), (0, .ref m), (1, .int (nI n))] [] (I, J, R, K, N) (0, 0) (fun o σ' => (∃ k, k < 32 ∧ I (m + 44) k = nI n ∧ o = .inl (some (.int (nI k)))) ∧ σ' = (I, J, R, K, N)) := by
    refine bl_for k0 ?_ (fun i hi ih => ?_)
    · intro z hz; subst hz
      have ec : (nI k0).toNatClampNeg = k0 := nI_clamp (by omega)
      refine bl_go oX11_indexOf 80 [2] rfl ?_
      refine ⟨km, _, bl_vs rm_44, Or.inl ⟨km44, (by first | exact (by rw [nm44]; exact vp_in_nI (by omega) (by omega)) | ((try dsimp only [bl_pv]); show vp_in _ (N _); rw [nm44]; simp (disch := omega) only [zI_n, zI_o, zI_lit, zI_neg, zI_add, zI_sub, zI_mul, zI_lt, zI_le, zI_eq, zI_clamp, zI_in, zI_div, zI_rem, lg_lt0, lg_gt0, lg_eq0, lg_le0, lg_ge0, Int.toNat_natCast, ge_iff_le, gt_iff_lt, List.length_cons, List.length_nil, bl_up2_at, bl_up2_nk, bl_up2_nx] <;> omega)), fun h9 => ?_, fun h9 => ?_⟩⟩
      · try simp (disch := omega) only [bl_pv, cl0, cl1, cl2, cl3, cl4, cl5, cl6, cl7, cl8, cl9, bl_up2_at, bl_up2_nk, bl_up2_nx] at h9
        first
        | (exfalso; first | omega | exact h9 trivial)
        | (refine ⟨(fun h => by cases h), ?_⟩
           try show _ ∧ _
           try dsimp only [bl_pv]
           exact ⟨⟨k0, hk0, he0, rfl⟩, rfl⟩)
      · try simp (disch := omega) only [bl_pv, cl0, cl1, cl2, cl3, cl4, cl5, cl6, cl7, cl8, cl9, bl_up2_at, bl_up2_nk, bl_up2_nx] at h9
        rw [ec] at h9; exact absurd he0 h9
    · intro z hz; subst hz
      have ec : (nI i).toNatClampNeg = i := nI_clamp (by omega)
      refine bl_go oX11_indexOf 80 [2] rfl ?_
      refine ⟨km, _, bl_vs rm_44, Or.inl ⟨km44, (by first | exact (by rw [nm44]; exact vp_in_nI (by omega) (by omega)) | ((try dsimp only [bl_pv]); show vp_in _ (N _); rw [nm44]; simp (disch := omega) only [zI_n, zI_o, zI_lit, zI_neg, zI_add, zI_sub, zI_mul, zI_lt, zI_le, zI_eq, zI_clamp, zI_in, zI_div, zI_rem, lg_lt0, lg_gt0, lg_eq0, lg_le0, lg_ge0, Int.toNat_natCast, ge_iff_le, gt_iff_lt, List.length_cons, List.length_nil, bl_up2_at, bl_up2_nk, bl_up2_nx] <;> omega)), fun h9 => ?_, fun h9 => ?_⟩⟩
      · try simp (disch := omega) only [bl_pv, cl0, cl1, cl2, cl3, cl4, cl5, cl6, cl7, cl8, cl9, bl_up2_at, bl_up2_nk, bl_up2_nx] at h9
        refine ⟨(fun h => by cases h), ?_⟩
        try show _ ∧ _
        try dsimp only [bl_pv]
        rw [ec] at h9; exact ⟨⟨i, by omega, h9, rfl⟩, rfl⟩
      · try simp (disch := omega) only [bl_pv, cl0, cl1, cl2, cl3, cl4, cl5, cl6, cl7, cl8, cl9, bl_up2_at, bl_up2_nk, bl_up2_nx] at h9
        try dsimp only [bl_pv]
        exact ih _ (nI_1 _)
  refine bl_go oX11_indexOf 80 [2] rfl ?_
  try dsimp only [bl_pv]
  exact L2 0 (by omega) _ rfl
end MODEL33
