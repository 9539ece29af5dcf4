/-! ===== Model: told, room, step ===== -/
theorem rm_none {tf : Nat → Int32} {c : Int32} : ∀ j, (∀ i, i < j → tf i = zI (-1)) → rm_cur tf c j = c
  | 0, _ => rfl
  | j + 1, h => by
    show (if tf j = zI (-1) then rm_cur tf c j else tf j) = c
    rw [if_pos (h j (by omega))]; exact rm_none j (fun i hi => h i (by omega))
theorem nI_m1 (k : Nat) : nI k + (-1) = zI ((k : Int) - 1) := by
  rw [zI_n, show (-1 : Int32) = zI (-1) from rfl, zI_add]; rfl
section MODEL11
variable {G : bl_G} {l : Launch} {d m : Nat} {I : Nat → Nat → Int32} {J : Nat → Nat → Int64} {R : Nat → Nat → Option Nat} {K N : Nat → Nat} {fa : Int32} {n r t : Nat}
theorem c_Model_badT {x y : Int32} (km : K m = 12) (h0 : I m 0 = 0) (hx : x ≠ 0) (hy : y ≠ 0) : bl_MC G l d mX11_bad [.ref m, .int x, .int y] (I, J, R, K, N) (0, 0) (fun o σ' => o = .inl (some (.int 1)) ∧ σ' = (bl_up2 I m 0 y, J, R, K, N)) := by
  refine bl_MC_mono (c_Model_bad km) (fun o σ' h => ?_)
  obtain ⟨tt, e1, rfl, rfl⟩ := h
  rw [if_pos ⟨hx, h0⟩] at e1
  subst e1
  exact ⟨by rw [if_neg hy], rfl⟩
theorem c_Model_badF {y : Int32} (km : K m = 12) (h0 : I m 0 = 0) : bl_MC G l d mX11_bad [.ref m, .int 0, .int y] (I, J, R, K, N) (0, 0) (fun o σ' => o = .inl (some (.int 0)) ∧ σ' = (I, J, R, K, N)) := by
  refine bl_MC_mono (c_Model_bad km) (fun o σ' h => ?_)
  obtain ⟨tt, e1, rfl, rfl⟩ := h
  rw [if_neg (fun h => h.1 rfl)] at e1
  rw [e1, bl_up2_self, if_pos h0]
  exact ⟨rfl, rfl⟩
theorem c_Model_fault (km : K m = 12) : bl_MC G l d mX11_fault [.ref m] (I, J, R, K, N) (0, 0) (fun o σ' => o = .inl (some (.int (I m 3))) ∧ σ' = (bl_up2 I m 0 0, J, R, K, N)) := by
  refine bl_MC_intro (by decide +kernel) rfl (Nat.le_of_ble_eq_true rfl) ?_
  refine bl_go oX11_fault 80 [] rfl ?_
  refine ⟨km, Or.inr (Or.inr ⟨rfl, rfl, _, rfl⟩), (fun h => by cases h), km, (fun h => by cases h), ?_⟩
  try show _ ∧ _
  try dsimp only [bl_pv]
  rw [bl_up2_nk (by omega)]; exact ⟨rfl, rfl⟩
theorem c_Model_roomOf {h : Nat} {x : Int32} (hm : mdS R K N m) (hx : x = nI h) (hh : h < 24) : bl_MC G l d mX11_roomOf [.ref m, .int x] (I, J, R, K, N) (0, 0) (fun o σ' => o = .inl (some (.int (rm_deg (I (m + 12)) h))) ∧ σ' = (I, J, R, K, N)) := by
  have km := hm.2.1
  obtain ⟨rm_12, km12, nm12⟩ := hm.f12
  subst hx
  refine bl_MC_intro (by decide +kernel) rfl (Nat.le_of_ble_eq_true rfl) ?_
  have L32 : (∀ i, i < h + 1 → I (m + 12) i = zI (-1)) → ∀ f j, j = h + 1 + f → j ≤ 24 → ∀ z, z = zI ((j : Int) - 1) → rm_deg (I (m + 12)) h = rm_cur (I (m + 12)) 20 j → bl_WP G l d mX11_roomOf 32 [(2, .int z), (0, .ref m), (1, .int (nI h))] [] (I, J, R, K, N) (0, 0) (fun o σ' => o = .inl (some (.int (rm_deg (I (m + 12)) h))) ∧ σ' = (I, J, R, K, N)) := by
    intro hno f
    induction f with
    | zero =>
      intro j hj hj24 z hz e; subst hz
      refine bl_go oX11_roomOf 80 [2, 32] rfl ?_
      refine ⟨fun h34 => ?_, fun h34 => ?_⟩
      · try simp (disch := omega) only [zI_n, zI_o, zI_lit, zI_neg, zI_add, zI_sub, zI_mul, zI_lt, zI_le, zI_eq, zI_clamp, zI_in, zI_div, zI_rem, lg_lt0, lg_gt0, lg_eq0, lg_le0, lg_ge0, Int.toNat_natCast, ge_iff_le, gt_iff_lt, List.length_cons, List.length_nil, bl_up2_at, bl_up2_nk, bl_up2_nx] at h34
        refine ⟨(fun h => by cases h), ?_⟩
        try show _ ∧ _
        try dsimp only [bl_pv]
        rw [e, hj, rm_none _ hno]; exact ⟨rfl, rfl⟩
      · try simp (disch := omega) only [zI_n, zI_o, zI_lit, zI_neg, zI_add, zI_sub, zI_mul, zI_lt, zI_le, zI_eq, zI_clamp, zI_in, zI_div, zI_rem, lg_lt0, lg_gt0, lg_eq0, lg_le0, lg_ge0, Int.toNat_natCast, ge_iff_le, gt_iff_lt, List.length_cons, List.length_nil, bl_up2_at, bl_up2_nk, bl_up2_nx] at h34
        exfalso; omega
    | succ f ih =>
      intro j hj hj24 z hz e
      obtain ⟨k, rfl⟩ : ∃ k, j = k + 1 := ⟨j - 1, by omega⟩
      have hz' : z = nI k := by rw [hz, zI_n]; congr 1; omega
      have ec : (nI k).toNatClampNeg = k := nI_clamp (by omega)
      subst hz'
      have e' : rm_deg (I (m + 12)) h = if I (m + 12) k = zI (-1) then rm_cur (I (m + 12)) 20 k else I (m + 12) k := e
      refine bl_go oX11_roomOf 80 [2, 32] rfl ?_
      refine ⟨fun h34 => ?_, fun h34 => ?_⟩
      · try simp (disch := omega) only [zI_n, zI_o, zI_lit, zI_neg, zI_add, zI_sub, zI_mul, zI_lt, zI_le, zI_eq, zI_clamp, zI_in, zI_div, zI_rem, lg_lt0, lg_gt0, lg_eq0, lg_le0, lg_ge0, Int.toNat_natCast, ge_iff_le, gt_iff_lt, List.length_cons, List.length_nil, bl_up2_at, bl_up2_nk, bl_up2_nx] at h34
        exfalso; omega
      · try simp (disch := omega) only [zI_n, zI_o, zI_lit, zI_neg, zI_add, zI_sub, zI_mul, zI_lt, zI_le, zI_eq, zI_clamp, zI_in, zI_div, zI_rem, lg_lt0, lg_gt0, lg_eq0, lg_le0, lg_ge0, Int.toNat_natCast, ge_iff_le, gt_iff_lt, List.length_cons, List.length_nil, bl_up2_at, bl_up2_nk, bl_up2_nx] at h34
        refine ⟨km, _, bl_vs rm_12, Or.inl ⟨km12, (by first | exact (by rw [nm12]; exact vp_in_nI (by omega) (by omega)) | ((try dsimp only [bl_pv]); show vp_in _ (N _); rw [nm12]; simp (disch := omega) only [zI_n, zI_o, zI_lit, zI_neg, zI_add, zI_sub, zI_mul, zI_lt, zI_le, zI_eq, zI_clamp, zI_in, zI_div, zI_rem, lg_lt0, lg_gt0, lg_eq0, lg_le0, lg_ge0, Int.toNat_natCast, ge_iff_le, gt_iff_lt, List.length_cons, List.length_nil, bl_up2_at, bl_up2_nk, bl_up2_nx] <;> omega)), fun h44 => ?_, fun h44 => ?_⟩⟩
        · try simp (disch := omega) only [bl_pv, cl0, cl1, cl2, cl3, cl4, cl5, cl6, cl7, cl8, cl9, bl_up2_at, bl_up2_nk, bl_up2_nx] at h44
          first
          | (exfalso; first | omega | exact h44 trivial)
          | (try dsimp only [bl_pv]
             refine ih k (by omega) (by omega) _ (nI_m1 k) (e'.trans (if_pos ?_))
             rw [ec] at h44; exact h44)
        · try simp (disch := omega) only [bl_pv, cl0, cl1, cl2, cl3, cl4, cl5, cl6, cl7, cl8, cl9, bl_up2_at, bl_up2_nk, bl_up2_nx] at h44
          first
          | (exfalso; first | omega | exact h44 trivial)
          | (refine ⟨km, _, bl_vs rm_12, Or.inl ⟨km12, (by first | exact (by rw [nm12]; exact vp_in_nI (by omega) (by omega)) | ((try dsimp only [bl_pv]); show vp_in _ (N _); rw [nm12]; simp (disch := omega) only [zI_n, zI_o, zI_lit, zI_neg, zI_add, zI_sub, zI_mul, zI_lt, zI_le, zI_eq, zI_clamp, zI_in, zI_div, zI_rem, lg_lt0, lg_gt0, lg_eq0, lg_le0, lg_ge0, Int.toNat_natCast, ge_iff_le, gt_iff_lt, List.length_cons, List.length_nil, bl_up2_at, bl_up2_nk, bl_up2_nx] <;> omega)), (fun h => by cases h), ?_⟩⟩
             try show _ ∧ _
             try dsimp only [bl_pv]
             rw [e', ec, if_neg (by rw [ec] at h44; exact h44)]; exact ⟨rfl, rfl⟩)
  have L2 : ∀ j, j ≤ h + 1 → ∀ z, z = zI ((j : Int) - 1) → rm_deg (I (m + 12)) h = rm_cur (I (m + 12)) (rm_cur (I (m + 12)) 20 24) j → (∀ i, j ≤ i → i < h + 1 → I (m + 12) i = zI (-1)) → bl_WP G l d mX11_roomOf 2 [(2, .int z), (0, .ref m), (1, .int (nI h))] [] (I, J, R, K, N) (0, 0) (fun o σ' => o = .inl (some (.int (rm_deg (I (m + 12)) h))) ∧ σ' = (I, J, R, K, N)) := by
    intro j
    induction j with
    | zero =>
      intro hj z hz e hno; subst hz
      refine bl_go oX11_roomOf 80 [2, 32] rfl ?_
      refine ⟨fun h3 => ?_, fun h3 => ?_⟩
      · try simp (disch := omega) only [zI_n, zI_o, zI_lit, zI_neg, zI_add, zI_sub, zI_mul, zI_lt, zI_le, zI_eq, zI_clamp, zI_in, zI_div, zI_rem, lg_lt0, lg_gt0, lg_eq0, lg_le0, lg_ge0, Int.toNat_natCast, ge_iff_le, gt_iff_lt, List.length_cons, List.length_nil, bl_up2_at, bl_up2_nk, bl_up2_nx] at h3
        try dsimp only [bl_pv]
        exact L32 (fun i hi => hno i (by omega) hi) (23 - h) 24 (by omega) (by omega) _ rfl e
      · try simp (disch := omega) only [zI_n, zI_o, zI_lit, zI_neg, zI_add, zI_sub, zI_mul, zI_lt, zI_le, zI_eq, zI_clamp, zI_in, zI_div, zI_rem, lg_lt0, lg_gt0, lg_eq0, lg_le0, lg_ge0, Int.toNat_natCast, ge_iff_le, gt_iff_lt, List.length_cons, List.length_nil, bl_up2_at, bl_up2_nk, bl_up2_nx] at h3
        exfalso; omega
    | succ k ih =>
      intro hj z hz e hno
      have hz' : z = nI k := by rw [hz, zI_n]; congr 1; omega
      have ec : (nI k).toNatClampNeg = k := nI_clamp (by omega)
      subst hz'
      have e' : rm_deg (I (m + 12)) h = if I (m + 12) k = zI (-1) then rm_cur (I (m + 12)) (rm_cur (I (m + 12)) 20 24) k else I (m + 12) k := e
      refine bl_go oX11_roomOf 80 [2, 32] rfl ?_
      refine ⟨fun h3 => ?_, fun h3 => ?_⟩
      · try simp (disch := omega) only [zI_n, zI_o, zI_lit, zI_neg, zI_add, zI_sub, zI_mul, zI_lt, zI_le, zI_eq, zI_clamp, zI_in, zI_div, zI_rem, lg_lt0, lg_gt0, lg_eq0, lg_le0, lg_ge0, Int.toNat_natCast, ge_iff_le, gt_iff_lt, List.length_cons, List.length_nil, bl_up2_at, bl_up2_nk, bl_up2_nx] at h3
        exfalso; omega
      · try simp (disch := omega) only [zI_n, zI_o, zI_lit, zI_neg, zI_add, zI_sub, zI_mul, zI_lt, zI_le, zI_eq, zI_clamp, zI_in, zI_div, zI_rem, lg_lt0, lg_gt0, lg_eq0, lg_le0, lg_ge0, Int.toNat_natCast, ge_iff_le, gt_iff_lt, List.length_cons, List.length_nil, bl_up2_at, bl_up2_nk, bl_up2_nx] at h3
        refine ⟨km, _, bl_vs rm_12, Or.inl ⟨km12, (by first | exact (by rw [nm12]; exact vp_in_nI (by omega) (by omega)) | ((try dsimp only [bl_pv]); show vp_in _ (N _); rw [nm12]; simp (disch := omega) only [zI_n, zI_o, zI_lit, zI_neg, zI_add, zI_sub, zI_mul, zI_lt, zI_le, zI_eq, zI_clamp, zI_in, zI_div, zI_rem, lg_lt0, lg_gt0, lg_eq0, lg_le0, lg_ge0, Int.toNat_natCast, ge_iff_le, gt_iff_lt, List.length_cons, List.length_nil, bl_up2_at, bl_up2_nk, bl_up2_nx] <;> omega)), fun h13 => ?_, fun h13 => ?_⟩⟩
        · try simp (disch := omega) only [bl_pv, cl0, cl1, cl2, cl3, cl4, cl5, cl6, cl7, cl8, cl9, bl_up2_at, bl_up2_nk, bl_up2_nx] at h13
          first
          | (exfalso; first | omega | exact h13 trivial)
          | (try dsimp only [bl_pv]
             have hk : I (m + 12) k = zI (-1) := by rw [ec] at h13; exact h13
             refine ih (by omega) _ (nI_m1 k) (e'.trans (if_pos hk)) (fun i hi hi' => ?_)
             by_cases ei : i = k
             · subst ei; exact hk
             · exact hno i (by omega) hi')
        · try simp (disch := omega) only [bl_pv, cl0, cl1, cl2, cl3, cl4, cl5, cl6, cl7, cl8, cl9, bl_up2_at, bl_up2_nk, bl_up2_nx] at h13
          first
          | (exfalso; first | omega | exact h13 trivial)
          | (refine ⟨km, _, bl_vs rm_12, Or.inl ⟨km12, (by first | exact (by rw [nm12]; exact vp_in_nI (by omega) (by omega)) | ((try dsimp only [bl_pv]); show vp_in _ (N _); rw [nm12]; simp (disch := omega) only [zI_n, zI_o, zI_lit, zI_neg, zI_add, zI_sub, zI_mul, zI_lt, zI_le, zI_eq, zI_clamp, zI_in, zI_div, zI_rem, lg_lt0, lg_gt0, lg_eq0, lg_le0, lg_ge0, Int.toNat_natCast, ge_iff_le, gt_iff_lt, List.length_cons, List.length_nil, bl_up2_at, bl_up2_nk, bl_up2_nx] <;> omega)), (fun h => by cases h), ?_⟩⟩
             try show _ ∧ _
             try dsimp only [bl_pv]
             rw [e', ec, if_neg (by rw [ec] at h13; exact h13)]; exact ⟨rfl, rfl⟩)
  refine bl_go oX11_roomOf 80 [2, 32] rfl ?_
  try dsimp only [bl_pv]
  exact L2 (h + 1) (Nat.le_refl _) _ (by rw [zI_n]; congr 1; omega) rfl (fun i hi hi' => absurd hi (by omega))
theorem c_Model_unitsOf {x y : Int32} : bl_MC G l d mX11_unitsOf [.int x, .int y] (I, J, R, K, N) (0, 0) (fun o σ' => o = .inl (some (.int (if x = 0 then 2 else if x < 5 then 1 else if x = 5 then 0 else y))) ∧ σ' = (I, J, R, K, N)) := by
  refine bl_MC_intro (by decide +kernel) rfl (Nat.le_of_ble_eq_true rfl) ?_
  refine bl_go oX11_unitsOf 80 [] rfl ?_
  refine ⟨fun h1 => ?_, fun h1 => ?_⟩
  · try simp (disch := omega) only [bl_pv, cl0, cl1, cl2, cl3, cl4, cl5, cl6, cl7, cl8, cl9, bl_up2_at, bl_up2_nk, bl_up2_nx] at h1
    first
    | (exfalso; first | omega | exact h1 trivial)
    | (refine ⟨fun h10 => ?_, fun h10 => ?_⟩
       · try simp (disch := omega) only [bl_pv, cl0, cl1, cl2, cl3, cl4, cl5, cl6, cl7, cl8, cl9, bl_up2_at, bl_up2_nk, bl_up2_nx] at h10
         first
         | (exfalso; first | omega | exact h10 trivial)
         | (refine ⟨fun h19 => ?_, fun h19 => ?_⟩
            · try simp (disch := omega) only [bl_pv, cl0, cl1, cl2, cl3, cl4, cl5, cl6, cl7, cl8, cl9, bl_up2_at, bl_up2_nk, bl_up2_nx] at h19
              first
              | (exfalso; first | omega | exact h19 trivial)
              | (refine ⟨(fun h => by cases h), ?_⟩
                 try show _ ∧ _
                 try dsimp only [bl_pv]
                 first
                 | (have hq := h19; rw [if_neg h1, if_neg (Int32.not_lt.mpr h10), if_neg hq]; exact ⟨rfl, rfl⟩)
                 | (have hq := h19; rw [if_neg h1, if_neg (Int32.not_lt.mpr h10), if_pos hq]; exact ⟨rfl, rfl⟩)
                 | (have hq := h10; rw [if_neg h1, if_pos (Int32.not_le.mp hq)]; exact ⟨rfl, rfl⟩)
                 | (rw [if_pos h1]; exact ⟨rfl, rfl⟩))
            · try simp (disch := omega) only [bl_pv, cl0, cl1, cl2, cl3, cl4, cl5, cl6, cl7, cl8, cl9, bl_up2_at, bl_up2_nk, bl_up2_nx] at h19
              first
              | (exfalso; first | omega | exact h19 trivial)
              | (refine ⟨(fun h => by cases h), ?_⟩
                 try show _ ∧ _
                 try dsimp only [bl_pv]
                 first
                 | (have hq := h19; rw [if_neg h1, if_neg (Int32.not_lt.mpr h10), if_neg hq]; exact ⟨rfl, rfl⟩)
                 | (have hq := h19; rw [if_neg h1, if_neg (Int32.not_lt.mpr h10), if_pos hq]; exact ⟨rfl, rfl⟩)
                 | (have hq := h10; rw [if_neg h1, if_pos (Int32.not_le.mp hq)]; exact ⟨rfl, rfl⟩)
                 | (rw [if_pos h1]; exact ⟨rfl, rfl⟩)))
       · try simp (disch := omega) only [bl_pv, cl0, cl1, cl2, cl3, cl4, cl5, cl6, cl7, cl8, cl9, bl_up2_at, bl_up2_nk, bl_up2_nx] at h10
         first
         | (exfalso; first | omega | exact h10 trivial)
         | (refine ⟨(fun h => by cases h), ?_⟩
            try show _ ∧ _
            try dsimp only [bl_pv]
            first
            | (have hq := h19; rw [if_neg h1, if_neg (Int32.not_lt.mpr h10), if_neg hq]; exact ⟨rfl, rfl⟩)
            | (have hq := h19; rw [if_neg h1, if_neg (Int32.not_lt.mpr h10), if_pos hq]; exact ⟨rfl, rfl⟩)
            | (have hq := h10; rw [if_neg h1, if_pos (Int32.not_le.mp hq)]; exact ⟨rfl, rfl⟩)
            | (rw [if_pos h1]; exact ⟨rfl, rfl⟩)))
  · try simp (disch := omega) only [bl_pv, cl0, cl1, cl2, cl3, cl4, cl5, cl6, cl7, cl8, cl9, bl_up2_at, bl_up2_nk, bl_up2_nx] at h1
    first
    | (exfalso; first | omega | exact h1 trivial)
    | (refine ⟨(fun h => by cases h), ?_⟩
       try show _ ∧ _
       try dsimp only [bl_pv]
       first
       | (have hq := h19; rw [if_neg h1, if_neg (Int32.not_lt.mpr h10), if_neg hq]; exact ⟨rfl, rfl⟩)
       | (have hq := h19; rw [if_neg h1, if_neg (Int32.not_lt.mpr h10), if_pos hq]; exact ⟨rfl, rfl⟩)
       | (have hq := h10; rw [if_neg h1, if_pos (Int32.not_le.mp hq)]; exact ⟨rfl, rfl⟩)
       | (rw [if_pos h1]; exact ⟨rfl, rfl⟩))
end MODEL11
