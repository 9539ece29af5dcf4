/-! ===== Kitchen ===== -/
def km_un : Nat → Int32 := fun i => ([6, 4, 0, 1000, 4, 8, 18, 10, 6] : List Int32).getD i 0
/-- the room behind the hours below i, from c -/
def rm_cur (tf : Nat → Int32) (c : Int32) : Nat → Int32
  | 0 => c
  | i + 1 => if tf i = zI (-1) then rm_cur tf c i else tf i
def rm_deg (tf : Nat → Int32) (i : Nat) : Int32 := rm_cur tf (rm_cur tf 20 24) (i + 1)
section KITCHEN
variable {G : bl_G} {l : Launch} {d a v t g u0 : Nat} {I : Nat → Nat → Int32} {J : Nat → Nat → Int64} {R : Nat → Nat → Option Nat} {K N : Nat → Nat}
theorem c_Kitchen_firstUnit (ka : K a = 3) (ra_0 : R a 0 = some v) (kv : K v = 20) (nv : N v = 9) : bl_MC G l d mX2_firstUnit [.ref a] (I, J, R, K, N) (0, 0) (fun o σ' => o = .inl (some (.int (12 * I v 8))) ∧ σ' = (I, J, R, K, N)) := by
  refine bl_MC_intro (by decide +kernel) rfl (Nat.le_of_ble_eq_true rfl) ?_
  refine bl_go oX2_firstUnit 80 [] rfl ?_
  refine ⟨ka, _, bl_vs ra_0, Or.inl ⟨kv, (by first | exact (by rw [nv]; exact vp_in_nI (by omega) (by omega)) | ((try dsimp only [bl_pv]); show vp_in _ (N _); rw [nv]; simp (disch := omega) only [zI_n, zI_o, zI_lit, zI_neg, zI_add, zI_sub, zI_mul, zI_lt, zI_le, zI_eq, zI_clamp, zI_in, zI_div, zI_rem, lg_lt0, lg_gt0, lg_eq0, lg_le0, lg_ge0, Int.toNat_natCast, ge_iff_le, gt_iff_lt, List.length_cons, List.length_nil, bl_up2_at, bl_up2_nk, bl_up2_nx] <;> omega)), (fun h => by cases h), ?_⟩⟩
  try show _ ∧ _
  try dsimp only [bl_pv]
  exact ⟨rfl, rfl⟩
theorem c_Kitchen_clear (ka : K a = 3) (ra_0 : R a 0 = some v) (kv : K v = 20) (nv : N v = 9) (ra_1 : R a 1 = some t) (kt : K t = 20) (nt : N t = 24) (ku0 : K u0 = 100) : bl_MC G l d mX2_clear [.ref a] (I, J, R, K, N) (0, 0) (fun o σ' => o = .inl none ∧ σ' = (bl_fill (bl_fill I v km_un 9) t (fun _ => zI (-1)) 24, J, R, K, N)) := by
  refine bl_MC_intro (by decide +kernel) rfl (Nat.le_of_ble_eq_true rfl) ?_
  have L2 : ∀ i, i ≤ 24 → ∀ x I', x = nI i → I' = bl_fill (bl_fill I v km_un 9) t (fun _ => zI (-1)) i → bl_WP G l d mX2_clear 38 [(1, .int x), (0, .ref a)] [] (I', J, R, K, N) (0, 0) (fun o σ' => o = .inl none ∧ σ' = (bl_fill (bl_fill I v km_un 9) t (fun _ => zI (-1)) 24, J, R, K, N)) := by
    refine bl_for 24 ?_ (fun i hi ih => ?_)
    · intro x I' hx hI; subst hx hI
      refine bl_go oX2_clear 80 [2, 38] rfl ?_
      refine ⟨fun h41 => ?_, fun h41 => ?_⟩
      · try simp (disch := omega) only [zI_n, zI_o, zI_lit, zI_neg, zI_add, zI_sub, zI_mul, zI_lt, zI_le, zI_eq, zI_clamp, zI_in, zI_div, zI_rem, lg_lt0, lg_gt0, lg_eq0, lg_le0, lg_ge0, Int.toNat_natCast, ge_iff_le, gt_iff_lt, List.length_cons, List.length_nil, bl_up2_at, bl_up2_nk, bl_up2_nx] at h41
        first
        | (exfalso; omega)
        | (try show _ ∧ _
           try dsimp only [bl_pv]
           exact ⟨rfl, rfl⟩)
      · try simp (disch := omega) only [zI_n, zI_o, zI_lit, zI_neg, zI_add, zI_sub, zI_mul, zI_lt, zI_le, zI_eq, zI_clamp, zI_in, zI_div, zI_rem, lg_lt0, lg_gt0, lg_eq0, lg_le0, lg_ge0, Int.toNat_natCast, ge_iff_le, gt_iff_lt, List.length_cons, List.length_nil, bl_up2_at, bl_up2_nk, bl_up2_nx] at h41
        first
        | (exfalso; omega)
        | (refine ⟨ka, _, bl_vs ra_1, kt, (by first | exact (by rw [nt]; exact vp_in_nI (by omega) (by omega)) | ((try dsimp only [bl_pv]); show vp_in _ (N _); rw [nt]; simp (disch := omega) only [zI_n, zI_o, zI_lit, zI_neg, zI_add, zI_sub, zI_mul, zI_lt, zI_le, zI_eq, zI_clamp, zI_in, zI_div, zI_rem, lg_lt0, lg_gt0, lg_eq0, lg_le0, lg_ge0, Int.toNat_natCast, ge_iff_le, gt_iff_lt, List.length_cons, List.length_nil, bl_up2_at, bl_up2_nk, bl_up2_nx] <;> omega)), ?_⟩
           try dsimp only [bl_pv]
           fail /- w38 lv=[1, 0] -/)
    · intro x I' hx hI; subst hx hI
      refine bl_go oX2_clear 80 [2, 38] rfl ?_
      refine ⟨fun h41 => ?_, fun h41 => ?_⟩
      · try simp (disch := omega) only [zI_n, zI_o, zI_lit, zI_neg, zI_add, zI_sub, zI_mul, zI_lt, zI_le, zI_eq, zI_clamp, zI_in, zI_div, zI_rem, lg_lt0, lg_gt0, lg_eq0, lg_le0, lg_ge0, Int.toNat_natCast, ge_iff_le, gt_iff_lt, List.length_cons, List.length_nil, bl_up2_at, bl_up2_nk, bl_up2_nx] at h41
        first
        | (exfalso; omega)
        | (try show _ ∧ _
           try dsimp only [bl_pv]
           fail /- ret57 -/)
      · try simp (disch := omega) only [zI_n, zI_o, zI_lit, zI_neg, zI_add, zI_sub, zI_mul, zI_lt, zI_le, zI_eq, zI_clamp, zI_in, zI_div, zI_rem, lg_lt0, lg_gt0, lg_eq0, lg_le0, lg_ge0, Int.toNat_natCast, ge_iff_le, gt_iff_lt, List.length_cons, List.length_nil, bl_up2_at, bl_up2_nk, bl_up2_nx] at h41
        first
        | (exfalso; omega)
        | (refine ⟨ka, _, bl_vs ra_1, kt, (by first | exact (by rw [nt]; exact vp_in_nI (by omega) (by omega)) | ((try dsimp only [bl_pv]); show vp_in _ (N _); rw [nt]; simp (disch := omega) only [zI_n, zI_o, zI_lit, zI_neg, zI_add, zI_sub, zI_mul, zI_lt, zI_le, zI_eq, zI_clamp, zI_in, zI_div, zI_rem, lg_lt0, lg_gt0, lg_eq0, lg_le0, lg_ge0, Int.toNat_natCast, ge_iff_le, gt_iff_lt, List.length_cons, List.length_nil, bl_up2_at, bl_up2_nk, bl_up2_nx] <;> omega)), ?_⟩
           try dsimp only [bl_pv]
           exact ih _ _ (nI_1 i) (by rw [nI_clamp (by omega)]; exact bl_fill_s _ _ _ _))
  have L1 : ∀ i, i ≤ 9 → ∀ x I', x = nI i → I' = bl_fill I v km_un i → bl_WP G l d mX2_clear 2 [(1, .int x), (0, .ref a)] [] (I', J, R, K, N) (0, 0) (fun o σ' => o = .inl none ∧ σ' = (bl_fill (bl_fill I v km_un 9) t (fun _ => zI (-1)) 24, J, R, K, N)) := by
    refine bl_for 9 ?_ (fun i hi ih => ?_)
    · intro x I' hx hI; subst hx hI
      refine bl_go oX2_clear 80 [2, 38] rfl ?_
      refine ⟨ka, _, bl_vs ra_0, Or.inl ⟨bl_kr kv, fun h8 => ?_, fun h8 => ?_⟩⟩
      · try simp (disch := omega) only [nv, zI_n, zI_o, zI_lit, zI_neg, zI_add, zI_sub, zI_mul, zI_lt, zI_le, zI_eq, zI_clamp, zI_in, zI_div, zI_rem, lg_lt0, lg_gt0, lg_eq0, lg_le0, lg_ge0, Int.toNat_natCast, ge_iff_le, gt_iff_lt, List.length_cons, List.length_nil, bl_up2_at, bl_up2_nk, bl_up2_nx] at h8
        first
        | (exfalso; omega)
        | (try dsimp only [bl_pv]
           exact L2 0 (by omega) _ _ rfl (bl_fill_0 _ _ _).symm)
      · try simp (disch := omega) only [nv, zI_n, zI_o, zI_lit, zI_neg, zI_add, zI_sub, zI_mul, zI_lt, zI_le, zI_eq, zI_clamp, zI_in, zI_div, zI_rem, lg_lt0, lg_gt0, lg_eq0, lg_le0, lg_ge0, Int.toNat_natCast, ge_iff_le, gt_iff_lt, List.length_cons, List.length_nil, bl_up2_at, bl_up2_nk, bl_up2_nx] at h8
        first
        | (exfalso; omega)
        | (refine ⟨u0, ku0, Or.inr (Or.inl ⟨0, _, rfl, ku0, fun h16 => ?_, fun h16 => ?_⟩)⟩
           · try simp (disch := omega) only [nv, zI_n, zI_o, zI_lit, zI_neg, zI_add, zI_sub, zI_mul, zI_lt, zI_le, zI_eq, zI_clamp, zI_in, zI_div, zI_rem, lg_lt0, lg_gt0, lg_eq0, lg_le0, lg_ge0, Int.toNat_natCast, ge_iff_le, gt_iff_lt, List.length_cons, List.length_nil, bl_up2_at, bl_up2_nk, bl_up2_nx] at h16
             first
             | (exfalso; omega)
             | (try dsimp only [bl_pv]
                exact L2 0 (by omega) _ _ rfl (bl_fill_0 _ _ _).symm)
           · try simp (disch := omega) only [nv, zI_n, zI_o, zI_lit, zI_neg, zI_add, zI_sub, zI_mul, zI_lt, zI_le, zI_eq, zI_clamp, zI_in, zI_div, zI_rem, lg_lt0, lg_gt0, lg_eq0, lg_le0, lg_ge0, Int.toNat_natCast, ge_iff_le, gt_iff_lt, List.length_cons, List.length_nil, bl_up2_at, bl_up2_nk, bl_up2_nx] at h16
             first
             | (exfalso; omega)
             | (refine ⟨ka, _, bl_vs ra_0, u0, ku0, Or.inr (Or.inl ⟨0, _, rfl, ku0, (by show vp_in _ 9; simp (disch := omega) only [nv, zI_n, zI_o, zI_lit, zI_neg, zI_add, zI_sub, zI_mul, zI_lt, zI_le, zI_eq, zI_clamp, zI_in, zI_div, zI_rem, lg_lt0, lg_gt0, lg_eq0, lg_le0, lg_ge0, Int.toNat_natCast, ge_iff_le, gt_iff_lt, List.length_cons, List.length_nil, bl_up2_at, bl_up2_nk, bl_up2_nx] <;> omega), kv, (by first | exact (by rw [nv]; exact vp_in_nI (by omega) (by omega)) | ((try dsimp only [bl_pv]); show vp_in _ (N _); rw [nv]; simp (disch := omega) only [nv, zI_n, zI_o, zI_lit, zI_neg, zI_add, zI_sub, zI_mul, zI_lt, zI_le, zI_eq, zI_clamp, zI_in, zI_div, zI_rem, lg_lt0, lg_gt0, lg_eq0, lg_le0, lg_ge0, Int.toNat_natCast, ge_iff_le, gt_iff_lt, List.length_cons, List.length_nil, bl_up2_at, bl_up2_nk, bl_up2_nx] <;> omega)), ?_⟩)⟩
                try dsimp only [bl_pv]
                fail /- w2 lv=[1, 0] -/))
    · intro x I' hx hI; subst hx hI
      refine bl_go oX2_clear 80 [2, 38] rfl ?_
      refine ⟨ka, _, bl_vs ra_0, Or.inl ⟨bl_kr kv, fun h8 => ?_, fun h8 => ?_⟩⟩
      · try simp (disch := omega) only [nv, zI_n, zI_o, zI_lit, zI_neg, zI_add, zI_sub, zI_mul, zI_lt, zI_le, zI_eq, zI_clamp, zI_in, zI_div, zI_rem, lg_lt0, lg_gt0, lg_eq0, lg_le0, lg_ge0, Int.toNat_natCast, ge_iff_le, gt_iff_lt, List.length_cons, List.length_nil, bl_up2_at, bl_up2_nk, bl_up2_nx] at h8
        first
        | (exfalso; omega)
        | (try dsimp only [bl_pv]
           fail /- w38 lv=[1, 0] -/)
      · try simp (disch := omega) only [nv, zI_n, zI_o, zI_lit, zI_neg, zI_add, zI_sub, zI_mul, zI_lt, zI_le, zI_eq, zI_clamp, zI_in, zI_div, zI_rem, lg_lt0, lg_gt0, lg_eq0, lg_le0, lg_ge0, Int.toNat_natCast, ge_iff_le, gt_iff_lt, List.length_cons, List.length_nil, bl_up2_at, bl_up2_nk, bl_up2_nx] at h8
        first
        | (exfalso; omega)
        | (refine ⟨u0, ku0, Or.inr (Or.inl ⟨0, _, rfl, ku0, fun h16 => ?_, fun h16 => ?_⟩)⟩
           · try simp (disch := omega) only [nv, zI_n, zI_o, zI_lit, zI_neg, zI_add, zI_sub, zI_mul, zI_lt, zI_le, zI_eq, zI_clamp, zI_in, zI_div, zI_rem, lg_lt0, lg_gt0, lg_eq0, lg_le0, lg_ge0, Int.toNat_natCast, ge_iff_le, gt_iff_lt, List.length_cons, List.length_nil, bl_up2_at, bl_up2_nk, bl_up2_nx] at h16
             first
             | (exfalso; omega)
             | (try dsimp only [bl_pv]
                fail /- w38 lv=[1, 0] -/)
           · try simp (disch := omega) only [nv, zI_n, zI_o, zI_lit, zI_neg, zI_add, zI_sub, zI_mul, zI_lt, zI_le, zI_eq, zI_clamp, zI_in, zI_div, zI_rem, lg_lt0, lg_gt0, lg_eq0, lg_le0, lg_ge0, Int.toNat_natCast, ge_iff_le, gt_iff_lt, List.length_cons, List.length_nil, bl_up2_at, bl_up2_nk, bl_up2_nx] at h16
             first
             | (exfalso; omega)
             | (refine ⟨ka, _, bl_vs ra_0, u0, ku0, Or.inr (Or.inl ⟨0, _, rfl, ku0, (by show vp_in _ 9; simp (disch := omega) only [nv, zI_n, zI_o, zI_lit, zI_neg, zI_add, zI_sub, zI_mul, zI_lt, zI_le, zI_eq, zI_clamp, zI_in, zI_div, zI_rem, lg_lt0, lg_gt0, lg_eq0, lg_le0, lg_ge0, Int.toNat_natCast, ge_iff_le, gt_iff_lt, List.length_cons, List.length_nil, bl_up2_at, bl_up2_nk, bl_up2_nx] <;> omega), kv, (by first | exact (by rw [nv]; exact vp_in_nI (by omega) (by omega)) | ((try dsimp only [bl_pv]); show vp_in _ (N _); rw [nv]; simp (disch := omega) only [nv, zI_n, zI_o, zI_lit, zI_neg, zI_add, zI_sub, zI_mul, zI_lt, zI_le, zI_eq, zI_clamp, zI_in, zI_div, zI_rem, lg_lt0, lg_gt0, lg_eq0, lg_le0, lg_ge0, Int.toNat_natCast, ge_iff_le, gt_iff_lt, List.length_cons, List.length_nil, bl_up2_at, bl_up2_nk, bl_up2_nx] <;> omega)), ?_⟩)⟩
                try dsimp only [bl_pv]
                exact ih _ _ (nI_1 i) (by rw [nI_clamp (by omega)]; exact bl_fill_s _ _ _ _)))
  refine bl_go oX2_clear 80 [2, 38] rfl ?_
  try dsimp only [bl_pv]
  exact L1 0 (by omega) _ _ rfl (bl_fill_0 _ _ _).symm
theorem c_Kitchen_settleRoom (ka : K a = 3) (ra_1 : R a 1 = some t) (kt : K t = 20) (nt : N t = 24) (ra_2 : R a 2 = some g) (kg : K g = 20) (ng : N g = 24) (htg : t ≠ g) : bl_MC G l d mX2_settleRoom [.ref a] (I, J, R, K, N) (0, 0) (fun o σ' => o = .inl none ∧ σ' = (bl_fill I g (rm_deg (I t)) 24, J, R, K, N)) := by
  refine bl_MC_intro (by decide +kernel) rfl (Nat.le_of_ble_eq_true rfl) ?_
  have L2 : ∀ i, i ≤ 24 → ∀ x c I', x = nI i → c = rm_cur (I t) (rm_cur (I t) 20 24) i → I' = bl_fill I g (rm_deg (I t)) i → bl_WP G l d mX2_settleRoom 40 [(2, .int x), (1, .int c), (0, .ref a)] [] (I', J, R, K, N) (0, 0) (fun o σ' => o = .inl none ∧ σ' = (bl_fill I g (rm_deg (I t)) 24, J, R, K, N)) := by
    refine bl_for 24 ?_ (fun i hi ih => ?_)
    · intro x c I' hx hc hI; subst hx hI
      refine bl_go oX2_settleRoom 80 [5, 40] rfl ?_
      refine ⟨fun h43 => ?_, fun h43 => ?_⟩
      · try simp (disch := omega) only [zI_n, zI_o, zI_lit, zI_neg, zI_add, zI_sub, zI_mul, zI_lt, zI_le, zI_eq, zI_clamp, zI_in, zI_div, zI_rem, lg_lt0, lg_gt0, lg_eq0, lg_le0, lg_ge0, Int.toNat_natCast, ge_iff_le, gt_iff_lt, List.length_cons, List.length_nil, bl_up2_at, bl_up2_nk, bl_up2_nx] at h43
        first
        | (exfalso; omega)
        | (try show _ ∧ _
           try dsimp only [bl_pv]
           exact ⟨rfl, rfl⟩)
      · try simp (disch := omega) only [zI_n, zI_o, zI_lit, zI_neg, zI_add, zI_sub, zI_mul, zI_lt, zI_le, zI_eq, zI_clamp, zI_in, zI_div, zI_rem, lg_lt0, lg_gt0, lg_eq0, lg_le0, lg_ge0, Int.toNat_natCast, ge_iff_le, gt_iff_lt, List.length_cons, List.length_nil, bl_up2_at, bl_up2_nk, bl_up2_nx] at h43
        first
        | (exfalso; omega)
        | (refine ⟨ka, _, bl_vs ra_1, Or.inl ⟨kt, (by first | exact (by rw [nt]; exact vp_in_nI (by omega) (by omega)) | ((try dsimp only [bl_pv]); show vp_in _ (N _); rw [nt]; simp (disch := omega) only [zI_n, zI_o, zI_lit, zI_neg, zI_add, zI_sub, zI_mul, zI_lt, zI_le, zI_eq, zI_clamp, zI_in, zI_div, zI_rem, lg_lt0, lg_gt0, lg_eq0, lg_le0, lg_ge0, Int.toNat_natCast, ge_iff_le, gt_iff_lt, List.length_cons, List.length_nil, bl_up2_at, bl_up2_nk, bl_up2_nx] <;> omega)), fun h53 => ?_, fun h53 => ?_⟩⟩
           · try simp (disch := omega) only [zI_n, zI_o, zI_lit, zI_neg, zI_add, zI_sub, zI_mul, zI_lt, zI_le, zI_eq, zI_clamp, zI_in, zI_div, zI_rem, lg_lt0, lg_gt0, lg_eq0, lg_le0, lg_ge0, Int.toNat_natCast, ge_iff_le, gt_iff_lt, List.length_cons, List.length_nil, bl_up2_at, bl_up2_nk, bl_up2_nx] at h53
             first
             | (exfalso; omega)
             | (refine ⟨ka, _, bl_vs ra_1, Or.inl ⟨kt, (by first | exact (by rw [nt]; exact vp_in_nI (by omega) (by omega)) | ((try dsimp only [bl_pv]); show vp_in _ (N _); rw [nt]; simp (disch := omega) only [zI_n, zI_o, zI_lit, zI_neg, zI_add, zI_sub, zI_mul, zI_lt, zI_le, zI_eq, zI_clamp, zI_in, zI_div, zI_rem, lg_lt0, lg_gt0, lg_eq0, lg_le0, lg_ge0, Int.toNat_natCast, ge_iff_le, gt_iff_lt, List.length_cons, List.length_nil, bl_up2_at, bl_up2_nk, bl_up2_nx] <;> omega)), ka, _, bl_vs ra_2, kg, (by first | exact (by rw [ng]; exact vp_in_nI (by omega) (by omega)) | ((try dsimp only [bl_pv]); show vp_in _ (N _); rw [ng]; simp (disch := omega) only [zI_n, zI_o, zI_lit, zI_neg, zI_add, zI_sub, zI_mul, zI_lt, zI_le, zI_eq, zI_clamp, zI_in, zI_div, zI_rem, lg_lt0, lg_gt0, lg_eq0, lg_le0, lg_ge0, Int.toNat_natCast, ge_iff_le, gt_iff_lt, List.length_cons, List.length_nil, bl_up2_at, bl_up2_nk, bl_up2_nx] <;> omega)), ?_⟩⟩
                try dsimp only [bl_pv]
                fail /- w40 lv=[2, 1, 0] -/)
           · try simp (disch := omega) only [zI_n, zI_o, zI_lit, zI_neg, zI_add, zI_sub, zI_mul, zI_lt, zI_le, zI_eq, zI_clamp, zI_in, zI_div, zI_rem, lg_lt0, lg_gt0, lg_eq0, lg_le0, lg_ge0, Int.toNat_natCast, ge_iff_le, gt_iff_lt, List.length_cons, List.length_nil, bl_up2_at, bl_up2_nk, bl_up2_nx] at h53
             first
             | (exfalso; omega)
             | (refine ⟨ka, _, bl_vs ra_2, kg, (by first | exact (by rw [ng]; exact vp_in_nI (by omega) (by omega)) | ((try dsimp only [bl_pv]); show vp_in _ (N _); rw [ng]; simp (disch := omega) only [zI_n, zI_o, zI_lit, zI_neg, zI_add, zI_sub, zI_mul, zI_lt, zI_le, zI_eq, zI_clamp, zI_in, zI_div, zI_rem, lg_lt0, lg_gt0, lg_eq0, lg_le0, lg_ge0, Int.toNat_natCast, ge_iff_le, gt_iff_lt, List.length_cons, List.length_nil, bl_up2_at, bl_up2_nk, bl_up2_nx] <;> omega)), ?_⟩
                try dsimp only [bl_pv]
                fail /- w40 lv=[2, 1, 0] -/))
    · intro x c I' hx hc hI; subst hx hI
      have e : bl_fill I g (rm_deg (I t)) i t = I t := bl_fill_ne htg
      have ec : (nI i).toNatClampNeg = i := nI_clamp (by omega)
      have hn : rm_deg (I t) i = if I t i = zI (-1) then c else I t i := by rw [hc]; rfl
      refine bl_go oX2_settleRoom 80 [5, 40] rfl ?_
      refine ⟨fun h43 => ?_, fun h43 => ?_⟩
      · try simp (disch := omega) only [zI_n, zI_o, zI_lit, zI_neg, zI_add, zI_sub, zI_mul, zI_lt, zI_le, zI_eq, zI_clamp, zI_in, zI_div, zI_rem, lg_lt0, lg_gt0, lg_eq0, lg_le0, lg_ge0, Int.toNat_natCast, ge_iff_le, gt_iff_lt, List.length_cons, List.length_nil, bl_up2_at, bl_up2_nk, bl_up2_nx] at h43
        first
        | (exfalso; omega)
        | (try show _ ∧ _
           try dsimp only [bl_pv]
           fail /- ret80 -/)
      · try simp (disch := omega) only [zI_n, zI_o, zI_lit, zI_neg, zI_add, zI_sub, zI_mul, zI_lt, zI_le, zI_eq, zI_clamp, zI_in, zI_div, zI_rem, lg_lt0, lg_gt0, lg_eq0, lg_le0, lg_ge0, Int.toNat_natCast, ge_iff_le, gt_iff_lt, List.length_cons, List.length_nil, bl_up2_at, bl_up2_nk, bl_up2_nx] at h43
        first
        | (exfalso; omega)
        | (refine ⟨ka, _, bl_vs ra_1, Or.inl ⟨kt, (by first | exact (by rw [nt]; exact vp_in_nI (by omega) (by omega)) | ((try dsimp only [bl_pv]); show vp_in _ (N _); rw [nt]; simp (disch := omega) only [zI_n, zI_o, zI_lit, zI_neg, zI_add, zI_sub, zI_mul, zI_lt, zI_le, zI_eq, zI_clamp, zI_in, zI_div, zI_rem, lg_lt0, lg_gt0, lg_eq0, lg_le0, lg_ge0, Int.toNat_natCast, ge_iff_le, gt_iff_lt, List.length_cons, List.length_nil, bl_up2_at, bl_up2_nk, bl_up2_nx] <;> omega)), fun h53 => ?_, fun h53 => ?_⟩⟩
           · try simp (disch := omega) only [zI_n, zI_o, zI_lit, zI_neg, zI_add, zI_sub, zI_mul, zI_lt, zI_le, zI_eq, zI_clamp, zI_in, zI_div, zI_rem, lg_lt0, lg_gt0, lg_eq0, lg_le0, lg_ge0, Int.toNat_natCast, ge_iff_le, gt_iff_lt, List.length_cons, List.length_nil, bl_up2_at, bl_up2_nk, bl_up2_nx] at h53
             rw [e] at h53
             refine ⟨ka, _, bl_vs ra_1, Or.inl ⟨kt, (by first | exact (by rw [nt]; exact vp_in_nI (by omega) (by omega)) | ((try dsimp only [bl_pv]); show vp_in _ (N _); rw [nt]; simp (disch := omega) only [zI_n, zI_o, zI_lit, zI_neg, zI_add, zI_sub, zI_mul, zI_lt, zI_le, zI_eq, zI_clamp, zI_in, zI_div, zI_rem, lg_lt0, lg_gt0, lg_eq0, lg_le0, lg_ge0, Int.toNat_natCast, ge_iff_le, gt_iff_lt, List.length_cons, List.length_nil, bl_up2_at, bl_up2_nk, bl_up2_nx] <;> omega)), ka, _, bl_vs ra_2, kg, (by first | exact (by rw [ng]; exact vp_in_nI (by omega) (by omega)) | ((try dsimp only [bl_pv]); show vp_in _ (N _); rw [ng]; simp (disch := omega) only [zI_n, zI_o, zI_lit, zI_neg, zI_add, zI_sub, zI_mul, zI_lt, zI_le, zI_eq, zI_clamp, zI_in, zI_div, zI_rem, lg_lt0, lg_gt0, lg_eq0, lg_le0, lg_ge0, Int.toNat_natCast, ge_iff_le, gt_iff_lt, List.length_cons, List.length_nil, bl_up2_at, bl_up2_nk, bl_up2_nx] <;> omega)), ?_⟩⟩
             try dsimp only [bl_pv]
             refine ih _ _ _ (nI_1 i) ?_ ?_
             · first
               | (show _ = if I t i = zI (-1) then _ else I t i; rw [if_pos h53]; exact hc)
               | (show bl_fill I g (rm_deg (I t)) i t _ = if I t i = zI (-1) then _ else I t i; rw [if_neg h53, e, ec])
             · rw [ec, ← bl_fill_s, hn]
               first
               | rw [if_pos h53]
               | (rw [if_neg h53]; show bl_up2 _ _ _ (bl_fill I g (rm_deg (I t)) i t _) = _; rw [e])
           · try simp (disch := omega) only [zI_n, zI_o, zI_lit, zI_neg, zI_add, zI_sub, zI_mul, zI_lt, zI_le, zI_eq, zI_clamp, zI_in, zI_div, zI_rem, lg_lt0, lg_gt0, lg_eq0, lg_le0, lg_ge0, Int.toNat_natCast, ge_iff_le, gt_iff_lt, List.length_cons, List.length_nil, bl_up2_at, bl_up2_nk, bl_up2_nx] at h53
             rw [e] at h53
             refine ⟨ka, _, bl_vs ra_2, kg, (by first | exact (by rw [ng]; exact vp_in_nI (by omega) (by omega)) | ((try dsimp only [bl_pv]); show vp_in _ (N _); rw [ng]; simp (disch := omega) only [zI_n, zI_o, zI_lit, zI_neg, zI_add, zI_sub, zI_mul, zI_lt, zI_le, zI_eq, zI_clamp, zI_in, zI_div, zI_rem, lg_lt0, lg_gt0, lg_eq0, lg_le0, lg_ge0, Int.toNat_natCast, ge_iff_le, gt_iff_lt, List.length_cons, List.length_nil, bl_up2_at, bl_up2_nk, bl_up2_nx] <;> omega)), ?_⟩
             try dsimp only [bl_pv]
             refine ih _ _ _ (nI_1 i) ?_ ?_
             · first
               | (show _ = if I t i = zI (-1) then _ else I t i; rw [if_pos h53]; exact hc)
               | (show bl_fill I g (rm_deg (I t)) i t _ = if I t i = zI (-1) then _ else I t i; rw [if_neg h53, e, ec])
             · rw [ec, ← bl_fill_s, hn]
               first
               | rw [if_pos h53]
               | (rw [if_neg h53]; show bl_up2 _ _ _ (bl_fill I g (rm_deg (I t)) i t _) = _; rw [e]))
  have L1 : ∀ i, i ≤ 24 → ∀ x c, x = nI i → c = rm_cur (I t) 20 i → bl_WP G l d mX2_settleRoom 5 [(2, .int x), (1, .int c), (0, .ref a)] [] (I, J, R, K, N) (0, 0) (fun o σ' => o = .inl none ∧ σ' = (bl_fill I g (rm_deg (I t)) 24, J, R, K, N)) := by
    refine bl_for 24 ?_ (fun i hi ih => ?_)
    · intro x c hx hc; subst hx
      refine bl_go oX2_settleRoom 80 [5, 40] rfl ?_
      refine ⟨fun h8 => ?_, fun h8 => ?_⟩
      · try simp (disch := omega) only [zI_n, zI_o, zI_lit, zI_neg, zI_add, zI_sub, zI_mul, zI_lt, zI_le, zI_eq, zI_clamp, zI_in, zI_div, zI_rem, lg_lt0, lg_gt0, lg_eq0, lg_le0, lg_ge0, Int.toNat_natCast, ge_iff_le, gt_iff_lt, List.length_cons, List.length_nil, bl_up2_at, bl_up2_nk, bl_up2_nx] at h8
        first
        | (exfalso; omega)
        | (try dsimp only [bl_pv]
           exact L2 0 (by omega) _ _ _ rfl hc (bl_fill_0 _ _ _).symm)
      · try simp (disch := omega) only [zI_n, zI_o, zI_lit, zI_neg, zI_add, zI_sub, zI_mul, zI_lt, zI_le, zI_eq, zI_clamp, zI_in, zI_div, zI_rem, lg_lt0, lg_gt0, lg_eq0, lg_le0, lg_ge0, Int.toNat_natCast, ge_iff_le, gt_iff_lt, List.length_cons, List.length_nil, bl_up2_at, bl_up2_nk, bl_up2_nx] at h8
        first
        | (exfalso; omega)
        | (refine ⟨ka, _, bl_vs ra_1, Or.inl ⟨kt, (by first | exact (by rw [nt]; exact vp_in_nI (by omega) (by omega)) | ((try dsimp only [bl_pv]); show vp_in _ (N _); rw [nt]; simp (disch := omega) only [zI_n, zI_o, zI_lit, zI_neg, zI_add, zI_sub, zI_mul, zI_lt, zI_le, zI_eq, zI_clamp, zI_in, zI_div, zI_rem, lg_lt0, lg_gt0, lg_eq0, lg_le0, lg_ge0, Int.toNat_natCast, ge_iff_le, gt_iff_lt, List.length_cons, List.length_nil, bl_up2_at, bl_up2_nk, bl_up2_nx] <;> omega)), fun h18 => ?_, fun h18 => ?_⟩⟩
           · try simp (disch := omega) only [zI_n, zI_o, zI_lit, zI_neg, zI_add, zI_sub, zI_mul, zI_lt, zI_le, zI_eq, zI_clamp, zI_in, zI_div, zI_rem, lg_lt0, lg_gt0, lg_eq0, lg_le0, lg_ge0, Int.toNat_natCast, ge_iff_le, gt_iff_lt, List.length_cons, List.length_nil, bl_up2_at, bl_up2_nk, bl_up2_nx] at h18
             first
             | (exfalso; omega)
             | (refine ⟨ka, _, bl_vs ra_1, Or.inl ⟨kt, (by first | exact (by rw [nt]; exact vp_in_nI (by omega) (by omega)) | ((try dsimp only [bl_pv]); show vp_in _ (N _); rw [nt]; simp (disch := omega) only [zI_n, zI_o, zI_lit, zI_neg, zI_add, zI_sub, zI_mul, zI_lt, zI_le, zI_eq, zI_clamp, zI_in, zI_div, zI_rem, lg_lt0, lg_gt0, lg_eq0, lg_le0, lg_ge0, Int.toNat_natCast, ge_iff_le, gt_iff_lt, List.length_cons, List.length_nil, bl_up2_at, bl_up2_nk, bl_up2_nx] <;> omega)), ?_⟩⟩
                try dsimp only [bl_pv]
                fail /- w5 lv=[2, 1, 0] -/)
           · try simp (disch := omega) only [zI_n, zI_o, zI_lit, zI_neg, zI_add, zI_sub, zI_mul, zI_lt, zI_le, zI_eq, zI_clamp, zI_in, zI_div, zI_rem, lg_lt0, lg_gt0, lg_eq0, lg_le0, lg_ge0, Int.toNat_natCast, ge_iff_le, gt_iff_lt, List.length_cons, List.length_nil, bl_up2_at, bl_up2_nk, bl_up2_nx] at h18
             first
             | (exfalso; omega)
             | (try dsimp only [bl_pv]
                fail /- w5 lv=[2, 1, 0] -/))
    · intro x c hx hc; subst hx
      have ec : (nI i).toNatClampNeg = i := nI_clamp (by omega)
      refine bl_go oX2_settleRoom 80 [5, 40] rfl ?_
      refine ⟨fun h8 => ?_, fun h8 => ?_⟩
      · try simp (disch := omega) only [zI_n, zI_o, zI_lit, zI_neg, zI_add, zI_sub, zI_mul, zI_lt, zI_le, zI_eq, zI_clamp, zI_in, zI_div, zI_rem, lg_lt0, lg_gt0, lg_eq0, lg_le0, lg_ge0, Int.toNat_natCast, ge_iff_le, gt_iff_lt, List.length_cons, List.length_nil, bl_up2_at, bl_up2_nk, bl_up2_nx] at h8
        first
        | (exfalso; omega)
        | (try dsimp only [bl_pv]
           fail /- w40 lv=[2, 1, 0] -/)
      · try simp (disch := omega) only [zI_n, zI_o, zI_lit, zI_neg, zI_add, zI_sub, zI_mul, zI_lt, zI_le, zI_eq, zI_clamp, zI_in, zI_div, zI_rem, lg_lt0, lg_gt0, lg_eq0, lg_le0, lg_ge0, Int.toNat_natCast, ge_iff_le, gt_iff_lt, List.length_cons, List.length_nil, bl_up2_at, bl_up2_nk, bl_up2_nx] at h8
        first
        | (exfalso; omega)
        | (refine ⟨ka, _, bl_vs ra_1, Or.inl ⟨kt, (by first | exact (by rw [nt]; exact vp_in_nI (by omega) (by omega)) | ((try dsimp only [bl_pv]); show vp_in _ (N _); rw [nt]; simp (disch := omega) only [zI_n, zI_o, zI_lit, zI_neg, zI_add, zI_sub, zI_mul, zI_lt, zI_le, zI_eq, zI_clamp, zI_in, zI_div, zI_rem, lg_lt0, lg_gt0, lg_eq0, lg_le0, lg_ge0, Int.toNat_natCast, ge_iff_le, gt_iff_lt, List.length_cons, List.length_nil, bl_up2_at, bl_up2_nk, bl_up2_nx] <;> omega)), fun h18 => ?_, fun h18 => ?_⟩⟩
           · try simp (disch := omega) only [zI_n, zI_o, zI_lit, zI_neg, zI_add, zI_sub, zI_mul, zI_lt, zI_le, zI_eq, zI_clamp, zI_in, zI_div, zI_rem, lg_lt0, lg_gt0, lg_eq0, lg_le0, lg_ge0, Int.toNat_natCast, ge_iff_le, gt_iff_lt, List.length_cons, List.length_nil, bl_up2_at, bl_up2_nk, bl_up2_nx] at h18
             refine ⟨ka, _, bl_vs ra_1, Or.inl ⟨kt, (by first | exact (by rw [nt]; exact vp_in_nI (by omega) (by omega)) | ((try dsimp only [bl_pv]); show vp_in _ (N _); rw [nt]; simp (disch := omega) only [zI_n, zI_o, zI_lit, zI_neg, zI_add, zI_sub, zI_mul, zI_lt, zI_le, zI_eq, zI_clamp, zI_in, zI_div, zI_rem, lg_lt0, lg_gt0, lg_eq0, lg_le0, lg_ge0, Int.toNat_natCast, ge_iff_le, gt_iff_lt, List.length_cons, List.length_nil, bl_up2_at, bl_up2_nk, bl_up2_nx] <;> omega)), ?_⟩⟩
             try dsimp only [bl_pv]
             refine ih _ _ (nI_1 i) ?_
             first
             | (show _ = if I t i = zI (-1) then _ else I t i; rw [if_pos h18]; exact hc)
             | (show I t _ = if I t i = zI (-1) then _ else I t i; rw [if_neg h18, ec])
           · try simp (disch := omega) only [zI_n, zI_o, zI_lit, zI_neg, zI_add, zI_sub, zI_mul, zI_lt, zI_le, zI_eq, zI_clamp, zI_in, zI_div, zI_rem, lg_lt0, lg_gt0, lg_eq0, lg_le0, lg_ge0, Int.toNat_natCast, ge_iff_le, gt_iff_lt, List.length_cons, List.length_nil, bl_up2_at, bl_up2_nk, bl_up2_nx] at h18
             try dsimp only [bl_pv]
             refine ih _ _ (nI_1 i) ?_
             first
             | (show _ = if I t i = zI (-1) then _ else I t i; rw [if_pos h18]; exact hc)
             | (show I t _ = if I t i = zI (-1) then _ else I t i; rw [if_neg h18, ec]))
  refine bl_go oX2_settleRoom 80 [5, 40] rfl ?_
  try dsimp only [bl_pv]
  exact L1 0 (by omega) _ _ rfl rfl
theorem c_Kitchen_roomTenths {u : Nat} (hu : u < 2147483648) (ka : K a = 3) (ra_2 : R a 2 = some g) (kg : K g = 20) (ng : N g = 24) : bl_MC G l d mX2_roomTenths [.ref a, .int (nI u)] (I, J, R, K, N) (0, 0) (fun o σ' => o = .inl (some (.int (10 * I g (u / 12 % 24)))) ∧ σ' = (I, J, R, K, N)) := by
  refine bl_MC_intro (by decide +kernel) rfl (Nat.le_of_ble_eq_true rfl) ?_
  have e : nI u / 12 - nI u / 12 / 24 * 24 = nI (u / 12 % 24) := by
    simp (disch := omega) only [zI_n, zI_o, zI_lit, zI_neg, zI_add, zI_sub, zI_mul, zI_lt, zI_le, zI_eq, zI_clamp, zI_in, zI_div, zI_rem, lg_lt0, lg_gt0, lg_eq0, lg_le0, lg_ge0, Int.toNat_natCast, ge_iff_le, gt_iff_lt, List.length_cons, List.length_nil, bl_up2_at, bl_up2_nk, bl_up2_nx]
    omega
  refine bl_go oX2_roomTenths 80 [] rfl ?_
  refine ⟨(by first | decide | (simp (disch := omega) only [e, zI_n, zI_o, zI_lit, zI_neg, zI_add, zI_sub, zI_mul, zI_lt, zI_le, zI_eq, zI_clamp, zI_in, zI_div, zI_rem, lg_lt0, lg_gt0, lg_eq0, lg_le0, lg_ge0, Int.toNat_natCast, ge_iff_le, gt_iff_lt, List.length_cons, List.length_nil, bl_up2_at, bl_up2_nk, bl_up2_nx] <;> omega)), (by first | decide | (simp (disch := omega) only [e, zI_n, zI_o, zI_lit, zI_neg, zI_add, zI_sub, zI_mul, zI_lt, zI_le, zI_eq, zI_clamp, zI_in, zI_div, zI_rem, lg_lt0, lg_gt0, lg_eq0, lg_le0, lg_ge0, Int.toNat_natCast, ge_iff_le, gt_iff_lt, List.length_cons, List.length_nil, bl_up2_at, bl_up2_nk, bl_up2_nx] <;> omega)), fun h9 => ?_, fun h9 => ?_⟩
  · try simp (disch := omega) only [e, zI_n, zI_o, zI_lit, zI_neg, zI_add, zI_sub, zI_mul, zI_lt, zI_le, zI_eq, zI_clamp, zI_in, zI_div, zI_rem, lg_lt0, lg_gt0, lg_eq0, lg_le0, lg_ge0, Int.toNat_natCast, ge_iff_le, gt_iff_lt, List.length_cons, List.length_nil, bl_up2_at, bl_up2_nk, bl_up2_nx] at h9
    first
    | (exfalso; omega)
    | (refine ⟨ka, _, bl_vs ra_2, Or.inl ⟨kg, (by first | exact (by rw [ng]; exact vp_in_nI (by omega) (by omega)) | ((try dsimp only [bl_pv]); show vp_in _ (N _); rw [ng]; simp (disch := omega) only [e, zI_n, zI_o, zI_lit, zI_neg, zI_add, zI_sub, zI_mul, zI_lt, zI_le, zI_eq, zI_clamp, zI_in, zI_div, zI_rem, lg_lt0, lg_gt0, lg_eq0, lg_le0, lg_ge0, Int.toNat_natCast, ge_iff_le, gt_iff_lt, List.length_cons, List.length_nil, bl_up2_at, bl_up2_nk, bl_up2_nx] <;> omega)), (fun h => by cases h), ?_⟩⟩
       try show _ ∧ _
       try dsimp only [bl_pv]
       refine ⟨?_, rfl⟩
       show _ = Sum.inl (some (Value.int (10 * I g (u / 12 % 24))))
       rw [e, nI_clamp (by omega)])
  · try simp (disch := omega) only [e, zI_n, zI_o, zI_lit, zI_neg, zI_add, zI_sub, zI_mul, zI_lt, zI_le, zI_eq, zI_clamp, zI_in, zI_div, zI_rem, lg_lt0, lg_gt0, lg_eq0, lg_le0, lg_ge0, Int.toNat_natCast, ge_iff_le, gt_iff_lt, List.length_cons, List.length_nil, bl_up2_at, bl_up2_nk, bl_up2_nx] at h9
    first
    | (exfalso; omega)
    | (refine ⟨(fun h => by cases h), ?_⟩
       try show _ ∧ _
       try dsimp only [bl_pv]
       refine ⟨?_, rfl⟩
       show _ = Sum.inl (some (Value.int (10 * I g (u / 12 % 24))))
       rw [e, nI_clamp (by omega)])
theorem c_Kitchen_hasOneRoom (ka : K a = 3) (ra_2 : R a 2 = some g) (kg : K g = 20) (ng : N g = 24) : bl_MC G l d mX2_hasOneRoom [.ref a] (I, J, R, K, N) (0, 0) (fun o σ' => (∃ x, o = .inl (some (.int x)) ∧ (x = 1 → ∀ h, h < 24 → I g h = I g 0) ∧ (x = 0 → ∃ h, h < 24 ∧ I g h ≠ I g 0) ∧ (x = 0 ∨ x = 1)) ∧ σ' = (I, J, R, K, N)) := by
  refine bl_MC_intro (by decide +kernel) rfl (Nat.le_of_ble_eq_true rfl) ?_
  have L : ∀ i, i ≤ 24 → ∀ x, x = nI i → (∀ h, h < i → I g h = I g 0) → bl_WP G l d mX2_hasOneRoom 2 [(1, .int x), (0, .ref a)] [] (I, J, R, K, N) (0, 0) (fun o σ' => (∃ x, o = .inl (some (.int x)) ∧ (x = 1 → ∀ h, h < 24 → I g h = I g 0) ∧ (x = 0 → ∃ h, h < 24 ∧ I g h ≠ I g 0) ∧ (x = 0 ∨ x = 1)) ∧ σ' = (I, J, R, K, N)) := by
    refine bl_for 24 ?_ (fun i hi ih => ?_)
    · intro x hx hh; subst hx
      refine bl_go oX2_hasOneRoom 80 [2] rfl ?_
      refine ⟨fun h5 => ?_, fun h5 => ?_⟩
      · try simp (disch := omega) only [zI_n, zI_o, zI_lit, zI_neg, zI_add, zI_sub, zI_mul, zI_lt, zI_le, zI_eq, zI_clamp, zI_in, zI_div, zI_rem, lg_lt0, lg_gt0, lg_eq0, lg_le0, lg_ge0, Int.toNat_natCast, ge_iff_le, gt_iff_lt, List.length_cons, List.length_nil, bl_up2_at, bl_up2_nk, bl_up2_nx] at h5
        first
        | (exfalso; omega)
        | (refine ⟨(fun _ => by first | exact Or.inl rfl | exact Or.inr rfl), ?_⟩
           try show _ ∧ _
           try dsimp only [bl_pv]
           exact ⟨⟨_, rfl, fun _ => hh, fun h => absurd h (by decide), Or.inr rfl⟩, rfl⟩)
      · try simp (disch := omega) only [zI_n, zI_o, zI_lit, zI_neg, zI_add, zI_sub, zI_mul, zI_lt, zI_le, zI_eq, zI_clamp, zI_in, zI_div, zI_rem, lg_lt0, lg_gt0, lg_eq0, lg_le0, lg_ge0, Int.toNat_natCast, ge_iff_le, gt_iff_lt, List.length_cons, List.length_nil, bl_up2_at, bl_up2_nk, bl_up2_nx] at h5
        first
        | (exfalso; omega)
        | (refine ⟨ka, _, bl_vs ra_2, Or.inl ⟨kg, (by first | exact (by rw [ng]; exact vp_in_nI (by omega) (by omega)) | ((try dsimp only [bl_pv]); show vp_in _ (N _); rw [ng]; simp (disch := omega) only [zI_n, zI_o, zI_lit, zI_neg, zI_add, zI_sub, zI_mul, zI_lt, zI_le, zI_eq, zI_clamp, zI_in, zI_div, zI_rem, lg_lt0, lg_gt0, lg_eq0, lg_le0, lg_ge0, Int.toNat_natCast, ge_iff_le, gt_iff_lt, List.length_cons, List.length_nil, bl_up2_at, bl_up2_nk, bl_up2_nx] <;> omega)), ka, _, bl_vs ra_2, Or.inl ⟨kg, (by first | exact (by rw [ng]; exact vp_in_nI (by omega) (by omega)) | ((try dsimp only [bl_pv]); show vp_in _ (N _); rw [ng]; simp (disch := omega) only [zI_n, zI_o, zI_lit, zI_neg, zI_add, zI_sub, zI_mul, zI_lt, zI_le, zI_eq, zI_clamp, zI_in, zI_div, zI_rem, lg_lt0, lg_gt0, lg_eq0, lg_le0, lg_ge0, Int.toNat_natCast, ge_iff_le, gt_iff_lt, List.length_cons, List.length_nil, bl_up2_at, bl_up2_nk, bl_up2_nx] <;> omega)), fun h20 => ?_, fun h20 => ?_⟩⟩⟩
           · try simp (disch := omega) only [zI_n, zI_o, zI_lit, zI_neg, zI_add, zI_sub, zI_mul, zI_lt, zI_le, zI_eq, zI_clamp, zI_in, zI_div, zI_rem, lg_lt0, lg_gt0, lg_eq0, lg_le0, lg_ge0, Int.toNat_natCast, ge_iff_le, gt_iff_lt, List.length_cons, List.length_nil, bl_up2_at, bl_up2_nk, bl_up2_nx] at h20
             first
             | (exfalso; omega)
             | (try dsimp only [bl_pv]
                fail /- w2 lv=[1, 0] -/)
           · try simp (disch := omega) only [zI_n, zI_o, zI_lit, zI_neg, zI_add, zI_sub, zI_mul, zI_lt, zI_le, zI_eq, zI_clamp, zI_in, zI_div, zI_rem, lg_lt0, lg_gt0, lg_eq0, lg_le0, lg_ge0, Int.toNat_natCast, ge_iff_le, gt_iff_lt, List.length_cons, List.length_nil, bl_up2_at, bl_up2_nk, bl_up2_nx] at h20
             first
             | (exfalso; omega)
             | (refine ⟨(fun _ => by first | exact Or.inl rfl | exact Or.inr rfl), ?_⟩
                try show _ ∧ _
                try dsimp only [bl_pv]
                exact ⟨⟨_, rfl, fun _ => hh, fun h => absurd h (by decide), Or.inr rfl⟩, rfl⟩))
    · intro x hx hh; subst hx
      have ec : (nI i).toNatClampNeg = i := nI_clamp (by omega)
      refine bl_go oX2_hasOneRoom 80 [2] rfl ?_
      refine ⟨fun h5 => ?_, fun h5 => ?_⟩
      · try simp (disch := omega) only [zI_n, zI_o, zI_lit, zI_neg, zI_add, zI_sub, zI_mul, zI_lt, zI_le, zI_eq, zI_clamp, zI_in, zI_div, zI_rem, lg_lt0, lg_gt0, lg_eq0, lg_le0, lg_ge0, Int.toNat_natCast, ge_iff_le, gt_iff_lt, List.length_cons, List.length_nil, bl_up2_at, bl_up2_nk, bl_up2_nx] at h5
        first
        | (exfalso; omega)
        | (refine ⟨(fun _ => by first | exact Or.inl rfl | exact Or.inr rfl), ?_⟩
           try show _ ∧ _
           try dsimp only [bl_pv]
           fail /- ret32 -/)
      · try simp (disch := omega) only [zI_n, zI_o, zI_lit, zI_neg, zI_add, zI_sub, zI_mul, zI_lt, zI_le, zI_eq, zI_clamp, zI_in, zI_div, zI_rem, lg_lt0, lg_gt0, lg_eq0, lg_le0, lg_ge0, Int.toNat_natCast, ge_iff_le, gt_iff_lt, List.length_cons, List.length_nil, bl_up2_at, bl_up2_nk, bl_up2_nx] at h5
        first
        | (exfalso; omega)
        | (refine ⟨ka, _, bl_vs ra_2, Or.inl ⟨kg, (by first | exact (by rw [ng]; exact vp_in_nI (by omega) (by omega)) | ((try dsimp only [bl_pv]); show vp_in _ (N _); rw [ng]; simp (disch := omega) only [zI_n, zI_o, zI_lit, zI_neg, zI_add, zI_sub, zI_mul, zI_lt, zI_le, zI_eq, zI_clamp, zI_in, zI_div, zI_rem, lg_lt0, lg_gt0, lg_eq0, lg_le0, lg_ge0, Int.toNat_natCast, ge_iff_le, gt_iff_lt, List.length_cons, List.length_nil, bl_up2_at, bl_up2_nk, bl_up2_nx] <;> omega)), ka, _, bl_vs ra_2, Or.inl ⟨kg, (by first | exact (by rw [ng]; exact vp_in_nI (by omega) (by omega)) | ((try dsimp only [bl_pv]); show vp_in _ (N _); rw [ng]; simp (disch := omega) only [zI_n, zI_o, zI_lit, zI_neg, zI_add, zI_sub, zI_mul, zI_lt, zI_le, zI_eq, zI_clamp, zI_in, zI_div, zI_rem, lg_lt0, lg_gt0, lg_eq0, lg_le0, lg_ge0, Int.toNat_natCast, ge_iff_le, gt_iff_lt, List.length_cons, List.length_nil, bl_up2_at, bl_up2_nk, bl_up2_nx] <;> omega)), fun h20 => ?_, fun h20 => ?_⟩⟩⟩
           · try simp (disch := omega) only [zI_n, zI_o, zI_lit, zI_neg, zI_add, zI_sub, zI_mul, zI_lt, zI_le, zI_eq, zI_clamp, zI_in, zI_div, zI_rem, lg_lt0, lg_gt0, lg_eq0, lg_le0, lg_ge0, Int.toNat_natCast, ge_iff_le, gt_iff_lt, List.length_cons, List.length_nil, bl_up2_at, bl_up2_nk, bl_up2_nx] at h20
             try dsimp only [bl_pv]
             refine ih _ (nI_1 i) (fun h hh' => ?_)
             by_cases e : h = i
             · subst e; exact h20
             · exact hh h (by omega)
           · try simp (disch := omega) only [zI_n, zI_o, zI_lit, zI_neg, zI_add, zI_sub, zI_mul, zI_lt, zI_le, zI_eq, zI_clamp, zI_in, zI_div, zI_rem, lg_lt0, lg_gt0, lg_eq0, lg_le0, lg_ge0, Int.toNat_natCast, ge_iff_le, gt_iff_lt, List.length_cons, List.length_nil, bl_up2_at, bl_up2_nk, bl_up2_nx] at h20
             refine ⟨(fun _ => by first | exact Or.inl rfl | exact Or.inr rfl), ?_⟩
             try show _ ∧ _
             try dsimp only [bl_pv]
             exact ⟨⟨_, rfl, fun h => absurd h (by decide), fun _ => ⟨i, hi, h20⟩, Or.inl rfl⟩, rfl⟩)
  refine bl_go oX2_hasOneRoom 80 [2] rfl ?_
  try dsimp only [bl_pv]
  exact L 1 (by omega) _ rfl (fun h hh => by rw [show h = 0 by omega])
end KITCHEN
