/-! ===== Unlike ===== -/
def addO (L : List Int64) (x : Int64) : List Int64 := if x ∈ L then L else L ++ [x]
def dd1 (f : Nat → Int64) (L : List Int64) : Nat → List Int64
  | 0 => L
  | n + 1 => addO (dd1 f L n) (f n)
def dd2 (C D : List Int64) : Nat → List Int64
  | 0 => []
  | i + 1 => dd1 (fun j => C.getD i 0 * D.getD j 0) (dd2 C D i) D.length
theorem addO_len (L : List Int64) (x : Int64) : (addO L x).length ≤ L.length + 1 := by
  unfold addO
  split
  · omega
  · simp
theorem dd1_len (f : Nat → Int64) (L : List Int64) : ∀ n, (dd1 f L n).length ≤ L.length + n
  | 0 => Nat.le_refl _
  | n + 1 => by
    have := dd1_len f L n; have := addO_len (dd1 f L n) (f n)
    show (addO (dd1 f L n) (f n)).length ≤ _
    omega
theorem dd2_len (C D : List Int64) : ∀ n, (dd2 C D n).length ≤ n * D.length
  | 0 => Nat.zero_le _
  | n + 1 => by
    have := dd2_len C D n; have := dd1_len (fun j => C.getD n 0 * D.getD j 0) (dd2 C D n) D.length
    show (dd1 _ (dd2 C D n) D.length).length ≤ _
    rw [Nat.succ_mul]; omega
def rowL (J : Nat → Nat → Int64) (v : Nat) (L : List Int64) : Prop := ∀ i, i < L.length → J v i = L.getD i 0
section UNLIKE
variable {G : bl_G} {l : Launch} {d b s v q : Nat} {I : Nat → Nat → Int32} {J : Nat → Nat → Int64} {R : Nat → Nat → Option Nat} {K N : Nat → Nat}
theorem c_Unlike_addOnce {L : List Int64} {x : Int64} {n c : Nat} {y : Int32} (kv : K v = 21) (nv : N v = c) (hc : c ≤ 2304) (hL : rowL J v L) (hy : y = nI n) (hn : n = L.length) (hlen : L.length < c) : bl_MC G l d mX9_addOnce [.ref v, .int y, .long x] (I, J, R, K, N) (0, 0) (fun o σ' => o = .inl (some (.int (nI (addO L x).length))) ∧ ∃ J', σ' = (I, J', R, K, N) ∧ (∀ z, z ≠ v → J' z = J z) ∧ rowL J' v (addO L x)) := by
  subst hy hn
  refine bl_MC_intro (by decide +kernel) rfl (Nat.le_of_ble_eq_true rfl) ?_
  have Lp : ∀ i, i ≤ L.length → ∀ u, u = nI i → (∀ j, j < i → L.getD j 0 ≠ x) → bl_WP G l d mX9_addOnce 3 [(4, .int u), (0, .ref v), (1, .int (nI L.length)), (2, .long x)] [] (I, J, R, K, N) (0, 0) (fun o σ' => o = .inl (some (.int (nI (addO L x).length))) ∧ ∃ J', σ' = (I, J', R, K, N) ∧ (∀ z, z ≠ v → J' z = J z) ∧ rowL J' v (addO L x)) := by
    refine bl_for L.length ?_ (fun i hi ih => ?_)
    · intro u hu hne; subst hu
      have hni : ¬ x ∈ L := by
        intro hm
        obtain ⟨j, hj, e⟩ := List.mem_iff_getElem.mp hm
        exact hne j hj (by rw [List.getD_eq_getElem?_getD, List.getElem?_eq_getElem hj]; exact e)
      have ea : addO L x = L ++ [x] := by unfold addO; rw [if_neg hni]
      have ec : (nI L.length).toNatClampNeg = L.length := nI_clamp (by omega)
      refine bl_go oX9_addOnce 80 [3] rfl ?_
      refine ⟨fun h6 => ?_, fun h6 => ?_⟩
      · try simp (disch := omega) only [nv, zI_n, zI_o, zI_lit, zI_neg, zI_add, zI_sub, zI_mul, zI_lt, zI_le, zI_eq, zI_clamp, zI_in, zI_div, zI_rem, lg_lt0, lg_gt0, lg_eq0, lg_le0, lg_ge0, Int.toNat_natCast, ge_iff_le, gt_iff_lt, List.length_cons, List.length_nil, bl_up2_at, bl_up2_nk, bl_up2_nx] at h6
        first
        | (exfalso; omega)
        | (refine Or.inl ⟨bl_kr kv, fun h36 => ?_, fun h36 => ?_⟩
           · try simp (disch := omega) only [nv, zI_n, zI_o, zI_lit, zI_neg, zI_add, zI_sub, zI_mul, zI_lt, zI_le, zI_eq, zI_clamp, zI_in, zI_div, zI_rem, lg_lt0, lg_gt0, lg_eq0, lg_le0, lg_ge0, Int.toNat_natCast, ge_iff_le, gt_iff_lt, List.length_cons, List.length_nil, bl_up2_at, bl_up2_nk, bl_up2_nx] at h36
             first
             | (exfalso; omega)
             | (refine ⟨kv, (by first | exact (by rw [nv]; exact vp_in_nI (by omega) (by omega)) | ((try dsimp only [bl_pv]); show vp_in _ (N _); rw [nv]; simp (disch := omega) only [nv, zI_n, zI_o, zI_lit, zI_neg, zI_add, zI_sub, zI_mul, zI_lt, zI_le, zI_eq, zI_clamp, zI_in, zI_div, zI_rem, lg_lt0, lg_gt0, lg_eq0, lg_le0, lg_ge0, Int.toNat_natCast, ge_iff_le, gt_iff_lt, List.length_cons, List.length_nil, bl_up2_at, bl_up2_nk, bl_up2_nx] <;> omega)), (fun h => by cases h), ?_⟩
                try show _ ∧ _
                try dsimp only [bl_pv]
                rw [ea, ec]
                refine ⟨by rw [nI_1]; simp, _, rfl, fun z hz => bl_up2_ne hz, fun i hi => ?_⟩
                have hi' : i < L.length + 1 := by simpa using hi
                by_cases e : i = L.length
                · subst e; rw [bl_up2_at]; simp
                · rw [bl_up2_nk e, hL i (by omega)]
                  rw [List.getD_eq_getElem?_getD, List.getD_eq_getElem?_getD, List.getElem?_append_left (by omega)])
           · try simp (disch := omega) only [nv, zI_n, zI_o, zI_lit, zI_neg, zI_add, zI_sub, zI_mul, zI_lt, zI_le, zI_eq, zI_clamp, zI_in, zI_div, zI_rem, lg_lt0, lg_gt0, lg_eq0, lg_le0, lg_ge0, Int.toNat_natCast, ge_iff_le, gt_iff_lt, List.length_cons, List.length_nil, bl_up2_at, bl_up2_nk, bl_up2_nx] at h36
             first
             | (exfalso; omega)
             | (refine ⟨(fun h => by cases h), ?_⟩
                try show _ ∧ _
                try dsimp only [bl_pv]
                fail /- ret40 -/))
      · try simp (disch := omega) only [nv, zI_n, zI_o, zI_lit, zI_neg, zI_add, zI_sub, zI_mul, zI_lt, zI_le, zI_eq, zI_clamp, zI_in, zI_div, zI_rem, lg_lt0, lg_gt0, lg_eq0, lg_le0, lg_ge0, Int.toNat_natCast, ge_iff_le, gt_iff_lt, List.length_cons, List.length_nil, bl_up2_at, bl_up2_nk, bl_up2_nx] at h6
        first
        | (exfalso; omega)
        | (refine Or.inl ⟨bl_kr kv, fun h13 => ?_, fun h13 => ?_⟩
           · try simp (disch := omega) only [nv, zI_n, zI_o, zI_lit, zI_neg, zI_add, zI_sub, zI_mul, zI_lt, zI_le, zI_eq, zI_clamp, zI_in, zI_div, zI_rem, lg_lt0, lg_gt0, lg_eq0, lg_le0, lg_ge0, Int.toNat_natCast, ge_iff_le, gt_iff_lt, List.length_cons, List.length_nil, bl_up2_at, bl_up2_nk, bl_up2_nx] at h13
             first
             | (exfalso; omega)
             | (refine Or.inl ⟨bl_kr kv, fun h36 => ?_, fun h36 => ?_⟩
                · try simp (disch := omega) only [nv, zI_n, zI_o, zI_lit, zI_neg, zI_add, zI_sub, zI_mul, zI_lt, zI_le, zI_eq, zI_clamp, zI_in, zI_div, zI_rem, lg_lt0, lg_gt0, lg_eq0, lg_le0, lg_ge0, Int.toNat_natCast, ge_iff_le, gt_iff_lt, List.length_cons, List.length_nil, bl_up2_at, bl_up2_nk, bl_up2_nx] at h36
                  first
                  | (exfalso; omega)
                  | (refine ⟨kv, (by first | exact (by rw [nv]; exact vp_in_nI (by omega) (by omega)) | ((try dsimp only [bl_pv]); show vp_in _ (N _); rw [nv]; simp (disch := omega) only [nv, zI_n, zI_o, zI_lit, zI_neg, zI_add, zI_sub, zI_mul, zI_lt, zI_le, zI_eq, zI_clamp, zI_in, zI_div, zI_rem, lg_lt0, lg_gt0, lg_eq0, lg_le0, lg_ge0, Int.toNat_natCast, ge_iff_le, gt_iff_lt, List.length_cons, List.length_nil, bl_up2_at, bl_up2_nk, bl_up2_nx] <;> omega)), (fun h => by cases h), ?_⟩
                     try show _ ∧ _
                     try dsimp only [bl_pv]
                     rw [ea, ec]
                     refine ⟨by rw [nI_1]; simp, _, rfl, fun z hz => bl_up2_ne hz, fun i hi => ?_⟩
                     have hi' : i < L.length + 1 := by simpa using hi
                     by_cases e : i = L.length
                     · subst e; rw [bl_up2_at]; simp
                     · rw [bl_up2_nk e, hL i (by omega)]
                       rw [List.getD_eq_getElem?_getD, List.getD_eq_getElem?_getD, List.getElem?_append_left (by omega)])
                · try simp (disch := omega) only [nv, zI_n, zI_o, zI_lit, zI_neg, zI_add, zI_sub, zI_mul, zI_lt, zI_le, zI_eq, zI_clamp, zI_in, zI_div, zI_rem, lg_lt0, lg_gt0, lg_eq0, lg_le0, lg_ge0, Int.toNat_natCast, ge_iff_le, gt_iff_lt, List.length_cons, List.length_nil, bl_up2_at, bl_up2_nk, bl_up2_nx] at h36
                  first
                  | (exfalso; omega)
                  | (refine ⟨(fun h => by cases h), ?_⟩
                     try show _ ∧ _
                     try dsimp only [bl_pv]
                     fail /- ret40 -/))
           · try simp (disch := omega) only [nv, zI_n, zI_o, zI_lit, zI_neg, zI_add, zI_sub, zI_mul, zI_lt, zI_le, zI_eq, zI_clamp, zI_in, zI_div, zI_rem, lg_lt0, lg_gt0, lg_eq0, lg_le0, lg_ge0, Int.toNat_natCast, ge_iff_le, gt_iff_lt, List.length_cons, List.length_nil, bl_up2_at, bl_up2_nk, bl_up2_nx] at h13
             first
             | (exfalso; omega)
             | (refine ⟨kv, (by first | exact (by rw [nv]; exact vp_in_nI (by omega) (by omega)) | ((try dsimp only [bl_pv]); show vp_in _ (N _); rw [nv]; simp (disch := omega) only [nv, zI_n, zI_o, zI_lit, zI_neg, zI_add, zI_sub, zI_mul, zI_lt, zI_le, zI_eq, zI_clamp, zI_in, zI_div, zI_rem, lg_lt0, lg_gt0, lg_eq0, lg_le0, lg_ge0, Int.toNat_natCast, ge_iff_le, gt_iff_lt, List.length_cons, List.length_nil, bl_up2_at, bl_up2_nk, bl_up2_nx] <;> omega)), fun h22 => ?_, fun h22 => ?_⟩
                · try simp (disch := omega) only [nv, zI_n, zI_o, zI_lit, zI_neg, zI_add, zI_sub, zI_mul, zI_lt, zI_le, zI_eq, zI_clamp, zI_in, zI_div, zI_rem, lg_lt0, lg_gt0, lg_eq0, lg_le0, lg_ge0, Int.toNat_natCast, ge_iff_le, gt_iff_lt, List.length_cons, List.length_nil, bl_up2_at, bl_up2_nk, bl_up2_nx] at h22
                  first
                  | (exfalso; omega)
                  | (try dsimp only [bl_pv]
                     fail /- w3 lv=[4, 0, 1, 2] -/)
                · try simp (disch := omega) only [nv, zI_n, zI_o, zI_lit, zI_neg, zI_add, zI_sub, zI_mul, zI_lt, zI_le, zI_eq, zI_clamp, zI_in, zI_div, zI_rem, lg_lt0, lg_gt0, lg_eq0, lg_le0, lg_ge0, Int.toNat_natCast, ge_iff_le, gt_iff_lt, List.length_cons, List.length_nil, bl_up2_at, bl_up2_nk, bl_up2_nx] at h22
                  first
                  | (exfalso; omega)
                  | (refine ⟨(fun h => by cases h), ?_⟩
                     try show _ ∧ _
                     try dsimp only [bl_pv]
                     fail /- ret26 -/)))
    · intro u hu hne; subst hu
      have ec : (nI i).toNatClampNeg = i := nI_clamp (by omega)
      refine bl_go oX9_addOnce 80 [3] rfl ?_
      refine ⟨fun h6 => ?_, fun h6 => ?_⟩
      · try simp (disch := omega) only [nv, zI_n, zI_o, zI_lit, zI_neg, zI_add, zI_sub, zI_mul, zI_lt, zI_le, zI_eq, zI_clamp, zI_in, zI_div, zI_rem, lg_lt0, lg_gt0, lg_eq0, lg_le0, lg_ge0, Int.toNat_natCast, ge_iff_le, gt_iff_lt, List.length_cons, List.length_nil, bl_up2_at, bl_up2_nk, bl_up2_nx] at h6
        first
        | (exfalso; omega)
        | (refine Or.inl ⟨bl_kr kv, fun h36 => ?_, fun h36 => ?_⟩
           · try simp (disch := omega) only [nv, zI_n, zI_o, zI_lit, zI_neg, zI_add, zI_sub, zI_mul, zI_lt, zI_le, zI_eq, zI_clamp, zI_in, zI_div, zI_rem, lg_lt0, lg_gt0, lg_eq0, lg_le0, lg_ge0, Int.toNat_natCast, ge_iff_le, gt_iff_lt, List.length_cons, List.length_nil, bl_up2_at, bl_up2_nk, bl_up2_nx] at h36
             first
             | (exfalso; omega)
             | (refine ⟨kv, (by first | exact (by rw [nv]; exact vp_in_nI (by omega) (by omega)) | ((try dsimp only [bl_pv]); show vp_in _ (N _); rw [nv]; simp (disch := omega) only [nv, zI_n, zI_o, zI_lit, zI_neg, zI_add, zI_sub, zI_mul, zI_lt, zI_le, zI_eq, zI_clamp, zI_in, zI_div, zI_rem, lg_lt0, lg_gt0, lg_eq0, lg_le0, lg_ge0, Int.toNat_natCast, ge_iff_le, gt_iff_lt, List.length_cons, List.length_nil, bl_up2_at, bl_up2_nk, bl_up2_nx] <;> omega)), (fun h => by cases h), ?_⟩
                try show _ ∧ _
                try dsimp only [bl_pv]
                fail /- ret48 -/)
           · try simp (disch := omega) only [nv, zI_n, zI_o, zI_lit, zI_neg, zI_add, zI_sub, zI_mul, zI_lt, zI_le, zI_eq, zI_clamp, zI_in, zI_div, zI_rem, lg_lt0, lg_gt0, lg_eq0, lg_le0, lg_ge0, Int.toNat_natCast, ge_iff_le, gt_iff_lt, List.length_cons, List.length_nil, bl_up2_at, bl_up2_nk, bl_up2_nx] at h36
             first
             | (exfalso; omega)
             | (refine ⟨(fun h => by cases h), ?_⟩
                try show _ ∧ _
                try dsimp only [bl_pv]
                fail /- ret40 -/))
      · try simp (disch := omega) only [nv, zI_n, zI_o, zI_lit, zI_neg, zI_add, zI_sub, zI_mul, zI_lt, zI_le, zI_eq, zI_clamp, zI_in, zI_div, zI_rem, lg_lt0, lg_gt0, lg_eq0, lg_le0, lg_ge0, Int.toNat_natCast, ge_iff_le, gt_iff_lt, List.length_cons, List.length_nil, bl_up2_at, bl_up2_nk, bl_up2_nx] at h6
        first
        | (exfalso; omega)
        | (refine Or.inl ⟨bl_kr kv, fun h13 => ?_, fun h13 => ?_⟩
           · try simp (disch := omega) only [nv, zI_n, zI_o, zI_lit, zI_neg, zI_add, zI_sub, zI_mul, zI_lt, zI_le, zI_eq, zI_clamp, zI_in, zI_div, zI_rem, lg_lt0, lg_gt0, lg_eq0, lg_le0, lg_ge0, Int.toNat_natCast, ge_iff_le, gt_iff_lt, List.length_cons, List.length_nil, bl_up2_at, bl_up2_nk, bl_up2_nx] at h13
             first
             | (exfalso; omega)
             | (refine Or.inl ⟨bl_kr kv, fun h36 => ?_, fun h36 => ?_⟩
                · try simp (disch := omega) only [nv, zI_n, zI_o, zI_lit, zI_neg, zI_add, zI_sub, zI_mul, zI_lt, zI_le, zI_eq, zI_clamp, zI_in, zI_div, zI_rem, lg_lt0, lg_gt0, lg_eq0, lg_le0, lg_ge0, Int.toNat_natCast, ge_iff_le, gt_iff_lt, List.length_cons, List.length_nil, bl_up2_at, bl_up2_nk, bl_up2_nx] at h36
                  first
                  | (exfalso; omega)
                  | (refine ⟨kv, (by first | exact (by rw [nv]; exact vp_in_nI (by omega) (by omega)) | ((try dsimp only [bl_pv]); show vp_in _ (N _); rw [nv]; simp (disch := omega) only [nv, zI_n, zI_o, zI_lit, zI_neg, zI_add, zI_sub, zI_mul, zI_lt, zI_le, zI_eq, zI_clamp, zI_in, zI_div, zI_rem, lg_lt0, lg_gt0, lg_eq0, lg_le0, lg_ge0, Int.toNat_natCast, ge_iff_le, gt_iff_lt, List.length_cons, List.length_nil, bl_up2_at, bl_up2_nk, bl_up2_nx] <;> omega)), (fun h => by cases h), ?_⟩
                     try show _ ∧ _
                     try dsimp only [bl_pv]
                     fail /- ret48 -/)
                · try simp (disch := omega) only [nv, zI_n, zI_o, zI_lit, zI_neg, zI_add, zI_sub, zI_mul, zI_lt, zI_le, zI_eq, zI_clamp, zI_in, zI_div, zI_rem, lg_lt0, lg_gt0, lg_eq0, lg_le0, lg_ge0, Int.toNat_natCast, ge_iff_le, gt_iff_lt, List.length_cons, List.length_nil, bl_up2_at, bl_up2_nk, bl_up2_nx] at h36
                  first
                  | (exfalso; omega)
                  | (refine ⟨(fun h => by cases h), ?_⟩
                     try show _ ∧ _
                     try dsimp only [bl_pv]
                     fail /- ret40 -/))
           · try simp (disch := omega) only [nv, zI_n, zI_o, zI_lit, zI_neg, zI_add, zI_sub, zI_mul, zI_lt, zI_le, zI_eq, zI_clamp, zI_in, zI_div, zI_rem, lg_lt0, lg_gt0, lg_eq0, lg_le0, lg_ge0, Int.toNat_natCast, ge_iff_le, gt_iff_lt, List.length_cons, List.length_nil, bl_up2_at, bl_up2_nk, bl_up2_nx] at h13
             first
             | (exfalso; omega)
             | (refine ⟨kv, (by first | exact (by rw [nv]; exact vp_in_nI (by omega) (by omega)) | ((try dsimp only [bl_pv]); show vp_in _ (N _); rw [nv]; simp (disch := omega) only [nv, zI_n, zI_o, zI_lit, zI_neg, zI_add, zI_sub, zI_mul, zI_lt, zI_le, zI_eq, zI_clamp, zI_in, zI_div, zI_rem, lg_lt0, lg_gt0, lg_eq0, lg_le0, lg_ge0, Int.toNat_natCast, ge_iff_le, gt_iff_lt, List.length_cons, List.length_nil, bl_up2_at, bl_up2_nk, bl_up2_nx] <;> omega)), fun h22 => ?_, fun h22 => ?_⟩
                · try simp (disch := omega) only [nv, zI_n, zI_o, zI_lit, zI_neg, zI_add, zI_sub, zI_mul, zI_lt, zI_le, zI_eq, zI_clamp, zI_in, zI_div, zI_rem, lg_lt0, lg_gt0, lg_eq0, lg_le0, lg_ge0, Int.toNat_natCast, ge_iff_le, gt_iff_lt, List.length_cons, List.length_nil, bl_up2_at, bl_up2_nk, bl_up2_nx] at h22
                  rw [hL i hi] at h22
                  first
                  | (exfalso; omega)
                  | (try dsimp only [bl_pv]
                     refine ih _ (nI_1 _) (fun j hj => ?_)
                     by_cases e : j = i
                     · subst e; exact h22
                     · exact hne j (by omega))
                · try simp (disch := omega) only [nv, zI_n, zI_o, zI_lit, zI_neg, zI_add, zI_sub, zI_mul, zI_lt, zI_le, zI_eq, zI_clamp, zI_in, zI_div, zI_rem, lg_lt0, lg_gt0, lg_eq0, lg_le0, lg_ge0, Int.toNat_natCast, ge_iff_le, gt_iff_lt, List.length_cons, List.length_nil, bl_up2_at, bl_up2_nk, bl_up2_nx] at h22
                  rw [hL i hi] at h22
                  first
                  | (exfalso; omega)
                  | (refine ⟨(fun h => by cases h), ?_⟩
                     try show _ ∧ _
                     try dsimp only [bl_pv]
                     have hm : x ∈ L := by
                       rw [← h22, List.getD_eq_getElem?_getD, List.getElem?_eq_getElem hi]; exact List.getElem_mem hi
                     have ea : addO L x = L := by unfold addO; rw [if_pos hm]
                     rw [ea]
                     exact ⟨rfl, _, rfl, fun _ _ => rfl, hL⟩)))
  refine bl_go oX9_addOnce 80 [3] rfl ?_
  try dsimp only [bl_pv]
  exact Lp 0 (by omega) _ rfl (fun j hj => absurd hj (by omega))
theorem c_Unlike_distinct {S : sq} (hs : sdS R K N s) (hC : sdC I J s S) (kv : K v = 21) (nv : N v = 48) (hv : v ≠ s + 2000) : bl_MC G l (d + 1) mX9_distinct [.ref s, .ref v] (I, J, R, K, N) (0, 0) (fun o σ' => o = .inl (some (.int (nI (dd1 (fun i => nJ (S.2.2 i)) [] S.1).length))) ∧ ∃ J', σ' = (I, J', R, K, N) ∧ (∀ z, z ≠ v → J' z = J z) ∧ rowL J' v (dd1 (fun i => nJ (S.2.2 i)) [] S.1)) := by
  obtain ⟨hr1, ks, rs_0, rs_1, kp, np, km, nm⟩ := hs
  obtain ⟨c0, c1, c2⟩ := hC
  refine bl_MC_intro (by decide +kernel) rfl (Nat.le_of_ble_eq_true rfl) ?_
  have L : ∀ i, i ≤ S.1 → ∀ u y J1, u = nI i → y = nI (dd1 (fun i => nJ (S.2.2 i)) [] i).length → (∀ z, z ≠ v → J1 z = J z) → rowL J1 v (dd1 (fun i => nJ (S.2.2 i)) [] i) → bl_WP G l (d + 1) mX9_distinct 4 [(3, .int u), (2, .int y), (0, .ref s), (1, .ref v)] [] (I, J1, R, K, N) (0, 0) (fun o σ' => o = .inl (some (.int (nI (dd1 (fun i => nJ (S.2.2 i)) [] S.1).length))) ∧ ∃ J', σ' = (I, J', R, K, N) ∧ (∀ z, z ≠ v → J' z = J z) ∧ rowL J' v (dd1 (fun i => nJ (S.2.2 i)) [] S.1)) := by
    refine bl_for S.1 ?_ (fun i hi ih => ?_)
    · intro u y J1 hu hy hJ hr; subst hu hy
      refine bl_go oX9_distinct 80 [4] rfl ?_
      refine ⟨ks, fun h9 => ?_, fun h9 => ?_⟩
      · try simp (disch := omega) only [c0, zI_n, zI_o, zI_lit, zI_neg, zI_add, zI_sub, zI_mul, zI_lt, zI_le, zI_eq, zI_clamp, zI_in, zI_div, zI_rem, lg_lt0, lg_gt0, lg_eq0, lg_le0, lg_ge0, Int.toNat_natCast, ge_iff_le, gt_iff_lt, List.length_cons, List.length_nil, bl_up2_at, bl_up2_nk, bl_up2_nx] at h9
        first
        | (exfalso; omega)
        | (refine ⟨(fun h => by cases h), ?_⟩
           try show _ ∧ _
           try dsimp only [bl_pv]
           exact ⟨rfl, _, rfl, hJ, hr⟩)
      · try simp (disch := omega) only [c0, zI_n, zI_o, zI_lit, zI_neg, zI_add, zI_sub, zI_mul, zI_lt, zI_le, zI_eq, zI_clamp, zI_in, zI_div, zI_rem, lg_lt0, lg_gt0, lg_eq0, lg_le0, lg_ge0, Int.toNat_natCast, ge_iff_le, gt_iff_lt, List.length_cons, List.length_nil, bl_up2_at, bl_up2_nk, bl_up2_nx] at h9
        first
        | (exfalso; omega)
        | (refine ⟨fun h15 => ?_, fun h15 => ?_⟩
           · try simp (disch := omega) only [c0, zI_n, zI_o, zI_lit, zI_neg, zI_add, zI_sub, zI_mul, zI_lt, zI_le, zI_eq, zI_clamp, zI_in, zI_div, zI_rem, lg_lt0, lg_gt0, lg_eq0, lg_le0, lg_ge0, Int.toNat_natCast, ge_iff_le, gt_iff_lt, List.length_cons, List.length_nil, bl_up2_at, bl_up2_nk, bl_up2_nx] at h15
             first
             | (exfalso; omega)
             | (refine ⟨(fun h => by cases h), ?_⟩
                try show _ ∧ _
                try dsimp only [bl_pv]
                exact ⟨rfl, _, rfl, hJ, hr⟩)
           · try simp (disch := omega) only [c0, zI_n, zI_o, zI_lit, zI_neg, zI_add, zI_sub, zI_mul, zI_lt, zI_le, zI_eq, zI_clamp, zI_in, zI_div, zI_rem, lg_lt0, lg_gt0, lg_eq0, lg_le0, lg_ge0, Int.toNat_natCast, ge_iff_le, gt_iff_lt, List.length_cons, List.length_nil, bl_up2_at, bl_up2_nk, bl_up2_nx] at h15
             first
             | (exfalso; omega)
             | (refine ⟨ks, _, bl_vs rs_1, km, (by first | exact (by rw [nm]; exact vp_in_nI (by omega) (by omega)) | ((try dsimp only [bl_pv]); show vp_in _ (N _); rw [nm]; simp (disch := omega) only [c0, zI_n, zI_o, zI_lit, zI_neg, zI_add, zI_sub, zI_mul, zI_lt, zI_le, zI_eq, zI_clamp, zI_in, zI_div, zI_rem, lg_lt0, lg_gt0, lg_eq0, lg_le0, lg_ge0, Int.toNat_natCast, ge_iff_le, gt_iff_lt, List.length_cons, List.length_nil, bl_up2_at, bl_up2_nk, bl_up2_nx] <;> omega)), rfl, (Nat.le_of_ble_eq_true rfl), (0, 0), Nat.le_refl _, Nat.le_refl _, ?_⟩
                fail /- c26: mX9_addOnce -/))
    · intro u y J1 hu hy hJ hr; subst hu
      have ec : (nI i).toNatClampNeg = i := nI_clamp (by omega)
      have hl := dd1_len (fun i => nJ (S.2.2 i)) [] i
      have e1 : J1 (s + 2000) i = nJ (S.2.2 i) := by rw [hJ _ (by omega)]; exact (c2 i hi).2
      simp only [List.length_nil] at hl
      refine bl_go oX9_distinct 80 [4] rfl ?_
      refine ⟨ks, fun h9 => ?_, fun h9 => ?_⟩
      · try simp (disch := omega) only [c0, zI_n, zI_o, zI_lit, zI_neg, zI_add, zI_sub, zI_mul, zI_lt, zI_le, zI_eq, zI_clamp, zI_in, zI_div, zI_rem, lg_lt0, lg_gt0, lg_eq0, lg_le0, lg_ge0, Int.toNat_natCast, ge_iff_le, gt_iff_lt, List.length_cons, List.length_nil, bl_up2_at, bl_up2_nk, bl_up2_nx] at h9
        first
        | (exfalso; omega)
        | (refine ⟨(fun h => by cases h), ?_⟩
           try show _ ∧ _
           try dsimp only [bl_pv]
           fail /- ret37 -/)
      · try simp (disch := omega) only [c0, zI_n, zI_o, zI_lit, zI_neg, zI_add, zI_sub, zI_mul, zI_lt, zI_le, zI_eq, zI_clamp, zI_in, zI_div, zI_rem, lg_lt0, lg_gt0, lg_eq0, lg_le0, lg_ge0, Int.toNat_natCast, ge_iff_le, gt_iff_lt, List.length_cons, List.length_nil, bl_up2_at, bl_up2_nk, bl_up2_nx] at h9
        first
        | (exfalso; omega)
        | (refine ⟨fun h15 => ?_, fun h15 => ?_⟩
           · try simp (disch := omega) only [c0, zI_n, zI_o, zI_lit, zI_neg, zI_add, zI_sub, zI_mul, zI_lt, zI_le, zI_eq, zI_clamp, zI_in, zI_div, zI_rem, lg_lt0, lg_gt0, lg_eq0, lg_le0, lg_ge0, Int.toNat_natCast, ge_iff_le, gt_iff_lt, List.length_cons, List.length_nil, bl_up2_at, bl_up2_nk, bl_up2_nx] at h15
             first
             | (exfalso; omega)
             | (refine ⟨(fun h => by cases h), ?_⟩
                try show _ ∧ _
                try dsimp only [bl_pv]
                fail /- ret37 -/)
           · try simp (disch := omega) only [c0, zI_n, zI_o, zI_lit, zI_neg, zI_add, zI_sub, zI_mul, zI_lt, zI_le, zI_eq, zI_clamp, zI_in, zI_div, zI_rem, lg_lt0, lg_gt0, lg_eq0, lg_le0, lg_ge0, Int.toNat_natCast, ge_iff_le, gt_iff_lt, List.length_cons, List.length_nil, bl_up2_at, bl_up2_nk, bl_up2_nx] at h15
             first
             | (exfalso; omega)
             | (refine ⟨ks, _, bl_vs rs_1, km, (by first | exact (by rw [nm]; exact vp_in_nI (by omega) (by omega)) | ((try dsimp only [bl_pv]); show vp_in _ (N _); rw [nm]; simp (disch := omega) only [c0, zI_n, zI_o, zI_lit, zI_neg, zI_add, zI_sub, zI_mul, zI_lt, zI_le, zI_eq, zI_clamp, zI_in, zI_div, zI_rem, lg_lt0, lg_gt0, lg_eq0, lg_le0, lg_ge0, Int.toNat_natCast, ge_iff_le, gt_iff_lt, List.length_cons, List.length_nil, bl_up2_at, bl_up2_nk, bl_up2_nx] <;> omega)), rfl, (Nat.le_of_ble_eq_true rfl), (0, 0), Nat.le_refl _, Nat.le_refl _, bl_MC_mono (c_Unlike_addOnce kv nv (by omega) hr hy rfl (by omega)) (fun o26 σ26 q26 => ?_)⟩
                try dsimp only [bl_pv] at q26
                obtain ⟨rfl, J2, rfl, f2, r2⟩ := q26
                rw [ec, e1] at r2
                refine bl_go oX9_distinct 80 [4] rfl ?_
                try dsimp only [bl_pv]
                refine ih _ _ _ (nI_1 _) ?_ (fun z hz => (f2 z hz).trans (hJ z hz)) r2
                rw [ec, e1]; rfl))
  refine bl_go oX9_distinct 80 [4] rfl ?_
  try dsimp only [bl_pv]
  exact L 0 (by omega) _ _ _ rfl rfl (fun _ _ => rfl) (fun i hi => absurd hi (by simp [dd1]))
theorem c_Unlike_products {S : sl} (hs : slS R K N b) (hC : slC I J b S) (kq : K q = 10) (rq_0 : R q 0 = some (q + 1)) (rq_1 : R q 1 = some (q + 2)) (rq_2 : R q 2 = some (q + 3)) (kq0 : K (q + 1) = 21) (nq0 : N (q + 1) = 48) (kq1 : K (q + 2) = 21) (nq1 : N (q + 2) = 48) (kq2 : K (q + 3) = 21) (nq2 : N (q + 3) = 2304) (hq : q < 900) : bl_MC G l (d + 2) mX9_products [.ref q, .ref b] (I, J, R, K, N) (0, 0) (fun o σ' => o = .inl (some (.int (nI (dd2 (dd1 (fun i => nJ (S.1.2.2 i)) [] S.1.1) (dd1 (fun i => nJ (S.2.1.2.2 i)) [] S.2.1.1) (dd1 (fun i => nJ (S.1.2.2 i)) [] S.1.1).length).length))) ∧ ∃ J', σ' = (I, J', R, K, N) ∧ (∀ z, z ≠ q + 1 → z ≠ q + 2 → z ≠ q + 3 → J' z = J z)) := by
  have hs' := hs
  obtain ⟨hr1, kb, rb_0, rb_1, hA, hD⟩ := hs
  have hrA := hA.1
  have hrD := hD.1
  obtain ⟨cA, cD, -⟩ := hC
  have cA1 := cA.2.1
  have cD1 := cD.2.1
  generalize hCq : dd1 (fun i => nJ (S.1.2.2 i)) [] S.1.1 = C
  generalize hDq : dd1 (fun i => nJ (S.2.1.2.2 i)) [] S.2.1.1 = D
  have lC : C.length ≤ 48 := by
    have := dd1_len (fun i => nJ (S.1.2.2 i)) [] S.1.1
    rw [hCq] at this; simp only [List.length_nil] at this; omega
  have lD : D.length ≤ 48 := by
    have := dd1_len (fun i => nJ (S.2.1.2.2 i)) [] S.2.1.1
    rw [hDq] at this; simp only [List.length_nil] at this; omega
  refine bl_MC_intro (by decide +kernel) rfl (Nat.le_of_ble_eq_true rfl) ?_
  have L : ∀ i, i ≤ C.length → ∀ u y J1, u = nI i → y = nI (dd2 C D i).length → (∀ z, z ≠ q + 1 → z ≠ q + 2 → z ≠ q + 3 → J1 z = J z) → rowL J1 (q + 1) C → rowL J1 (q + 2) D → rowL J1 (q + 3) (dd2 C D i) → bl_WP G l (d + 2) mX9_products 30 [(5, .int u), (4, .int y), (3, .int (nI D.length)), (2, .int (nI C.length)), (0, .ref q), (1, .ref b)] [] (I, J1, R, K, N) (0, 0) (fun o σ' => o = .inl (some (.int (nI (dd2 C D C.length).length))) ∧ ∃ J', σ' = (I, J', R, K, N) ∧ (∀ z, z ≠ q + 1 → z ≠ q + 2 → z ≠ q + 3 → J' z = J z)) := by
    refine bl_for C.length ?_ (fun i hi ih => ?_)
    · intro u y J1 hu hy hJ rC rD rF; subst hu hy
      refine bl_go oX9_products 80 [30, 46] rfl ?_
      refine ⟨fun h33 => ?_, fun h33 => ?_⟩
      · try simp (disch := omega) only [zI_n, zI_o, zI_lit, zI_neg, zI_add, zI_sub, zI_mul, zI_lt, zI_le, zI_eq, zI_clamp, zI_in, zI_div, zI_rem, lg_lt0, lg_gt0, lg_eq0, lg_le0, lg_ge0, Int.toNat_natCast, ge_iff_le, gt_iff_lt, List.length_cons, List.length_nil, bl_up2_at, bl_up2_nk, bl_up2_nx] at h33
        first
        | (exfalso; omega)
        | (refine ⟨(fun h => by cases h), ?_⟩
           try show _ ∧ _
           try dsimp only [bl_pv]
           exact ⟨rfl, _, rfl, hJ⟩)
      · try simp (disch := omega) only [zI_n, zI_o, zI_lit, zI_neg, zI_add, zI_sub, zI_mul, zI_lt, zI_le, zI_eq, zI_clamp, zI_in, zI_div, zI_rem, lg_lt0, lg_gt0, lg_eq0, lg_le0, lg_ge0, Int.toNat_natCast, ge_iff_le, gt_iff_lt, List.length_cons, List.length_nil, bl_up2_at, bl_up2_nk, bl_up2_nx] at h33
        first
        | (exfalso; omega)
        | (refine ⟨fun h40 => ?_, fun h40 => ?_⟩
           · try simp (disch := omega) only [zI_n, zI_o, zI_lit, zI_neg, zI_add, zI_sub, zI_mul, zI_lt, zI_le, zI_eq, zI_clamp, zI_in, zI_div, zI_rem, lg_lt0, lg_gt0, lg_eq0, lg_le0, lg_ge0, Int.toNat_natCast, ge_iff_le, gt_iff_lt, List.length_cons, List.length_nil, bl_up2_at, bl_up2_nk, bl_up2_nx] at h40
             first
             | (exfalso; omega)
             | (refine ⟨(fun h => by cases h), ?_⟩
                try show _ ∧ _
                try dsimp only [bl_pv]
                exact ⟨rfl, _, rfl, hJ⟩)
           · try simp (disch := omega) only [zI_n, zI_o, zI_lit, zI_neg, zI_add, zI_sub, zI_mul, zI_lt, zI_le, zI_eq, zI_clamp, zI_in, zI_div, zI_rem, lg_lt0, lg_gt0, lg_eq0, lg_le0, lg_ge0, Int.toNat_natCast, ge_iff_le, gt_iff_lt, List.length_cons, List.length_nil, bl_up2_at, bl_up2_nk, bl_up2_nx] at h40
             first
             | (exfalso; omega)
             | (try dsimp only [bl_pv]
                fail /- w46 lv=[6, 5, 4, 3, 2, 0, 1] -/))
    · intro u y J1 hu hy hJ rC rD rF; subst hu
      have eci : (nI i).toNatClampNeg = i := nI_clamp (by omega)
      have l2 := dd2_len C D i
      have L2 : ∀ j, j ≤ D.length → ∀ w y J1, w = nI j → y = nI (dd1 (fun j => C.getD i 0 * D.getD j 0) (dd2 C D i) j).length → (∀ z, z ≠ q + 1 → z ≠ q + 2 → z ≠ q + 3 → J1 z = J z) → rowL J1 (q + 1) C → rowL J1 (q + 2) D → rowL J1 (q + 3) (dd1 (fun j => C.getD i 0 * D.getD j 0) (dd2 C D i) j) → bl_WP G l (d + 2) mX9_products 46 [(6, .int w), (5, .int (nI i)), (4, .int y), (3, .int (nI D.length)), (2, .int (nI C.length)), (0, .ref q), (1, .ref b)] [] (I, J1, R, K, N) (0, 0) (fun o σ' => o = .inl (some (.int (nI (dd2 C D C.length).length))) ∧ ∃ J', σ' = (I, J', R, K, N) ∧ (∀ z, z ≠ q + 1 → z ≠ q + 2 → z ≠ q + 3 → J' z = J z)) := by
        refine bl_for D.length ?_ (fun j hj ih2 => ?_)
        · intro w y J1 hw hy hJ rC rD rF; subst hw
          refine bl_go oX9_products 80 [30, 46] rfl ?_
          refine ⟨fun h49 => ?_, fun h49 => ?_⟩
          · try simp (disch := omega) only [zI_n, zI_o, zI_lit, zI_neg, zI_add, zI_sub, zI_mul, zI_lt, zI_le, zI_eq, zI_clamp, zI_in, zI_div, zI_rem, lg_lt0, lg_gt0, lg_eq0, lg_le0, lg_ge0, Int.toNat_natCast, ge_iff_le, gt_iff_lt, List.length_cons, List.length_nil, bl_up2_at, bl_up2_nk, bl_up2_nx] at h49
            first
            | (exfalso; omega)
            | (refine bl_lv [0, 2, 3, 4, 5, 6] rfl ?_
               try dsimp only [bl_pv]
               exact ih _ _ _ (nI_1 _) hy hJ rC rD rF)
          · try simp (disch := omega) only [zI_n, zI_o, zI_lit, zI_neg, zI_add, zI_sub, zI_mul, zI_lt, zI_le, zI_eq, zI_clamp, zI_in, zI_div, zI_rem, lg_lt0, lg_gt0, lg_eq0, lg_le0, lg_ge0, Int.toNat_natCast, ge_iff_le, gt_iff_lt, List.length_cons, List.length_nil, bl_up2_at, bl_up2_nk, bl_up2_nx] at h49
            first
            | (exfalso; omega)
            | (refine ⟨fun h56 => ?_, fun h56 => ?_⟩
               · try simp (disch := omega) only [zI_n, zI_o, zI_lit, zI_neg, zI_add, zI_sub, zI_mul, zI_lt, zI_le, zI_eq, zI_clamp, zI_in, zI_div, zI_rem, lg_lt0, lg_gt0, lg_eq0, lg_le0, lg_ge0, Int.toNat_natCast, ge_iff_le, gt_iff_lt, List.length_cons, List.length_nil, bl_up2_at, bl_up2_nk, bl_up2_nx] at h56
                 first
                 | (exfalso; omega)
                 | (refine bl_lv [0, 2, 3, 4, 5, 6] rfl ?_
                    try dsimp only [bl_pv]
                    exact ih _ _ _ (nI_1 _) hy hJ rC rD rF)
               · try simp (disch := omega) only [zI_n, zI_o, zI_lit, zI_neg, zI_add, zI_sub, zI_mul, zI_lt, zI_le, zI_eq, zI_clamp, zI_in, zI_div, zI_rem, lg_lt0, lg_gt0, lg_eq0, lg_le0, lg_ge0, Int.toNat_natCast, ge_iff_le, gt_iff_lt, List.length_cons, List.length_nil, bl_up2_at, bl_up2_nk, bl_up2_nx] at h56
                 first
                 | (exfalso; omega)
                 | (refine ⟨kq, _, bl_vs rq_2, kq, _, bl_vs rq_0, kq0, (by first | exact (by rw [nq0]; exact vp_in_nI (by omega) (by omega)) | ((try dsimp only [bl_pv]); show vp_in _ (N _); rw [nq0]; simp (disch := omega) only [zI_n, zI_o, zI_lit, zI_neg, zI_add, zI_sub, zI_mul, zI_lt, zI_le, zI_eq, zI_clamp, zI_in, zI_div, zI_rem, lg_lt0, lg_gt0, lg_eq0, lg_le0, lg_ge0, Int.toNat_natCast, ge_iff_le, gt_iff_lt, List.length_cons, List.length_nil, bl_up2_at, bl_up2_nk, bl_up2_nx] <;> omega)), kq, _, bl_vs rq_1, kq1, (by first | exact (by rw [nq1]; exact vp_in_nI (by omega) (by omega)) | ((try dsimp only [bl_pv]); show vp_in _ (N _); rw [nq1]; simp (disch := omega) only [zI_n, zI_o, zI_lit, zI_neg, zI_add, zI_sub, zI_mul, zI_lt, zI_le, zI_eq, zI_clamp, zI_in, zI_div, zI_rem, lg_lt0, lg_gt0, lg_eq0, lg_le0, lg_ge0, Int.toNat_natCast, ge_iff_le, gt_iff_lt, List.length_cons, List.length_nil, bl_up2_at, bl_up2_nk, bl_up2_nx] <;> omega)), rfl, (Nat.le_of_ble_eq_true rfl), (0, 0), Nat.le_refl _, Nat.le_refl _, ?_⟩
                    fail /- c80: mX9_addOnce -/))
        · intro w y J1 hw hy hJ rC rD rF; subst hw
          have ecj : (nI j).toNatClampNeg = j := nI_clamp (by omega)
          have l3 := dd1_len (fun j => C.getD i 0 * D.getD j 0) (dd2 C D i) j
          have l4 : i * D.length + j < 2304 := by
            have := Nat.mul_le_mul (show i + 1 ≤ 48 by omega) lD
            rw [Nat.succ_mul] at this; omega
          refine bl_go oX9_products 80 [30, 46] rfl ?_
          refine ⟨fun h49 => ?_, fun h49 => ?_⟩
          · try simp (disch := omega) only [zI_n, zI_o, zI_lit, zI_neg, zI_add, zI_sub, zI_mul, zI_lt, zI_le, zI_eq, zI_clamp, zI_in, zI_div, zI_rem, lg_lt0, lg_gt0, lg_eq0, lg_le0, lg_ge0, Int.toNat_natCast, ge_iff_le, gt_iff_lt, List.length_cons, List.length_nil, bl_up2_at, bl_up2_nk, bl_up2_nx] at h49
            first
            | (exfalso; omega)
            | (refine bl_lv [0, 2, 3, 4, 5, 6] rfl ?_
               try dsimp only [bl_pv]
               fail /- w30 lv=[5, 6, 4, 3, 2, 0, 1] -/)
          · try simp (disch := omega) only [zI_n, zI_o, zI_lit, zI_neg, zI_add, zI_sub, zI_mul, zI_lt, zI_le, zI_eq, zI_clamp, zI_in, zI_div, zI_rem, lg_lt0, lg_gt0, lg_eq0, lg_le0, lg_ge0, Int.toNat_natCast, ge_iff_le, gt_iff_lt, List.length_cons, List.length_nil, bl_up2_at, bl_up2_nk, bl_up2_nx] at h49
            first
            | (exfalso; omega)
            | (refine ⟨fun h56 => ?_, fun h56 => ?_⟩
               · try simp (disch := omega) only [zI_n, zI_o, zI_lit, zI_neg, zI_add, zI_sub, zI_mul, zI_lt, zI_le, zI_eq, zI_clamp, zI_in, zI_div, zI_rem, lg_lt0, lg_gt0, lg_eq0, lg_le0, lg_ge0, Int.toNat_natCast, ge_iff_le, gt_iff_lt, List.length_cons, List.length_nil, bl_up2_at, bl_up2_nk, bl_up2_nx] at h56
                 first
                 | (exfalso; omega)
                 | (refine bl_lv [0, 2, 3, 4, 5, 6] rfl ?_
                    try dsimp only [bl_pv]
                    fail /- w30 lv=[5, 6, 4, 3, 2, 0, 1] -/)
               · try simp (disch := omega) only [zI_n, zI_o, zI_lit, zI_neg, zI_add, zI_sub, zI_mul, zI_lt, zI_le, zI_eq, zI_clamp, zI_in, zI_div, zI_rem, lg_lt0, lg_gt0, lg_eq0, lg_le0, lg_ge0, Int.toNat_natCast, ge_iff_le, gt_iff_lt, List.length_cons, List.length_nil, bl_up2_at, bl_up2_nk, bl_up2_nx] at h56
                 first
                 | (exfalso; omega)
                 | (refine ⟨kq, _, bl_vs rq_2, kq, _, bl_vs rq_0, kq0, (by first | exact (by rw [nq0]; exact vp_in_nI (by omega) (by omega)) | ((try dsimp only [bl_pv]); show vp_in _ (N _); rw [nq0]; simp (disch := omega) only [zI_n, zI_o, zI_lit, zI_neg, zI_add, zI_sub, zI_mul, zI_lt, zI_le, zI_eq, zI_clamp, zI_in, zI_div, zI_rem, lg_lt0, lg_gt0, lg_eq0, lg_le0, lg_ge0, Int.toNat_natCast, ge_iff_le, gt_iff_lt, List.length_cons, List.length_nil, bl_up2_at, bl_up2_nk, bl_up2_nx] <;> omega)), kq, _, bl_vs rq_1, kq1, (by first | exact (by rw [nq1]; exact vp_in_nI (by omega) (by omega)) | ((try dsimp only [bl_pv]); show vp_in _ (N _); rw [nq1]; simp (disch := omega) only [zI_n, zI_o, zI_lit, zI_neg, zI_add, zI_sub, zI_mul, zI_lt, zI_le, zI_eq, zI_clamp, zI_in, zI_div, zI_rem, lg_lt0, lg_gt0, lg_eq0, lg_le0, lg_ge0, Int.toNat_natCast, ge_iff_le, gt_iff_lt, List.length_cons, List.length_nil, bl_up2_at, bl_up2_nk, bl_up2_nx] <;> omega)), rfl, (Nat.le_of_ble_eq_true rfl), (0, 0), Nat.le_refl _, Nat.le_refl _, bl_MC_mono (c_Unlike_addOnce (d := d + 1) kq2 nq2 (by omega) rF hy rfl (by omega)) (fun o80 σ80 q80 => ?_)⟩
                    try dsimp only [bl_pv] at q80
                    obtain ⟨rfl, J2, rfl, f2, r2⟩ := q80
                    rw [eci, ecj, rC i hi, rD j hj] at r2
                    refine bl_go oX9_products 80 [30, 46] rfl ?_
                    refine bl_lv [0, 2, 1, 3, 4, 5, 6] rfl ?_
                    try dsimp only [bl_pv]
                    refine ih2 _ _ _ (nI_1 _) ?_ (fun z z1 z2 z3 => (f2 z z3).trans (hJ z z1 z2 z3)) ?_ ?_ r2
                    · rw [eci, ecj, rC i hi, rD j hj]; rfl
                    · intro k hk; rw [f2 (q + 1) (by omega)]; exact rC k hk
                    · intro k hk; rw [f2 (q + 2) (by omega)]; exact rD k hk))
      refine bl_go oX9_products 80 [30, 46] rfl ?_
      refine ⟨fun h33 => ?_, fun h33 => ?_⟩
      · try simp (disch := omega) only [zI_n, zI_o, zI_lit, zI_neg, zI_add, zI_sub, zI_mul, zI_lt, zI_le, zI_eq, zI_clamp, zI_in, zI_div, zI_rem, lg_lt0, lg_gt0, lg_eq0, lg_le0, lg_ge0, Int.toNat_natCast, ge_iff_le, gt_iff_lt, List.length_cons, List.length_nil, bl_up2_at, bl_up2_nk, bl_up2_nx] at h33
        first
        | (exfalso; omega)
        | (refine ⟨(fun h => by cases h), ?_⟩
           try show _ ∧ _
           try dsimp only [bl_pv]
           fail /- ret99 -/)
      · try simp (disch := omega) only [zI_n, zI_o, zI_lit, zI_neg, zI_add, zI_sub, zI_mul, zI_lt, zI_le, zI_eq, zI_clamp, zI_in, zI_div, zI_rem, lg_lt0, lg_gt0, lg_eq0, lg_le0, lg_ge0, Int.toNat_natCast, ge_iff_le, gt_iff_lt, List.length_cons, List.length_nil, bl_up2_at, bl_up2_nk, bl_up2_nx] at h33
        first
        | (exfalso; omega)
        | (refine ⟨fun h40 => ?_, fun h40 => ?_⟩
           · try simp (disch := omega) only [zI_n, zI_o, zI_lit, zI_neg, zI_add, zI_sub, zI_mul, zI_lt, zI_le, zI_eq, zI_clamp, zI_in, zI_div, zI_rem, lg_lt0, lg_gt0, lg_eq0, lg_le0, lg_ge0, Int.toNat_natCast, ge_iff_le, gt_iff_lt, List.length_cons, List.length_nil, bl_up2_at, bl_up2_nk, bl_up2_nx] at h40
             first
             | (exfalso; omega)
             | (refine ⟨(fun h => by cases h), ?_⟩
                try show _ ∧ _
                try dsimp only [bl_pv]
                fail /- ret99 -/)
           · try simp (disch := omega) only [zI_n, zI_o, zI_lit, zI_neg, zI_add, zI_sub, zI_mul, zI_lt, zI_le, zI_eq, zI_clamp, zI_in, zI_div, zI_rem, lg_lt0, lg_gt0, lg_eq0, lg_le0, lg_ge0, Int.toNat_natCast, ge_iff_le, gt_iff_lt, List.length_cons, List.length_nil, bl_up2_at, bl_up2_nk, bl_up2_nx] at h40
             first
             | (exfalso; omega)
             | (try dsimp only [bl_pv]
                exact L2 0 (by omega) _ _ _ rfl hy hJ rC rD rF))
  refine bl_go oX9_products 80 [30, 46] rfl ?_
  refine ⟨kb, _, bl_vs rb_0, kq, _, bl_vs rq_0, rfl, (Nat.le_of_ble_eq_true rfl), (0, 0), Nat.le_refl _, Nat.le_refl _, bl_MC_mono (c_Unlike_distinct (d := d) hA cA kq0 nq0 (by omega)) (fun o8 σ8 q8 => ?_)⟩
  try dsimp only [bl_pv] at q8
  obtain ⟨rfl, J1, rfl, f1, r1⟩ := q8
  rw [hCq] at r1 ⊢
  have cD' : sdC I J1 (2 * b + 1) S.2.1 := cD.same rfl (f1 _ (by omega)) (f1 _ (by omega))
  refine bl_go oX9_products 80 [30, 46] rfl ?_
  refine ⟨kb, _, bl_vs rb_1, kq, _, bl_vs rq_1, rfl, (Nat.le_of_ble_eq_true rfl), (0, 0), Nat.le_refl _, Nat.le_refl _, bl_MC_mono (c_Unlike_distinct (d := d) hD cD' kq1 nq1 (by omega)) (fun o20 σ20 q20 => ?_)⟩
  try dsimp only [bl_pv] at q20
  obtain ⟨rfl, J2, rfl, f2, r2⟩ := q20
  rw [hDq] at r2 ⊢
  refine bl_go oX9_products 80 [30, 46] rfl ?_
  try dsimp only [bl_pv]
  refine L 0 (by omega) _ _ _ rfl rfl (fun z z1 z2 z3 => (f2 z z2).trans (f1 z z1)) ?_ r2 (fun k hk => absurd hk (by simp [dd2]))
  intro k hk; rw [f2 (q + 1) (by omega)]; exact r1 k hk
end UNLIKE
