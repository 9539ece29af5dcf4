/-! ===== Model: kinds ===== -/
theorem addO_mem {L : List Int64} {x y : Int64} : x ∈ addO L y ↔ x ∈ L ∨ x = y := by
  unfold addO
  by_cases h : y ∈ L
  · rw [if_pos h]
    exact ⟨fun a => Or.inl a, fun a => a.elim id (fun e => e ▸ h)⟩
  · rw [if_neg h, List.mem_append, List.mem_singleton]
theorem addO_nd {L : List Int64} {y : Int64} (h : L.Nodup) : (addO L y).Nodup := by
  unfold addO
  by_cases hy : y ∈ L
  · rw [if_pos hy]; exact h
  · rw [if_neg hy, List.nodup_append]
    refine ⟨h, by simp, fun a ha b hb => ?_⟩
    rw [List.mem_singleton] at hb
    subst hb
    exact fun e => hy (e ▸ ha)
theorem dd1_mem {f : Nat → Int64} {L : List Int64} {x : Int64} : ∀ n, x ∈ dd1 f L n ↔ x ∈ L ∨ ∃ i, i < n ∧ f i = x
  | 0 => ⟨fun h => Or.inl h, fun h => h.elim id (fun ⟨i, hi, _⟩ => absurd hi (by omega))⟩
  | n + 1 => by
    show x ∈ addO (dd1 f L n) (f n) ↔ _
    rw [addO_mem, dd1_mem n]
    constructor
    · rintro ((h | ⟨i, hi, e⟩) | e)
      · exact Or.inl h
      · exact Or.inr ⟨i, by omega, e⟩
      · exact Or.inr ⟨n, by omega, e.symm⟩
    · rintro (h | ⟨i, hi, e⟩)
      · exact Or.inl (Or.inl h)
      · by_cases en : i = n
        · subst en; exact Or.inr e.symm
        · exact Or.inl (Or.inr ⟨i, by omega, e⟩)
theorem dd1_nd {f : Nat → Int64} {L : List Int64} (h : L.Nodup) : ∀ n, (dd1 f L n).Nodup
  | 0 => h
  | n + 1 => addO_nd (dd1_nd h n)
theorem dd2_nd {C D : List Int64} : ∀ n, (dd2 C D n).Nodup
  | 0 => List.nodup_nil
  | n + 1 => dd1_nd (dd2_nd n) _
theorem dd2_mem {C D : List Int64} {x : Int64} : ∀ n, x ∈ dd2 C D n ↔ ∃ i j, i < n ∧ j < D.length ∧ C.getD i 0 * D.getD j 0 = x
  | 0 => ⟨fun h => absurd h (List.not_mem_nil), fun ⟨i, _, hi, _⟩ => absurd hi (by omega)⟩
  | n + 1 => by
    show x ∈ dd1 (fun j => C.getD n 0 * D.getD j 0) (dd2 C D n) D.length ↔ _
    rw [dd1_mem, dd2_mem n]
    constructor
    · rintro (⟨i, j, hi, hj, e⟩ | ⟨j, hj, e⟩)
      · exact ⟨i, j, by omega, hj, e⟩
      · exact ⟨n, j, by omega, hj, e⟩
    · rintro ⟨i, j, hi, hj, e⟩
      by_cases en : i = n
      · subst en; exact Or.inr ⟨j, hj, e⟩
      · exact Or.inl ⟨i, j, by omega, hj, e⟩
theorem getD_mem {L : List Int64} {i : Nat} (h : i < L.length) : L.getD i 0 ∈ L := by
  rw [List.getD_eq_getElem?_getD, List.getElem?_eq_getElem h]; exact List.getElem_mem h
theorem mem_getD {L : List Int64} {x : Int64} (h : x ∈ L) : ∃ i, i < L.length ∧ L.getD i 0 = x := by
  obtain ⟨i, hi, e⟩ := List.mem_iff_getElem.mp h
  exact ⟨i, hi, by rw [List.getD_eq_getElem?_getD, List.getElem?_eq_getElem hi]; exact e⟩
def kdF (S : sl) (a : Nat) : Int64 := nJ (slP S (a % S.1.1) (a / S.1.1))
def kdV (S : sl) : Nat := (dd2 (dd1 (fun i => nJ (S.1.2.2 i)) [] S.1.1) (dd1 (fun i => nJ (S.2.1.2.2 i)) [] S.2.1.1) (dd1 (fun i => nJ (S.1.2.2 i)) [] S.1.1).length).length
theorem kd_eq {S : sl} (hS : slOk S) : (dd1 (kdF S) [] (S.1.1 * S.2.1.1)).length = kdV S := by
  obtain ⟨⟨o0, -⟩, o3, -⟩ := hS
  refine List.Perm.length_eq ((List.perm_ext_iff_of_nodup (dd1_nd List.nodup_nil _) (dd2_nd _)).mpr (fun x => ?_))
  rw [dd1_mem, dd2_mem]
  constructor
  · rintro (h | ⟨a, ha, e⟩)
    · exact absurd h (List.not_mem_nil)
    · have h1 : nJ (S.1.2.2 (a % S.1.1)) ∈ dd1 (fun i => nJ (S.1.2.2 i)) [] S.1.1 := (dd1_mem _).mpr (Or.inr ⟨a % S.1.1, Nat.mod_lt _ o0, rfl⟩)
      have h2 : nJ (S.2.1.2.2 (a / S.1.1)) ∈ dd1 (fun i => nJ (S.2.1.2.2 i)) [] S.2.1.1 := (dd1_mem _).mpr (Or.inr ⟨a / S.1.1, Nat.div_lt_of_lt_mul ha, rfl⟩)
      obtain ⟨i, hi, ei⟩ := mem_getD h1
      obtain ⟨j, hj, ej⟩ := mem_getD h2
      refine ⟨i, j, hi, hj, ?_⟩
      rw [ei, ej, nJ_mul]; exact e
  · rintro ⟨i, j, hi, hj, e⟩
    rcases (dd1_mem _).mp (getD_mem hi) with h | ⟨p, hp, ep⟩
    · exact absurd h (List.not_mem_nil)
    rcases (dd1_mem _).mp (getD_mem hj) with h | ⟨q, hq, eq⟩
    · exact absurd h (List.not_mem_nil)
    refine Or.inr ⟨S.1.1 * q + p, ?_, ?_⟩
    · calc S.1.1 * q + p < S.1.1 * q + S.1.1 := by omega
        _ = S.1.1 * (q + 1) := (Nat.mul_succ _ _).symm
        _ ≤ S.1.1 * S.2.1.1 := Nat.mul_le_mul_left _ hq
    · unfold kdF
      rw [Nat.mul_add_mod, Nat.mod_eq_of_lt hp, Nat.mul_add_div o0, Nat.div_eq_of_lt hp, Nat.add_zero]
      rw [← e, ← ep, ← eq]
      exact (nJ_mul _ _).symm
theorem nI_rem {a b : Nat} (ha : a < 2147483648) (hb : b < 2147483648) : nI a - nI a / nI b * nI b = nI (a % b) := by
  rw [zI_n, zI_n, zI_rem (by omega) (by omega) (by omega) (by omega), zI_n]; congr 1
section MODEL28
variable {G : bl_G} {l : Launch} {d m : Nat} {I : Nat → Nat → Int32} {J : Nat → Nat → Int64} {R : Nat → Nat → Option Nat} {K N : Nat → Nat} {A : aS} {x y w : Int32} {S : sl}
theorem c_Model_areAlike {p q b s b' s' : Nat} {u v : Int32} (hm : mdS R K N m) (hu : u = nI p) (hv : v = nI q) (hp : p < 2304) (hq : q < 2304) (h1 : cO I J m p b s) (h2 : cO I J m q b' s') : bl_MC G l d mX11_areAlike [.ref m, .int u, .int v] (I, J, R, K, N) (0, 0) (fun o σ' => o = .inl (some (.int (if nJ b = nJ b' then 1 else 0))) ∧ σ' = (I, J, R, K, N)) := by
  have km := hm.2.1
  obtain ⟨rm_31, km31, nm31⟩ := hm.f31
  obtain ⟨rm_32, km32, nm32⟩ := hm.f32
  obtain ⟨rm_37, km37, nm37⟩ := hm.f37
  obtain ⟨rm_38, km38, nm38⟩ := hm.f38
  have ep : (nI p).toNatClampNeg = p := nI_clamp (by omega)
  have eq : (nI q).toNatClampNeg = q := nI_clamp (by omega)
  obtain ⟨a1, a2, a3, a4, a5⟩ := h1
  obtain ⟨b1, b2, b3, b4, b5⟩ := h2
  subst hu hv
  refine bl_MC_intro (by decide +kernel) rfl (Nat.le_of_ble_eq_true rfl) ?_
  refine bl_go oX11_areAlike 80 [] rfl ?_
  refine ⟨km, _, bl_vs rm_31, km31, (by first | exact (by rw [nm31]; exact vp_in_nI (by omega) (by omega)) | ((try dsimp only [bl_pv]); show vp_in _ (N _); rw [nm31]; simp (disch := omega) only [zI_n, zI_o, zI_lit, zI_neg, zI_add, zI_sub, zI_mul, zI_lt, zI_le, zI_eq, zI_clamp, zI_in, zI_div, zI_rem, lg_lt0, lg_gt0, lg_eq0, lg_le0, lg_ge0, Int.toNat_natCast, ge_iff_le, gt_iff_lt, List.length_cons, List.length_nil, bl_up2_at, bl_up2_nk, bl_up2_nx] <;> omega)), km, _, bl_vs rm_31, km31, (by first | exact (by rw [nm31]; exact vp_in_nI (by omega) (by omega)) | ((try dsimp only [bl_pv]); show vp_in _ (N _); rw [nm31]; simp (disch := omega) only [zI_n, zI_o, zI_lit, zI_neg, zI_add, zI_sub, zI_mul, zI_lt, zI_le, zI_eq, zI_clamp, zI_in, zI_div, zI_rem, lg_lt0, lg_gt0, lg_eq0, lg_le0, lg_ge0, Int.toNat_natCast, ge_iff_le, gt_iff_lt, List.length_cons, List.length_nil, bl_up2_at, bl_up2_nk, bl_up2_nx] <;> omega)), fun h13 => ?_, fun h13 => ?_⟩
  · try simp (disch := omega) only [bl_pv, cl0, cl1, cl2, cl3, cl4, cl5, cl6, cl7, cl8, cl9, bl_up2_at, bl_up2_nk, bl_up2_nx] at h13
    refine ⟨(fun _ => by first | exact Or.inl rfl | exact Or.inr rfl), ?_⟩
    try show _ ∧ _
    try dsimp only [bl_pv]
    refine ⟨?_, rfl⟩
    rw [ep, eq, a1, b1, lgq_eq0] at h13
    first
    | (rw [ep, eq, a2, b2, lgq_eq0] at h29
       first
       | rw [if_pos h29]
       | rw [if_neg h29])
    | (have hne : ¬ nJ b = nJ b' := fun e => h13 (by rw [← nJ_add b 1, ← nJ_add b' 1, e])
       rw [if_neg hne])
  · try simp (disch := omega) only [bl_pv, cl0, cl1, cl2, cl3, cl4, cl5, cl6, cl7, cl8, cl9, bl_up2_at, bl_up2_nk, bl_up2_nx] at h13
    refine ⟨km, _, bl_vs rm_32, km32, (by first | exact (by rw [nm32]; exact vp_in_nI (by omega) (by omega)) | ((try dsimp only [bl_pv]); show vp_in _ (N _); rw [nm32]; simp (disch := omega) only [zI_n, zI_o, zI_lit, zI_neg, zI_add, zI_sub, zI_mul, zI_lt, zI_le, zI_eq, zI_clamp, zI_in, zI_div, zI_rem, lg_lt0, lg_gt0, lg_eq0, lg_le0, lg_ge0, Int.toNat_natCast, ge_iff_le, gt_iff_lt, List.length_cons, List.length_nil, bl_up2_at, bl_up2_nk, bl_up2_nx] <;> omega)), km, _, bl_vs rm_32, km32, (by first | exact (by rw [nm32]; exact vp_in_nI (by omega) (by omega)) | ((try dsimp only [bl_pv]); show vp_in _ (N _); rw [nm32]; simp (disch := omega) only [zI_n, zI_o, zI_lit, zI_neg, zI_add, zI_sub, zI_mul, zI_lt, zI_le, zI_eq, zI_clamp, zI_in, zI_div, zI_rem, lg_lt0, lg_gt0, lg_eq0, lg_le0, lg_ge0, Int.toNat_natCast, ge_iff_le, gt_iff_lt, List.length_cons, List.length_nil, bl_up2_at, bl_up2_nk, bl_up2_nx] <;> omega)), fun h29 => ?_, fun h29 => ?_⟩
    · try simp (disch := omega) only [bl_pv, cl0, cl1, cl2, cl3, cl4, cl5, cl6, cl7, cl8, cl9, bl_up2_at, bl_up2_nk, bl_up2_nx] at h29
      refine ⟨(fun _ => by first | exact Or.inl rfl | exact Or.inr rfl), ?_⟩
      try show _ ∧ _
      try dsimp only [bl_pv]
      refine ⟨?_, rfl⟩
      rw [ep, eq, a1, b1, lgq_eq0] at h13
      first
      | (rw [ep, eq, a2, b2, lgq_eq0] at h29
         first
         | rw [if_pos h29]
         | rw [if_neg h29])
      | (have hne : ¬ nJ b = nJ b' := fun e => h13 (by rw [← nJ_add b 1, ← nJ_add b' 1, e])
         rw [if_neg hne])
    · try simp (disch := omega) only [bl_pv, cl0, cl1, cl2, cl3, cl4, cl5, cl6, cl7, cl8, cl9, bl_up2_at, bl_up2_nk, bl_up2_nx] at h29
      refine ⟨km, _, bl_vs rm_37, Or.inl ⟨km37, (by first | exact (by rw [nm37]; exact vp_in_nI (by omega) (by omega)) | ((try dsimp only [bl_pv]); show vp_in _ (N _); rw [nm37]; simp (disch := omega) only [zI_n, zI_o, zI_lit, zI_neg, zI_add, zI_sub, zI_mul, zI_lt, zI_le, zI_eq, zI_clamp, zI_in, zI_div, zI_rem, lg_lt0, lg_gt0, lg_eq0, lg_le0, lg_ge0, Int.toNat_natCast, ge_iff_le, gt_iff_lt, List.length_cons, List.length_nil, bl_up2_at, bl_up2_nk, bl_up2_nx] <;> omega)), km, _, bl_vs rm_37, Or.inl ⟨km37, (by first | exact (by rw [nm37]; exact vp_in_nI (by omega) (by omega)) | ((try dsimp only [bl_pv]); show vp_in _ (N _); rw [nm37]; simp (disch := omega) only [zI_n, zI_o, zI_lit, zI_neg, zI_add, zI_sub, zI_mul, zI_lt, zI_le, zI_eq, zI_clamp, zI_in, zI_div, zI_rem, lg_lt0, lg_gt0, lg_eq0, lg_le0, lg_ge0, Int.toNat_natCast, ge_iff_le, gt_iff_lt, List.length_cons, List.length_nil, bl_up2_at, bl_up2_nk, bl_up2_nx] <;> omega)), fun h44 => ?_, fun h44 => ?_⟩⟩⟩
      · try simp (disch := omega) only [bl_pv, cl0, cl1, cl2, cl3, cl4, cl5, cl6, cl7, cl8, cl9, bl_up2_at, bl_up2_nk, bl_up2_nx] at h44
        exact absurd (by rw [ep, eq, a4, b4]) h44
      · try simp (disch := omega) only [bl_pv, cl0, cl1, cl2, cl3, cl4, cl5, cl6, cl7, cl8, cl9, bl_up2_at, bl_up2_nk, bl_up2_nx] at h44
        first
        | (exfalso; first | omega | exact h44 trivial)
        | (refine ⟨km, _, bl_vs rm_38, Or.inl ⟨km38, (by first | exact (by rw [nm38]; exact vp_in_nI (by omega) (by omega)) | ((try dsimp only [bl_pv]); show vp_in _ (N _); rw [nm38]; simp (disch := omega) only [zI_n, zI_o, zI_lit, zI_neg, zI_add, zI_sub, zI_mul, zI_lt, zI_le, zI_eq, zI_clamp, zI_in, zI_div, zI_rem, lg_lt0, lg_gt0, lg_eq0, lg_le0, lg_ge0, Int.toNat_natCast, ge_iff_le, gt_iff_lt, List.length_cons, List.length_nil, bl_up2_at, bl_up2_nk, bl_up2_nx] <;> omega)), km, _, bl_vs rm_38, Or.inl ⟨km38, (by first | exact (by rw [nm38]; exact vp_in_nI (by omega) (by omega)) | ((try dsimp only [bl_pv]); show vp_in _ (N _); rw [nm38]; simp (disch := omega) only [zI_n, zI_o, zI_lit, zI_neg, zI_add, zI_sub, zI_mul, zI_lt, zI_le, zI_eq, zI_clamp, zI_in, zI_div, zI_rem, lg_lt0, lg_gt0, lg_eq0, lg_le0, lg_ge0, Int.toNat_natCast, ge_iff_le, gt_iff_lt, List.length_cons, List.length_nil, bl_up2_at, bl_up2_nk, bl_up2_nx] <;> omega)), fun h59 => ?_, fun h59 => ?_⟩⟩⟩
           · try simp (disch := omega) only [bl_pv, cl0, cl1, cl2, cl3, cl4, cl5, cl6, cl7, cl8, cl9, bl_up2_at, bl_up2_nk, bl_up2_nx] at h59
             exact absurd (by rw [ep, eq, a5, b5]) h59
           · try simp (disch := omega) only [bl_pv, cl0, cl1, cl2, cl3, cl4, cl5, cl6, cl7, cl8, cl9, bl_up2_at, bl_up2_nk, bl_up2_nx] at h59
             first
             | (exfalso; first | omega | exact h59 trivial)
             | (refine ⟨(fun _ => by first | exact Or.inl rfl | exact Or.inr rfl), ?_⟩
                try show _ ∧ _
                try dsimp only [bl_pv]
                refine ⟨?_, rfl⟩
                rw [ep, eq, a1, b1, lgq_eq0] at h13
                first
                | (rw [ep, eq, a2, b2, lgq_eq0] at h29
                   first
                   | rw [if_pos h29]
                   | rw [if_neg h29])
                | (have hne : ¬ nJ b = nJ b' := fun e => h13 (by rw [← nJ_add b 1, ← nJ_add b' 1, e])
                   rw [if_neg hne])))
theorem c_Model_kd16 (hm : mdS R K N m) (hs : msC I J m S.1.1 S.2.1.1 (slP S) (slQ S)) (hS : slOk S) : bl_WP G l (d + 1) mX11_kinds 16 [(0, .ref m), (1, .int x), (2, .int y)] [] (I, J, R, K, N) (0, 0) (fun o σ' => o = .inl (some (.int (nI (kdV S)))) ∧ σ' = (I, J, R, K, N)) := by
  have km := hm.2.1
  have e21 := hs.1
  have e22 := hs.2.1
  have hS' := hS
  obtain ⟨⟨o0, o1⟩, o3, o2⟩ := hS'
  have hT : S.1.1 * S.2.1.1 ≤ 48 * 48 := Nat.mul_le_mul o1 o2
  have eT : I m 21 * I m 22 = nI (S.1.1 * S.2.1.1) := by rw [e21, e22, nI_mulc]
  have hne : ¬ I m 21 = 0 := by rw [e21]; exact fun h => absurd ((nI_eqk (b := 0) (by omega) (by omega)).mp h) (by omega)
  have er : ∀ a, a < 2304 → nI a - nI a / I m 21 * I m 21 = nI (a % S.1.1) := fun a ha => by rw [e21]; exact nI_rem (by omega) (by omega)
  have ed : ∀ a, a < 2304 → nI a / I m 21 = nI (a / S.1.1) := fun a ha => by rw [e21]; exact nI_div (by omega) (by omega)
  have hcell : ∀ a, a < S.1.1 * S.2.1.1 → a % S.1.1 < S.1.1 ∧ a / S.1.1 < S.2.1.1 := fun a ha => ⟨Nat.mod_lt _ o0, Nat.div_lt_of_lt_mul ha⟩
  generalize hTT : S.1.1 * S.2.1.1 = T at *
  have L21 : ∀ a, a ≤ T → ∀ z k, z = nI a → k = nI (dd1 (kdF S) [] a).length → bl_WP G l (d + 1) mX11_kinds 21 [(4, .int z), (3, .int k), (0, .ref m)] [] (I, J, R, K, N) (0, 0) (fun o σ' => o = .inl (some (.int (nI (kdV S)))) ∧ σ' = (I, J, R, K, N)) := by
    refine bl_for T ?_ (fun a ha ih => ?_)
    · intro z k hz hk; subst hz
      refine bl_go oX11_kinds 80 [16, 21, 41, 107] rfl ?_
      refine ⟨km, km, fun h32 => ?_, fun h32 => ?_⟩
      · try simp (disch := omega) only [bl_pv, cl0, cl1, cl2, cl3, cl4, cl5, cl6, cl7, cl8, cl9, bl_up2_at, bl_up2_nk, bl_up2_nx] at h32
        first
        | (exfalso; first | omega | exact h32 trivial)
        | (refine ⟨(fun h => by cases h), ?_⟩
           try show _ ∧ _
           try dsimp only [bl_pv]
           rw [hk, ← hTT, kd_eq hS]; exact ⟨rfl, rfl⟩)
      · try simp (disch := omega) only [bl_pv, cl0, cl1, cl2, cl3, cl4, cl5, cl6, cl7, cl8, cl9, bl_up2_at, bl_up2_nk, bl_up2_nx] at h32
        rw [eT] at h32; exact absurd (Int32.le_refl _) h32
    · intro z k hz hk; subst hz
      have hca := hcell a ha
      have hlen := dd1_len (kdF S) [] a
      have L107 : ∀ v, (v = 1 ∧ ¬ kdF S a ∈ dd1 (kdF S) [] a) ∨ (v = 0 ∧ kdF S a ∈ dd1 (kdF S) [] a) → bl_WP G l (d + 1) mX11_kinds 107 [(5, .int v), (4, .int (nI a)), (3, .int k), (0, .ref m)] [] (I, J, R, K, N) (0, 0) (fun o σ' => o = .inl (some (.int (nI (kdV S)))) ∧ σ' = (I, J, R, K, N)) := by
        intro v hv
        rcases hv with ⟨rfl, hn⟩ | ⟨rfl, hn⟩
        · skip
          refine bl_go oX11_kinds 80 [16, 21, 41, 107] rfl ?_
          refine ⟨fun h110 => ?_, fun h110 => ?_⟩
          · try simp (disch := omega) only [bl_pv, cl0, cl1, cl2, cl3, cl4, cl5, cl6, cl7, cl8, cl9, bl_up2_at, bl_up2_nk, bl_up2_nx] at h110
            (first | exact absurd rfl h110 | exact absurd trivial h110 | exact absurd h110 (by decide))
          · try simp (disch := omega) only [bl_pv, cl0, cl1, cl2, cl3, cl4, cl5, cl6, cl7, cl8, cl9, bl_up2_at, bl_up2_nk, bl_up2_nx] at h110
            first
            | (exfalso; first | omega | exact h110 trivial)
            | (refine bl_lv [0, 1, 3] rfl ?_
               try dsimp only [bl_pv]
               refine ih _ _ (nI_1 _) ?_
               rw [hk]
               show _ = nI (addO (dd1 (kdF S) [] a) (kdF S a)).length
               unfold addO
               rw [if_neg hn, List.length_append, List.length_singleton]; exact nI_1 _)
        · skip
          refine bl_go oX11_kinds 80 [16, 21, 41, 107] rfl ?_
          refine ⟨fun h110 => ?_, fun h110 => ?_⟩
          · try simp (disch := omega) only [bl_pv, cl0, cl1, cl2, cl3, cl4, cl5, cl6, cl7, cl8, cl9, bl_up2_at, bl_up2_nk, bl_up2_nx] at h110
            first
            | (exfalso; first | omega | exact h110 trivial)
            | (refine bl_lv [0, 1, 3] rfl ?_
               try dsimp only [bl_pv]
               refine ih _ _ (nI_1 _) ?_
               rw [hk]
               show _ = nI (addO (dd1 (kdF S) [] a) (kdF S a)).length
               unfold addO
               rw [if_pos hn]; exact Int32.add_zero _)
          · try simp (disch := omega) only [bl_pv, cl0, cl1, cl2, cl3, cl4, cl5, cl6, cl7, cl8, cl9, bl_up2_at, bl_up2_nk, bl_up2_nx] at h110
            (first | exact absurd rfl h110 | exact absurd trivial h110 | exact absurd h110 (by decide))
      have L41 : ∀ j, j ≤ a → ∀ z, z = nI j → (∀ b, b < j → ¬ kdF S b = kdF S a) → bl_WP G l (d + 1) mX11_kinds 41 [(6, .int z), (5, .int 1), (4, .int (nI a)), (3, .int k), (0, .ref m)] [] (I, J, R, K, N) (0, 0) (fun o σ' => o = .inl (some (.int (nI (kdV S)))) ∧ σ' = (I, J, R, K, N)) := by
        refine bl_for a ?_ (fun j hj ih2 => ?_)
        · intro z hz hn; subst hz
          refine bl_go oX11_kinds 80 [16, 21, 41, 107] rfl ?_
          refine ⟨fun h45 => ?_, fun h45 => ?_⟩
          · try simp (disch := omega) only [zI_n, zI_o, zI_lit, zI_neg, zI_add, zI_sub, zI_mul, zI_lt, zI_le, zI_eq, zI_clamp, zI_in, zI_div, zI_rem, lg_lt0, lg_gt0, lg_eq0, lg_le0, lg_ge0, Int.toNat_natCast, ge_iff_le, gt_iff_lt, List.length_cons, List.length_nil, bl_up2_at, bl_up2_nk, bl_up2_nx] at h45
            refine bl_lv [1, 2, 3, 4] rfl ?_
            try dsimp only [bl_pv]
            refine L107 _ (Or.inl ⟨rfl, fun h => ?_⟩)
            rcases (dd1_mem _).mp h with h | ⟨b, hb, e⟩
            · exact absurd h (List.not_mem_nil)
            · exact hn b hb e
          · try simp (disch := omega) only [zI_n, zI_o, zI_lit, zI_neg, zI_add, zI_sub, zI_mul, zI_lt, zI_le, zI_eq, zI_clamp, zI_in, zI_div, zI_rem, lg_lt0, lg_gt0, lg_eq0, lg_le0, lg_ge0, Int.toNat_natCast, ge_iff_le, gt_iff_lt, List.length_cons, List.length_nil, bl_up2_at, bl_up2_nk, bl_up2_nx] at h45
            exfalso; omega
        · intro z hz hn; subst hz
          have hcj := hcell j (by omega)
          by_cases he : kdF S j = kdF S a
          · have he' : nJ (slP S (a % S.1.1) (a / S.1.1)) = nJ (slP S (j % S.1.1) (j / S.1.1)) := he.symm
            have L41x : ∀ z, z = nI (j + 1) → bl_WP G l (d + 1) mX11_kinds 41 [(6, .int z), (5, .int 0), (4, .int (nI a)), (3, .int k), (0, .ref m)] [] (I, J, R, K, N) (0, 0) (fun o σ' => o = .inl (some (.int (nI (kdV S)))) ∧ σ' = (I, J, R, K, N)) := by
              intro z hz; subst hz
              have hmem : kdF S a ∈ dd1 (kdF S) [] a := (dd1_mem _).mpr (Or.inr ⟨j, hj, he⟩)
              refine bl_go oX11_kinds 80 [16, 21, 41, 107] rfl ?_
              refine ⟨fun h45 => ?_, fun h45 => ?_⟩
              · try simp (disch := omega) only [zI_n, zI_o, zI_lit, zI_neg, zI_add, zI_sub, zI_mul, zI_lt, zI_le, zI_eq, zI_clamp, zI_in, zI_div, zI_rem, lg_lt0, lg_gt0, lg_eq0, lg_le0, lg_ge0, Int.toNat_natCast, ge_iff_le, gt_iff_lt, List.length_cons, List.length_nil, bl_up2_at, bl_up2_nk, bl_up2_nx] at h45
                refine bl_lv [1, 2, 3, 4] rfl ?_
                try dsimp only [bl_pv]
                exact L107 _ (Or.inr ⟨rfl, hmem⟩)
              · try simp (disch := omega) only [zI_n, zI_o, zI_lit, zI_neg, zI_add, zI_sub, zI_mul, zI_lt, zI_le, zI_eq, zI_clamp, zI_in, zI_div, zI_rem, lg_lt0, lg_gt0, lg_eq0, lg_le0, lg_ge0, Int.toNat_natCast, ge_iff_le, gt_iff_lt, List.length_cons, List.length_nil, bl_up2_at, bl_up2_nk, bl_up2_nx] at h45
                refine ⟨fun h50 => ?_, fun h50 => ?_⟩
                · try simp (disch := omega) only [bl_pv, cl0, cl1, cl2, cl3, cl4, cl5, cl6, cl7, cl8, cl9, bl_up2_at, bl_up2_nk, bl_up2_nx] at h50
                  first
                  | (exfalso; first | omega | exact h50 trivial)
                  | (refine bl_lv [1, 2, 3, 4] rfl ?_
                     try dsimp only [bl_pv]
                     exact L107 _ (Or.inr ⟨rfl, hmem⟩))
                · try simp (disch := omega) only [bl_pv, cl0, cl1, cl2, cl3, cl4, cl5, cl6, cl7, cl8, cl9, bl_up2_at, bl_up2_nk, bl_up2_nx] at h50
                  (first | exact absurd rfl h50 | exact absurd trivial h50 | exact absurd h50 (by decide))
            refine bl_go oX11_kinds 80 [16, 21, 41, 107] rfl ?_
            refine ⟨fun h45 => ?_, fun h45 => ?_⟩
            · try simp (disch := omega) only [zI_n, zI_o, zI_lit, zI_neg, zI_add, zI_sub, zI_mul, zI_lt, zI_le, zI_eq, zI_clamp, zI_in, zI_div, zI_rem, lg_lt0, lg_gt0, lg_eq0, lg_le0, lg_ge0, Int.toNat_natCast, ge_iff_le, gt_iff_lt, List.length_cons, List.length_nil, bl_up2_at, bl_up2_nk, bl_up2_nx] at h45
              exfalso; omega
            · try simp (disch := omega) only [zI_n, zI_o, zI_lit, zI_neg, zI_add, zI_sub, zI_mul, zI_lt, zI_le, zI_eq, zI_clamp, zI_in, zI_div, zI_rem, lg_lt0, lg_gt0, lg_eq0, lg_le0, lg_ge0, Int.toNat_natCast, ge_iff_le, gt_iff_lt, List.length_cons, List.length_nil, bl_up2_at, bl_up2_nk, bl_up2_nx] at h45
              refine ⟨fun h50 => ?_, fun h50 => ?_⟩
              · try simp (disch := omega) only [bl_pv, cl0, cl1, cl2, cl3, cl4, cl5, cl6, cl7, cl8, cl9, bl_up2_at, bl_up2_nk, bl_up2_nx] at h50
                (first | exact absurd rfl h50 | exact absurd trivial h50 | exact absurd h50 (by decide))
              · try simp (disch := omega) only [bl_pv, cl0, cl1, cl2, cl3, cl4, cl5, cl6, cl7, cl8, cl9, bl_up2_at, bl_up2_nk, bl_up2_nx] at h50
                first
                | (exfalso; first | omega | exact h50 trivial)
                | (refine ⟨km, (by exact hne), km, (by exact hne), rfl, (Nat.le_of_ble_eq_true rfl), (0, 0), Nat.le_of_ble_eq_true rfl, Nat.le_of_ble_eq_true rfl, bl_MC_mono (c_Model_cell (d := d) (x := a % S.1.1) (y := a / S.1.1) (er a (by omega)) (ed a (by omega))) (fun o68 σ68 q68 => ?_)⟩
                   try dsimp only [bl_pv] at q68
                   obtain ⟨rfl, rfl⟩ := q68
                   refine bl_go oX11_kinds 80 [16, 21, 41, 107] rfl ?_
                   refine ⟨km, (by exact hne), km, (by exact hne), rfl, (Nat.le_of_ble_eq_true rfl), (0, 0), Nat.le_of_ble_eq_true rfl, Nat.le_of_ble_eq_true rfl, bl_MC_mono (c_Model_cell (d := d) (x := j % S.1.1) (y := j / S.1.1) (er j (by omega)) (ed j (by omega))) (fun o85 σ85 q85 => ?_)⟩
                   try dsimp only [bl_pv] at q85
                   obtain ⟨rfl, rfl⟩ := q85
                   refine bl_go oX11_kinds 80 [16, 21, 41, 107] rfl ?_
                   refine ⟨rfl, rfl, km, (Nat.le_of_ble_eq_true rfl), (0, 0), Nat.le_of_ble_eq_true rfl, Nat.le_of_ble_eq_true rfl, bl_MC_mono (c_Model_areAlike (d := d) hm rfl rfl (by omega) (by omega) (hs.2.2 _ _ hca.1 hca.2) (hs.2.2 _ _ hcj.1 hcj.2)) (fun o88 σ88 q88 => ?_)⟩
                   try dsimp only [bl_pv] at q88
                   obtain ⟨rfl, rfl⟩ := q88
                   rw [if_pos he']
                   refine bl_go oX11_kinds 80 [16, 21, 41, 107] rfl ?_
                   refine ⟨fun h91 => ?_, fun h91 => ?_⟩
                   · try simp (disch := omega) only [bl_pv, cl0, cl1, cl2, cl3, cl4, cl5, cl6, cl7, cl8, cl9, bl_up2_at, bl_up2_nk, bl_up2_nx] at h91
                     first
                     | (exfalso; first | omega | exact h91 trivial)
                     | (try dsimp only [bl_pv]
                        exact L41x _ (nI_1 _))
                   · try simp (disch := omega) only [bl_pv, cl0, cl1, cl2, cl3, cl4, cl5, cl6, cl7, cl8, cl9, bl_up2_at, bl_up2_nk, bl_up2_nx] at h91
                     (first | exact absurd rfl h91 | exact absurd trivial h91 | exact absurd h91 (by decide)))
          · have he' : ¬ nJ (slP S (a % S.1.1) (a / S.1.1)) = nJ (slP S (j % S.1.1) (j / S.1.1)) := fun h => he h.symm
            refine bl_go oX11_kinds 80 [16, 21, 41, 107] rfl ?_
            refine ⟨fun h45 => ?_, fun h45 => ?_⟩
            · try simp (disch := omega) only [zI_n, zI_o, zI_lit, zI_neg, zI_add, zI_sub, zI_mul, zI_lt, zI_le, zI_eq, zI_clamp, zI_in, zI_div, zI_rem, lg_lt0, lg_gt0, lg_eq0, lg_le0, lg_ge0, Int.toNat_natCast, ge_iff_le, gt_iff_lt, List.length_cons, List.length_nil, bl_up2_at, bl_up2_nk, bl_up2_nx] at h45
              exfalso; omega
            · try simp (disch := omega) only [zI_n, zI_o, zI_lit, zI_neg, zI_add, zI_sub, zI_mul, zI_lt, zI_le, zI_eq, zI_clamp, zI_in, zI_div, zI_rem, lg_lt0, lg_gt0, lg_eq0, lg_le0, lg_ge0, Int.toNat_natCast, ge_iff_le, gt_iff_lt, List.length_cons, List.length_nil, bl_up2_at, bl_up2_nk, bl_up2_nx] at h45
              refine ⟨fun h50 => ?_, fun h50 => ?_⟩
              · try simp (disch := omega) only [bl_pv, cl0, cl1, cl2, cl3, cl4, cl5, cl6, cl7, cl8, cl9, bl_up2_at, bl_up2_nk, bl_up2_nx] at h50
                (first | exact absurd rfl h50 | exact absurd trivial h50 | exact absurd h50 (by decide))
              · try simp (disch := omega) only [bl_pv, cl0, cl1, cl2, cl3, cl4, cl5, cl6, cl7, cl8, cl9, bl_up2_at, bl_up2_nk, bl_up2_nx] at h50
                first
                | (exfalso; first | omega | exact h50 trivial)
                | (refine ⟨km, (by exact hne), km, (by exact hne), rfl, (Nat.le_of_ble_eq_true rfl), (0, 0), Nat.le_of_ble_eq_true rfl, Nat.le_of_ble_eq_true rfl, bl_MC_mono (c_Model_cell (d := d) (x := a % S.1.1) (y := a / S.1.1) (er a (by omega)) (ed a (by omega))) (fun o68 σ68 q68 => ?_)⟩
                   try dsimp only [bl_pv] at q68
                   obtain ⟨rfl, rfl⟩ := q68
                   refine bl_go oX11_kinds 80 [16, 21, 41, 107] rfl ?_
                   refine ⟨km, (by exact hne), km, (by exact hne), rfl, (Nat.le_of_ble_eq_true rfl), (0, 0), Nat.le_of_ble_eq_true rfl, Nat.le_of_ble_eq_true rfl, bl_MC_mono (c_Model_cell (d := d) (x := j % S.1.1) (y := j / S.1.1) (er j (by omega)) (ed j (by omega))) (fun o85 σ85 q85 => ?_)⟩
                   try dsimp only [bl_pv] at q85
                   obtain ⟨rfl, rfl⟩ := q85
                   refine bl_go oX11_kinds 80 [16, 21, 41, 107] rfl ?_
                   refine ⟨rfl, rfl, km, (Nat.le_of_ble_eq_true rfl), (0, 0), Nat.le_of_ble_eq_true rfl, Nat.le_of_ble_eq_true rfl, bl_MC_mono (c_Model_areAlike (d := d) hm rfl rfl (by omega) (by omega) (hs.2.2 _ _ hca.1 hca.2) (hs.2.2 _ _ hcj.1 hcj.2)) (fun o88 σ88 q88 => ?_)⟩
                   try dsimp only [bl_pv] at q88
                   obtain ⟨rfl, rfl⟩ := q88
                   rw [if_neg he']
                   refine bl_go oX11_kinds 80 [16, 21, 41, 107] rfl ?_
                   refine ⟨fun h91 => ?_, fun h91 => ?_⟩
                   · try simp (disch := omega) only [bl_pv, cl0, cl1, cl2, cl3, cl4, cl5, cl6, cl7, cl8, cl9, bl_up2_at, bl_up2_nk, bl_up2_nx] at h91
                     (first | exact absurd rfl h91 | exact absurd trivial h91 | exact absurd h91 (by decide))
                   · try simp (disch := omega) only [bl_pv, cl0, cl1, cl2, cl3, cl4, cl5, cl6, cl7, cl8, cl9, bl_up2_at, bl_up2_nk, bl_up2_nx] at h91
                     first
                     | (exfalso; first | omega | exact h91 trivial)
                     | (try dsimp only [bl_pv]
                        refine ih2 _ (nI_1 _) (fun b hb => ?_)
                        by_cases eb : b = j
                        · subst eb; exact he
                        · exact hn b (by omega)))
      refine bl_go oX11_kinds 80 [16, 21, 41, 107] rfl ?_
      refine ⟨km, km, fun h32 => ?_, fun h32 => ?_⟩
      · try simp (disch := omega) only [bl_pv, cl0, cl1, cl2, cl3, cl4, cl5, cl6, cl7, cl8, cl9, bl_up2_at, bl_up2_nk, bl_up2_nx] at h32
        rw [eT] at h32; exact absurd h32 (by rw [Int32.not_le]; exact (nI_ltk (by omega) (by omega)).mpr ha)
      · try simp (disch := omega) only [bl_pv, cl0, cl1, cl2, cl3, cl4, cl5, cl6, cl7, cl8, cl9, bl_up2_at, bl_up2_nk, bl_up2_nx] at h32
        first
        | (exfalso; first | omega | exact h32 trivial)
        | (try dsimp only [bl_pv]
           exact L41 0 (by omega) _ rfl (fun b hb => absurd hb (by omega)))
  refine bl_go oX11_kinds 80 [16, 21, 41, 107] rfl ?_
  refine bl_lv [0, 1, 2] rfl ?_
  try dsimp only [bl_pv]
  exact L21 0 (by omega) _ _ rfl rfl
theorem c_Model_kinds (hm : mdS R K N m) (hK : mdK I m A) : bl_MC G l (d + 7) mX11_kinds [.ref m, .int x, .int y] (I, J, R, K, N) (0, 0) (fun o σ' => ∃ I' J' v, σ' = (I', J', R, K, N) ∧ gtG I I' J J' m ∧ I' m 0 = nI (askE A x y) ∧ o = .inl (some (.int v)) ∧ (askE A x y = 0 → v = nI (kdV (aSl A (rn x) (rn y))))) := by
  have km := hm.2.1
  have hK0 : mdK (bl_up2 I m 0 0) m A := hK.G (J := J) (J' := J) gtG.up
  by_cases hE : askE A x y = 0
  · skip
    refine bl_MC_intro (by decide +kernel) rfl (Nat.le_of_ble_eq_true rfl) ?_
    refine bl_go oX11_kinds 80 [16] rfl ?_
    refine ⟨km, Or.inr (Or.inr ⟨rfl, rfl, _, rfl⟩), (fun h => by cases h), rfl, rfl, km, (Nat.le_of_ble_eq_true rfl), (0, 0), Nat.le_of_ble_eq_true rfl, Nat.le_of_ble_eq_true rfl, bl_MC_mono (c_Model_asks (d := d) hm hK0 bl_up2_at) (fun o8 σ8 q8 => ?_)⟩
    try dsimp only [bl_pv] at q8
    obtain ⟨I1, J1, rfl, f1, f2, rfl, f3⟩ := q8
    have f4 := f3 hE
    have f5 := gtG.trans gtG.up f1
    rw [if_pos hE]
    refine bl_go oX11_kinds 80 [16] rfl ?_
    refine ⟨fun h11 => ?_, fun h11 => ?_⟩
    · try simp (disch := omega) only [bl_pv, cl0, cl1, cl2, cl3, cl4, cl5, cl6, cl7, cl8, cl9, bl_up2_at, bl_up2_nk, bl_up2_nx] at h11
      first
      | (exfalso; first | omega | exact h11 trivial)
      | (try dsimp only [bl_pv]
         refine bl_WP_mono (c_Model_kd16 (d := d + 6) (S := aSl A (rn x) (rn y)) hm f4.1.1 (askE_ok hK hE)) (fun o σ' q => ?_)
         obtain ⟨rfl, rfl⟩ := q
         exact ⟨I1, J1, _, rfl, f5, f2, rfl, fun _ => rfl⟩)
    · try simp (disch := omega) only [bl_pv, cl0, cl1, cl2, cl3, cl4, cl5, cl6, cl7, cl8, cl9, bl_up2_at, bl_up2_nk, bl_up2_nx] at h11
      (first | exact absurd rfl h11 | exact absurd trivial h11 | exact absurd h11 (by decide))
  · skip
    refine bl_MC_intro (by decide +kernel) rfl (Nat.le_of_ble_eq_true rfl) ?_
    refine bl_go oX11_kinds 80 [16] rfl ?_
    refine ⟨km, Or.inr (Or.inr ⟨rfl, rfl, _, rfl⟩), (fun h => by cases h), rfl, rfl, km, (Nat.le_of_ble_eq_true rfl), (0, 0), Nat.le_of_ble_eq_true rfl, Nat.le_of_ble_eq_true rfl, bl_MC_mono (c_Model_asks (d := d) hm hK0 bl_up2_at) (fun o8 σ8 q8 => ?_)⟩
    try dsimp only [bl_pv] at q8
    obtain ⟨I1, J1, rfl, f1, f2, rfl, f3⟩ := q8
    rw [if_neg hE]
    refine bl_go oX11_kinds 80 [16] rfl ?_
    refine ⟨fun h11 => ?_, fun h11 => ?_⟩
    · try simp (disch := omega) only [bl_pv, cl0, cl1, cl2, cl3, cl4, cl5, cl6, cl7, cl8, cl9, bl_up2_at, bl_up2_nk, bl_up2_nx] at h11
      first
      | (exfalso; first | omega | exact h11 trivial)
      | (try dsimp only [bl_pv]
         (first | exact absurd rfl h11 | exact absurd trivial h11 | exact absurd h11 (by decide)))
    · try simp (disch := omega) only [bl_pv, cl0, cl1, cl2, cl3, cl4, cl5, cl6, cl7, cl8, cl9, bl_up2_at, bl_up2_nk, bl_up2_nx] at h11
      first
      | (exfalso; first | omega | exact h11 trivial)
      | (refine ⟨(fun h => by cases h), ?_⟩
         try show _ ∧ _
         try dsimp only [bl_pv]
         exact ⟨I1, J1, _, rfl, gtG.trans gtG.up f1, f2, rfl, fun h => absurd h hE⟩)
end MODEL28
