/-! ===== Slab: what is asked of it ===== -/
def ctf (p : Nat → Bool) : Nat → Nat
  | 0 => 0
  | i + 1 => ctf p i + (if p i then 1 else 0)
def ct2 (p : Nat → Nat → Bool) (h : Nat) : Nat → Nat
  | 0 => 0
  | x + 1 => ct2 p h x + ctf (p x) h
theorem ctf_le (p : Nat → Bool) : ∀ n, ctf p n ≤ n
  | 0 => Nat.le_refl _
  | n + 1 => by
    have := ctf_le p n
    show ctf p n + (if p n then 1 else 0) ≤ n + 1
    split <;> omega
theorem ct2_le (p : Nat → Nat → Bool) (h : Nat) : ∀ n, ct2 p h n ≤ n * h
  | 0 => Nat.zero_le _
  | n + 1 => by
    have := ct2_le p h n; have := ctf_le (p n) h
    show ct2 p h n + ctf (p n) h ≤ (n + 1) * h
    rw [Nat.succ_mul]; omega
section SLAB3
variable {G : bl_G} {l : Launch} {d b : Nat} {I : Nat → Nat → Int32} {J : Nat → Nat → Int64} {R : Nat → Nat → Option Nat} {K N : Nat → Nat}
theorem c_Slab_inside {x y : Nat} {u v : Int32} (hu : u = nI x) (hv : v = nI y) (hx : x < 48) (hy : y < 48) : bl_MC G l d mX7_inside [.int u, .int v] (I, J, R, K, N) (0, 0) (fun o σ' => o = .inl (some (.int 1)) ∧ σ' = (I, J, R, K, N)) := by
  subst hu hv
  refine bl_MC_intro (by decide +kernel) rfl (Nat.le_of_ble_eq_true rfl) ?_
  refine bl_go oX7_inside 80 [] rfl ?_
  refine ⟨fun h1 => ?_, fun h1 => ?_⟩
  · try simp (disch := omega) only [zI_n, zI_o, zI_lit, zI_neg, zI_add, zI_sub, zI_mul, zI_lt, zI_le, zI_eq, zI_clamp, zI_in, zI_div, zI_rem, lg_lt0, lg_gt0, lg_eq0, lg_le0, lg_ge0, Int.toNat_natCast, ge_iff_le, gt_iff_lt, List.length_cons, List.length_nil, bl_up2_at, bl_up2_nk, bl_up2_nx] at h1
    first
    | (exfalso; omega)
    | (refine ⟨(fun _ => by first | exact Or.inl rfl | exact Or.inr rfl), ?_⟩
       try show _ ∧ _
       try dsimp only [bl_pv]
       exact ⟨rfl, rfl⟩)
  · try simp (disch := omega) only [zI_n, zI_o, zI_lit, zI_neg, zI_add, zI_sub, zI_mul, zI_lt, zI_le, zI_eq, zI_clamp, zI_in, zI_div, zI_rem, lg_lt0, lg_gt0, lg_eq0, lg_le0, lg_ge0, Int.toNat_natCast, ge_iff_le, gt_iff_lt, List.length_cons, List.length_nil, bl_up2_at, bl_up2_nk, bl_up2_nx] at h1
    first
    | (exfalso; omega)
    | (refine ⟨fun h7 => ?_, fun h7 => ?_⟩
       · try simp (disch := omega) only [zI_n, zI_o, zI_lit, zI_neg, zI_add, zI_sub, zI_mul, zI_lt, zI_le, zI_eq, zI_clamp, zI_in, zI_div, zI_rem, lg_lt0, lg_gt0, lg_eq0, lg_le0, lg_ge0, Int.toNat_natCast, ge_iff_le, gt_iff_lt, List.length_cons, List.length_nil, bl_up2_at, bl_up2_nk, bl_up2_nx] at h7
         first
         | (exfalso; omega)
         | (refine ⟨(fun _ => by first | exact Or.inl rfl | exact Or.inr rfl), ?_⟩
            try show _ ∧ _
            try dsimp only [bl_pv]
            exact ⟨rfl, rfl⟩)
       · try simp (disch := omega) only [zI_n, zI_o, zI_lit, zI_neg, zI_add, zI_sub, zI_mul, zI_lt, zI_le, zI_eq, zI_clamp, zI_in, zI_div, zI_rem, lg_lt0, lg_gt0, lg_eq0, lg_le0, lg_ge0, Int.toNat_natCast, ge_iff_le, gt_iff_lt, List.length_cons, List.length_nil, bl_up2_at, bl_up2_nk, bl_up2_nx] at h7
         first
         | (exfalso; omega)
         | (refine ⟨fun h11 => ?_, fun h11 => ?_⟩
            · try simp (disch := omega) only [zI_n, zI_o, zI_lit, zI_neg, zI_add, zI_sub, zI_mul, zI_lt, zI_le, zI_eq, zI_clamp, zI_in, zI_div, zI_rem, lg_lt0, lg_gt0, lg_eq0, lg_le0, lg_ge0, Int.toNat_natCast, ge_iff_le, gt_iff_lt, List.length_cons, List.length_nil, bl_up2_at, bl_up2_nk, bl_up2_nx] at h11
              first
              | (exfalso; omega)
              | (refine ⟨(fun _ => by first | exact Or.inl rfl | exact Or.inr rfl), ?_⟩
                 try show _ ∧ _
                 try dsimp only [bl_pv]
                 exact ⟨rfl, rfl⟩)
            · try simp (disch := omega) only [zI_n, zI_o, zI_lit, zI_neg, zI_add, zI_sub, zI_mul, zI_lt, zI_le, zI_eq, zI_clamp, zI_in, zI_div, zI_rem, lg_lt0, lg_gt0, lg_eq0, lg_le0, lg_ge0, Int.toNat_natCast, ge_iff_le, gt_iff_lt, List.length_cons, List.length_nil, bl_up2_at, bl_up2_nk, bl_up2_nx] at h11
              first
              | (exfalso; omega)
              | (refine ⟨fun h17 => ?_, fun h17 => ?_⟩
                 · try simp (disch := omega) only [zI_n, zI_o, zI_lit, zI_neg, zI_add, zI_sub, zI_mul, zI_lt, zI_le, zI_eq, zI_clamp, zI_in, zI_div, zI_rem, lg_lt0, lg_gt0, lg_eq0, lg_le0, lg_ge0, Int.toNat_natCast, ge_iff_le, gt_iff_lt, List.length_cons, List.length_nil, bl_up2_at, bl_up2_nk, bl_up2_nx] at h17
                   first
                   | (exfalso; omega)
                   | (refine ⟨(fun _ => by first | exact Or.inl rfl | exact Or.inr rfl), ?_⟩
                      try show _ ∧ _
                      try dsimp only [bl_pv]
                      exact ⟨rfl, rfl⟩)
                 · try simp (disch := omega) only [zI_n, zI_o, zI_lit, zI_neg, zI_add, zI_sub, zI_mul, zI_lt, zI_le, zI_eq, zI_clamp, zI_in, zI_div, zI_rem, lg_lt0, lg_gt0, lg_eq0, lg_le0, lg_ge0, Int.toNat_natCast, ge_iff_le, gt_iff_lt, List.length_cons, List.length_nil, bl_up2_at, bl_up2_nk, bl_up2_nx] at h17
                   first
                   | (exfalso; omega)
                   | (refine ⟨(fun _ => by first | exact Or.inl rfl | exact Or.inr rfl), ?_⟩
                      try show _ ∧ _
                      try dsimp only [bl_pv]
                      exact ⟨rfl, rfl⟩))))
theorem c_Slab_butterAt {S : sl} {x y : Nat} {u v : Int32} (hs : slS R K N b) (hC : slC I J b S) (hu : u = nI x) (hv : v = nI y) (hx : x < S.1.1) (hy : y < S.2.1.1) : bl_MC G l (d + 1) mX7_butterAt [.ref b, .int u, .int v] (I, J, R, K, N) (0, 0) (fun o σ' => o = .inl (some (.long (nJ (S.1.2.2 x * S.2.1.2.2 y)))) ∧ σ' = (I, J, R, K, N)) := by
  obtain ⟨hr1, kb, rb_0, rb_1, ⟨hrA, kba, rba_0, rba_1, kbap, nbap, kbam, nbam⟩, ⟨hrD, kbd, rbd_0, rbd_1, kbdp, nbdp, kbdm, nbdm⟩⟩ := hs
  obtain ⟨cA, cD, -⟩ := hC
  have cA1 := cA.2.1
  have cD1 := cD.2.1
  subst hu hv
  have ex : (nI x).toNatClampNeg = x := nI_clamp (by omega)
  have ey : (nI y).toNatClampNeg = y := nI_clamp (by omega)
  refine bl_MC_intro (by decide +kernel) rfl (Nat.le_of_ble_eq_true rfl) ?_
  refine bl_go oX7_butterAt 80 [] rfl ?_
  refine ⟨rfl, (Nat.le_of_ble_eq_true rfl), (0, 0), Nat.le_refl _, Nat.le_refl _, bl_MC_mono (c_Slab_inside rfl rfl (by omega) (by omega)) (fun o2 σ2 q2 => ?_)⟩
  try dsimp only [bl_pv] at q2
  obtain ⟨rfl, rfl⟩ := q2
  refine bl_go oX7_butterAt 80 [] rfl ?_
  refine ⟨fun h5 => ?_, fun h5 => ?_⟩
  · try simp (disch := omega) only [zI_n, zI_o, zI_lit, zI_neg, zI_add, zI_sub, zI_mul, zI_lt, zI_le, zI_eq, zI_clamp, zI_in, zI_div, zI_rem, lg_lt0, lg_gt0, lg_eq0, lg_le0, lg_ge0, Int.toNat_natCast, ge_iff_le, gt_iff_lt, List.length_cons, List.length_nil, bl_up2_at, bl_up2_nk, bl_up2_nx] at h5
    first
    | (exfalso; omega)
    | (try show _ ∧ _
       try dsimp only [bl_pv]
       rw [ex, ey, (cA.2.2 x hx).2, (cD.2.2 y hy).2, nJ_mul]; exact ⟨rfl, rfl⟩)
  · try simp (disch := omega) only [zI_n, zI_o, zI_lit, zI_neg, zI_add, zI_sub, zI_mul, zI_lt, zI_le, zI_eq, zI_clamp, zI_in, zI_div, zI_rem, lg_lt0, lg_gt0, lg_eq0, lg_le0, lg_ge0, Int.toNat_natCast, ge_iff_le, gt_iff_lt, List.length_cons, List.length_nil, bl_up2_at, bl_up2_nk, bl_up2_nx] at h5
    first
    | (exfalso; omega)
    | (refine ⟨kb, _, bl_vs rb_0, kba, _, bl_vs rba_1, kbam, (by first | exact (by rw [nbam]; exact vp_in_nI (by omega) (by omega)) | ((try dsimp only [bl_pv]); show vp_in _ (N _); rw [nbam]; simp (disch := omega) only [zI_n, zI_o, zI_lit, zI_neg, zI_add, zI_sub, zI_mul, zI_lt, zI_le, zI_eq, zI_clamp, zI_in, zI_div, zI_rem, lg_lt0, lg_gt0, lg_eq0, lg_le0, lg_ge0, Int.toNat_natCast, ge_iff_le, gt_iff_lt, List.length_cons, List.length_nil, bl_up2_at, bl_up2_nk, bl_up2_nx] <;> omega)), kb, _, bl_vs rb_1, kbd, _, bl_vs rbd_1, kbdm, (by first | exact (by rw [nbdm]; exact vp_in_nI (by omega) (by omega)) | ((try dsimp only [bl_pv]); show vp_in _ (N _); rw [nbdm]; simp (disch := omega) only [zI_n, zI_o, zI_lit, zI_neg, zI_add, zI_sub, zI_mul, zI_lt, zI_le, zI_eq, zI_clamp, zI_in, zI_div, zI_rem, lg_lt0, lg_gt0, lg_eq0, lg_le0, lg_ge0, Int.toNat_natCast, ge_iff_le, gt_iff_lt, List.length_cons, List.length_nil, bl_up2_at, bl_up2_nk, bl_up2_nx] <;> omega)), ?_⟩
       try show _ ∧ _
       try dsimp only [bl_pv]
       rw [ex, ey, (cA.2.2 x hx).2, (cD.2.2 y hy).2, nJ_mul]; exact ⟨rfl, rfl⟩)
theorem c_Slab_sheetsAt {S : sl} {x y : Nat} {u v : Int32} (hs : slS R K N b) (hC : slC I J b S) (hu : u = nI x) (hv : v = nI y) (hx : x < S.1.1) (hy : y < S.2.1.1) : bl_MC G l (d + 1) mX7_sheetsAt [.ref b, .int u, .int v] (I, J, R, K, N) (0, 0) (fun o σ' => o = .inl (some (.long (nJ (S.1.2.1 x * S.2.1.2.1 y)))) ∧ σ' = (I, J, R, K, N)) := by
  obtain ⟨hr1, kb, rb_0, rb_1, ⟨hrA, kba, rba_0, rba_1, kbap, nbap, kbam, nbam⟩, ⟨hrD, kbd, rbd_0, rbd_1, kbdp, nbdp, kbdm, nbdm⟩⟩ := hs
  obtain ⟨cA, cD, -⟩ := hC
  have cA1 := cA.2.1
  have cD1 := cD.2.1
  subst hu hv
  have ex : (nI x).toNatClampNeg = x := nI_clamp (by omega)
  have ey : (nI y).toNatClampNeg = y := nI_clamp (by omega)
  refine bl_MC_intro (by decide +kernel) rfl (Nat.le_of_ble_eq_true rfl) ?_
  refine bl_go oX7_sheetsAt 80 [] rfl ?_
  refine ⟨rfl, (Nat.le_of_ble_eq_true rfl), (0, 0), Nat.le_refl _, Nat.le_refl _, bl_MC_mono (c_Slab_inside rfl rfl (by omega) (by omega)) (fun o2 σ2 q2 => ?_)⟩
  try dsimp only [bl_pv] at q2
  obtain ⟨rfl, rfl⟩ := q2
  refine bl_go oX7_sheetsAt 80 [] rfl ?_
  refine ⟨fun h5 => ?_, fun h5 => ?_⟩
  · try simp (disch := omega) only [zI_n, zI_o, zI_lit, zI_neg, zI_add, zI_sub, zI_mul, zI_lt, zI_le, zI_eq, zI_clamp, zI_in, zI_div, zI_rem, lg_lt0, lg_gt0, lg_eq0, lg_le0, lg_ge0, Int.toNat_natCast, ge_iff_le, gt_iff_lt, List.length_cons, List.length_nil, bl_up2_at, bl_up2_nk, bl_up2_nx] at h5
    first
    | (exfalso; omega)
    | (try show _ ∧ _
       try dsimp only [bl_pv]
       rw [ex, ey, (cA.2.2 x hx).1, (cD.2.2 y hy).1, nJ_mul]; exact ⟨rfl, rfl⟩)
  · try simp (disch := omega) only [zI_n, zI_o, zI_lit, zI_neg, zI_add, zI_sub, zI_mul, zI_lt, zI_le, zI_eq, zI_clamp, zI_in, zI_div, zI_rem, lg_lt0, lg_gt0, lg_eq0, lg_le0, lg_ge0, Int.toNat_natCast, ge_iff_le, gt_iff_lt, List.length_cons, List.length_nil, bl_up2_at, bl_up2_nk, bl_up2_nx] at h5
    first
    | (exfalso; omega)
    | (refine ⟨kb, _, bl_vs rb_0, kba, _, bl_vs rba_0, kbap, (by first | exact (by rw [nbap]; exact vp_in_nI (by omega) (by omega)) | ((try dsimp only [bl_pv]); show vp_in _ (N _); rw [nbap]; simp (disch := omega) only [zI_n, zI_o, zI_lit, zI_neg, zI_add, zI_sub, zI_mul, zI_lt, zI_le, zI_eq, zI_clamp, zI_in, zI_div, zI_rem, lg_lt0, lg_gt0, lg_eq0, lg_le0, lg_ge0, Int.toNat_natCast, ge_iff_le, gt_iff_lt, List.length_cons, List.length_nil, bl_up2_at, bl_up2_nk, bl_up2_nx] <;> omega)), kb, _, bl_vs rb_1, kbd, _, bl_vs rbd_0, kbdp, (by first | exact (by rw [nbdp]; exact vp_in_nI (by omega) (by omega)) | ((try dsimp only [bl_pv]); show vp_in _ (N _); rw [nbdp]; simp (disch := omega) only [zI_n, zI_o, zI_lit, zI_neg, zI_add, zI_sub, zI_mul, zI_lt, zI_le, zI_eq, zI_clamp, zI_in, zI_div, zI_rem, lg_lt0, lg_gt0, lg_eq0, lg_le0, lg_ge0, Int.toNat_natCast, ge_iff_le, gt_iff_lt, List.length_cons, List.length_nil, bl_up2_at, bl_up2_nk, bl_up2_nx] <;> omega)), ?_⟩
       try show _ ∧ _
       try dsimp only [bl_pv]
       rw [ex, ey, (cA.2.2 x hx).1, (cD.2.2 y hy).1, nJ_mul]; exact ⟨rfl, rfl⟩)
theorem c_Slab_mostButter {S : sl} (hs : slS R K N b) (hC : slC I J b S) (hA : ∀ i, i < S.1.1 → S.1.2.2 i < 9223372036854775808) (hD : ∀ i, i < S.2.1.1 → S.2.1.2.2 i < 9223372036854775808) : bl_MC G l (d + 1) mX7_mostButter [.ref b] (I, J, R, K, N) (0, 0) (fun o σ' => o = .inl (some (.long (nJ (mxf S.1.2.2 S.1.1 * mxf S.2.1.2.2 S.2.1.1)))) ∧ σ' = (I, J, R, K, N)) := by
  obtain ⟨hr1, kb, rb_0, rb_1, ⟨hrA, kba, rba_0, rba_1, kbap, nbap, kbam, nbam⟩, ⟨hrD, kbd, rbd_0, rbd_1, kbdp, nbdp, kbdm, nbdm⟩⟩ := hs
  obtain ⟨cA, cD, -⟩ := hC
  refine bl_MC_intro (by decide +kernel) rfl (Nat.le_of_ble_eq_true rfl) ?_
  refine bl_go oX7_mostButter 80 [] rfl ?_
  refine ⟨kb, _, bl_vs rb_0, kb, _, bl_vs rb_0, kba, _, bl_vs rba_1, rfl, rfl, kba, (Nat.le_of_ble_eq_true rfl), (0, 0), Nat.le_refl _, Nat.le_refl _, bl_MC_mono (c_Side_greatest kba cA.1 cA.2.1 kbam nbam (fun i hi => ⟨(cA.2.2 i hi).2, hA i hi⟩)) (fun o11 σ11 q11 => ?_)⟩
  try dsimp only [bl_pv] at q11
  obtain ⟨rfl, rfl⟩ := q11
  refine bl_go oX7_mostButter 80 [] rfl ?_
  refine ⟨kb, _, bl_vs rb_1, kb, _, bl_vs rb_1, kbd, _, bl_vs rbd_1, rfl, rfl, kbd, (Nat.le_of_ble_eq_true rfl), (0, 0), Nat.le_refl _, Nat.le_refl _, bl_MC_mono (c_Side_greatest kbd cD.1 cD.2.1 kbdm nbdm (fun i hi => ⟨(cD.2.2 i hi).2, hD i hi⟩)) (fun o25 σ25 q25 => ?_)⟩
  try dsimp only [bl_pv] at q25
  obtain ⟨rfl, rfl⟩ := q25
  refine bl_go oX7_mostButter 80 [] rfl ?_
  try show _ ∧ _
  try dsimp only [bl_pv]
  rw [nJ_mul]; exact ⟨rfl, rfl⟩
theorem c_Slab_greatestBlock {S : sl} (hs : slS R K N b) (hC : slC I J b S) (hA : ∀ i, i < S.1.1 → S.1.2.2 i < 9223372036854775808) (hD : ∀ i, i < S.2.1.1 → S.2.1.2.2 i < 9223372036854775808) (hmA : mxf S.1.2.2 S.1.1 < 9223372036854775808) (hmD : mxf S.2.1.2.2 S.2.1.1 < 9223372036854775808) : bl_MC G l (d + 1) mX7_greatestBlock [.ref b] (I, J, R, K, N) (0, 0) (fun o σ' => o = .inl (some (.int (nI (if mxf S.1.2.2 S.1.1 = 0 ∨ mxf S.2.1.2.2 S.2.1.1 = 0 then S.1.1 * S.2.1.1 else lgf S.1.2.2 (mxf S.1.2.2 S.1.1) S.1.1 * lgf S.2.1.2.2 (mxf S.2.1.2.2 S.2.1.1) S.2.1.1)))) ∧ σ' = (I, J, R, K, N)) := by
  have hs' := hs
  obtain ⟨hr1, kb, rb_0, rb_1, ⟨hrA, kba, rba_0, rba_1, kbap, nbap, kbam, nbam⟩, ⟨hrD, kbd, rbd_0, rbd_1, kbdp, nbdp, kbdm, nbdm⟩⟩ := hs
  obtain ⟨cA, cD, -⟩ := hC
  have z0 : ∀ m, m < 9223372036854775808 → (nJ m = 0 ↔ m = 0) := fun m hm => nJ_eq (b := 0) hm (by decide)
  have e1 := z0 _ hmA
  have e2 := z0 _ hmD
  refine bl_MC_intro (by decide +kernel) rfl (Nat.le_of_ble_eq_true rfl) ?_
  refine bl_go oX7_greatestBlock 80 [] rfl ?_
  refine ⟨kb, _, bl_vs rb_0, kb, _, bl_vs rb_0, kba, _, bl_vs rba_1, rfl, rfl, kba, (Nat.le_of_ble_eq_true rfl), (0, 0), Nat.le_refl _, Nat.le_refl _, bl_MC_mono (c_Side_greatest kba cA.1 cA.2.1 kbam nbam (fun i hi => ⟨(cA.2.2 i hi).2, hA i hi⟩)) (fun o11 σ11 q11 => ?_)⟩
  try dsimp only [bl_pv] at q11
  obtain ⟨rfl, rfl⟩ := q11
  refine bl_go oX7_greatestBlock 80 [] rfl ?_
  refine ⟨kb, _, bl_vs rb_1, kb, _, bl_vs rb_1, kbd, _, bl_vs rbd_1, rfl, rfl, kbd, (Nat.le_of_ble_eq_true rfl), (0, 0), Nat.le_refl _, Nat.le_refl _, bl_MC_mono (c_Side_greatest kbd cD.1 cD.2.1 kbdm nbdm (fun i hi => ⟨(cD.2.2 i hi).2, hD i hi⟩)) (fun o26 σ26 q26 => ?_)⟩
  try dsimp only [bl_pv] at q26
  obtain ⟨rfl, rfl⟩ := q26
  refine bl_go oX7_greatestBlock 80 [] rfl ?_
  refine ⟨fun h33 => ?_, fun h33 => ?_⟩
  · try simp (disch := omega) only [zI_n, zI_o, zI_lit, zI_neg, zI_add, zI_sub, zI_mul, zI_lt, zI_le, zI_eq, zI_clamp, zI_in, zI_div, zI_rem, lg_lt0, lg_gt0, lg_eq0, lg_le0, lg_ge0, Int.toNat_natCast, ge_iff_le, gt_iff_lt, List.length_cons, List.length_nil, bl_up2_at, bl_up2_nk, bl_up2_nx] at h33
    rw [e1] at h33
    have hz : mxf S.1.2.2 S.1.1 = 0 ∨ mxf S.2.1.2.2 S.2.1.1 = 0 := Or.inl h33
    refine ⟨kb, _, bl_vs rb_0, kba, kb, _, bl_vs rb_1, kbd, (fun h => by cases h), ?_⟩
    try show _ ∧ _
    try dsimp only [bl_pv]
    rw [if_pos hz, cA.1, cD.1, show ∀ a b, nI a * nI b = nI (a * b) from fun a b => (Int32.ofNat_mul a b).symm]; exact ⟨rfl, rfl⟩
  · try simp (disch := omega) only [zI_n, zI_o, zI_lit, zI_neg, zI_add, zI_sub, zI_mul, zI_lt, zI_le, zI_eq, zI_clamp, zI_in, zI_div, zI_rem, lg_lt0, lg_gt0, lg_eq0, lg_le0, lg_ge0, Int.toNat_natCast, ge_iff_le, gt_iff_lt, List.length_cons, List.length_nil, bl_up2_at, bl_up2_nk, bl_up2_nx] at h33
    rw [e1] at h33
    refine ⟨fun h39 => ?_, fun h39 => ?_⟩
    · try simp (disch := omega) only [zI_n, zI_o, zI_lit, zI_neg, zI_add, zI_sub, zI_mul, zI_lt, zI_le, zI_eq, zI_clamp, zI_in, zI_div, zI_rem, lg_lt0, lg_gt0, lg_eq0, lg_le0, lg_ge0, Int.toNat_natCast, ge_iff_le, gt_iff_lt, List.length_cons, List.length_nil, bl_up2_at, bl_up2_nk, bl_up2_nx] at h39
      rw [e2] at h39
      refine ⟨kb, _, bl_vs rb_0, rfl, rfl, kba, (Nat.le_of_ble_eq_true rfl), (0, 0), Nat.le_refl _, Nat.le_refl _, bl_MC_mono (c_Side_longestRow hs'.2.2.2.2.1 cA hmA hA) (fun o63 σ63 q63 => ?_)⟩
      try dsimp only [bl_pv] at q63
      obtain ⟨rfl, rfl⟩ := q63
      refine bl_go oX7_greatestBlock 80 [] rfl ?_
      refine ⟨kb, _, bl_vs rb_1, rfl, rfl, kbd, (Nat.le_of_ble_eq_true rfl), (0, 0), Nat.le_refl _, Nat.le_refl _, bl_MC_mono (c_Side_longestRow hs'.2.2.2.2.2 cD hmD hD) (fun o71 σ71 q71 => ?_)⟩
      try dsimp only [bl_pv] at q71
      obtain ⟨rfl, rfl⟩ := q71
      refine bl_go oX7_greatestBlock 80 [] rfl ?_
      refine ⟨(fun h => by cases h), ?_⟩
      try show _ ∧ _
      try dsimp only [bl_pv]
      rw [if_neg (by omega), show ∀ a b, nI a * nI b = nI (a * b) from fun a b => (Int32.ofNat_mul a b).symm]; exact ⟨rfl, rfl⟩
    · try simp (disch := omega) only [zI_n, zI_o, zI_lit, zI_neg, zI_add, zI_sub, zI_mul, zI_lt, zI_le, zI_eq, zI_clamp, zI_in, zI_div, zI_rem, lg_lt0, lg_gt0, lg_eq0, lg_le0, lg_ge0, Int.toNat_natCast, ge_iff_le, gt_iff_lt, List.length_cons, List.length_nil, bl_up2_at, bl_up2_nk, bl_up2_nx] at h39
      rw [e2] at h39
      have hz : mxf S.1.2.2 S.1.1 = 0 ∨ mxf S.2.1.2.2 S.2.1.1 = 0 := Or.inr h39
      refine ⟨kb, _, bl_vs rb_0, kba, kb, _, bl_vs rb_1, kbd, (fun h => by cases h), ?_⟩
      try show _ ∧ _
      try dsimp only [bl_pv]
      rw [if_pos hz, cA.1, cD.1, show ∀ a b, nI a * nI b = nI (a * b) from fun a b => (Int32.ofNat_mul a b).symm]; exact ⟨rfl, rfl⟩
theorem c_Slab_cellsWith {S : sl} {m : Int64} (hs : slS R K N b) (hC : slC I J b S) : bl_MC G l (d + 2) mX7_cellsWith [.ref b, .long m] (I, J, R, K, N) (0, 0) (fun o σ' => o = .inl (some (.int (nI (ct2 (fun x y => nJ (S.1.2.2 x * S.2.1.2.2 y) == m) S.2.1.1 S.1.1)))) ∧ σ' = (I, J, R, K, N)) := by
  have hs' := hs
  obtain ⟨hr1, kb, rb_0, rb_1, ⟨hrA, kba, rba_0, rba_1, kbap, nbap, kbam, nbam⟩, ⟨hrD, kbd, rbd_0, rbd_1, kbdp, nbdp, kbdm, nbdm⟩⟩ := hs
  have hC' := hC
  obtain ⟨cA, cD, -⟩ := hC
  have cA1 := cA.2.1
  have cD1 := cD.2.1
  refine bl_MC_intro (by decide +kernel) rfl (Nat.le_of_ble_eq_true rfl) ?_
  have L : ∀ x, x ≤ S.1.1 → ∀ u c, u = nI x → c = nI (ct2 (fun x y => nJ (S.1.2.2 x * S.2.1.2.2 y) == m) S.2.1.1 x) → bl_WP G l (d + 2) mX7_cellsWith 5 [(4, .int u), (3, .int c), (0, .ref b), (1, .long m)] [] (I, J, R, K, N) (0, 0) (fun o σ' => o = .inl (some (.int (nI (ct2 (fun x y => nJ (S.1.2.2 x * S.2.1.2.2 y) == m) S.2.1.1 S.1.1)))) ∧ σ' = (I, J, R, K, N)) := by
    refine bl_for S.1.1 ?_ (fun x hx ih => ?_)
    · intro u c hu hc; subst hu hc
      refine bl_go oX7_cellsWith 80 [5, 20] rfl ?_
      refine ⟨kb, _, bl_vs rb_0, kba, fun h14 => ?_, fun h14 => ?_⟩
      · try simp (disch := omega) only [cA.1, zI_n, zI_o, zI_lit, zI_neg, zI_add, zI_sub, zI_mul, zI_lt, zI_le, zI_eq, zI_clamp, zI_in, zI_div, zI_rem, lg_lt0, lg_gt0, lg_eq0, lg_le0, lg_ge0, Int.toNat_natCast, ge_iff_le, gt_iff_lt, List.length_cons, List.length_nil, bl_up2_at, bl_up2_nk, bl_up2_nx] at h14
        refine ⟨(fun h => by cases h), ?_⟩
        try show _ ∧ _
        try dsimp only [bl_pv]
        exact ⟨rfl, rfl⟩
      · try simp (disch := omega) only [cA.1, zI_n, zI_o, zI_lit, zI_neg, zI_add, zI_sub, zI_mul, zI_lt, zI_le, zI_eq, zI_clamp, zI_in, zI_div, zI_rem, lg_lt0, lg_gt0, lg_eq0, lg_le0, lg_ge0, Int.toNat_natCast, ge_iff_le, gt_iff_lt, List.length_cons, List.length_nil, bl_up2_at, bl_up2_nk, bl_up2_nx] at h14
        exfalso; omega
    · intro u c hu hc; subst hu
      have L2 : ∀ y, y ≤ S.2.1.1 → ∀ v c, v = nI y → c = nI (ct2 (fun x y => nJ (S.1.2.2 x * S.2.1.2.2 y) == m) S.2.1.1 x + ctf (fun y => nJ (S.1.2.2 x * S.2.1.2.2 y) == m) y) → bl_WP G l (d + 2) mX7_cellsWith 20 [(5, .int v), (4, .int (nI x)), (3, .int c), (0, .ref b), (1, .long m)] [] (I, J, R, K, N) (0, 0) (fun o σ' => o = .inl (some (.int (nI (ct2 (fun x y => nJ (S.1.2.2 x * S.2.1.2.2 y) == m) S.2.1.1 S.1.1)))) ∧ σ' = (I, J, R, K, N)) := by
        refine bl_for S.2.1.1 ?_ (fun y hy ih2 => ?_)
        · intro v c hv hc; subst hv
          refine bl_go oX7_cellsWith 80 [5, 20] rfl ?_
          refine ⟨kb, _, bl_vs rb_1, kbd, fun h29 => ?_, fun h29 => ?_⟩
          · try simp (disch := omega) only [cD.1, zI_n, zI_o, zI_lit, zI_neg, zI_add, zI_sub, zI_mul, zI_lt, zI_le, zI_eq, zI_clamp, zI_in, zI_div, zI_rem, lg_lt0, lg_gt0, lg_eq0, lg_le0, lg_ge0, Int.toNat_natCast, ge_iff_le, gt_iff_lt, List.length_cons, List.length_nil, bl_up2_at, bl_up2_nk, bl_up2_nx] at h29
            refine bl_lv [0, 2, 3, 4] rfl ?_
            try dsimp only [bl_pv]
            exact ih _ _ (nI_1 _) hc
          · try simp (disch := omega) only [cD.1, zI_n, zI_o, zI_lit, zI_neg, zI_add, zI_sub, zI_mul, zI_lt, zI_le, zI_eq, zI_clamp, zI_in, zI_div, zI_rem, lg_lt0, lg_gt0, lg_eq0, lg_le0, lg_ge0, Int.toNat_natCast, ge_iff_le, gt_iff_lt, List.length_cons, List.length_nil, bl_up2_at, bl_up2_nk, bl_up2_nx] at h29
            exfalso; omega
        · intro v c hv hc; subst hv
          refine bl_go oX7_cellsWith 80 [5, 20] rfl ?_
          refine ⟨kb, _, bl_vs rb_1, kbd, fun h29 => ?_, fun h29 => ?_⟩
          · try simp (disch := omega) only [cD.1, zI_n, zI_o, zI_lit, zI_neg, zI_add, zI_sub, zI_mul, zI_lt, zI_le, zI_eq, zI_clamp, zI_in, zI_div, zI_rem, lg_lt0, lg_gt0, lg_eq0, lg_le0, lg_ge0, Int.toNat_natCast, ge_iff_le, gt_iff_lt, List.length_cons, List.length_nil, bl_up2_at, bl_up2_nk, bl_up2_nx] at h29
            exfalso; omega
          · try simp (disch := omega) only [cD.1, zI_n, zI_o, zI_lit, zI_neg, zI_add, zI_sub, zI_mul, zI_lt, zI_le, zI_eq, zI_clamp, zI_in, zI_div, zI_rem, lg_lt0, lg_gt0, lg_eq0, lg_le0, lg_ge0, Int.toNat_natCast, ge_iff_le, gt_iff_lt, List.length_cons, List.length_nil, bl_up2_at, bl_up2_nk, bl_up2_nx] at h29
            refine ⟨rfl, rfl, kb, (Nat.le_of_ble_eq_true rfl), (0, 0), Nat.le_refl _, Nat.le_refl _, bl_MC_mono (c_Slab_butterAt (d := d) hs' hC' rfl rfl hx hy) (fun o37 σ37 q37 => ?_)⟩
            try dsimp only [bl_pv] at q37
            obtain ⟨rfl, rfl⟩ := q37
            refine bl_go oX7_cellsWith 80 [5, 20] rfl ?_
            refine ⟨fun h42 => ?_, fun h42 => ?_⟩
            · try simp (disch := omega) only [cD.1, zI_n, zI_o, zI_lit, zI_neg, zI_add, zI_sub, zI_mul, zI_lt, zI_le, zI_eq, zI_clamp, zI_in, zI_div, zI_rem, lg_lt0, lg_gt0, lg_eq0, lg_le0, lg_ge0, Int.toNat_natCast, ge_iff_le, gt_iff_lt, List.length_cons, List.length_nil, bl_up2_at, bl_up2_nk, bl_up2_nx] at h42
              try dsimp only [bl_pv]
              refine ih2 _ _ (nI_1 _) ?_
              show _ = nI (_ + (ctf (fun y => nJ (S.1.2.2 x * S.2.1.2.2 y) == m) y + (if (nJ (S.1.2.2 x * S.2.1.2.2 y) == m) then 1 else 0)))
              first
              | rw [if_pos (beq_iff_eq.mpr h42), hc, ← Nat.add_assoc, nI_1]
              | rw [if_neg (fun e => h42 (beq_iff_eq.mp e)), hc, Nat.add_zero]
            · try simp (disch := omega) only [cD.1, zI_n, zI_o, zI_lit, zI_neg, zI_add, zI_sub, zI_mul, zI_lt, zI_le, zI_eq, zI_clamp, zI_in, zI_div, zI_rem, lg_lt0, lg_gt0, lg_eq0, lg_le0, lg_ge0, Int.toNat_natCast, ge_iff_le, gt_iff_lt, List.length_cons, List.length_nil, bl_up2_at, bl_up2_nk, bl_up2_nx] at h42
              refine bl_lv [0, 2, 1, 3, 4] rfl ?_
              try dsimp only [bl_pv]
              refine ih2 _ _ (nI_1 _) ?_
              show _ = nI (_ + (ctf (fun y => nJ (S.1.2.2 x * S.2.1.2.2 y) == m) y + (if (nJ (S.1.2.2 x * S.2.1.2.2 y) == m) then 1 else 0)))
              first
              | rw [if_pos (beq_iff_eq.mpr h42), hc, ← Nat.add_assoc, nI_1]
              | rw [if_neg (fun e => h42 (beq_iff_eq.mp e)), hc, Nat.add_zero]
      refine bl_go oX7_cellsWith 80 [5, 20] rfl ?_
      refine ⟨kb, _, bl_vs rb_0, kba, fun h14 => ?_, fun h14 => ?_⟩
      · try simp (disch := omega) only [cA.1, zI_n, zI_o, zI_lit, zI_neg, zI_add, zI_sub, zI_mul, zI_lt, zI_le, zI_eq, zI_clamp, zI_in, zI_div, zI_rem, lg_lt0, lg_gt0, lg_eq0, lg_le0, lg_ge0, Int.toNat_natCast, ge_iff_le, gt_iff_lt, List.length_cons, List.length_nil, bl_up2_at, bl_up2_nk, bl_up2_nx] at h14
        exfalso; omega
      · try simp (disch := omega) only [cA.1, zI_n, zI_o, zI_lit, zI_neg, zI_add, zI_sub, zI_mul, zI_lt, zI_le, zI_eq, zI_clamp, zI_in, zI_div, zI_rem, lg_lt0, lg_gt0, lg_eq0, lg_le0, lg_ge0, Int.toNat_natCast, ge_iff_le, gt_iff_lt, List.length_cons, List.length_nil, bl_up2_at, bl_up2_nk, bl_up2_nx] at h14
        try dsimp only [bl_pv]
        exact L2 0 (by omega) _ _ rfl hc
  refine bl_go oX7_cellsWith 80 [5, 20] rfl ?_
  try dsimp only [bl_pv]
  exact L 0 (by omega) _ _ rfl rfl
end SLAB3
