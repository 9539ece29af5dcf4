/-! ===== Model: bench, turnOf ===== -/
theorem wrc_seg {D : bD} {r : Nat} : ∀ m, m ≤ D.2.1 r → wrc D r m = seg (D.2.2.1 r) (D.2.1 r - m) m
  | 0, _ => rfl
  | m + 1, h => by
    show D.2.2.1 r (D.2.1 r - (m + 1)) + wrc D r m = smf (fun i => D.2.2.1 r (D.2.1 r - (m + 1) + i)) (m + 1)
    rw [smf_head, wrc_seg m (by omega)]
    unfold seg
    rw [Nat.add_zero]
    congr 1
    refine smf_congr m (fun i _ => ?_)
    rw [show D.2.1 r - (m + 1) + (i + 1) = D.2.1 r - m + i by omega]
theorem wrc_all {D : bD} {r : Nat} : wrc D r (D.2.1 r) = smf (D.2.2.1 r) (D.2.1 r) := by
  rw [wrc_seg _ (Nat.le_refl _), Nat.sub_self, seg_0]
theorem bWork_sum (n : Nat) (rcs : Nat → sq) : bWork n rcs = smf (fun r => smf ((bdD n rcs).2.2.1 r) ((bdD n rcs).2.1 r)) n := by
  unfold bWork wlb
  exact smf_congr n (fun r _ => wrc_all)
def bhE (w : Int32) : Nat := if wb 2 w then 0 else 1
def bhV (n : Nat) (rcs : Nat → sq) (w : Int32) : Int32 := if 12 < bTot n rcs then zI (-1) else if w = 0 then nI (bBest n rcs).1 else if w = 1 then nI (bTot n rcs) else nI (bBest n rcs).2.1 - nI (bWork n rcs)
def toV (n : Nat) (rcs : Nat → sq) (x : Int32) : Int32 := if 12 < bTot n rcs then zI (-1) else if rb (bTot n rcs) x then 1000 * (bBest n rcs).2.2.1 (rn x) + (bBest n rcs).2.2.2 (rn x) else zI (-1)
section MODEL32
variable {G : bl_G} {l : Launch} {d m : Nat} {I : Nat → Nat → Int32} {J : Nat → Nat → Int64} {R : Nat → Nat → Option Nat} {K N : Nat → Nat} {A : aS} {x w : Int32}
theorem c_Model_findBench (hm : mdS R K N m) (hK : mdK I m A) (hV : ∀ r, sqV (A.2.2.2.1 r)) : bl_MC G l (d + 13) mX11_findBench [.ref m] (I, J, R, K, N) (0, 0) (fun o σ' => ∃ I', σ' = (I', J, R, K, N) ∧ bhF I I' m ∧ I' m 60 = nI (bTot A.2.2.1 A.2.2.2.1) ∧ (bTot A.2.2.1 A.2.2.2.1) ≤ 80 ∧ ((12 < (bTot A.2.2.1 A.2.2.2.1) ∧ o = .inl (some (.int 0))) ∨ (¬ 12 < (bTot A.2.2.1 A.2.2.2.1) ∧ o = .inl (some (.int 1)) ∧ bmD I' m (bdD A.2.2.1 A.2.2.2.1) (bTot A.2.2.1 A.2.2.2.1) ∧ bmB I' m (bTot A.2.2.1 A.2.2.2.1) (bBest A.2.2.1 A.2.2.2.1)))) := by
  have km := hm.2.1
  obtain ⟨rm_52, km52, nm52⟩ := hm.f52
  obtain ⟨rm_54, km54, nm54⟩ := hm.f54
  obtain ⟨rm_55, km55, nm55⟩ := hm.f55
  have hDs : bDs (bdD A.2.2.1 A.2.2.2.1) := bdD_s hV
  have hc := hK.2.2.1.1
  have hc4 := hK.2.2.1.2.1
  have hT80 : (bTot A.2.2.1 A.2.2.2.1) ≤ 80 := by
    have h1 : ∀ r, (bdD A.2.2.1 A.2.2.2.1).2.1 r ≤ 20 := fun r => by
      have := (bkD_K (hV r)).1; have := (hV r).1
      show (bkD (A.2.2.2.1 r)).1 ≤ 20
      omega
    have h2 : (bTot A.2.2.1 A.2.2.2.1) ≤ smf (fun _ => 20) A.2.2.1 := smf_le (fun r _ => h1 r)
    rw [smf_const] at h2; omega
  refine bl_MC_intro (by decide +kernel) rfl (Nat.le_of_ble_eq_true rfl) ?_
  have L29 : ¬ 12 < (bTot A.2.2.1 A.2.2.2.1) → ∀ r, r ≤ A.2.2.1 → ∀ z I1, z = nI r → bhF I I1 m → bmD I1 m (bdD A.2.2.1 A.2.2.2.1) (bTot A.2.2.1 A.2.2.2.1) → I1 m 61 = nI 1000000 → I1 m 62 = nI 0 → (∀ j, j < r → I1 (m + 54) j = nI 0 ∧ I1 (m + 55) j = nI ((bdD A.2.2.1 A.2.2.2.1).2.2.2 j 0)) → bl_WP G l (d + 13) mX11_findBench 29 [(1, .int z), (0, .ref m)] [] (I1, J, R, K, N) (0, 0) (fun o σ' => ∃ I', σ' = (I', J, R, K, N) ∧ bhF I I' m ∧ I' m 60 = nI (bTot A.2.2.1 A.2.2.2.1) ∧ (bTot A.2.2.1 A.2.2.2.1) ≤ 80 ∧ ((12 < (bTot A.2.2.1 A.2.2.2.1) ∧ o = .inl (some (.int 0))) ∨ (¬ 12 < (bTot A.2.2.1 A.2.2.2.1) ∧ o = .inl (some (.int 1)) ∧ bmD I' m (bdD A.2.2.1 A.2.2.2.1) (bTot A.2.2.1 A.2.2.2.1) ∧ bmB I' m (bTot A.2.2.1 A.2.2.2.1) (bBest A.2.2.1 A.2.2.2.1)))) := by
    intro hT12
    refine bl_for A.2.2.1 ?_ (fun r hr ih => ?_)
    · intro z I1 hz f1 f2 f3 f4 f5; subst hz
      have e13 : I1 m 13 = nI A.2.2.1 := f2.1
      have hok : bOk (bdD A.2.2.1 A.2.2.2.1) (bTot A.2.2.1 A.2.2.2.1) (bs0 (bdD A.2.2.1 A.2.2.2.1)) := bOk_0
      have hsm : bSm (bdD A.2.2.1 A.2.2.2.1) (bTot A.2.2.1 A.2.2.2.1) (bs0 (bdD A.2.2.1 A.2.2.2.1)) := bSm_0 hDs (by omega)
      have hPN := c_Model_tries (G := G) (l := l) (J := J) (d := d + 12 - (bTot A.2.2.1 A.2.2.2.1)) (T := (bTot A.2.2.1 A.2.2.2.1)) hm hDs (bTot A.2.2.1 A.2.2.2.1) 0 (bs0 (bdD A.2.2.1 A.2.2.2.1)) (fun _ => 0) (fun _ => 0) (1000000, 0, I1 (m + 58), I1 (m + 59)) I1 0 0 (Nat.zero_add _) hok hsm ⟨f2, f5, fun i hi => absurd hi (Nat.not_lt_zero _), f3, f4, fun _ _ => ⟨rfl, rfl⟩⟩ (Nat.le_refl _) rfl rfl
      rw [show d + 12 - bTot A.2.2.1 A.2.2.2.1 + bTot A.2.2.1 A.2.2.2.1 = d + 12 by omega] at hPN
      refine bl_go oX11_findBench 80 [29] rfl ?_
      refine ⟨km, fun h34 => ?_, fun h34 => ?_⟩
      · try simp (disch := omega) only [e13, zI_n, zI_o, zI_lit, zI_neg, zI_add, zI_sub, zI_mul, zI_lt, zI_le, zI_eq, zI_clamp, zI_in, zI_div, zI_rem, lg_lt0, lg_gt0, lg_eq0, lg_le0, lg_ge0, Int.toNat_natCast, ge_iff_le, gt_iff_lt, List.length_cons, List.length_nil, bl_up2_at, bl_up2_nk, bl_up2_nx] at h34
        refine ⟨rfl, rfl, km, (Nat.le_of_ble_eq_true rfl), (0, 0), Nat.le_of_ble_eq_true rfl, Nat.le_of_ble_eq_true rfl, bl_MC_mono (hPN) (fun o67 σ67 q67 => ?_)⟩
        try dsimp only [bl_pv] at q67
        obtain ⟨rfl, I2, rfl, h1, h2⟩ := q67
        refine bl_go oX11_findBench 80 [29] rfl ?_
        refine ⟨(fun _ => by first | exact Or.inl rfl | exact Or.inr rfl), ?_⟩
        try show _ ∧ _
        try dsimp only [bl_pv]
        have e : srch (bdD A.2.2.1 A.2.2.2.1) (bTot A.2.2.1 A.2.2.2.1) 0 (bs0 (bdD A.2.2.1 A.2.2.2.1)) (fun _ => 0) (fun _ => 0) (1000000, 0, I1 (m + 58), I1 (m + 59)) = (bBest A.2.2.1 A.2.2.2.1) := by
          have hmn := mnb_sm hDs _ _ hok hsm
          refine srch_q _ _ _ _ _ _ _ ?_ ?_ ?_ ?_
          · show _ < 1000000; omega
          · show _ < 1000000; omega
          · show 1000000 ≤ 1000000000; omega
          · show 1000000 ≤ 1000000000; omega
        rw [e] at h2
        refine ⟨I2, rfl, ⟨fun x x1 x2 => (h1.1 x x1 (by omega)).trans (f1.1 x x1 x2), fun j hj => (h1.2 j (by omega) (by omega)).trans (f1.2 j hj)⟩, h2.1.2.2.1, hT80, Or.inr ⟨hT12, rfl, h2.1, h2.2.2.2⟩⟩
      · try simp (disch := omega) only [e13, zI_n, zI_o, zI_lit, zI_neg, zI_add, zI_sub, zI_mul, zI_lt, zI_le, zI_eq, zI_clamp, zI_in, zI_div, zI_rem, lg_lt0, lg_gt0, lg_eq0, lg_le0, lg_ge0, Int.toNat_natCast, ge_iff_le, gt_iff_lt, List.length_cons, List.length_nil, bl_up2_at, bl_up2_nk, bl_up2_nx] at h34
        exfalso; first | omega | exact h34 trivial
    · intro z I1 hz f1 f2 f3 f4 f5; subst hz
      have e13 : I1 m 13 = nI A.2.2.1 := f2.1
      have ecr : (nI r).toNatClampNeg = r := nI_clamp (by omega)
      obtain ⟨rmr, kmr, nmr⟩ := hm.g52 r (by omega)
      have hz0 := (f2.2.2.2.2 r hr).2.2.2 0 (Nat.zero_le _)
      refine bl_go oX11_findBench 80 [29] rfl ?_
      refine ⟨km, fun h34 => ?_, fun h34 => ?_⟩
      · try simp (disch := omega) only [e13, zI_n, zI_o, zI_lit, zI_neg, zI_add, zI_sub, zI_mul, zI_lt, zI_le, zI_eq, zI_clamp, zI_in, zI_div, zI_rem, lg_lt0, lg_gt0, lg_eq0, lg_le0, lg_ge0, Int.toNat_natCast, ge_iff_le, gt_iff_lt, List.length_cons, List.length_nil, bl_up2_at, bl_up2_nk, bl_up2_nx] at h34
        exfalso; first | omega | exact h34 trivial
      · try simp (disch := omega) only [e13, zI_n, zI_o, zI_lit, zI_neg, zI_add, zI_sub, zI_mul, zI_lt, zI_le, zI_eq, zI_clamp, zI_in, zI_div, zI_rem, lg_lt0, lg_gt0, lg_eq0, lg_le0, lg_ge0, Int.toNat_natCast, ge_iff_le, gt_iff_lt, List.length_cons, List.length_nil, bl_up2_at, bl_up2_nk, bl_up2_nx] at h34
        refine ⟨km, _, bl_vs rm_54, km54, (by first | exact (by rw [nm54]; exact vp_in_nI (by omega) (by omega)) | ((try dsimp only [bl_pv]); show vp_in _ (N _); rw [nm54]; simp (disch := omega) only [e13, zI_n, zI_o, zI_lit, zI_neg, zI_add, zI_sub, zI_mul, zI_lt, zI_le, zI_eq, zI_clamp, zI_in, zI_div, zI_rem, lg_lt0, lg_gt0, lg_eq0, lg_le0, lg_ge0, Int.toNat_natCast, ge_iff_le, gt_iff_lt, List.length_cons, List.length_nil, bl_up2_at, bl_up2_nk, bl_up2_nx] <;> omega)), km, _, bl_vs rm_55, km, _, bl_vs rm_52, bl_ka km52, (by first | exact (by rw [nm52]; exact vp_in_nI (by omega) (by omega)) | ((try dsimp only [bl_pv]); show vp_in _ (N _); rw [nm52]; simp (disch := omega) only [e13, zI_n, zI_o, zI_lit, zI_neg, zI_add, zI_sub, zI_mul, zI_lt, zI_le, zI_eq, zI_clamp, zI_in, zI_div, zI_rem, lg_lt0, lg_gt0, lg_eq0, lg_le0, lg_ge0, Int.toNat_natCast, ge_iff_le, gt_iff_lt, List.length_cons, List.length_nil, bl_up2_at, bl_up2_nk, bl_up2_nx] <;> omega)), _, bl_vs (by dsimp only [bl_pv]; rw [ecr]; exact rmr), Or.inl ⟨kmr, (by (try dsimp only [bl_pv]); rw [nmr]; exact vp_in_nI (n := 0) (by omega) (by omega)), km55, (by first | exact (by rw [nm55]; exact vp_in_nI (by omega) (by omega)) | ((try dsimp only [bl_pv]); show vp_in _ (N _); rw [nm55]; simp (disch := omega) only [e13, zI_n, zI_o, zI_lit, zI_neg, zI_add, zI_sub, zI_mul, zI_lt, zI_le, zI_eq, zI_clamp, zI_in, zI_div, zI_rem, lg_lt0, lg_gt0, lg_eq0, lg_le0, lg_ge0, Int.toNat_natCast, ge_iff_le, gt_iff_lt, List.length_cons, List.length_nil, bl_up2_at, bl_up2_nk, bl_up2_nx] <;> omega)), ?_⟩⟩
        try dsimp only [bl_pv]
        rw [ecr, cl0, bl_up2_nx (show m + 130 + r ≠ m + 54 by omega), hz0]
        refine ih _ _ (nI_1 _) ⟨fun x x1 x2 => ?_, fun j j1 => ?_⟩ (f2.f ⟨fun x x1 x2 => ?_, fun j j1 j2 => ?_⟩) ?_ ?_ (fun j hj => ?_)
        · simp (disch := omega) only [bl_up2_ne]; exact f1.1 x x1 x2
        · simp (disch := omega) only [bl_up2_nx]; exact f1.2 j j1
        · simp (disch := omega) only [bl_up2_ne]
        · simp (disch := omega) only [bl_up2_nx]
        · simp (disch := omega) only [bl_up2_nx]; exact f3
        · simp (disch := omega) only [bl_up2_nx]; exact f4
        · by_cases ej : j = r
          · subst ej
            rw [bl_up2_nx (show m + 54 ≠ m + 55 by omega), bl_up2_at, bl_up2_at]; exact ⟨rfl, rfl⟩
          · simp (disch := omega) only [bl_up2_nk, bl_up2_nx]; exact f5 j (by omega)
  refine bl_go oX11_findBench 80 [29] rfl ?_
  refine ⟨rfl, rfl, km, (Nat.le_of_ble_eq_true rfl), (0, 0), Nat.le_of_ble_eq_true rfl, Nat.le_of_ble_eq_true rfl, bl_MC_mono (c_Model_layBlocks (d := d + 11) (A := A) hm hK.2.2.1) (fun o1 σ1 q1 => ?_)⟩
  try dsimp only [bl_pv] at q1
  obtain ⟨rfl, I1, rfl, g1, g2, g3, g4, g5⟩ := q1
  refine bl_go oX11_findBench 80 [29] rfl ?_
  refine ⟨km, fun h10 => ?_, fun h10 => ?_⟩
  · try simp (disch := omega) only [g2, zI_n, zI_o, zI_lit, zI_neg, zI_add, zI_sub, zI_mul, zI_lt, zI_le, zI_eq, zI_clamp, zI_in, zI_div, zI_rem, lg_lt0, lg_gt0, lg_eq0, lg_le0, lg_ge0, Int.toNat_natCast, ge_iff_le, gt_iff_lt, List.length_cons, List.length_nil, bl_up2_at, bl_up2_nk, bl_up2_nx] at h10
    refine ⟨km, Or.inr (Or.inr ⟨rfl, rfl, _, rfl⟩), (fun h => by cases h), km, Or.inr (Or.inr ⟨rfl, rfl, _, rfl⟩), (fun h => by cases h), ?_⟩
    try dsimp only [bl_pv]
    have hT12 : ¬ 12 < (bTot A.2.2.1 A.2.2.2.1) := by omega
    refine L29 hT12 0 (by omega) _ _ rfl ⟨fun x x1 x2 => ?_, fun j j1 => ?_⟩ ⟨?_, hc4, ?_, by omega, fun r hr => ?_⟩ ?_ ?_ (fun j hj => absurd hj (by omega))
    · rw [bl_up2_ne x1, bl_up2_ne x1]; exact g1.1 x x1 x2
    · rw [bl_up2_nk (by omega), bl_up2_nk (by omega)]; exact g1.2 j j1
    · rw [bl_up2_nk (by omega), bl_up2_nk (by omega), g3 13 (by omega)]; exact hc
    · rw [bl_up2_nk (by omega), bl_up2_nk (by omega)]; exact g2
    · unfold bmR
      simp (disch := omega) only [bl_up2_nx]
      exact g5 r hr
    · rw [bl_up2_nk (by omega), bl_up2_at]; rfl
    · rw [bl_up2_at]; rfl
  · try simp (disch := omega) only [g2, zI_n, zI_o, zI_lit, zI_neg, zI_add, zI_sub, zI_mul, zI_lt, zI_le, zI_eq, zI_clamp, zI_in, zI_div, zI_rem, lg_lt0, lg_gt0, lg_eq0, lg_le0, lg_ge0, Int.toNat_natCast, ge_iff_le, gt_iff_lt, List.length_cons, List.length_nil, bl_up2_at, bl_up2_nk, bl_up2_nx] at h10
    refine ⟨(fun _ => by first | exact Or.inl rfl | exact Or.inr rfl), ?_⟩
    try show _ ∧ _
    try dsimp only [bl_pv]
    refine ⟨I1, rfl, g1, g2, hT80, Or.inl ⟨?_, rfl⟩⟩
    omega
theorem c_Model_bench (hm : mdS R K N m) (hK : mdK I m A) (hV : ∀ r, sqV (A.2.2.2.1 r)) : bl_MC G l (d + 14) mX11_bench [.ref m, .int w] (I, J, R, K, N) (0, 0) (fun o σ' => ∃ I' v, σ' = (I', J, R, K, N) ∧ (∀ y, y ≠ m → (y < m + 53 ∨ (m + 59 < y ∧ y < m + 120) ∨ m + 134 ≤ y) → I' y = I y) ∧ (∀ j, j ≠ 0 → j < 60 → I' m j = I m j) ∧ I' m 0 = nI (bhE w) ∧ o = .inl (some (.int v)) ∧ (bhE w = 0 → v = bhV A.2.2.1 A.2.2.2.1 w)) := by
  have km := hm.2.1
  obtain ⟨rm_51, km51, nm51⟩ := hm.f51
  obtain ⟨rm_53, km53, nm53⟩ := hm.f53
  have hK0 : mdK (bl_up2 I m 0 0) m A := hK.G (J := J) (J' := J) gtG.up
  have hc4 := hK.2.2.1.2.1
  by_cases hw : 0 ≤ w ∧ w ≤ 2
  · have hE : bhE w = 0 := by unfold bhE; rw [if_pos (wb_t hw)]
    obtain ⟨v, hv, rfl⟩ := i32_nat (b := 2) (by omega) hw.1 hw.2
    by_cases hT : 12 < (bTot A.2.2.1 A.2.2.2.1)
    · skip
      refine bl_MC_intro (by decide +kernel) rfl (Nat.le_of_ble_eq_true rfl) ?_
      refine bl_go oX11_bench 80 [38] rfl ?_
      refine ⟨km, Or.inr (Or.inr ⟨rfl, rfl, _, rfl⟩), (fun h => by cases h), rfl, (Nat.le_of_ble_eq_true rfl), (0, 0), Nat.le_of_ble_eq_true rfl, Nat.le_of_ble_eq_true rfl, bl_MC_mono (c_Model_inT (d := d + 13) hw) (fun o9 σ9 q9 => ?_)⟩
      try dsimp only [bl_pv] at q9
      obtain ⟨rfl, rfl⟩ := q9
      refine bl_go oX11_bench 80 [38] rfl ?_
      refine ⟨fun h12 => ?_, fun h12 => ?_⟩
      · try simp (disch := omega) only [bl_pv, cl0, cl1, cl2, cl3, cl4, cl5, cl6, cl7, cl8, cl9, bl_up2_at, bl_up2_nk, bl_up2_nx] at h12
        first
        | (exfalso; first | omega | exact h12 trivial)
        | (refine ⟨rfl, rfl, km, (Nat.le_of_ble_eq_true rfl), (0, 0), Nat.le_of_ble_eq_true rfl, Nat.le_of_ble_eq_true rfl, bl_MC_mono (c_Model_badF (d := d + 13) km bl_up2_at) (fun o21 σ21 q21 => ?_)⟩
           try dsimp only [bl_pv] at q21
           obtain ⟨rfl, rfl⟩ := q21
           refine bl_go oX11_bench 80 [38] rfl ?_
           refine ⟨fun h24 => ?_, fun h24 => ?_⟩
           · try simp (disch := omega) only [bl_pv, cl0, cl1, cl2, cl3, cl4, cl5, cl6, cl7, cl8, cl9, bl_up2_at, bl_up2_nk, bl_up2_nx] at h24
             first
             | (exfalso; first | omega | exact h24 trivial)
             | (refine ⟨rfl, rfl, km, (Nat.le_of_ble_eq_true rfl), (0, 0), Nat.le_of_ble_eq_true rfl, Nat.le_of_ble_eq_true rfl, bl_MC_mono (c_Model_findBench (d := d) hm hK0 hV) (fun o30 σ30 q30 => ?_)⟩
                try dsimp only [bl_pv] at q30
                obtain ⟨I1, rfl, f1, f2, f6, q30⟩ := q30
                have q30' := (q30.resolve_right (fun h => h.1 hT)).2
                subst q30'
                refine bl_go oX11_bench 80 [38] rfl ?_
                refine ⟨fun h33 => ?_, fun h33 => ?_⟩
                · try simp (disch := omega) only [bl_pv, cl0, cl1, cl2, cl3, cl4, cl5, cl6, cl7, cl8, cl9, bl_up2_at, bl_up2_nk, bl_up2_nx] at h33
                  first
                  | (exfalso; first | omega | exact h33 trivial)
                  | (try dsimp only [bl_pv]
                     (first | exact absurd rfl h33 | exact absurd trivial h33 | exact absurd h33 (by decide)))
                · try simp (disch := omega) only [bl_pv, cl0, cl1, cl2, cl3, cl4, cl5, cl6, cl7, cl8, cl9, bl_up2_at, bl_up2_nk, bl_up2_nx] at h33
                  first
                  | (exfalso; first | omega | exact h33 trivial)
                  | (refine ⟨(fun h => by cases h), ?_⟩
                     try show _ ∧ _
                     try dsimp only [bl_pv]
                     refine ⟨I1, _, rfl, fun y y1 y2 => ?_, fun j j1 j2 => ?_, ?_, rfl, fun _ => ?_⟩
                     · rw [f1.1 y y1 y2, bl_up2_ne y1]
                     · rw [f1.2 j j2, bl_up2_nk j1]
                     · rw [hE, f1.2 0 (by omega)]; exact bl_up2_at
                     · unfold bhV; rw [if_pos hT]; rfl))
           · try simp (disch := omega) only [bl_pv, cl0, cl1, cl2, cl3, cl4, cl5, cl6, cl7, cl8, cl9, bl_up2_at, bl_up2_nk, bl_up2_nx] at h24
             (first | exact absurd rfl h24 | exact absurd trivial h24 | exact absurd h24 (by decide)))
      · try simp (disch := omega) only [bl_pv, cl0, cl1, cl2, cl3, cl4, cl5, cl6, cl7, cl8, cl9, bl_up2_at, bl_up2_nk, bl_up2_nx] at h12
        (first | exact absurd rfl h12 | exact absurd trivial h12 | exact absurd h12 (by decide))
    · have hsum := bWork_sum A.2.2.1 A.2.2.2.1
      refine bl_MC_intro (by decide +kernel) rfl (Nat.le_of_ble_eq_true rfl) ?_
      have L38 : ∀ I1, bhF (bl_up2 I m 0 0) I1 m → bmD I1 m (bdD A.2.2.1 A.2.2.2.1) (bTot A.2.2.1 A.2.2.2.1) → bmB I1 m (bTot A.2.2.1 A.2.2.2.1) (bBest A.2.2.1 A.2.2.2.1) → bl_WP G l (d + 14) mX11_bench 38 [(0, .ref m), (1, .int (nI v))] [] (I1, J, R, K, N) (0, 0) (fun o σ' => ∃ I' v_1, σ' = (I', J, R, K, N) ∧ (∀ y, y ≠ m → (y < m + 53 ∨ (m + 59 < y ∧ y < m + 120) ∨ m + 134 ≤ y) → I' y = I y) ∧ (∀ j, j ≠ 0 → j < 60 → I' m j = I m j) ∧ I' m 0 = nI (bhE (nI v)) ∧ o = .inl (some (.int v_1)) ∧ (bhE (nI v) = 0 → v_1 = bhV A.2.2.1 A.2.2.2.1 (nI v))) := by
        intro I1 f1 f2 f3
        have e13 : I1 m 13 = nI A.2.2.1 := f2.1
        have L42 : ∀ r, r ≤ A.2.2.1 → ∀ z k, z = nI r → k = nI (smf (fun r => smf ((bdD A.2.2.1 A.2.2.2.1).2.2.1 r) ((bdD A.2.2.1 A.2.2.2.1).2.1 r)) r) → bl_WP G l (d + 14) mX11_bench 42 [(3, .int z), (2, .int k), (0, .ref m), (1, .int (nI v))] [] (I1, J, R, K, N) (0, 0) (fun o σ' => ∃ I' v_1, σ' = (I', J, R, K, N) ∧ (∀ y, y ≠ m → (y < m + 53 ∨ (m + 59 < y ∧ y < m + 120) ∨ m + 134 ≤ y) → I' y = I y) ∧ (∀ j, j ≠ 0 → j < 60 → I' m j = I m j) ∧ I' m 0 = nI (bhE (nI v)) ∧ o = .inl (some (.int v_1)) ∧ (bhE (nI v) = 0 → v_1 = bhV A.2.2.1 A.2.2.2.1 (nI v))) := by
          refine bl_for A.2.2.1 ?_ (fun r hr ih => ?_)
          · intro z k hz hk; subst hz
            rw [← hsum] at hk
            refine bl_go oX11_bench 80 [38, 42, 53] rfl ?_
            refine ⟨km, fun h47 => ?_, fun h47 => ?_⟩
            · try simp (disch := omega) only [e13, zI_n, zI_o, zI_lit, zI_neg, zI_add, zI_sub, zI_mul, zI_lt, zI_le, zI_eq, zI_clamp, zI_in, zI_div, zI_rem, lg_lt0, lg_gt0, lg_eq0, lg_le0, lg_ge0, Int.toNat_natCast, ge_iff_le, gt_iff_lt, List.length_cons, List.length_nil, bl_up2_at, bl_up2_nk, bl_up2_nx] at h47
              refine ⟨fun h89 => ?_, fun h89 => ?_⟩
              · try simp (disch := omega) only [e13, zI_n, zI_o, zI_lit, zI_neg, zI_add, zI_sub, zI_mul, zI_lt, zI_le, zI_eq, zI_clamp, zI_in, zI_div, zI_rem, lg_lt0, lg_gt0, lg_eq0, lg_le0, lg_ge0, Int.toNat_natCast, ge_iff_le, gt_iff_lt, List.length_cons, List.length_nil, bl_up2_at, bl_up2_nk, bl_up2_nx] at h89
                first
                | (exfalso; first | omega | exact h89 trivial)
                | (refine ⟨fun h101 => ?_, fun h101 => ?_⟩
                   · try simp (disch := omega) only [e13, zI_n, zI_o, zI_lit, zI_neg, zI_add, zI_sub, zI_mul, zI_lt, zI_le, zI_eq, zI_clamp, zI_in, zI_div, zI_rem, lg_lt0, lg_gt0, lg_eq0, lg_le0, lg_ge0, Int.toNat_natCast, ge_iff_le, gt_iff_lt, List.length_cons, List.length_nil, bl_up2_at, bl_up2_nk, bl_up2_nx] at h101
                     first
                     | (exfalso; first | omega | exact h101 trivial)
                     | (refine ⟨km, (fun h => by cases h), ?_⟩
                        try show _ ∧ _
                        try dsimp only [bl_pv]
                        refine ⟨I1, _, rfl, fun y y1 y2 => ?_, fun j j1 j2 => ?_, ?_, rfl, fun _ => ?_⟩
                        · rw [f1.1 y y1 y2, bl_up2_ne y1]
                        · rw [f1.2 j j2, bl_up2_nk j1]
                        · rw [hE, f1.2 0 (by omega)]; exact bl_up2_at
                        · unfold bhV; rw [if_neg hT]
                          first
                          | (have hq : v = 0 := by omega
                             subst hq; rw [if_pos (show nI 0 = 0 from rfl)]; exact f3.1)
                          | (have hq : v = 1 := by omega
                             subst hq; rw [if_neg (by decide), if_pos (show nI 1 = 1 from rfl)]; exact f2.2.2.1)
                          | (have hq : v = 2 := by omega
                             subst hq; rw [if_neg (by decide), if_neg (by decide), hk, f3.2.1]))
                   · try simp (disch := omega) only [e13, zI_n, zI_o, zI_lit, zI_neg, zI_add, zI_sub, zI_mul, zI_lt, zI_le, zI_eq, zI_clamp, zI_in, zI_div, zI_rem, lg_lt0, lg_gt0, lg_eq0, lg_le0, lg_ge0, Int.toNat_natCast, ge_iff_le, gt_iff_lt, List.length_cons, List.length_nil, bl_up2_at, bl_up2_nk, bl_up2_nx] at h101
                     first
                     | (exfalso; first | omega | exact h101 trivial)
                     | (refine ⟨km, (fun h => by cases h), ?_⟩
                        try show _ ∧ _
                        try dsimp only [bl_pv]
                        refine ⟨I1, _, rfl, fun y y1 y2 => ?_, fun j j1 j2 => ?_, ?_, rfl, fun _ => ?_⟩
                        · rw [f1.1 y y1 y2, bl_up2_ne y1]
                        · rw [f1.2 j j2, bl_up2_nk j1]
                        · rw [hE, f1.2 0 (by omega)]; exact bl_up2_at
                        · unfold bhV; rw [if_neg hT]
                          first
                          | (have hq : v = 0 := by omega
                             subst hq; rw [if_pos (show nI 0 = 0 from rfl)]; exact f3.1)
                          | (have hq : v = 1 := by omega
                             subst hq; rw [if_neg (by decide), if_pos (show nI 1 = 1 from rfl)]; exact f2.2.2.1)
                          | (have hq : v = 2 := by omega
                             subst hq; rw [if_neg (by decide), if_neg (by decide), hk, f3.2.1])))
              · try simp (disch := omega) only [e13, zI_n, zI_o, zI_lit, zI_neg, zI_add, zI_sub, zI_mul, zI_lt, zI_le, zI_eq, zI_clamp, zI_in, zI_div, zI_rem, lg_lt0, lg_gt0, lg_eq0, lg_le0, lg_ge0, Int.toNat_natCast, ge_iff_le, gt_iff_lt, List.length_cons, List.length_nil, bl_up2_at, bl_up2_nk, bl_up2_nx] at h89
                first
                | (exfalso; first | omega | exact h89 trivial)
                | (refine ⟨km, (fun h => by cases h), ?_⟩
                   try show _ ∧ _
                   try dsimp only [bl_pv]
                   refine ⟨I1, _, rfl, fun y y1 y2 => ?_, fun j j1 j2 => ?_, ?_, rfl, fun _ => ?_⟩
                   · rw [f1.1 y y1 y2, bl_up2_ne y1]
                   · rw [f1.2 j j2, bl_up2_nk j1]
                   · rw [hE, f1.2 0 (by omega)]; exact bl_up2_at
                   · unfold bhV; rw [if_neg hT]
                     first
                     | (have hq : v = 0 := by omega
                        subst hq; rw [if_pos (show nI 0 = 0 from rfl)]; exact f3.1)
                     | (have hq : v = 1 := by omega
                        subst hq; rw [if_neg (by decide), if_pos (show nI 1 = 1 from rfl)]; exact f2.2.2.1)
                     | (have hq : v = 2 := by omega
                        subst hq; rw [if_neg (by decide), if_neg (by decide), hk, f3.2.1]))
            · try simp (disch := omega) only [e13, zI_n, zI_o, zI_lit, zI_neg, zI_add, zI_sub, zI_mul, zI_lt, zI_le, zI_eq, zI_clamp, zI_in, zI_div, zI_rem, lg_lt0, lg_gt0, lg_eq0, lg_le0, lg_ge0, Int.toNat_natCast, ge_iff_le, gt_iff_lt, List.length_cons, List.length_nil, bl_up2_at, bl_up2_nk, bl_up2_nx] at h47
              exfalso; first | omega | exact h47 trivial
          · intro z k hz hk; subst hz
            have ecr : (nI r).toNatClampNeg = r := nI_clamp (by omega)
            obtain ⟨y1, y2, y3, y4⟩ := f2.2.2.2.2 r hr
            obtain ⟨rmu, kmu, nmu⟩ := hm.g51 r (by omega)
            have L53 : ∀ j, j ≤ (bdD A.2.2.1 A.2.2.2.1).2.1 r → ∀ z k, z = nI j → k = nI (smf (fun r => smf ((bdD A.2.2.1 A.2.2.2.1).2.2.1 r) ((bdD A.2.2.1 A.2.2.2.1).2.1 r)) r + smf ((bdD A.2.2.1 A.2.2.2.1).2.2.1 r) j) → bl_WP G l (d + 14) mX11_bench 53 [(4, .int z), (3, .int (nI r)), (2, .int k), (0, .ref m), (1, .int (nI v))] [] (I1, J, R, K, N) (0, 0) (fun o σ' => ∃ I' v_1, σ' = (I', J, R, K, N) ∧ (∀ y, y ≠ m → (y < m + 53 ∨ (m + 59 < y ∧ y < m + 120) ∨ m + 134 ≤ y) → I' y = I y) ∧ (∀ j, j ≠ 0 → j < 60 → I' m j = I m j) ∧ I' m 0 = nI (bhE (nI v)) ∧ o = .inl (some (.int v_1)) ∧ (bhE (nI v) = 0 → v_1 = bhV A.2.2.1 A.2.2.2.1 (nI v))) := by
              refine bl_for ((bdD A.2.2.1 A.2.2.2.1).2.1 r) ?_ (fun j hj ih2 => ?_)
              · intro z k hz hk; subst hz
                refine bl_go oX11_bench 80 [38, 42, 53] rfl ?_
                refine ⟨km, _, bl_vs rm_53, Or.inl ⟨km53, (by first | exact (by rw [nm53]; exact vp_in_nI (by omega) (by omega)) | ((try dsimp only [bl_pv]); show vp_in _ (N _); rw [nm53]; simp (disch := omega) only [y2, zI_n, zI_o, zI_lit, zI_neg, zI_add, zI_sub, zI_mul, zI_lt, zI_le, zI_eq, zI_clamp, zI_in, zI_div, zI_rem, lg_lt0, lg_gt0, lg_eq0, lg_le0, lg_ge0, Int.toNat_natCast, ge_iff_le, gt_iff_lt, List.length_cons, List.length_nil, bl_up2_at, bl_up2_nk, bl_up2_nx] <;> omega)), fun h61 => ?_, fun h61 => ?_⟩⟩
                · try simp (disch := omega) only [y2, zI_n, zI_o, zI_lit, zI_neg, zI_add, zI_sub, zI_mul, zI_lt, zI_le, zI_eq, zI_clamp, zI_in, zI_div, zI_rem, lg_lt0, lg_gt0, lg_eq0, lg_le0, lg_ge0, Int.toNat_natCast, ge_iff_le, gt_iff_lt, List.length_cons, List.length_nil, bl_up2_at, bl_up2_nk, bl_up2_nx] at h61
                  refine bl_lv [0, 2, 3, 4] rfl ?_
                  try dsimp only [bl_pv]
                  exact ih _ _ (nI_1 _) hk
                · try simp (disch := omega) only [y2, zI_n, zI_o, zI_lit, zI_neg, zI_add, zI_sub, zI_mul, zI_lt, zI_le, zI_eq, zI_clamp, zI_in, zI_div, zI_rem, lg_lt0, lg_gt0, lg_eq0, lg_le0, lg_ge0, Int.toNat_natCast, ge_iff_le, gt_iff_lt, List.length_cons, List.length_nil, bl_up2_at, bl_up2_nk, bl_up2_nx] at h61
                  exfalso; first | omega | exact h61 trivial
              · intro z k hz hk; subst hz
                have ecj : (nI j).toNatClampNeg = j := nI_clamp (by omega)
                have y3' := y3 j hj
                refine bl_go oX11_bench 80 [38, 42, 53] rfl ?_
                refine ⟨km, _, bl_vs rm_53, Or.inl ⟨km53, (by first | exact (by rw [nm53]; exact vp_in_nI (by omega) (by omega)) | ((try dsimp only [bl_pv]); show vp_in _ (N _); rw [nm53]; simp (disch := omega) only [y2, zI_n, zI_o, zI_lit, zI_neg, zI_add, zI_sub, zI_mul, zI_lt, zI_le, zI_eq, zI_clamp, zI_in, zI_div, zI_rem, lg_lt0, lg_gt0, lg_eq0, lg_le0, lg_ge0, Int.toNat_natCast, ge_iff_le, gt_iff_lt, List.length_cons, List.length_nil, bl_up2_at, bl_up2_nk, bl_up2_nx] <;> omega)), fun h61 => ?_, fun h61 => ?_⟩⟩
                · try simp (disch := omega) only [y2, zI_n, zI_o, zI_lit, zI_neg, zI_add, zI_sub, zI_mul, zI_lt, zI_le, zI_eq, zI_clamp, zI_in, zI_div, zI_rem, lg_lt0, lg_gt0, lg_eq0, lg_le0, lg_ge0, Int.toNat_natCast, ge_iff_le, gt_iff_lt, List.length_cons, List.length_nil, bl_up2_at, bl_up2_nk, bl_up2_nx] at h61
                  exfalso; first | omega | exact h61 trivial
                · try simp (disch := omega) only [y2, zI_n, zI_o, zI_lit, zI_neg, zI_add, zI_sub, zI_mul, zI_lt, zI_le, zI_eq, zI_clamp, zI_in, zI_div, zI_rem, lg_lt0, lg_gt0, lg_eq0, lg_le0, lg_ge0, Int.toNat_natCast, ge_iff_le, gt_iff_lt, List.length_cons, List.length_nil, bl_up2_at, bl_up2_nk, bl_up2_nx] at h61
                  refine ⟨km, _, bl_vs rm_51, bl_ka km51, (by first | exact (by rw [nm51]; exact vp_in_nI (by omega) (by omega)) | ((try dsimp only [bl_pv]); show vp_in _ (N _); rw [nm51]; simp (disch := omega) only [y2, zI_n, zI_o, zI_lit, zI_neg, zI_add, zI_sub, zI_mul, zI_lt, zI_le, zI_eq, zI_clamp, zI_in, zI_div, zI_rem, lg_lt0, lg_gt0, lg_eq0, lg_le0, lg_ge0, Int.toNat_natCast, ge_iff_le, gt_iff_lt, List.length_cons, List.length_nil, bl_up2_at, bl_up2_nk, bl_up2_nx] <;> omega)), _, bl_vs (by dsimp only; rw [ecr]; exact rmu), Or.inl ⟨kmu, (by first | exact (by rw [nmu]; exact vp_in_nI (by omega) (by omega)) | ((try dsimp only [bl_pv]); show vp_in _ (N _); rw [nmu]; simp (disch := omega) only [y2, zI_n, zI_o, zI_lit, zI_neg, zI_add, zI_sub, zI_mul, zI_lt, zI_le, zI_eq, zI_clamp, zI_in, zI_div, zI_rem, lg_lt0, lg_gt0, lg_eq0, lg_le0, lg_ge0, Int.toNat_natCast, ge_iff_le, gt_iff_lt, List.length_cons, List.length_nil, bl_up2_at, bl_up2_nk, bl_up2_nx] <;> omega)), ?_⟩⟩
                  refine bl_lv [0, 2, 1, 3, 4] rfl ?_
                  try dsimp only [bl_pv]
                  refine ih2 _ _ (nI_1 _) ?_
                  rw [ecj, y3', hk]
                  show _ = nI (_ + (smf _ j + ((bdD A.2.2.1 A.2.2.2.1).2.2.1 r) j))
                  rw [← Nat.add_assoc]; exact (Int32.ofNat_add _ _).symm
            refine bl_go oX11_bench 80 [38, 42, 53] rfl ?_
            refine ⟨km, fun h47 => ?_, fun h47 => ?_⟩
            · try simp (disch := omega) only [e13, zI_n, zI_o, zI_lit, zI_neg, zI_add, zI_sub, zI_mul, zI_lt, zI_le, zI_eq, zI_clamp, zI_in, zI_div, zI_rem, lg_lt0, lg_gt0, lg_eq0, lg_le0, lg_ge0, Int.toNat_natCast, ge_iff_le, gt_iff_lt, List.length_cons, List.length_nil, bl_up2_at, bl_up2_nk, bl_up2_nx] at h47
              exfalso; first | omega | exact h47 trivial
            · try simp (disch := omega) only [e13, zI_n, zI_o, zI_lit, zI_neg, zI_add, zI_sub, zI_mul, zI_lt, zI_le, zI_eq, zI_clamp, zI_in, zI_div, zI_rem, lg_lt0, lg_gt0, lg_eq0, lg_le0, lg_ge0, Int.toNat_natCast, ge_iff_le, gt_iff_lt, List.length_cons, List.length_nil, bl_up2_at, bl_up2_nk, bl_up2_nx] at h47
              try dsimp only [bl_pv]
              exact L53 0 (by omega) _ _ rfl hk
        refine bl_go oX11_bench 80 [38, 42, 53] rfl ?_
        try dsimp only [bl_pv]
        exact L42 0 (by omega) _ _ rfl rfl
      refine bl_go oX11_bench 80 [38, 42, 53] rfl ?_
      refine ⟨km, Or.inr (Or.inr ⟨rfl, rfl, _, rfl⟩), (fun h => by cases h), rfl, (Nat.le_of_ble_eq_true rfl), (0, 0), Nat.le_of_ble_eq_true rfl, Nat.le_of_ble_eq_true rfl, bl_MC_mono (c_Model_inT (d := d + 13) hw) (fun o9 σ9 q9 => ?_)⟩
      try dsimp only [bl_pv] at q9
      obtain ⟨rfl, rfl⟩ := q9
      refine bl_go oX11_bench 80 [38, 42, 53] rfl ?_
      refine ⟨fun h12 => ?_, fun h12 => ?_⟩
      · try simp (disch := omega) only [bl_pv, cl0, cl1, cl2, cl3, cl4, cl5, cl6, cl7, cl8, cl9, bl_up2_at, bl_up2_nk, bl_up2_nx] at h12
        first
        | (exfalso; first | omega | exact h12 trivial)
        | (refine ⟨rfl, rfl, km, (Nat.le_of_ble_eq_true rfl), (0, 0), Nat.le_of_ble_eq_true rfl, Nat.le_of_ble_eq_true rfl, bl_MC_mono (c_Model_badF (d := d + 13) km bl_up2_at) (fun o21 σ21 q21 => ?_)⟩
           try dsimp only [bl_pv] at q21
           obtain ⟨rfl, rfl⟩ := q21
           refine bl_go oX11_bench 80 [38, 42, 53] rfl ?_
           refine ⟨fun h24 => ?_, fun h24 => ?_⟩
           · try simp (disch := omega) only [bl_pv, cl0, cl1, cl2, cl3, cl4, cl5, cl6, cl7, cl8, cl9, bl_up2_at, bl_up2_nk, bl_up2_nx] at h24
             first
             | (exfalso; first | omega | exact h24 trivial)
             | (refine ⟨rfl, rfl, km, (Nat.le_of_ble_eq_true rfl), (0, 0), Nat.le_of_ble_eq_true rfl, Nat.le_of_ble_eq_true rfl, bl_MC_mono (c_Model_findBench (d := d) hm hK0 hV) (fun o30 σ30 q30 => ?_)⟩
                try dsimp only [bl_pv] at q30
                obtain ⟨I1, rfl, f1, f2, f6, q30⟩ := q30
                obtain ⟨-, q30', f3, f4⟩ := q30.resolve_left (fun h => hT h.1)
                subst q30'
                refine bl_go oX11_bench 80 [38, 42, 53] rfl ?_
                refine ⟨fun h33 => ?_, fun h33 => ?_⟩
                · try simp (disch := omega) only [bl_pv, cl0, cl1, cl2, cl3, cl4, cl5, cl6, cl7, cl8, cl9, bl_up2_at, bl_up2_nk, bl_up2_nx] at h33
                  first
                  | (exfalso; first | omega | exact h33 trivial)
                  | (try dsimp only [bl_pv]
                     exact L38 I1 f1 f3 f4)
                · try simp (disch := omega) only [bl_pv, cl0, cl1, cl2, cl3, cl4, cl5, cl6, cl7, cl8, cl9, bl_up2_at, bl_up2_nk, bl_up2_nx] at h33
                  (first | exact absurd rfl h33 | exact absurd trivial h33 | exact absurd h33 (by decide)))
           · try simp (disch := omega) only [bl_pv, cl0, cl1, cl2, cl3, cl4, cl5, cl6, cl7, cl8, cl9, bl_up2_at, bl_up2_nk, bl_up2_nx] at h24
             (first | exact absurd rfl h24 | exact absurd trivial h24 | exact absurd h24 (by decide)))
      · try simp (disch := omega) only [bl_pv, cl0, cl1, cl2, cl3, cl4, cl5, cl6, cl7, cl8, cl9, bl_up2_at, bl_up2_nk, bl_up2_nx] at h12
        (first | exact absurd rfl h12 | exact absurd trivial h12 | exact absurd h12 (by decide))
  · have hE : bhE w = 1 := by unfold bhE; rw [if_neg (wb_f hw)]
    refine bl_MC_intro (by decide +kernel) rfl (Nat.le_of_ble_eq_true rfl) ?_
    refine bl_go oX11_bench 80 [29] rfl ?_
    refine ⟨km, Or.inr (Or.inr ⟨rfl, rfl, _, rfl⟩), (fun h => by cases h), rfl, (Nat.le_of_ble_eq_true rfl), (0, 0), Nat.le_of_ble_eq_true rfl, Nat.le_of_ble_eq_true rfl, bl_MC_mono (c_Model_inF (d := d + 13) hw) (fun o9 σ9 q9 => ?_)⟩
    try dsimp only [bl_pv] at q9
    obtain ⟨rfl, rfl⟩ := q9
    refine bl_go oX11_bench 80 [29] rfl ?_
    refine ⟨fun h12 => ?_, fun h12 => ?_⟩
    · try simp (disch := omega) only [bl_pv, cl0, cl1, cl2, cl3, cl4, cl5, cl6, cl7, cl8, cl9, bl_up2_at, bl_up2_nk, bl_up2_nx] at h12
      (first | exact absurd rfl h12 | exact absurd trivial h12 | exact absurd h12 (by decide))
    · try simp (disch := omega) only [bl_pv, cl0, cl1, cl2, cl3, cl4, cl5, cl6, cl7, cl8, cl9, bl_up2_at, bl_up2_nk, bl_up2_nx] at h12
      first
      | (exfalso; first | omega | exact h12 trivial)
      | (refine ⟨rfl, rfl, km, (Nat.le_of_ble_eq_true rfl), (0, 0), Nat.le_of_ble_eq_true rfl, Nat.le_of_ble_eq_true rfl, bl_MC_mono (c_Model_badT (d := d + 13) km bl_up2_at (by decide) (by decide)) (fun o21 σ21 q21 => ?_)⟩
         try dsimp only [bl_pv] at q21
         obtain ⟨rfl, rfl⟩ := q21
         refine bl_go oX11_bench 80 [29] rfl ?_
         refine ⟨fun h24 => ?_, fun h24 => ?_⟩
         · try simp (disch := omega) only [bl_pv, cl0, cl1, cl2, cl3, cl4, cl5, cl6, cl7, cl8, cl9, bl_up2_at, bl_up2_nk, bl_up2_nx] at h24
           first
           | (exfalso; first | omega | exact h24 trivial)
           | (try dsimp only [bl_pv]
              (first | exact absurd rfl h24 | exact absurd trivial h24 | exact absurd h24 (by decide)))
         · try simp (disch := omega) only [bl_pv, cl0, cl1, cl2, cl3, cl4, cl5, cl6, cl7, cl8, cl9, bl_up2_at, bl_up2_nk, bl_up2_nx] at h24
           first
           | (exfalso; first | omega | exact h24 trivial)
           | (refine ⟨(fun h => by cases h), ?_⟩
              try show _ ∧ _
              try dsimp only [bl_pv]
              refine ⟨_, _, rfl, fun y y1 y2 => ?_, fun j j1 j2 => ?_, ?_, rfl, fun h => ?_⟩
              · rw [bl_up2_ne y1, bl_up2_ne y1]
              · rw [bl_up2_nk j1, bl_up2_nk j1]
              · rw [hE]; exact bl_up2_at
              · rw [hE] at h; exact absurd h (by decide)))
theorem c_Model_turnOf (hm : mdS R K N m) (hK : mdK I m A) (hV : ∀ r, sqV (A.2.2.2.1 r)) : bl_MC G l (d + 14) mX11_turnOf [.ref m, .int x] (I, J, R, K, N) (0, 0) (fun o σ' => ∃ I', σ' = (I', J, R, K, N) ∧ (∀ y, y ≠ m → (y < m + 53 ∨ (m + 59 < y ∧ y < m + 120) ∨ m + 134 ≤ y) → I' y = I y) ∧ (∀ j, j ≠ 0 → j < 60 → I' m j = I m j) ∧ I' m 0 = 0 ∧ o = .inl (some (.int (toV A.2.2.1 A.2.2.2.1 x)))) := by
  have km := hm.2.1
  obtain ⟨rm_58, km58, nm58⟩ := hm.f58
  obtain ⟨rm_59, km59, nm59⟩ := hm.f59
  have hK0 : mdK (bl_up2 I m 0 0) m A := hK.G (J := J) (J' := J) gtG.up
  by_cases hT : 12 < (bTot A.2.2.1 A.2.2.2.1)
  · skip
    refine bl_MC_intro (by decide +kernel) rfl (Nat.le_of_ble_eq_true rfl) ?_
    refine bl_go oX11_turnOf 80 [12] rfl ?_
    refine ⟨km, Or.inr (Or.inr ⟨rfl, rfl, _, rfl⟩), (fun h => by cases h), rfl, rfl, km, (Nat.le_of_ble_eq_true rfl), (0, 0), Nat.le_of_ble_eq_true rfl, Nat.le_of_ble_eq_true rfl, bl_MC_mono (c_Model_findBench (d := d) hm hK0 hV) (fun o6 σ6 q6 => ?_)⟩
    try dsimp only [bl_pv] at q6
    obtain ⟨I1, rfl, f1, f2, f6, q6⟩ := q6
    have q6' := (q6.resolve_right (fun h => h.1 hT)).2
    subst q6'
    refine bl_go oX11_turnOf 80 [12] rfl ?_
    refine ⟨fun h9 => ?_, fun h9 => ?_⟩
    · try simp (disch := omega) only [bl_pv, cl0, cl1, cl2, cl3, cl4, cl5, cl6, cl7, cl8, cl9, bl_up2_at, bl_up2_nk, bl_up2_nx] at h9
      first
      | (exfalso; first | omega | exact h9 trivial)
      | (refine ⟨(fun h => by cases h), ?_⟩
         try show _ ∧ _
         try dsimp only [bl_pv]
         refine ⟨I1, rfl, fun y y1 y2 => ?_, fun j j1 j2 => ?_, ?_, ?_⟩
         · rw [f1.1 y y1 y2, bl_up2_ne y1]
         · rw [f1.2 j j2, bl_up2_nk j1]
         · rw [f1.2 0 (by omega)]; exact bl_up2_at
         · unfold toV; rw [if_pos hT]; rfl)
    · try simp (disch := omega) only [bl_pv, cl0, cl1, cl2, cl3, cl4, cl5, cl6, cl7, cl8, cl9, bl_up2_at, bl_up2_nk, bl_up2_nx] at h9
      first
      | (exfalso; first | omega | exact h9 trivial)
      | (try dsimp only [bl_pv]
         (first | exact absurd rfl h9 | exact absurd trivial h9 | exact absurd h9 (by decide)))
  · by_cases hx : rb (bTot A.2.2.1 A.2.2.2.1) x = true
    · obtain ⟨i, hi, rfl, ei⟩ := rb_n (by omega) hx
      have hx' := rb_t.mp hx
      refine bl_MC_intro (by decide +kernel) rfl (Nat.le_of_ble_eq_true rfl) ?_
      refine bl_go oX11_turnOf 80 [] rfl ?_
      refine ⟨km, Or.inr (Or.inr ⟨rfl, rfl, _, rfl⟩), (fun h => by cases h), rfl, rfl, km, (Nat.le_of_ble_eq_true rfl), (0, 0), Nat.le_of_ble_eq_true rfl, Nat.le_of_ble_eq_true rfl, bl_MC_mono (c_Model_findBench (d := d) hm hK0 hV) (fun o6 σ6 q6 => ?_)⟩
      try dsimp only [bl_pv] at q6
      obtain ⟨I1, rfl, f1, f2, f6, q6⟩ := q6
      obtain ⟨-, q6', f3, f4⟩ := q6.resolve_left (fun h => hT h.1)
      subst q6'
      have e60 : I1 m 60 - 1 = zI (((bTot A.2.2.1 A.2.2.2.1) : Int) - 1) := by rw [f2, zI_n, show (1 : Int32) = zI 1 from rfl, zI_sub]
      have hx2 : 0 ≤ nI i ∧ nI i ≤ I1 m 60 - 1 := by rw [e60]; exact hx'
      obtain ⟨b1, b2⟩ := f4.2.2 i hi
      refine bl_go oX11_turnOf 80 [] rfl ?_
      refine ⟨fun h9 => ?_, fun h9 => ?_⟩
      · try simp (disch := omega) only [bl_pv, cl0, cl1, cl2, cl3, cl4, cl5, cl6, cl7, cl8, cl9, bl_up2_at, bl_up2_nk, bl_up2_nx] at h9
        (first | exact absurd rfl h9 | exact absurd trivial h9 | exact absurd h9 (by decide))
      · try simp (disch := omega) only [bl_pv, cl0, cl1, cl2, cl3, cl4, cl5, cl6, cl7, cl8, cl9, bl_up2_at, bl_up2_nk, bl_up2_nx] at h9
        first
        | (exfalso; first | omega | exact h9 trivial)
        | (refine ⟨km, rfl, (Nat.le_of_ble_eq_true rfl), (0, 0), Nat.le_of_ble_eq_true rfl, Nat.le_of_ble_eq_true rfl, bl_MC_mono (c_Model_inT (d := d + 13) hx2) (fun o20 σ20 q20 => ?_)⟩
           try dsimp only [bl_pv] at q20
           obtain ⟨rfl, rfl⟩ := q20
           refine bl_go oX11_turnOf 80 [] rfl ?_
           refine ⟨fun h23 => ?_, fun h23 => ?_⟩
           · try simp (disch := omega) only [bl_pv, cl0, cl1, cl2, cl3, cl4, cl5, cl6, cl7, cl8, cl9, bl_up2_at, bl_up2_nk, bl_up2_nx] at h23
             (first | exact absurd rfl h23 | exact absurd trivial h23 | exact absurd h23 (by decide))
           · try simp (disch := omega) only [bl_pv, cl0, cl1, cl2, cl3, cl4, cl5, cl6, cl7, cl8, cl9, bl_up2_at, bl_up2_nk, bl_up2_nx] at h23
             first
             | (exfalso; first | omega | exact h23 trivial)
             | (refine ⟨km, _, bl_vs rm_58, Or.inl ⟨km58, (by first | exact (by rw [nm58]; exact vp_in_nI (by omega) (by omega)) | ((try dsimp only [bl_pv]); show vp_in _ (N _); rw [nm58]; simp (disch := omega) only [zI_n, zI_o, zI_lit, zI_neg, zI_add, zI_sub, zI_mul, zI_lt, zI_le, zI_eq, zI_clamp, zI_in, zI_div, zI_rem, lg_lt0, lg_gt0, lg_eq0, lg_le0, lg_ge0, Int.toNat_natCast, ge_iff_le, gt_iff_lt, List.length_cons, List.length_nil, bl_up2_at, bl_up2_nk, bl_up2_nx] <;> omega)), km, _, bl_vs rm_59, Or.inl ⟨km59, (by first | exact (by rw [nm59]; exact vp_in_nI (by omega) (by omega)) | ((try dsimp only [bl_pv]); show vp_in _ (N _); rw [nm59]; simp (disch := omega) only [zI_n, zI_o, zI_lit, zI_neg, zI_add, zI_sub, zI_mul, zI_lt, zI_le, zI_eq, zI_clamp, zI_in, zI_div, zI_rem, lg_lt0, lg_gt0, lg_eq0, lg_le0, lg_ge0, Int.toNat_natCast, ge_iff_le, gt_iff_lt, List.length_cons, List.length_nil, bl_up2_at, bl_up2_nk, bl_up2_nx] <;> omega)), (fun h => by cases h), ?_⟩⟩⟩
                try show _ ∧ _
                try dsimp only [bl_pv]
                refine ⟨I1, rfl, fun y y1 y2 => ?_, fun j j1 j2 => ?_, ?_, ?_⟩
                · rw [f1.1 y y1 y2, bl_up2_ne y1]
                · rw [f1.2 j j2, bl_up2_nk j1]
                · rw [f1.2 0 (by omega)]; exact bl_up2_at
                · unfold toV
                  rw [if_neg hT, if_pos hx, show rn (nI i) = i from ei, show (nI i).toNatClampNeg = i from ei, b1, b2]))
    · skip
      refine bl_MC_intro (by decide +kernel) rfl (Nat.le_of_ble_eq_true rfl) ?_
      refine bl_go oX11_turnOf 80 [] rfl ?_
      refine ⟨km, Or.inr (Or.inr ⟨rfl, rfl, _, rfl⟩), (fun h => by cases h), rfl, rfl, km, (Nat.le_of_ble_eq_true rfl), (0, 0), Nat.le_of_ble_eq_true rfl, Nat.le_of_ble_eq_true rfl, bl_MC_mono (c_Model_findBench (d := d) hm hK0 hV) (fun o6 σ6 q6 => ?_)⟩
      try dsimp only [bl_pv] at q6
      obtain ⟨I1, rfl, f1, f2, f6, q6⟩ := q6
      obtain ⟨-, q6', f3, f4⟩ := q6.resolve_left (fun h => hT h.1)
      subst q6'
      have e60 : I1 m 60 - 1 = zI (((bTot A.2.2.1 A.2.2.2.1) : Int) - 1) := by rw [f2, zI_n, show (1 : Int32) = zI 1 from rfl, zI_sub]
      have hx2 : ¬ (0 ≤ x ∧ x ≤ I1 m 60 - 1) := by rw [e60]; exact fun h => hx (rb_t.mpr h)
      refine bl_go oX11_turnOf 80 [] rfl ?_
      refine ⟨fun h9 => ?_, fun h9 => ?_⟩
      · try simp (disch := omega) only [bl_pv, cl0, cl1, cl2, cl3, cl4, cl5, cl6, cl7, cl8, cl9, bl_up2_at, bl_up2_nk, bl_up2_nx] at h9
        (first | exact absurd rfl h9 | exact absurd trivial h9 | exact absurd h9 (by decide))
      · try simp (disch := omega) only [bl_pv, cl0, cl1, cl2, cl3, cl4, cl5, cl6, cl7, cl8, cl9, bl_up2_at, bl_up2_nk, bl_up2_nx] at h9
        first
        | (exfalso; first | omega | exact h9 trivial)
        | (refine ⟨km, rfl, (Nat.le_of_ble_eq_true rfl), (0, 0), Nat.le_of_ble_eq_true rfl, Nat.le_of_ble_eq_true rfl, bl_MC_mono (c_Model_inF (d := d + 13) hx2) (fun o20 σ20 q20 => ?_)⟩
           try dsimp only [bl_pv] at q20
           obtain ⟨rfl, rfl⟩ := q20
           refine bl_go oX11_turnOf 80 [] rfl ?_
           refine ⟨fun h23 => ?_, fun h23 => ?_⟩
           · try simp (disch := omega) only [bl_pv, cl0, cl1, cl2, cl3, cl4, cl5, cl6, cl7, cl8, cl9, bl_up2_at, bl_up2_nk, bl_up2_nx] at h23
             first
             | (exfalso; first | omega | exact h23 trivial)
             | (refine ⟨(fun h => by cases h), ?_⟩
                try show _ ∧ _
                try dsimp only [bl_pv]
                refine ⟨I1, rfl, fun y y1 y2 => ?_, fun j j1 j2 => ?_, ?_, ?_⟩
                · rw [f1.1 y y1 y2, bl_up2_ne y1]
                · rw [f1.2 j j2, bl_up2_nk j1]
                · rw [f1.2 0 (by omega)]; exact bl_up2_at
                · unfold toV; rw [if_neg hT, if_neg hx]; rfl)
           · try simp (disch := omega) only [bl_pv, cl0, cl1, cl2, cl3, cl4, cl5, cl6, cl7, cl8, cl9, bl_up2_at, bl_up2_nk, bl_up2_nx] at h23
             (first | exact absurd rfl h23 | exact absurd trivial h23 | exact absurd h23 (by decide)))
end MODEL32
