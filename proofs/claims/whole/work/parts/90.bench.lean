/-! ===== Bench ===== -/
def bnS (R : Nat → Nat → Option Nat) (K N : Nat → Nat) (q : Nat) : Prop := q < 880 ∧ K q = 1 ∧ (R q 0 = some (q + 1) ∧ R q 1 = some (q + 2) ∧ R q 2 = some (q + 3) ∧ R q 3 = some (q + 4) ∧ R q 4 = some (q + 5) ∧ R q 5 = some (q + 6) ∧ R q 6 = some (q + 7) ∧ R q 7 = some (q + 8) ∧ R q 8 = some (q + 9) ∧ R q 9 = some (q + 10) ∧ R q 10 = some (q + 11) ∧ R q 11 = some (q + 12)) ∧ (K (q + 1) = 20 ∧ K (q + 2) = 20 ∧ K (q + 3) = 20 ∧ K (q + 4) = 20 ∧ K (q + 5) = 20 ∧ K (q + 6) = 20 ∧ K (q + 7) = 20 ∧ K (q + 8) = 20 ∧ K (q + 9) = 20 ∧ K (q + 10) = 20 ∧ K (q + 11) = 20 ∧ K (q + 12) = 20) ∧ (N (q + 1) = 88 ∧ N (q + 2) = 88 ∧ N (q + 3) = 88 ∧ N (q + 4) = 4 ∧ N (q + 5) = 4 ∧ N (q + 6) = 4 ∧ N (q + 7) = 12 ∧ N (q + 8) = 12 ∧ N (q + 9) = 2048 ∧ N (q + 10) = 256 ∧ N (q + 11) = 12 ∧ N (q + 12) = 12)
/-- what the rows of blocks hold -/
def bnD (I : Nat → Nat → Int32) (q : Nat) (D : bD) (T : Nat) : Prop := I q 12 = nI D.1 ∧ D.1 ≤ 4 ∧ I q 16 = nI T ∧ T ≤ 12 ∧ (∀ r, r < D.1 → D.2.1 r ≤ 20 ∧ I (q + 4) r = nI (D.2.1 r) ∧ (∀ b, b < D.2.1 r → I (q + 1) (r * 22 + b) = nI (D.2.2.1 r b)) ∧ ∀ b, b ≤ D.2.1 r → I (q + 2) (r * 22 + b) = nI (D.2.2.2 r b) ∧ I (q + 3) (r * 22 + b) = nI (duc D r (D.2.1 r - b)))
def bnT (I : Nat → Nat → Int32) (q : Nat) (D : bD) (s : bs) : Prop := ∀ r, r < D.1 → I (q + 5) r = nI (s.1 r) ∧ I (q + 6) r = nI (s.2.1 r)
theorem duc_le {D : bD} (hD : bDs D) (r : Nat) : ∀ m, duc D r m ≤ 1440 * m
  | 0 => Nat.le_refl _
  | m + 1 => by
    have := duc_le hD r m
    have := hD.1 r (D.2.1 r - (m + 1))
    have := hD.2 r (D.2.1 r - m)
    show D.2.2.1 r (D.2.1 r - (m + 1)) + D.2.2.2 r (D.2.1 r - m) + duc D r m ≤ _
    omega
theorem bSm_k {D : bD} {k : Nat} {s : bs} (h : bSm D k s) : (∀ r, r < D.1 → s.2.1 r ≤ 30000) ∧ s.2.2 ≤ 30000 := ⟨fun r hr => Nat.le_trans (Nat.le_add_right _ _) (h.1 r hr), Nat.le_trans (Nat.le_add_right _ _) h.2⟩
theorem cgo_le {D : bD} {k r : Nat} {s : bs} (h : bSm D k s) (hr : r < D.1) : cgo D s r ≤ 30000 := by
  have a := (bSm_k h).1 r hr
  have b := (bSm_k h).2
  unfold cgo
  split
  · exact b
  · exact a
theorem nI_max {a b : Nat} {x y : Int32} (hx : x = nI a) (hy : y = nI b) (ha : a < 2147483648) (hb : b < 2147483648) : (if x < y then y else x) = nI (max a b) := by
  subst hx hy
  by_cases e : a < b
  · rw [if_pos (nI_lt e (by omega)), show max a b = b by omega]
  · rw [if_neg (nI_nlt (by omega) (by omega)), show max a b = a by omega]
theorem nI_min {a b : Nat} {x y : Int32} (hx : x = nI a) (hy : y = nI b) (ha : a < 2147483648) (hb : b < 2147483648) : (if y < x then y else x) = nI (min a b) := by
  subst hx hy
  by_cases e : b < a
  · rw [if_pos (nI_lt e (by omega)), show min a b = b by omega]
  · rw [if_neg (nI_nlt (by omega) (by omega)), show min a b = a by omega]
section BENCH
variable {G : bl_G} {l : Launch} {d q T k : Nat} {I : Nat → Nat → Int32} {J : Nat → Nat → Int64} {R : Nat → Nat → Option Nat} {K N : Nat → Nat} {D : bD} {s : bs}
theorem c_Bench_canGoOn {r : Nat} {x y : Int32} (hq : bnS R K N q) (hD : bnD I q D T) (hT : bnT I q D s) (hk : bOk D k s) (hs : bSm D k s) (hx : x = nI r) (hy : y = nI s.2.2) (hr : r < D.1) : bl_MC G l d mX0_canGoOn [.ref q, .int x, .int y] (I, J, R, K, N) (0, 0) (fun o σ' => o = .inl (some (.int (nI (cgo D s r)))) ∧ σ' = (I, J, R, K, N)) := by
  obtain ⟨hq0, kq, ⟨rq_0, rq_1, rq_2, rq_3, rq_4, rq_5, rq_6, rq_7, rq_8, rq_9, rq_10, rq_11⟩, ⟨kq1, kq2, kq3, kq4, kq5, kq6, kq7, kq8, kq9, kq10, kq11, kq12⟩, ⟨nq1, nq2, nq3, nq4, nq5, nq6, nq7, nq8, nq9, nq10, nq11, nq12⟩⟩ := hq
  have h4 := hD.2.1
  obtain ⟨g1, g2, -⟩ := hD.2.2.2.2 r hr
  obtain ⟨t1, t2⟩ := hT r hr
  have b1 := hk.1 r hr
  have b2 := (bSm_k hs).1 r hr
  have b3 := (bSm_k hs).2
  have ec : (nI r).toNatClampNeg = r := nI_clamp (by omega)
  subst hx hy
  clear hs
  refine bl_MC_intro (by decide +kernel) rfl (Nat.le_of_ble_eq_true rfl) ?_
  refine bl_go oX0_canGoOn 80 [] rfl ?_
  refine ⟨kq, _, bl_vs rq_4, Or.inl ⟨kq5, (by first | exact (by rw [nq5]; exact vp_in_nI (by omega) (by omega)) | ((try dsimp only [bl_pv]); show vp_in _ (N _); rw [nq5]; simp (disch := omega) only [t1, t2, g2, zI_n, zI_o, zI_lit, zI_neg, zI_add, zI_sub, zI_mul, zI_lt, zI_le, zI_eq, zI_clamp, zI_in, zI_div, zI_rem, lg_lt0, lg_gt0, lg_eq0, lg_le0, lg_ge0, Int.toNat_natCast, ge_iff_le, gt_iff_lt, List.length_cons, List.length_nil, bl_up2_at, bl_up2_nk, bl_up2_nx] <;> omega)), kq, _, bl_vs rq_3, Or.inl ⟨kq4, (by first | exact (by rw [nq4]; exact vp_in_nI (by omega) (by omega)) | ((try dsimp only [bl_pv]); show vp_in _ (N _); rw [nq4]; simp (disch := omega) only [t1, t2, g2, zI_n, zI_o, zI_lit, zI_neg, zI_add, zI_sub, zI_mul, zI_lt, zI_le, zI_eq, zI_clamp, zI_in, zI_div, zI_rem, lg_lt0, lg_gt0, lg_eq0, lg_le0, lg_ge0, Int.toNat_natCast, ge_iff_le, gt_iff_lt, List.length_cons, List.length_nil, bl_up2_at, bl_up2_nk, bl_up2_nx] <;> omega)), fun h12 => ?_, fun h12 => ?_⟩⟩⟩
  · try simp (disch := omega) only [t1, t2, g2, zI_n, zI_o, zI_lit, zI_neg, zI_add, zI_sub, zI_mul, zI_lt, zI_le, zI_eq, zI_clamp, zI_in, zI_div, zI_rem, lg_lt0, lg_gt0, lg_eq0, lg_le0, lg_ge0, Int.toNat_natCast, ge_iff_le, gt_iff_lt, List.length_cons, List.length_nil, bl_up2_at, bl_up2_nk, bl_up2_nx] at h12
    first
    | (exfalso; first | omega | exact h12 trivial)
    | (refine ⟨kq, _, bl_vs rq_5, Or.inl ⟨kq6, (by first | exact (by rw [nq6]; exact vp_in_nI (by omega) (by omega)) | ((try dsimp only [bl_pv]); show vp_in _ (N _); rw [nq6]; simp (disch := omega) only [t1, t2, g2, zI_n, zI_o, zI_lit, zI_neg, zI_add, zI_sub, zI_mul, zI_lt, zI_le, zI_eq, zI_clamp, zI_in, zI_div, zI_rem, lg_lt0, lg_gt0, lg_eq0, lg_le0, lg_ge0, Int.toNat_natCast, ge_iff_le, gt_iff_lt, List.length_cons, List.length_nil, bl_up2_at, bl_up2_nk, bl_up2_nx] <;> omega)), (fun h => by cases h), ?_⟩⟩
       try show _ ∧ _
       try dsimp only [bl_pv]
       refine ⟨?_, rfl⟩
       unfold cgo
       first
       | (rw [if_pos (by omega)])
       | (rw [if_neg (by omega), ec, t2]))
  · try simp (disch := omega) only [t1, t2, g2, zI_n, zI_o, zI_lit, zI_neg, zI_add, zI_sub, zI_mul, zI_lt, zI_le, zI_eq, zI_clamp, zI_in, zI_div, zI_rem, lg_lt0, lg_gt0, lg_eq0, lg_le0, lg_ge0, Int.toNat_natCast, ge_iff_le, gt_iff_lt, List.length_cons, List.length_nil, bl_up2_at, bl_up2_nk, bl_up2_nx] at h12
    first
    | (exfalso; first | omega | exact h12 trivial)
    | (refine ⟨kq, _, bl_vs rq_5, Or.inl ⟨kq6, (by first | exact (by rw [nq6]; exact vp_in_nI (by omega) (by omega)) | ((try dsimp only [bl_pv]); show vp_in _ (N _); rw [nq6]; simp (disch := omega) only [t1, t2, g2, zI_n, zI_o, zI_lit, zI_neg, zI_add, zI_sub, zI_mul, zI_lt, zI_le, zI_eq, zI_clamp, zI_in, zI_div, zI_rem, lg_lt0, lg_gt0, lg_eq0, lg_le0, lg_ge0, Int.toNat_natCast, ge_iff_le, gt_iff_lt, List.length_cons, List.length_nil, bl_up2_at, bl_up2_nk, bl_up2_nx] <;> omega)), fun h22 => ?_, fun h22 => ?_⟩⟩
       · try simp (disch := omega) only [t1, t2, g2, zI_n, zI_o, zI_lit, zI_neg, zI_add, zI_sub, zI_mul, zI_lt, zI_le, zI_eq, zI_clamp, zI_in, zI_div, zI_rem, lg_lt0, lg_gt0, lg_eq0, lg_le0, lg_ge0, Int.toNat_natCast, ge_iff_le, gt_iff_lt, List.length_cons, List.length_nil, bl_up2_at, bl_up2_nk, bl_up2_nx] at h22
         first
         | (exfalso; first | omega | exact h22 trivial)
         | (refine ⟨kq, _, bl_vs rq_5, Or.inl ⟨kq6, (by first | exact (by rw [nq6]; exact vp_in_nI (by omega) (by omega)) | ((try dsimp only [bl_pv]); show vp_in _ (N _); rw [nq6]; simp (disch := omega) only [t1, t2, g2, zI_n, zI_o, zI_lit, zI_neg, zI_add, zI_sub, zI_mul, zI_lt, zI_le, zI_eq, zI_clamp, zI_in, zI_div, zI_rem, lg_lt0, lg_gt0, lg_eq0, lg_le0, lg_ge0, Int.toNat_natCast, ge_iff_le, gt_iff_lt, List.length_cons, List.length_nil, bl_up2_at, bl_up2_nk, bl_up2_nx] <;> omega)), (fun h => by cases h), ?_⟩⟩
            try show _ ∧ _
            try dsimp only [bl_pv]
            refine ⟨?_, rfl⟩
            unfold cgo
            first
            | (rw [if_pos (by omega)])
            | (rw [if_neg (by omega), ec, t2]))
       · try simp (disch := omega) only [t1, t2, g2, zI_n, zI_o, zI_lit, zI_neg, zI_add, zI_sub, zI_mul, zI_lt, zI_le, zI_eq, zI_clamp, zI_in, zI_div, zI_rem, lg_lt0, lg_gt0, lg_eq0, lg_le0, lg_ge0, Int.toNat_natCast, ge_iff_le, gt_iff_lt, List.length_cons, List.length_nil, bl_up2_at, bl_up2_nk, bl_up2_nx] at h22
         first
         | (exfalso; first | omega | exact h22 trivial)
         | (refine ⟨(fun h => by cases h), ?_⟩
            try show _ ∧ _
            try dsimp only [bl_pv]
            refine ⟨?_, rfl⟩
            unfold cgo
            first
            | (rw [if_pos (by omega)])
            | (rw [if_neg (by omega), ec, t2])))
theorem c_Bench_lastReady (hq : bnS R K N q) (h12 : I q 12 = nI D.1) (h4 : D.1 ≤ 4) (hT : ∀ r, r < D.1 → I (q + 6) r = nI (s.2.1 r)) (hb : ∀ r, r < D.1 → s.2.1 r ≤ 30000) : bl_MC G l d mX0_lastReady [.ref q] (I, J, R, K, N) (0, 0) (fun o σ' => o = .inl (some (.int (nI (lrf s.2.1 D.1)))) ∧ σ' = (I, J, R, K, N)) := by
  obtain ⟨hq0, kq, ⟨rq_0, rq_1, rq_2, rq_3, rq_4, rq_5, rq_6, rq_7, rq_8, rq_9, rq_10, rq_11⟩, ⟨kq1, kq2, kq3, kq4, kq5, kq6, kq7, kq8, kq9, kq10, kq11, kq12⟩, ⟨nq1, nq2, nq3, nq4, nq5, nq6, nq7, nq8, nq9, nq10, nq11, nq12⟩⟩ := hq
  refine bl_MC_intro (by decide +kernel) rfl (Nat.le_of_ble_eq_true rfl) ?_
  have L : ∀ r, r ≤ D.1 → ∀ x y, x = nI r → y = nI (lrf s.2.1 r) → bl_WP G l d mX0_lastReady 4 [(2, .int x), (1, .int y), (0, .ref q)] [] (I, J, R, K, N) (0, 0) (fun o σ' => o = .inl (some (.int (nI (lrf s.2.1 D.1)))) ∧ σ' = (I, J, R, K, N)) := by
    refine bl_for D.1 ?_ (fun r hr ih => ?_)
    · intro x y hx hy; subst hx hy
      refine bl_go oX0_lastReady 80 [4] rfl ?_
      refine ⟨kq, fun h9 => ?_, fun h9 => ?_⟩
      · try simp (disch := omega) only [h12, zI_n, zI_o, zI_lit, zI_neg, zI_add, zI_sub, zI_mul, zI_lt, zI_le, zI_eq, zI_clamp, zI_in, zI_div, zI_rem, lg_lt0, lg_gt0, lg_eq0, lg_le0, lg_ge0, Int.toNat_natCast, ge_iff_le, gt_iff_lt, List.length_cons, List.length_nil, bl_up2_at, bl_up2_nk, bl_up2_nx] at h9
        refine ⟨(fun h => by cases h), ?_⟩
        try show _ ∧ _
        try dsimp only [bl_pv]
        exact ⟨rfl, rfl⟩
      · try simp (disch := omega) only [h12, zI_n, zI_o, zI_lit, zI_neg, zI_add, zI_sub, zI_mul, zI_lt, zI_le, zI_eq, zI_clamp, zI_in, zI_div, zI_rem, lg_lt0, lg_gt0, lg_eq0, lg_le0, lg_ge0, Int.toNat_natCast, ge_iff_le, gt_iff_lt, List.length_cons, List.length_nil, bl_up2_at, bl_up2_nk, bl_up2_nx] at h9
        exfalso; omega
    · intro x y hx hy; subst hx hy
      have ec : (nI r).toNatClampNeg = r := nI_clamp (by omega)
      have b1 := hb r hr
      have b2 : lrf s.2.1 r ≤ 30000 := lrf_le (fun j hj => hb j (by omega))
      refine bl_go oX0_lastReady 80 [4] rfl ?_
      refine ⟨kq, fun h9 => ?_, fun h9 => ?_⟩
      · try simp (disch := omega) only [h12, zI_n, zI_o, zI_lit, zI_neg, zI_add, zI_sub, zI_mul, zI_lt, zI_le, zI_eq, zI_clamp, zI_in, zI_div, zI_rem, lg_lt0, lg_gt0, lg_eq0, lg_le0, lg_ge0, Int.toNat_natCast, ge_iff_le, gt_iff_lt, List.length_cons, List.length_nil, bl_up2_at, bl_up2_nk, bl_up2_nx] at h9
        exfalso; omega
      · try simp (disch := omega) only [h12, zI_n, zI_o, zI_lit, zI_neg, zI_add, zI_sub, zI_mul, zI_lt, zI_le, zI_eq, zI_clamp, zI_in, zI_div, zI_rem, lg_lt0, lg_gt0, lg_eq0, lg_le0, lg_ge0, Int.toNat_natCast, ge_iff_le, gt_iff_lt, List.length_cons, List.length_nil, bl_up2_at, bl_up2_nk, bl_up2_nx] at h9
        refine ⟨kq, _, bl_vs rq_5, Or.inl ⟨kq6, (by first | exact (by rw [nq6]; exact vp_in_nI (by omega) (by omega)) | ((try dsimp only [bl_pv]); show vp_in _ (N _); rw [nq6]; simp (disch := omega) only [h12, zI_n, zI_o, zI_lit, zI_neg, zI_add, zI_sub, zI_mul, zI_lt, zI_le, zI_eq, zI_clamp, zI_in, zI_div, zI_rem, lg_lt0, lg_gt0, lg_eq0, lg_le0, lg_ge0, Int.toNat_natCast, ge_iff_le, gt_iff_lt, List.length_cons, List.length_nil, bl_up2_at, bl_up2_nk, bl_up2_nx] <;> omega)), (Nat.le_of_ble_eq_true rfl), ?_⟩⟩
        try dsimp only [bl_pv]
        refine ih _ _ (nI_1 _) ?_
        exact nI_max rfl (by rw [ec]; exact hT r hr) (by omega) (by omega)
  refine bl_go oX0_lastReady 80 [4] rfl ?_
  try dsimp only [bl_pv]
  exact L 0 (by omega) _ _ rfl rfl
theorem nI_mulc {a : Nat} {c : Nat} : nI a * nI c = nI (a * c) := (Int32.ofNat_mul a c).symm
theorem c_Bench_leastDone {w : Nat} {y : Int32} (hq : bnS R K N q) (hD : bnD I q D T) (hDs : bDs D) (hT : bnT I q D s) (hk : bOk D k s) (hs : bSm D k s) (hy : y = nI s.2.2) (hw : I q 13 = nI w) (hwb : w ≤ 100000) : bl_MC G l (d + 1) mX0_leastDone [.ref q, .int y] (I, J, R, K, N) (0, 0) (fun o σ' => o = .inl (some (.int (nI (ldn D s w)))) ∧ σ' = (I, J, R, K, N)) := by
  have hq' := hq
  obtain ⟨hq0, kq, ⟨rq_0, rq_1, rq_2, rq_3, rq_4, rq_5, rq_6, rq_7, rq_8, rq_9, rq_10, rq_11⟩, ⟨kq1, kq2, kq3, kq4, kq5, kq6, kq7, kq8, kq9, kq10, kq11, kq12⟩, ⟨nq1, nq2, nq3, nq4, nq5, nq6, nq7, nq8, nq9, nq10, nq11, nq12⟩⟩ := hq
  have h4 := hD.2.1
  have h12 := hD.1
  subst hy
  have bc : ∀ r, r < D.1 → cgo D s r ≤ 30000 ∧ duc D r (D.2.1 r - s.1 r) ≤ 28800 := fun r hr => ⟨cgo_le hs hr, by
    have := duc_le hDs r (D.2.1 r - s.1 r)
    have := (hD.2.2.2.2 r hr).1
    omega⟩
  have bl : ∀ r, r ≤ D.1 → ldl D s r ≤ 58800 := fun r hr => lrf_le (fun j hj => by have := bc j (by omega); omega)
  have bm1 := fun n => mn6_sm (cgo D s) (unf D s) n
  have bm2 := fun n => mn6_sm (fun r => D.2.2.2 r (D.2.1 r)) (unf D s) n
  refine bl_MC_intro (by decide +kernel) rfl (Nat.le_of_ble_eq_true rfl) ?_
  have L : ∀ r, r ≤ D.1 → ∀ x y z u, x = nI r → y = nI (mn6 (fun r => D.2.2.2 r (D.2.1 r)) (unf D s) r) → z = nI (mn6 (cgo D s) (unf D s) r) → u = nI (ldl D s r) → bl_WP G l (d + 1) mX0_leastDone 12 [(5, .int x), (4, .int y), (3, .int z), (2, .int u), (0, .ref q), (1, .int (nI s.2.2))] [] (I, J, R, K, N) (0, 0) (fun o σ' => o = .inl (some (.int (nI (ldn D s w)))) ∧ σ' = (I, J, R, K, N)) := by
    refine bl_for D.1 ?_ (fun r hr ih => ?_)
    · intro x y z u hx hy hz hu; subst hx hy hz hu
      have b0 := bl D.1 (Nat.le_refl _)
      have b1 := bm1 D.1
      have b2 := bm2 D.1
      refine bl_go oX0_leastDone 80 [12] rfl ?_
      refine ⟨kq, fun h18 => ?_, fun h18 => ?_⟩
      · try simp (disch := omega) only [h12, hw, zI_n, zI_o, zI_lit, zI_neg, zI_add, zI_sub, zI_mul, zI_lt, zI_le, zI_eq, zI_clamp, zI_in, zI_div, zI_rem, lg_lt0, lg_gt0, lg_eq0, lg_le0, lg_ge0, Int.toNat_natCast, ge_iff_le, gt_iff_lt, List.length_cons, List.length_nil, bl_up2_at, bl_up2_nk, bl_up2_nx] at h18
        first
        | (exfalso; first | omega | exact h18 trivial)
        | (refine ⟨kq, fun h125 => ?_, fun h125 => ?_⟩
           · try simp (disch := omega) only [h12, hw, zI_n, zI_o, zI_lit, zI_neg, zI_add, zI_sub, zI_mul, zI_lt, zI_le, zI_eq, zI_clamp, zI_in, zI_div, zI_rem, lg_lt0, lg_gt0, lg_eq0, lg_le0, lg_ge0, Int.toNat_natCast, ge_iff_le, gt_iff_lt, List.length_cons, List.length_nil, bl_up2_at, bl_up2_nk, bl_up2_nx] at h125
             first
             | (exfalso; first | omega | exact h125 trivial)
             | (refine ⟨(fun h => by cases h), ?_⟩
                try show _ ∧ _
                try dsimp only [bl_pv]
                refine ⟨?_, rfl⟩
                unfold ldn
                first
                | (have h1 : ¬ 0 < w := by omega
                   rw [if_neg h1])
                | (have h1 : 0 < w := by omega
                   rw [if_pos h1]
                   exact congrArg (fun z => Sum.inl (some (Value.int z))) (nI_max rfl (by rw [hw, nI_add, nI_add]) (by omega) (by omega))))
           · try simp (disch := omega) only [h12, hw, zI_n, zI_o, zI_lit, zI_neg, zI_add, zI_sub, zI_mul, zI_lt, zI_le, zI_eq, zI_clamp, zI_in, zI_div, zI_rem, lg_lt0, lg_gt0, lg_eq0, lg_le0, lg_ge0, Int.toNat_natCast, ge_iff_le, gt_iff_lt, List.length_cons, List.length_nil, bl_up2_at, bl_up2_nk, bl_up2_nx] at h125
             first
             | (exfalso; first | omega | exact h125 trivial)
             | (refine ⟨kq, (Nat.le_of_ble_eq_true rfl), (fun h => by cases h), ?_⟩
                try show _ ∧ _
                try dsimp only [bl_pv]
                refine ⟨?_, rfl⟩
                unfold ldn
                first
                | (have h1 : ¬ 0 < w := by omega
                   rw [if_neg h1])
                | (have h1 : 0 < w := by omega
                   rw [if_pos h1]
                   exact congrArg (fun z => Sum.inl (some (Value.int z))) (nI_max rfl (by rw [hw, nI_add, nI_add]) (by omega) (by omega)))))
      · try simp (disch := omega) only [h12, hw, zI_n, zI_o, zI_lit, zI_neg, zI_add, zI_sub, zI_mul, zI_lt, zI_le, zI_eq, zI_clamp, zI_in, zI_div, zI_rem, lg_lt0, lg_gt0, lg_eq0, lg_le0, lg_ge0, Int.toNat_natCast, ge_iff_le, gt_iff_lt, List.length_cons, List.length_nil, bl_up2_at, bl_up2_nk, bl_up2_nx] at h18
        exfalso; omega
    · intro x y z u hx hy hz hu; subst hx hy hz hu
      have ec : (nI r).toNatClampNeg = r := nI_clamp (by omega)
      obtain ⟨g1, g2, g3, g4⟩ := hD.2.2.2.2 r hr
      obtain ⟨t1, t2⟩ := hT r hr
      have b1 := hk.1 r hr
      obtain ⟨b2, b3⟩ := bc r hr
      have b4 := bl r (by omega)
      have b5 := bm1 r
      have b6 := bm2 r
      have b7 := hDs.2 r (D.2.1 r)
      have em : nI r * 22 + nI (s.1 r) = nI (r * 22 + s.1 r) := by rw [← nI_add, ← nI_mulc]; rfl
      have em2 : nI r * 22 + nI (D.2.1 r) = nI (r * 22 + D.2.1 r) := by rw [← nI_add, ← nI_mulc]; rfl
      have ea : (nI (r * 22 + s.1 r)).toNatClampNeg = r * 22 + s.1 r := nI_clamp (by omega)
      have ea2 : (nI (r * 22 + D.2.1 r)).toNatClampNeg = r * 22 + D.2.1 r := nI_clamp (by omega)
      refine bl_go oX0_leastDone 80 [12] rfl ?_
      refine ⟨kq, fun h18 => ?_, fun h18 => ?_⟩
      · try simp (disch := omega) only [h12, t1, g2, zI_n, zI_o, zI_lit, zI_neg, zI_add, zI_sub, zI_mul, zI_lt, zI_le, zI_eq, zI_clamp, zI_in, zI_div, zI_rem, lg_lt0, lg_gt0, lg_eq0, lg_le0, lg_ge0, Int.toNat_natCast, ge_iff_le, gt_iff_lt, List.length_cons, List.length_nil, bl_up2_at, bl_up2_nk, bl_up2_nx] at h18
        exfalso; omega
      · try simp (disch := omega) only [h12, t1, g2, zI_n, zI_o, zI_lit, zI_neg, zI_add, zI_sub, zI_mul, zI_lt, zI_le, zI_eq, zI_clamp, zI_in, zI_div, zI_rem, lg_lt0, lg_gt0, lg_eq0, lg_le0, lg_ge0, Int.toNat_natCast, ge_iff_le, gt_iff_lt, List.length_cons, List.length_nil, bl_up2_at, bl_up2_nk, bl_up2_nx] at h18
        first
        | (exfalso; first | omega | exact h18 trivial)
        | (refine ⟨rfl, rfl, kq, (Nat.le_of_ble_eq_true rfl), (0, 0), Nat.le_of_ble_eq_true rfl, Nat.le_of_ble_eq_true rfl, bl_MC_mono (c_Bench_canGoOn (d := d) hq' hD hT hk hs rfl rfl hr) (fun o25 σ25 q25 => ?_)⟩
           try dsimp only [bl_pv] at q25
           obtain ⟨rfl, rfl⟩ := q25
           refine bl_go oX0_leastDone 80 [12] rfl ?_
           refine ⟨kq, _, bl_vs rq_4, Or.inl ⟨kq5, (by first | exact (by rw [nq5]; exact vp_in_nI (by omega) (by omega)) | ((try dsimp only [bl_pv]); show vp_in _ (N _); rw [nq5]; simp (disch := omega) only [h12, t1, g2, zI_n, zI_o, zI_lit, zI_neg, zI_add, zI_sub, zI_mul, zI_lt, zI_le, zI_eq, zI_clamp, zI_in, zI_div, zI_rem, lg_lt0, lg_gt0, lg_eq0, lg_le0, lg_ge0, Int.toNat_natCast, ge_iff_le, gt_iff_lt, List.length_cons, List.length_nil, bl_up2_at, bl_up2_nk, bl_up2_nx] <;> omega)), kq, _, bl_vs rq_3, Or.inl ⟨kq4, (by first | exact (by rw [nq4]; exact vp_in_nI (by omega) (by omega)) | ((try dsimp only [bl_pv]); show vp_in _ (N _); rw [nq4]; simp (disch := omega) only [h12, t1, g2, zI_n, zI_o, zI_lit, zI_neg, zI_add, zI_sub, zI_mul, zI_lt, zI_le, zI_eq, zI_clamp, zI_in, zI_div, zI_rem, lg_lt0, lg_gt0, lg_eq0, lg_le0, lg_ge0, Int.toNat_natCast, ge_iff_le, gt_iff_lt, List.length_cons, List.length_nil, bl_up2_at, bl_up2_nk, bl_up2_nx] <;> omega)), fun h44 => ?_, fun h44 => ?_⟩⟩⟩
           · try simp (disch := omega) only [h12, t1, g2, zI_n, zI_o, zI_lit, zI_neg, zI_add, zI_sub, zI_mul, zI_lt, zI_le, zI_eq, zI_clamp, zI_in, zI_div, zI_rem, lg_lt0, lg_gt0, lg_eq0, lg_le0, lg_ge0, Int.toNat_natCast, ge_iff_le, gt_iff_lt, List.length_cons, List.length_nil, bl_up2_at, bl_up2_nk, bl_up2_nx] at h44
             first
             | (exfalso; first | omega | exact h44 trivial)
             | (refine ⟨kq, _, bl_vs rq_2, kq, _, bl_vs rq_4, Or.inl ⟨kq5, (by first | exact (by rw [nq5]; exact vp_in_nI (by omega) (by omega)) | ((try dsimp only [bl_pv]); show vp_in _ (N _); rw [nq5]; simp (disch := omega) only [h12, t1, g2, zI_n, zI_o, zI_lit, zI_neg, zI_add, zI_sub, zI_mul, zI_lt, zI_le, zI_eq, zI_clamp, zI_in, zI_div, zI_rem, lg_lt0, lg_gt0, lg_eq0, lg_le0, lg_ge0, Int.toNat_natCast, ge_iff_le, gt_iff_lt, List.length_cons, List.length_nil, bl_up2_at, bl_up2_nk, bl_up2_nx] <;> omega)), Or.inl ⟨kq3, (by (try dsimp only [bl_pv]); show vp_in _ (N _); rw [nq3, ec, t1, em]; exact vp_in_nI (by omega) (by omega)), (Nat.le_of_ble_eq_true rfl), (Nat.le_of_ble_eq_true rfl), kq, _, bl_vs rq_1, kq, _, bl_vs rq_3, Or.inl ⟨kq4, (by first | exact (by rw [nq4]; exact vp_in_nI (by omega) (by omega)) | ((try dsimp only [bl_pv]); show vp_in _ (N _); rw [nq4]; simp (disch := omega) only [h12, t1, g2, zI_n, zI_o, zI_lit, zI_neg, zI_add, zI_sub, zI_mul, zI_lt, zI_le, zI_eq, zI_clamp, zI_in, zI_div, zI_rem, lg_lt0, lg_gt0, lg_eq0, lg_le0, lg_ge0, Int.toNat_natCast, ge_iff_le, gt_iff_lt, List.length_cons, List.length_nil, bl_up2_at, bl_up2_nk, bl_up2_nx] <;> omega)), Or.inl ⟨kq2, (by (try dsimp only [bl_pv]); show vp_in _ (N _); rw [nq2, ec, g2, em2]; exact vp_in_nI (by omega) (by omega)), (Nat.le_of_ble_eq_true rfl), ?_⟩⟩⟩⟩⟩
                refine bl_lv [0, 1, 2, 3, 5, 6] rfl ?_
                try dsimp only [bl_pv]
                first
                | (have hf : ¬ s.1 r < D.2.1 r := by omega
                   have hu : unf D s r = false := decide_eq_false hf
                   refine ih _ _ _ _ (nI_1 _) ?_ ?_ ?_
                   · show _ = nI (if unf D s r then _ else _); rw [if_neg (by rw [hu]; decide)]
                   · show _ = nI (if unf D s r then _ else _); rw [if_neg (by rw [hu]; decide)]
                   · show _ = nI (max (ldl D s r) (cgo D s r + duc D r (D.2.1 r - s.1 r)))
                     rw [show D.2.1 r - s.1 r = 0 by omega]; exact nI_max rfl rfl (by omega) (show cgo D s r + 0 < _ by omega))
                | (have hf : s.1 r < D.2.1 r := by omega
                   have hu : unf D s r = true := decide_eq_true hf
                   refine ih _ _ _ _ (nI_1 _) ?_ ?_ ?_
                   · show _ = nI (if unf D s r then _ else _)
                     rw [if_pos hu]; exact nI_min rfl (by rw [ec, g2, em2, ea2]; exact (g4 _ (Nat.le_refl _)).1) (by omega) (show D.2.2.2 r (D.2.1 r) < _ by omega)
                   · show _ = nI (if unf D s r then _ else _)
                     rw [if_pos hu]; exact nI_min rfl rfl (by omega) (by omega)
                   · show _ = nI (max (ldl D s r) (cgo D s r + duc D r (D.2.1 r - s.1 r)))
                     exact nI_max rfl (by rw [ec, t1, em, ea, (g4 _ b1).2, nI_add]) (by omega) (by omega)))
           · try simp (disch := omega) only [h12, t1, g2, zI_n, zI_o, zI_lit, zI_neg, zI_add, zI_sub, zI_mul, zI_lt, zI_le, zI_eq, zI_clamp, zI_in, zI_div, zI_rem, lg_lt0, lg_gt0, lg_eq0, lg_le0, lg_ge0, Int.toNat_natCast, ge_iff_le, gt_iff_lt, List.length_cons, List.length_nil, bl_up2_at, bl_up2_nk, bl_up2_nx] at h44
             first
             | (exfalso; first | omega | exact h44 trivial)
             | (refine ⟨(Nat.le_of_ble_eq_true rfl), ?_⟩
                refine bl_lv [0, 3, 4, 1, 5, 6] rfl ?_
                try dsimp only [bl_pv]
                first
                | (have hf : ¬ s.1 r < D.2.1 r := by omega
                   have hu : unf D s r = false := decide_eq_false hf
                   refine ih _ _ _ _ (nI_1 _) ?_ ?_ ?_
                   · show _ = nI (if unf D s r then _ else _); rw [if_neg (by rw [hu]; decide)]
                   · show _ = nI (if unf D s r then _ else _); rw [if_neg (by rw [hu]; decide)]
                   · show _ = nI (max (ldl D s r) (cgo D s r + duc D r (D.2.1 r - s.1 r)))
                     rw [show D.2.1 r - s.1 r = 0 by omega]; exact nI_max rfl rfl (by omega) (show cgo D s r + 0 < _ by omega))
                | (have hf : s.1 r < D.2.1 r := by omega
                   have hu : unf D s r = true := decide_eq_true hf
                   refine ih _ _ _ _ (nI_1 _) ?_ ?_ ?_
                   · show _ = nI (if unf D s r then _ else _)
                     rw [if_pos hu]; exact nI_min rfl (by rw [ec, g2, em2, ea2]; exact (g4 _ (Nat.le_refl _)).1) (by omega) (show D.2.2.2 r (D.2.1 r) < _ by omega)
                   · show _ = nI (if unf D s r then _ else _)
                     rw [if_pos hu]; exact nI_min rfl rfl (by omega) (by omega)
                   · show _ = nI (max (ldl D s r) (cgo D s r + duc D r (D.2.1 r - s.1 r)))
                     exact nI_max rfl (by rw [ec, t1, em, ea, (g4 _ b1).2, nI_add]) (by omega) (by omega))))
  refine bl_go oX0_leastDone 80 [12] rfl ?_
  try dsimp only [bl_pv]
  exact L 0 (by omega) _ _ _ _ rfl rfl rfl rfl
theorem c_Bench_isNoLater {m : Nat} {x y : Int32} (hq : bnS R K N q) (hD : bnD I q D T) (hT : bnT I q D s) (hk : bOk D k s) (hs : bSm D k s) (hx : x = nI m) (hm : m + 4 ≤ 2048) (hy : y = nI s.2.2) : bl_MC G l (d + 1) mX0_isNoLater [.ref q, .int x, .int y] (I, J, R, K, N) (0, 0) (fun o σ' => (∃ v, o = .inl (some (.int v)) ∧ ((v = 1 ∧ ∀ r, r < D.1 → I (q + 9) (m + r) ≤ nI (cgo D s r)) ∨ (v = 0 ∧ ¬ ∀ r, r < D.1 → I (q + 9) (m + r) ≤ nI (cgo D s r)))) ∧ σ' = (I, J, R, K, N)) := by
  have hq' := hq
  obtain ⟨hq0, kq, ⟨rq_0, rq_1, rq_2, rq_3, rq_4, rq_5, rq_6, rq_7, rq_8, rq_9, rq_10, rq_11⟩, ⟨kq1, kq2, kq3, kq4, kq5, kq6, kq7, kq8, kq9, kq10, kq11, kq12⟩, ⟨nq1, nq2, nq3, nq4, nq5, nq6, nq7, nq8, nq9, nq10, nq11, nq12⟩⟩ := hq
  have h4 := hD.2.1
  have h12 := hD.1
  subst hx hy
  refine bl_MC_intro (by decide +kernel) rfl (Nat.le_of_ble_eq_true rfl) ?_
  have L : ∀ r, r ≤ D.1 → ∀ x, x = nI r → (∀ j, j < r → I (q + 9) (m + j) ≤ nI (cgo D s j)) → bl_WP G l (d + 1) mX0_isNoLater 2 [(3, .int x), (0, .ref q), (1, .int (nI m)), (2, .int (nI s.2.2))] [] (I, J, R, K, N) (0, 0) (fun o σ' => (∃ v, o = .inl (some (.int v)) ∧ ((v = 1 ∧ ∀ r, r < D.1 → I (q + 9) (m + r) ≤ nI (cgo D s r)) ∨ (v = 0 ∧ ¬ ∀ r, r < D.1 → I (q + 9) (m + r) ≤ nI (cgo D s r)))) ∧ σ' = (I, J, R, K, N)) := by
    refine bl_for D.1 ?_ (fun r hr ih => ?_)
    · intro x hx hh; subst hx
      refine bl_go oX0_isNoLater 80 [2] rfl ?_
      refine ⟨kq, fun h7 => ?_, fun h7 => ?_⟩
      · try simp (disch := omega) only [h12, zI_n, zI_o, zI_lit, zI_neg, zI_add, zI_sub, zI_mul, zI_lt, zI_le, zI_eq, zI_clamp, zI_in, zI_div, zI_rem, lg_lt0, lg_gt0, lg_eq0, lg_le0, lg_ge0, Int.toNat_natCast, ge_iff_le, gt_iff_lt, List.length_cons, List.length_nil, bl_up2_at, bl_up2_nk, bl_up2_nx] at h7
        refine ⟨(fun _ => by first | exact Or.inl rfl | exact Or.inr rfl), ?_⟩
        try show _ ∧ _
        try dsimp only [bl_pv]
        exact ⟨⟨_, rfl, Or.inl ⟨rfl, hh⟩⟩, rfl⟩
      · try simp (disch := omega) only [h12, zI_n, zI_o, zI_lit, zI_neg, zI_add, zI_sub, zI_mul, zI_lt, zI_le, zI_eq, zI_clamp, zI_in, zI_div, zI_rem, lg_lt0, lg_gt0, lg_eq0, lg_le0, lg_ge0, Int.toNat_natCast, ge_iff_le, gt_iff_lt, List.length_cons, List.length_nil, bl_up2_at, bl_up2_nk, bl_up2_nx] at h7
        exfalso; omega
    · intro x hx hh; subst hx
      have ea : (nI m + nI r).toNatClampNeg = m + r := by rw [nI_add]; exact nI_clamp (by omega)
      refine bl_go oX0_isNoLater 80 [2] rfl ?_
      refine ⟨kq, fun h7 => ?_, fun h7 => ?_⟩
      · try simp (disch := omega) only [h12, zI_n, zI_o, zI_lit, zI_neg, zI_add, zI_sub, zI_mul, zI_lt, zI_le, zI_eq, zI_clamp, zI_in, zI_div, zI_rem, lg_lt0, lg_gt0, lg_eq0, lg_le0, lg_ge0, Int.toNat_natCast, ge_iff_le, gt_iff_lt, List.length_cons, List.length_nil, bl_up2_at, bl_up2_nk, bl_up2_nx] at h7
        exfalso; omega
      · try simp (disch := omega) only [h12, zI_n, zI_o, zI_lit, zI_neg, zI_add, zI_sub, zI_mul, zI_lt, zI_le, zI_eq, zI_clamp, zI_in, zI_div, zI_rem, lg_lt0, lg_gt0, lg_eq0, lg_le0, lg_ge0, Int.toNat_natCast, ge_iff_le, gt_iff_lt, List.length_cons, List.length_nil, bl_up2_at, bl_up2_nk, bl_up2_nx] at h7
        refine ⟨kq, _, bl_vs rq_8, Or.inl ⟨kq9, (by (try dsimp only [bl_pv]); show vp_in _ (N _); rw [nq9, nI_add]; exact vp_in_nI (by omega) (by omega)), rfl, rfl, kq, (Nat.le_of_ble_eq_true rfl), (0, 0), Nat.le_of_ble_eq_true rfl, Nat.le_of_ble_eq_true rfl, bl_MC_mono (c_Bench_canGoOn (d := d) hq' hD hT hk hs rfl rfl hr) (fun o21 σ21 q21 => ?_)⟩⟩
        try dsimp only [bl_pv] at q21
        obtain ⟨rfl, rfl⟩ := q21
        refine bl_go oX0_isNoLater 80 [2] rfl ?_
        refine ⟨fun h24 => ?_, fun h24 => ?_⟩
        · try simp (disch := omega) only [bl_pv, cl0, cl1, cl2, cl3, cl4, cl5, cl6, cl7, cl8, cl9, bl_up2_at, bl_up2_nk, bl_up2_nx] at h24
          rw [ea] at h24
          try dsimp only [bl_pv]
          refine ih _ (nI_1 _) (fun j hj => ?_)
          by_cases e : j = r
          · subst e; exact h24
          · exact hh j (by omega)
        · try simp (disch := omega) only [bl_pv, cl0, cl1, cl2, cl3, cl4, cl5, cl6, cl7, cl8, cl9, bl_up2_at, bl_up2_nk, bl_up2_nx] at h24
          rw [ea] at h24
          refine ⟨(fun _ => by first | exact Or.inl rfl | exact Or.inr rfl), ?_⟩
          try show _ ∧ _
          try dsimp only [bl_pv]
          exact ⟨⟨_, rfl, Or.inr ⟨rfl, fun hh => h24 (hh r hr)⟩⟩, rfl⟩
  refine bl_go oX0_isNoLater 80 [2] rfl ?_
  try dsimp only [bl_pv]
  exact L 0 (by omega) _ rfl (fun j hj => absurd hj (by omega))
end BENCH
