/-! ===== Bench: partInBlocks, find ===== -/
section BENCH8
variable {G : bl_G} {l : Launch} {d q p : Nat} {I : Nat → Nat → Int32} {J : Nat → Nat → Int64} {R : Nat → Nat → Option Nat} {K N : Nat → Nat}
/-- row r of D is S -/
def rowD (D : bD) (r : Nat) (S : bkS) : Prop := D.2.1 r = S.1 ∧ D.2.2.1 r = S.2.1 ∧ D.2.2.2 r = S.2.2
theorem c_Bench_countDue {S : bkS} {D : bD} {r w W : Nat} {x y : Int32} (hq : bnS R K N q) (hS : bkI I q w S) (hr : rowD D r S) (hS1 : S.1 ≤ 20) (hw : w ≤ 66) (hW : I q 14 = nI W) (hx : x = nI w) (hy : y = nI S.1) : bl_MC G l d mX0_countDue [.ref q, .int x, .int y] (I, J, R, K, N) (0, 0) (fun o σ' => o = .inl none ∧ ∃ I', σ' = (I', J, R, K, N) ∧ (∀ x, x ≠ q → x ≠ q + 3 → I' x = I x) ∧ (∀ j, j ≠ 14 → I' q j = I q j) ∧ (∀ j, (j < w ∨ w + 22 ≤ j) → I' (q + 3) j = I (q + 3) j) ∧ I' q 14 = nI (W + wrc D r S.1) ∧ ∀ b, b ≤ S.1 → I' (q + 3) (w + b) = nI (duc D r (S.1 - b))) := by
  obtain ⟨hq0, kq, ⟨rq_0, rq_1, rq_2, rq_3, rq_4, rq_5, rq_6, rq_7, rq_8, rq_9, rq_10, rq_11⟩, ⟨kq1, kq2, kq3, kq4, kq5, kq6, kq7, kq8, kq9, kq10, kq11, kq12⟩, ⟨nq1, nq2, nq3, nq4, nq5, nq6, nq7, nq8, nq9, nq10, nq11, nq12⟩⟩ := hq
  obtain ⟨d1, d2, d3⟩ := hr
  subst hx hy
  refine bl_MC_intro (by decide +kernel) rfl (Nat.le_of_ble_eq_true rfl) ?_
  have L : ∀ m : Nat, m ≤ S.1 → ∀ z I1, z = zI ((S.1 : Int) - 1 - m) → (∀ x, x ≠ q → x ≠ q + 3 → I1 x = I x) → (∀ j, j ≠ 14 → I1 q j = I q j) → (∀ j, (j < w ∨ w + 22 ≤ j) → I1 (q + 3) j = I (q + 3) j) → I1 q 14 = nI (W + wrc D r m) → (∀ b, b ≤ S.1 → S.1 ≤ b + m → I1 (q + 3) (w + b) = nI (duc D r (S.1 - b))) → bl_WP G l d mX0_countDue 13 [(3, .int z), (0, .ref q), (1, .int (nI w)), (2, .int (nI S.1))] [] (I1, J, R, K, N) (0, 0) (fun o σ' => o = .inl none ∧ ∃ I', σ' = (I', J, R, K, N) ∧ (∀ x, x ≠ q → x ≠ q + 3 → I' x = I x) ∧ (∀ j, j ≠ 14 → I' q j = I q j) ∧ (∀ j, (j < w ∨ w + 22 ≤ j) → I' (q + 3) j = I (q + 3) j) ∧ I' q 14 = nI (W + wrc D r S.1) ∧ ∀ b, b ≤ S.1 → I' (q + 3) (w + b) = nI (duc D r (S.1 - b))) := by
    refine bl_for S.1 ?_ (fun m hm ih => ?_)
    · intro z I1 hz f1 f2 f3 f4 f5; subst hz
      refine bl_go oX0_countDue 80 [13] rfl ?_
      refine ⟨fun h14 => ?_, fun h14 => ?_⟩
      · try simp (disch := omega) only [zI_n, zI_o, zI_lit, zI_neg, zI_add, zI_sub, zI_mul, zI_lt, zI_le, zI_eq, zI_clamp, zI_in, zI_div, zI_rem, lg_lt0, lg_gt0, lg_eq0, lg_le0, lg_ge0, Int.toNat_natCast, ge_iff_le, gt_iff_lt, List.length_cons, List.length_nil, bl_up2_at, bl_up2_nk, bl_up2_nx] at h14
        try show _ ∧ _
        try dsimp only [bl_pv]
        exact ⟨rfl, I1, rfl, f1, f2, f3, f4, fun b hb => f5 b hb (by omega)⟩
      · try simp (disch := omega) only [zI_n, zI_o, zI_lit, zI_neg, zI_add, zI_sub, zI_mul, zI_lt, zI_le, zI_eq, zI_clamp, zI_in, zI_div, zI_rem, lg_lt0, lg_gt0, lg_eq0, lg_le0, lg_ge0, Int.toNat_natCast, ge_iff_le, gt_iff_lt, List.length_cons, List.length_nil, bl_up2_at, bl_up2_nk, bl_up2_nx] at h14
        exfalso; omega
    · intro z I1 hz f1 f2 f3 f4 f5
      obtain ⟨b0, hb0⟩ : ∃ b0, S.1 = b0 + m + 1 := ⟨S.1 - m - 1, by omega⟩
      have hz2 : z = nI b0 := by rw [hz, zI_n]; congr 1; omega
      subst hz2
      have em : nI w + nI b0 = nI (w + b0) := nI_add _ _
      have ec : (nI (w + b0)).toNatClampNeg = w + b0 := nI_clamp (by omega)
      have ec1 : (nI (w + b0) + 1).toNatClampNeg = w + b0 + 1 := by rw [nI_1]; exact nI_clamp (by omega)
      have u1 : I1 (q + 1) (w + b0) = nI (S.2.1 b0) := by rw [f1 _ (by omega) (by omega)]; exact (hS b0 (by omega)).1
      have u2 : I1 (q + 2) (w + b0 + 1) = nI (S.2.2 (b0 + 1)) := by rw [f1 _ (by omega) (by omega)]; exact (hS (b0 + 1) (by omega)).2
      have u3 : I1 (q + 3) (w + b0 + 1) = nI (duc D r m) := by
        have := f5 (b0 + 1) (by omega) (by omega)
        rw [show S.1 - (b0 + 1) = m by omega] at this; exact this
      have ed : duc D r (m + 1) = S.2.1 b0 + S.2.2 (b0 + 1) + duc D r m := by
        show D.2.2.1 r (D.2.1 r - (m + 1)) + D.2.2.2 r (D.2.1 r - m) + duc D r m = _
        rw [d1, d2, d3, show S.1 - (m + 1) = b0 by omega, show S.1 - m = b0 + 1 by omega]
      have ew : wrc D r (m + 1) = S.2.1 b0 + wrc D r m := by
        show D.2.2.1 r (D.2.1 r - (m + 1)) + wrc D r m = _
        rw [d1, d2, show S.1 - (m + 1) = b0 by omega]
      refine bl_go oX0_countDue 80 [13] rfl ?_
      refine ⟨fun h14 => ?_, fun h14 => ?_⟩
      · try simp (disch := omega) only [zI_n, zI_o, zI_lit, zI_neg, zI_add, zI_sub, zI_mul, zI_lt, zI_le, zI_eq, zI_clamp, zI_in, zI_div, zI_rem, lg_lt0, lg_gt0, lg_eq0, lg_le0, lg_ge0, Int.toNat_natCast, ge_iff_le, gt_iff_lt, List.length_cons, List.length_nil, bl_up2_at, bl_up2_nk, bl_up2_nx] at h14
        exfalso; omega
      · try simp (disch := omega) only [zI_n, zI_o, zI_lit, zI_neg, zI_add, zI_sub, zI_mul, zI_lt, zI_le, zI_eq, zI_clamp, zI_in, zI_div, zI_rem, lg_lt0, lg_gt0, lg_eq0, lg_le0, lg_ge0, Int.toNat_natCast, ge_iff_le, gt_iff_lt, List.length_cons, List.length_nil, bl_up2_at, bl_up2_nk, bl_up2_nx] at h14
        refine ⟨rfl, kq, kq, _, bl_vs rq_0, Or.inl ⟨kq1, (by (try dsimp only [bl_pv]); show vp_in _ (N _); rw [nq1, em]; exact vp_in_nI (by omega) (by omega)), kq, Or.inr (Or.inr ⟨rfl, rfl, _, rfl⟩), (fun h => by cases h), kq, _, bl_vs rq_2, kq, _, bl_vs rq_0, Or.inl ⟨kq1, (by (try dsimp only [bl_pv]); show vp_in _ (N _); rw [nq1, em]; exact vp_in_nI (by omega) (by omega)), kq, _, bl_vs rq_1, Or.inl ⟨kq2, (by (try dsimp only [bl_pv]); show vp_in _ (N _); rw [nq2, em, nI_1]; exact vp_in_nI (by omega) (by omega)), kq, _, bl_vs rq_2, Or.inl ⟨kq3, (by (try dsimp only [bl_pv]); show vp_in _ (N _); rw [nq3, em, nI_1]; exact vp_in_nI (by omega) (by omega)), kq3, (by (try dsimp only [bl_pv]); show vp_in _ (N _); rw [nq3, em]; exact vp_in_nI (by omega) (by omega)), ?_⟩⟩⟩⟩⟩
        try dsimp only [bl_pv]
        rw [em, ec, ec1]
        refine ih _ _ ?_ (fun x x1 x2 => ?_) (fun j j1 => ?_) (fun j hj => ?_) ?_ (fun b hb hbm => ?_)
        · rw [zI_n, show (-1 : Int32) = zI (-1) from rfl, zI_add]; congr 1; omega
        · rw [bl_up2_ne x2, bl_up2_ne x1]; exact f1 x x1 x2
        · rw [bl_up2_ne (by omega), bl_up2_nk j1]; exact f2 j j1
        · rw [bl_up2_nk (by omega), bl_up2_ne (by omega)]; exact f3 j hj
        · rw [bl_up2_ne (by omega), bl_up2_at, f4, u1, nI_add, ew]; congr 1; omega
        · by_cases e : b = b0
          · subst e
            rw [bl_up2_at, bl_up2_ne (show q + 1 ≠ q by omega), bl_up2_ne (show q + 2 ≠ q by omega), bl_up2_ne (show q + 3 ≠ q by omega), u1, u2, u3, nI_add, nI_add, show S.1 - b = m + 1 by omega, ed]
          · rw [bl_up2_nk (by omega), bl_up2_ne (by omega)]; exact f5 b hb (by omega)
  have em0 : nI w + nI S.1 = nI (w + S.1) := nI_add _ _
  have ec0 : (nI (w + S.1)).toNatClampNeg = w + S.1 := nI_clamp (by omega)
  refine bl_go oX0_countDue 80 [13] rfl ?_
  refine ⟨kq, _, bl_vs rq_2, kq3, (by (try dsimp only [bl_pv]); show vp_in _ (N _); rw [nq3, em0]; exact vp_in_nI (by omega) (by omega)), ?_⟩
  try dsimp only [bl_pv]
  rw [em0, ec0]
  refine L 0 (by omega) _ _ ?_ (fun x x1 x2 => bl_up2_ne x2) (fun j j1 => by rw [bl_up2_ne (by omega)]) (fun j hj => by rw [bl_up2_nk (by omega)]) ?_ (fun b hb hbm => ?_)
  · rw [zI_n, zI_lit, zI_sub]; congr 1; omega
  · rw [bl_up2_ne (by omega)]; exact hW
  · rw [show b = S.1 by omega, bl_up2_at, Nat.sub_self]; rfl
theorem c_Bench_partInBlocks {D : bD} {rc : sq} {r t W : Nat} {x : Int32} (hq : bnS R K N q) (hp : rcS R K N p) (hpq : p + 2 < q ∨ q + 12 < p) (hrc : rcC I p rc) (hD : rowD D r (bkD rc)) (hr : r < 4) (hW : I q 14 = nI W) (ht : I q 16 = nI t) (hx : x = nI r) : bl_MC G l (d + 1) mX0_partInBlocks [.ref q, .ref p, .int x] (I, J, R, K, N) (0, 0) (fun o σ' => o = .inl none ∧ ∃ I', σ' = (I', J, R, K, N) ∧ (∀ x, x ≠ q → x ≠ q + 1 → x ≠ q + 2 → x ≠ q + 3 → x ≠ q + 4 → I' x = I x) ∧ (∀ j, j ≠ 14 → j ≠ 16 → I' q j = I q j) ∧ (∀ j, (j < r * 22 ∨ r * 22 + 22 ≤ j) → I' (q + 1) j = I (q + 1) j ∧ I' (q + 2) j = I (q + 2) j ∧ I' (q + 3) j = I (q + 3) j) ∧ (∀ j, j ≠ r → I' (q + 4) j = I (q + 4) j) ∧ I' q 14 = nI (W + wrc D r (bkD rc).1) ∧ I' q 16 = nI (t + (bkD rc).1) ∧ I' (q + 4) r = nI (bkD rc).1 ∧ (∀ b, b ≤ (bkD rc).1 → I' (q + 1) (r * 22 + b) = nI ((bkD rc).2.1 b) ∧ I' (q + 2) (r * 22 + b) = nI ((bkD rc).2.2 b) ∧ I' (q + 3) (r * 22 + b) = nI (duc D r ((bkD rc).1 - b)))) := by
  have hq' := hq
  have hp' := hp
  obtain ⟨hq0, kq, ⟨rq_0, rq_1, rq_2, rq_3, rq_4, rq_5, rq_6, rq_7, rq_8, rq_9, rq_10, rq_11⟩, ⟨kq1, kq2, kq3, kq4, kq5, kq6, kq7, kq8, kq9, kq10, kq11, kq12⟩, ⟨nq1, nq2, nq3, nq4, nq5, nq6, nq7, nq8, nq9, nq10, nq11, nq12⟩⟩ := hq
  obtain ⟨kp, rp_0, rp_1, kpk, npk, kpn, npn⟩ := hp
  have h20 := hrc.2.1
  have h36 : ∀ k, k < rc.1 → rc.2.2 k ≤ 36 := fun k hk => (hrc.2.2 k hk).2.2.2
  have hKF := fun k hk => bkF_K h36 k hk
  have ew : nI r * 22 = nI (r * 22) := by rw [← nI_mulc]; rfl
  have ecw : (nI (r * 22)).toNatClampNeg = r * 22 := nI_clamp (by omega)
  have ecr : (nI r).toNatClampNeg = r := nI_clamp (by omega)
  have hDK := bkE_K (hKF rc.1 (Nat.le_refl _))
  have hD20 : (bkD rc).1 ≤ 20 := by
    have := hDK.1
    show (bkE (bkF rc rc.1)).1 ≤ 20
    omega
  subst hx
  refine bl_MC_intro (by decide +kernel) rfl (Nat.le_of_ble_eq_true rfl) ?_
  have L : ∀ k, k ≤ rc.1 → ∀ z y v I1, z = nI k → y = nI (bkF rc k).1 → v = nI (r * 22) → bkM I I1 q (r * 22) → bkI I1 q (r * 22) (bkF rc k) → bl_WP G l (d + 1) mX0_partInBlocks 25 [(5, .int z), (4, .int y), (3, .int v), (0, .ref q), (1, .ref p), (2, .int (nI r))] [] (I1, J, R, K, N) (0, 0) (fun o σ' => o = .inl none ∧ ∃ I', σ' = (I', J, R, K, N) ∧ (∀ x, x ≠ q → x ≠ q + 1 → x ≠ q + 2 → x ≠ q + 3 → x ≠ q + 4 → I' x = I x) ∧ (∀ j, j ≠ 14 → j ≠ 16 → I' q j = I q j) ∧ (∀ j, (j < r * 22 ∨ r * 22 + 22 ≤ j) → I' (q + 1) j = I (q + 1) j ∧ I' (q + 2) j = I (q + 2) j ∧ I' (q + 3) j = I (q + 3) j) ∧ (∀ j, j ≠ r → I' (q + 4) j = I (q + 4) j) ∧ I' q 14 = nI (W + wrc D r (bkD rc).1) ∧ I' q 16 = nI (t + (bkD rc).1) ∧ I' (q + 4) r = nI (bkD rc).1 ∧ (∀ b, b ≤ (bkD rc).1 → I' (q + 1) (r * 22 + b) = nI ((bkD rc).2.1 b) ∧ I' (q + 2) (r * 22 + b) = nI ((bkD rc).2.2 b) ∧ I' (q + 3) (r * 22 + b) = nI (duc D r ((bkD rc).1 - b)))) := by
    refine bl_for rc.1 ?_ (fun k hk ih => ?_)
    · intro z y v I1 hz hy hv hM hS; subst hz hy hv
      have z2 : I1 p 2 = nI rc.1 := by rw [hM.1 _ (by omega) (by omega)]; exact hrc.1
      refine bl_go oX0_partInBlocks 80 [25] rfl ?_
      refine ⟨kp, fun h31 => ?_, fun h31 => ?_⟩
      · try simp (disch := omega) only [z2, zI_n, zI_o, zI_lit, zI_neg, zI_add, zI_sub, zI_mul, zI_lt, zI_le, zI_eq, zI_clamp, zI_in, zI_div, zI_rem, lg_lt0, lg_gt0, lg_eq0, lg_le0, lg_ge0, Int.toNat_natCast, ge_iff_le, gt_iff_lt, List.length_cons, List.length_nil, bl_up2_at, bl_up2_nk, bl_up2_nx] at h31
        refine ⟨rfl, rfl, kq, (Nat.le_of_ble_eq_true rfl), (0, 0), Nat.le_of_ble_eq_true rfl, Nat.le_of_ble_eq_true rfl, bl_MC_mono (c_Bench_endBlock (d := d) hq' hS (hKF rc.1 (Nat.le_refl _)) h20 (by omega) rfl rfl) (fun o111 σ111 q111 => ?_)⟩
        try dsimp only [bl_pv] at q111
        obtain ⟨rfl, I2, rfl, hM2, hS2⟩ := q111
        have hMM := hM.trans hM2
        change bkI I2 q (r * 22) (bkD rc) at hS2
        change bl_after _ _ _ _ _ _ _ _ _ (Sum.inl (some (Value.int (nI (bkD rc).1)))) _
        refine bl_go oX0_partInBlocks 80 [25] rfl ?_
        refine ⟨kq, _, bl_vs rq_3, kq4, (by first | exact (by rw [nq4]; exact vp_in_nI (by omega) (by omega)) | ((try dsimp only [bl_pv]); show vp_in _ (N _); rw [nq4]; simp (disch := omega) only [z2, zI_n, zI_o, zI_lit, zI_neg, zI_add, zI_sub, zI_mul, zI_lt, zI_le, zI_eq, zI_clamp, zI_in, zI_div, zI_rem, lg_lt0, lg_gt0, lg_eq0, lg_le0, lg_ge0, Int.toNat_natCast, ge_iff_le, gt_iff_lt, List.length_cons, List.length_nil, bl_up2_at, bl_up2_nk, bl_up2_nx] <;> omega)), rfl, kq, kq, Or.inr (Or.inr ⟨rfl, rfl, _, rfl⟩), (fun h => by cases h), rfl, rfl, kq, (Nat.le_of_ble_eq_true rfl), (0, 0), Nat.le_of_ble_eq_true rfl, Nat.le_of_ble_eq_true rfl, bl_MC_mono (c_Bench_countDue (d := d) (S := bkD rc) (D := D) (r := r) (W := W) hq' (fun j hj => by dsimp only [bl_pv]; rw [bl_up2_ne (by omega), bl_up2_ne (by omega), bl_up2_ne (by omega), bl_up2_ne (by omega)]; exact hS2 j hj) hD hD20 (by omega) (by dsimp only [bl_pv]; rw [bl_up2_nk (by omega), bl_up2_ne (by omega), hMM.1 _ (by omega) (by omega)]; exact hW) rfl rfl) (fun o139 σ139 q139 => ?_)⟩
        try dsimp only [bl_pv] at q139
        obtain ⟨rfl, I3, rfl, c1, c2, c3, c4, c5⟩ := q139
        refine bl_go oX0_partInBlocks 80 [25] rfl ?_
        try show _ ∧ _
        try dsimp only [bl_pv]
        refine ⟨rfl, I3, rfl, fun x x1 x2 x3 x4 x5 => ?_, fun j j1 j2 => ?_, fun j hj => ⟨?_, ?_, ?_⟩, fun j hj => ?_, c4, ?_, ?_, fun b hb => ⟨?_, ?_, c5 b hb⟩⟩
        · rw [c1 x x1 x4, bl_up2_ne x1, bl_up2_ne x5]; exact hMM.1 x x2 x3
        · rw [c2 j j1, bl_up2_nk j2, bl_up2_ne (by omega), hMM.1 _ (by omega) (by omega)]
        · rw [c1 _ (by omega) (by omega), bl_up2_ne (by omega), bl_up2_ne (by omega)]; exact (hMM.2 j hj).1
        · rw [c1 _ (by omega) (by omega), bl_up2_ne (by omega), bl_up2_ne (by omega)]; exact (hMM.2 j hj).2
        · rw [c3 j hj, bl_up2_ne (by omega), bl_up2_ne (by omega), hMM.1 _ (by omega) (by omega)]
        · rw [c1 _ (by omega) (by omega), bl_up2_ne (by omega), ecr, bl_up2_nk hj, hMM.1 _ (by omega) (by omega)]
        · rw [c2 16 (by omega), bl_up2_at, bl_up2_ne (by omega), hMM.1 _ (by omega) (by omega), ht, nI_add]
        · rw [c1 _ (by omega) (by omega), bl_up2_ne (by omega), ecr, bl_up2_at]
        · rw [c1 _ (by omega) (by omega), bl_up2_ne (by omega), bl_up2_ne (by omega)]; exact (hS2 b hb).1
        · rw [c1 _ (by omega) (by omega), bl_up2_ne (by omega), bl_up2_ne (by omega)]; exact (hS2 b hb).2
      · try simp (disch := omega) only [z2, zI_n, zI_o, zI_lit, zI_neg, zI_add, zI_sub, zI_mul, zI_lt, zI_le, zI_eq, zI_clamp, zI_in, zI_div, zI_rem, lg_lt0, lg_gt0, lg_eq0, lg_le0, lg_ge0, Int.toNat_natCast, ge_iff_le, gt_iff_lt, List.length_cons, List.length_nil, bl_up2_at, bl_up2_nk, bl_up2_nx] at h31
        exfalso; omega
    · intro z y v I1 hz hy hv hM hS; subst hz hy hv
      have z2 : I1 p 2 = nI rc.1 := by rw [hM.1 _ (by omega) (by omega)]; exact hrc.1
      have hrc1 : rcC I1 p rc := by
        refine ⟨z2, h20, fun j hj => ?_⟩
        rw [hM.1 _ (by omega) (by omega), hM.1 _ (by omega) (by omega)]; exact hrc.2.2 j hj
      have ek : (nI k).toNatClampNeg = k := nI_clamp (by omega)
      have hkd : I1 (p + 1) k = nI (rc.2.1 k) := (hrc1.2.2 k hk).1
      have hk7 := (hrc.2.2 k hk).2.2.1
      have hS20 : (bkF rc k).1 ≤ 20 := by have := (hKF k (by omega)).1; omega
      have em : nI (r * 22) + nI (bkF rc k).1 = nI (r * 22 + (bkF rc k).1) := nI_add _ _
      have ec : (nI (r * 22 + (bkF rc k).1)).toNatClampNeg = r * 22 + (bkF rc k).1 := nI_clamp (by omega)
      have hE20 : (bkE (bkF rc k)).1 ≤ 20 := by have := (bkE_K (hKF k (by omega))).1; omega
      have em2 : nI (r * 22) + nI (bkE (bkF rc k)).1 = nI (r * 22 + (bkE (bkF rc k)).1) := nI_add _ _
      have ec2 : (nI (r * 22 + (bkE (bkF rc k)).1)).toNatClampNeg = r * 22 + (bkE (bkF rc k)).1 := nI_clamp (by omega)
      refine bl_go oX0_partInBlocks 80 [25] rfl ?_
      refine ⟨kp, fun h31 => ?_, fun h31 => ?_⟩
      · try simp (disch := omega) only [z2, ek, hkd, zI_n, zI_o, zI_lit, zI_neg, zI_add, zI_sub, zI_mul, zI_lt, zI_le, zI_eq, zI_clamp, zI_in, zI_div, zI_rem, lg_lt0, lg_gt0, lg_eq0, lg_le0, lg_ge0, Int.toNat_natCast, ge_iff_le, gt_iff_lt, List.length_cons, List.length_nil, bl_up2_at, bl_up2_nk, bl_up2_nx] at h31
        exfalso; omega
      · try simp (disch := omega) only [z2, ek, hkd, zI_n, zI_o, zI_lit, zI_neg, zI_add, zI_sub, zI_mul, zI_lt, zI_le, zI_eq, zI_clamp, zI_in, zI_div, zI_rem, lg_lt0, lg_gt0, lg_eq0, lg_le0, lg_ge0, Int.toNat_natCast, ge_iff_le, gt_iff_lt, List.length_cons, List.length_nil, bl_up2_at, bl_up2_nk, bl_up2_nx] at h31
        first
        | (exfalso; first | omega | exact h31 trivial)
        | (refine ⟨fun h38 => ?_, fun h38 => ?_⟩
           · try simp (disch := omega) only [z2, ek, hkd, zI_n, zI_o, zI_lit, zI_neg, zI_add, zI_sub, zI_mul, zI_lt, zI_le, zI_eq, zI_clamp, zI_in, zI_div, zI_rem, lg_lt0, lg_gt0, lg_eq0, lg_le0, lg_ge0, Int.toNat_natCast, ge_iff_le, gt_iff_lt, List.length_cons, List.length_nil, bl_up2_at, bl_up2_nk, bl_up2_nx] at h38
             exfalso; omega
           · try simp (disch := omega) only [z2, ek, hkd, zI_n, zI_o, zI_lit, zI_neg, zI_add, zI_sub, zI_mul, zI_lt, zI_le, zI_eq, zI_clamp, zI_in, zI_div, zI_rem, lg_lt0, lg_gt0, lg_eq0, lg_le0, lg_ge0, Int.toNat_natCast, ge_iff_le, gt_iff_lt, List.length_cons, List.length_nil, bl_up2_at, bl_up2_nk, bl_up2_nx] at h38
             first
             | (exfalso; first | omega | exact h38 trivial)
             | (refine ⟨rfl, rfl, kp, (Nat.le_of_ble_eq_true rfl), (0, 0), Nat.le_of_ble_eq_true rfl, Nat.le_of_ble_eq_true rfl, bl_MC_mono (c_Recipe_unitsOf (d := d) hp' hrc1 hk) (fun o44 σ44 q44 => ?_)⟩
                try dsimp only [bl_pv] at q44
                obtain ⟨rfl, rfl⟩ := q44
                refine bl_go oX0_partInBlocks 80 [25] rfl ?_
                refine ⟨kp, _, bl_vs rp_0, Or.inl ⟨kpk, (by first | exact (by rw [npk]; exact vp_in_nI (by omega) (by omega)) | ((try dsimp only [bl_pv]); show vp_in _ (N _); rw [npk]; simp (disch := omega) only [z2, ek, hkd, zI_n, zI_o, zI_lit, zI_neg, zI_add, zI_sub, zI_mul, zI_lt, zI_le, zI_eq, zI_clamp, zI_in, zI_div, zI_rem, lg_lt0, lg_gt0, lg_eq0, lg_le0, lg_ge0, Int.toNat_natCast, ge_iff_le, gt_iff_lt, List.length_cons, List.length_nil, bl_up2_at, bl_up2_nk, bl_up2_nx] <;> omega)), fun h58 => ?_, fun h58 => ?_⟩⟩
                · try simp (disch := omega) only [z2, ek, hkd, zI_n, zI_o, zI_lit, zI_neg, zI_add, zI_sub, zI_mul, zI_lt, zI_le, zI_eq, zI_clamp, zI_in, zI_div, zI_rem, lg_lt0, lg_gt0, lg_eq0, lg_le0, lg_ge0, Int.toNat_natCast, ge_iff_le, gt_iff_lt, List.length_cons, List.length_nil, bl_up2_at, bl_up2_nk, bl_up2_nx] at h58
                  first
                  | (exfalso; first | omega | exact h58 trivial)
                  | (refine ⟨rfl, rfl, kq, (Nat.le_of_ble_eq_true rfl), (0, 0), Nat.le_of_ble_eq_true rfl, Nat.le_of_ble_eq_true rfl, bl_MC_mono (c_Bench_endBlock (d := d) hq' hS (hKF k (by omega)) (by omega) (by omega) rfl rfl) (fun o82 σ82 q82 => ?_)⟩
                     try dsimp only [bl_pv] at q82
                     obtain ⟨rfl, I2, rfl, hM2, hS2⟩ := q82
                     have hMM := hM.trans hM2
                     refine bl_go oX0_partInBlocks 80 [25] rfl ?_
                     refine ⟨kq, _, bl_vs rq_1, ⟨rfl, rfl⟩, Or.inl ⟨kq2, (by (try dsimp only [bl_pv]); show vp_in _ (N _); rw [nq2, em2]; exact vp_in_nI (by omega) (by omega)), kq2, (by (try dsimp only [bl_pv]); show vp_in _ (N _); rw [nq2, em2]; exact vp_in_nI (by omega) (by omega)), ?_⟩⟩
                     refine bl_lv [0, 1, 3, 4, 5, 6] rfl ?_
                     try dsimp only [bl_pv]
                     first
                     | (have hq2 := hS2
                        have h6 : rc.2.1 k = 6 := by omega
                        have e : bkF rc (k + 1) = ((bkE (bkF rc k)).1, (bkE (bkF rc k)).2.1, up1 (bkE (bkF rc k)).2.2 (bkE (bkF rc k)).1 ((bkE (bkF rc k)).2.2 (bkE (bkF rc k)).1 + st_un (rc.2.1 k) (rc.2.2 k))) := if_pos h6
                        rw [em2, ec2]
                        refine ih _ _ _ _ (nI_1 _) (by rw [e]) rfl (hMM.trans ⟨fun x x1 x2 => bl_up2_ne x2, fun j hj => ⟨by rw [bl_up2_ne (by omega)], by rw [bl_up2_nk (by omega)]⟩⟩) ?_
                        rw [e]
                        intro j hj
                        have hj' : j ≤ (bkE (bkF rc k)).1 := hj
                        refine ⟨by rw [bl_up2_ne (by omega)]; exact (hS2 j hj').1, ?_⟩
                        show _ = nI (up1 _ _ _ j)
                        by_cases e2 : j = (bkE (bkF rc k)).1
                        · rw [e2, bl_up2_at, up1_at, (hS2 _ (Nat.le_refl _)).2, nI_add]
                        · rw [bl_up2_nk (by omega), up1_ne e2]; exact (hS2 j hj').2)
                     | (have h6 : ¬ rc.2.1 k = 6 := by omega
                        have e : bkF rc (k + 1) = ((bkF rc k).1, up1 (bkF rc k).2.1 (bkF rc k).1 ((bkF rc k).2.1 (bkF rc k).1 + st_un (rc.2.1 k) (rc.2.2 k)), (bkF rc k).2.2) := if_neg h6
                        rw [em, ec]
                        refine ih _ _ _ _ (nI_1 _) (by rw [e]) rfl (hM.trans ⟨fun x x1 x2 => bl_up2_ne x1, fun j hj => ⟨by rw [bl_up2_nk (by omega)], by rw [bl_up2_ne (by omega)]⟩⟩) ?_
                        rw [e]
                        intro j hj
                        have hj' : j ≤ (bkF rc k).1 := hj
                        refine ⟨?_, by rw [bl_up2_ne (by omega)]; exact (hS j hj').2⟩
                        show _ = nI (up1 _ _ _ j)
                        by_cases e2 : j = (bkF rc k).1
                        · rw [e2, bl_up2_at, up1_at, (hS _ (Nat.le_refl _)).1, nI_add]
                        · rw [bl_up2_nk (by omega), up1_ne e2]; exact (hS j hj').1))
                · try simp (disch := omega) only [z2, ek, hkd, zI_n, zI_o, zI_lit, zI_neg, zI_add, zI_sub, zI_mul, zI_lt, zI_le, zI_eq, zI_clamp, zI_in, zI_div, zI_rem, lg_lt0, lg_gt0, lg_eq0, lg_le0, lg_ge0, Int.toNat_natCast, ge_iff_le, gt_iff_lt, List.length_cons, List.length_nil, bl_up2_at, bl_up2_nk, bl_up2_nx] at h58
                  first
                  | (exfalso; first | omega | exact h58 trivial)
                  | (refine ⟨kq, _, bl_vs rq_0, ⟨rfl, rfl⟩, Or.inl ⟨kq1, (by (try dsimp only [bl_pv]); show vp_in _ (N _); rw [nq1, em]; exact vp_in_nI (by omega) (by omega)), kq1, (by (try dsimp only [bl_pv]); show vp_in _ (N _); rw [nq1, em]; exact vp_in_nI (by omega) (by omega)), ?_⟩⟩
                     refine bl_lv [0, 2, 3, 4, 5, 6] rfl ?_
                     try dsimp only [bl_pv]
                     first
                     | (have hq2 := hS2
                        have h6 : rc.2.1 k = 6 := by omega
                        have e : bkF rc (k + 1) = ((bkE (bkF rc k)).1, (bkE (bkF rc k)).2.1, up1 (bkE (bkF rc k)).2.2 (bkE (bkF rc k)).1 ((bkE (bkF rc k)).2.2 (bkE (bkF rc k)).1 + st_un (rc.2.1 k) (rc.2.2 k))) := if_pos h6
                        rw [em2, ec2]
                        refine ih _ _ _ _ (nI_1 _) (by rw [e]) rfl (hMM.trans ⟨fun x x1 x2 => bl_up2_ne x2, fun j hj => ⟨by rw [bl_up2_ne (by omega)], by rw [bl_up2_nk (by omega)]⟩⟩) ?_
                        rw [e]
                        intro j hj
                        have hj' : j ≤ (bkE (bkF rc k)).1 := hj
                        refine ⟨by rw [bl_up2_ne (by omega)]; exact (hS2 j hj').1, ?_⟩
                        show _ = nI (up1 _ _ _ j)
                        by_cases e2 : j = (bkE (bkF rc k)).1
                        · rw [e2, bl_up2_at, up1_at, (hS2 _ (Nat.le_refl _)).2, nI_add]
                        · rw [bl_up2_nk (by omega), up1_ne e2]; exact (hS2 j hj').2)
                     | (have h6 : ¬ rc.2.1 k = 6 := by omega
                        have e : bkF rc (k + 1) = ((bkF rc k).1, up1 (bkF rc k).2.1 (bkF rc k).1 ((bkF rc k).2.1 (bkF rc k).1 + st_un (rc.2.1 k) (rc.2.2 k)), (bkF rc k).2.2) := if_neg h6
                        rw [em, ec]
                        refine ih _ _ _ _ (nI_1 _) (by rw [e]) rfl (hM.trans ⟨fun x x1 x2 => bl_up2_ne x1, fun j hj => ⟨by rw [bl_up2_nk (by omega)], by rw [bl_up2_ne (by omega)]⟩⟩) ?_
                        rw [e]
                        intro j hj
                        have hj' : j ≤ (bkF rc k).1 := hj
                        refine ⟨?_, by rw [bl_up2_ne (by omega)]; exact (hS j hj').2⟩
                        show _ = nI (up1 _ _ _ j)
                        by_cases e2 : j = (bkF rc k).1
                        · rw [e2, bl_up2_at, up1_at, (hS _ (Nat.le_refl _)).1, nI_add]
                        · rw [bl_up2_nk (by omega), up1_ne e2]; exact (hS j hj').1))))
  refine bl_go oX0_partInBlocks 80 [25] rfl ?_
  refine ⟨kq, _, bl_vs rq_0, kq1, (by (try dsimp only [bl_pv]); show vp_in _ (N _); rw [nq1, ew]; exact vp_in_nI (by omega) (by omega)), kq, _, bl_vs rq_1, kq2, (by (try dsimp only [bl_pv]); show vp_in _ (N _); rw [nq2, ew]; exact vp_in_nI (by omega) (by omega)), ?_⟩
  try dsimp only [bl_pv]
  rw [ew, ecw]
  refine L 0 (by omega) _ _ _ _ rfl rfl rfl ⟨fun x x1 x2 => by rw [bl_up2_ne x2, bl_up2_ne x1], fun j hj => ⟨by rw [bl_up2_ne (by omega), bl_up2_nk (by omega)], by rw [bl_up2_nk (by omega), bl_up2_ne (by omega)]⟩⟩ (fun j hj => ?_)
  have hj0 : j = 0 := Nat.le_zero.mp hj
  simp only [hj0, Nat.add_zero]
  rw [bl_up2_ne (by omega), bl_up2_at, bl_up2_at]; exact ⟨rfl, rfl⟩
end BENCH8
