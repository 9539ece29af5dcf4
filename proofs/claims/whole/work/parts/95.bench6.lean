/-! ===== Bench: goBack, the quick guess ===== -/
def bs0 (D : bD) : bs := (fun _ => 0, fun r => D.2.2.2 r 0, 0)
theorem bOk_0 {D : bD} : bOk D (smf D.2.1 D.1) (bs0 D) := ⟨fun _ _ => Nat.zero_le _, rfl⟩
theorem bSm_0 {D : bD} {T : Nat} (hD : bDs D) (hT : T ≤ 12) : bSm D T (bs0 D) := by
  refine ⟨fun r _ => ?_, ?_⟩
  · have := hD.2 r 0
    show D.2.2.2 r 0 + 2000 * T ≤ 30000
    omega
  · show 0 + 2000 * T ≤ 30000
    omega
/-- only the rows next and ready, and what work is left, may change -/
def bnG (I I' : Nat → Nat → Int32) (q : Nat) : Prop := (∀ x, x ≠ q → x ≠ q + 5 → x ≠ q + 6 → I' x = I x) ∧ ∀ j, j ≠ 13 → I' q j = I q j
theorem bnD.g {I I' : Nat → Nat → Int32} {q T : Nat} {D : bD} (h : bnD I q D T) (hF : bnG I I' q) : bnD I' q D T := h.same (hF.2 12 (by decide)) (hF.2 16 (by decide)) (hF.1 _ (by omega) (by omega) (by omega)) (hF.1 _ (by omega) (by omega) (by omega)) (hF.1 _ (by omega) (by omega) (by omega)) (hF.1 _ (by omega) (by omega) (by omega))
theorem bnG.trans {I I' I'' : Nat → Nat → Int32} {q : Nat} (h : bnG I I' q) (h' : bnG I' I'' q) : bnG I I'' q := ⟨fun x a b c => (h'.1 x a b c).trans (h.1 x a b c), fun j a => (h'.2 j a).trans (h.2 j a)⟩
section BENCH6
variable {G : bl_G} {l : Launch} {d q T k : Nat} {I : Nat → Nat → Int32} {J : Nat → Nat → Int64} {R : Nat → Nat → Option Nat} {K N : Nat → Nat} {D : bD} {s : bs}
theorem c_Bench_goBack (hq : bnS R K N q) (hD : bnD I q D T) : bl_MC G l d mX0_goBack [.ref q] (I, J, R, K, N) (0, 0) (fun o σ' => o = .inl none ∧ ∃ I', σ' = (I', J, R, K, N) ∧ bnG I I' q ∧ bnT I' q D (bs0 D) ∧ I' q 13 = I q 14) := by
  obtain ⟨hq0, kq, ⟨rq_0, rq_1, rq_2, rq_3, rq_4, rq_5, rq_6, rq_7, rq_8, rq_9, rq_10, rq_11⟩, ⟨kq1, kq2, kq3, kq4, kq5, kq6, kq7, kq8, kq9, kq10, kq11, kq12⟩, ⟨nq1, nq2, nq3, nq4, nq5, nq6, nq7, nq8, nq9, nq10, nq11, nq12⟩⟩ := hq
  have h12 := hD.1
  have h4 := hD.2.1
  refine bl_MC_intro (by decide +kernel) rfl (Nat.le_of_ble_eq_true rfl) ?_
  have L : ∀ r, r ≤ D.1 → ∀ z I1, z = nI r → bnG I I1 q → (∀ j, j < r → I1 (q + 5) j = nI 0 ∧ I1 (q + 6) j = nI (D.2.2.2 j 0)) → I1 q 13 = I q 14 → bl_WP G l d mX0_goBack 10 [(1, .int z), (0, .ref q)] [] (I1, J, R, K, N) (0, 0) (fun o σ' => o = .inl none ∧ ∃ I', σ' = (I', J, R, K, N) ∧ bnG I I' q ∧ bnT I' q D (bs0 D) ∧ I' q 13 = I q 14) := by
    refine bl_for D.1 ?_ (fun r hr ih => ?_)
    · intro z I1 hz f1 f2 f3; subst hz
      have g12 : I1 q 12 = nI D.1 := (f1.2 12 (by decide)).trans h12
      refine bl_go oX0_goBack 80 [10] rfl ?_
      refine ⟨kq, fun h15 => ?_, fun h15 => ?_⟩
      · try simp (disch := omega) only [g12, zI_n, zI_o, zI_lit, zI_neg, zI_add, zI_sub, zI_mul, zI_lt, zI_le, zI_eq, zI_clamp, zI_in, zI_div, zI_rem, lg_lt0, lg_gt0, lg_eq0, lg_le0, lg_ge0, Int.toNat_natCast, ge_iff_le, gt_iff_lt, List.length_cons, List.length_nil, bl_up2_at, bl_up2_nk, bl_up2_nx] at h15
        try show _ ∧ _
        try dsimp only [bl_pv]
        exact ⟨rfl, I1, rfl, f1, f2, f3⟩
      · try simp (disch := omega) only [g12, zI_n, zI_o, zI_lit, zI_neg, zI_add, zI_sub, zI_mul, zI_lt, zI_le, zI_eq, zI_clamp, zI_in, zI_div, zI_rem, lg_lt0, lg_gt0, lg_eq0, lg_le0, lg_ge0, Int.toNat_natCast, ge_iff_le, gt_iff_lt, List.length_cons, List.length_nil, bl_up2_at, bl_up2_nk, bl_up2_nx] at h15
        exfalso; omega
    · intro z I1 hz f1 f2 f3; subst hz
      have g12 : I1 q 12 = nI D.1 := (f1.2 12 (by decide)).trans h12
      have ec : (nI r).toNatClampNeg = r := nI_clamp (by omega)
      have em : nI r * 22 = nI (r * 22) := by rw [← nI_mulc]; rfl
      have ec2 : (nI (r * 22)).toNatClampNeg = r * 22 := nI_clamp (by omega)
      have e2 : I1 (q + 2) (r * 22) = nI (D.2.2.2 r 0) := by
        rw [f1.1 _ (by omega) (by omega) (by omega)]
        exact ((hD.2.2.2.2 r hr).2.2.2 0 (Nat.zero_le _)).1
      refine bl_go oX0_goBack 80 [10] rfl ?_
      refine ⟨kq, fun h15 => ?_, fun h15 => ?_⟩
      · try simp (disch := omega) only [g12, zI_n, zI_o, zI_lit, zI_neg, zI_add, zI_sub, zI_mul, zI_lt, zI_le, zI_eq, zI_clamp, zI_in, zI_div, zI_rem, lg_lt0, lg_gt0, lg_eq0, lg_le0, lg_ge0, Int.toNat_natCast, ge_iff_le, gt_iff_lt, List.length_cons, List.length_nil, bl_up2_at, bl_up2_nk, bl_up2_nx] at h15
        exfalso; omega
      · try simp (disch := omega) only [g12, zI_n, zI_o, zI_lit, zI_neg, zI_add, zI_sub, zI_mul, zI_lt, zI_le, zI_eq, zI_clamp, zI_in, zI_div, zI_rem, lg_lt0, lg_gt0, lg_eq0, lg_le0, lg_ge0, Int.toNat_natCast, ge_iff_le, gt_iff_lt, List.length_cons, List.length_nil, bl_up2_at, bl_up2_nk, bl_up2_nx] at h15
        refine ⟨kq, _, bl_vs rq_4, kq5, (by first | exact (by rw [nq5]; exact vp_in_nI (by omega) (by omega)) | ((try dsimp only [bl_pv]); show vp_in _ (N _); rw [nq5]; simp (disch := omega) only [g12, zI_n, zI_o, zI_lit, zI_neg, zI_add, zI_sub, zI_mul, zI_lt, zI_le, zI_eq, zI_clamp, zI_in, zI_div, zI_rem, lg_lt0, lg_gt0, lg_eq0, lg_le0, lg_ge0, Int.toNat_natCast, ge_iff_le, gt_iff_lt, List.length_cons, List.length_nil, bl_up2_at, bl_up2_nk, bl_up2_nx] <;> omega)), kq, _, bl_vs rq_5, kq, _, bl_vs rq_1, Or.inl ⟨kq2, (by (try dsimp only [bl_pv]); show vp_in _ (N _); rw [nq2, em]; exact vp_in_nI (by omega) (by omega)), kq6, (by first | exact (by rw [nq6]; exact vp_in_nI (by omega) (by omega)) | ((try dsimp only [bl_pv]); show vp_in _ (N _); rw [nq6]; simp (disch := omega) only [g12, zI_n, zI_o, zI_lit, zI_neg, zI_add, zI_sub, zI_mul, zI_lt, zI_le, zI_eq, zI_clamp, zI_in, zI_div, zI_rem, lg_lt0, lg_gt0, lg_eq0, lg_le0, lg_ge0, Int.toNat_natCast, ge_iff_le, gt_iff_lt, List.length_cons, List.length_nil, bl_up2_at, bl_up2_nk, bl_up2_nx] <;> omega)), ?_⟩⟩
        try dsimp only [bl_pv]
        refine ih _ _ (nI_1 _) ⟨fun x x1 x2 x3 => ?_, fun j j1 => ?_⟩ (fun j hj => ?_) ?_
        · rw [bl_up2_ne x3, bl_up2_ne x2]; exact f1.1 x x1 x2 x3
        · rw [bl_up2_ne (by omega), bl_up2_ne (by omega)]; exact f1.2 j j1
        · rw [ec, em, ec2, bl_up2_ne (show q + 5 ≠ q + 6 by omega), bl_up2_ne (show q + 2 ≠ q + 5 by omega), e2]
          by_cases e : j = r
          · subst e; rw [bl_up2_at, bl_up2_at]; exact ⟨rfl, rfl⟩
          · rw [bl_up2_nk e, bl_up2_nk e, bl_up2_ne (show q + 6 ≠ q + 5 by omega)]; exact f2 j (by omega)
        · rw [bl_up2_ne (by omega), bl_up2_ne (by omega)]; exact f3
  refine bl_go oX0_goBack 80 [10] rfl ?_
  refine ⟨kq, kq, Or.inr (Or.inr ⟨rfl, rfl, _, rfl⟩), (fun h => by cases h), ?_⟩
  try dsimp only [bl_pv]
  refine L 0 (by omega) _ _ rfl ⟨fun x x1 x2 x3 => bl_up2_ne x1, fun j j1 => bl_up2_nk j1⟩ (fun j hj => absurd hj (by omega)) bl_up2_at
theorem c_Bench_quickNext {y : Int32} (hq : bnS R K N q) (hD : bnD I q D T) (hT : bnT I q D s) (hk : bOk D k s) : bl_MC G l d mX0_quickNext [.ref q, .int y] (I, J, R, K, N) (0, 0) (fun o σ' => ((∃ r, r < D.1 ∧ s.1 r < D.2.1 r ∧ o = .inl (some (.int (nI r)))) ∨ (o = .inl (some (.int (zI (-1)))) ∧ ∀ r, r < D.1 → ¬ s.1 r < D.2.1 r)) ∧ σ' = (I, J, R, K, N)) := by
  obtain ⟨hq0, kq, ⟨rq_0, rq_1, rq_2, rq_3, rq_4, rq_5, rq_6, rq_7, rq_8, rq_9, rq_10, rq_11⟩, ⟨kq1, kq2, kq3, kq4, kq5, kq6, kq7, kq8, kq9, kq10, kq11, kq12⟩, ⟨nq1, nq2, nq3, nq4, nq5, nq6, nq7, nq8, nq9, nq10, nq11, nq12⟩⟩ := hq
  have h12 := hD.1
  have h4 := hD.2.1
  refine bl_MC_intro (by decide +kernel) rfl (Nat.le_of_ble_eq_true rfl) ?_
  have L : ∀ r, r ≤ D.1 → ∀ z u v w, z = nI r → ((∃ f, f < D.1 ∧ s.1 f < D.2.1 f ∧ w = nI f) ∨ (w = zI (-1) ∧ ∀ j, j < r → ¬ s.1 j < D.2.1 j)) → bl_WP G l d mX0_quickNext 10 [(5, .int z), (4, .int u), (3, .int v), (2, .int w), (0, .ref q), (1, .int y)] [] (I, J, R, K, N) (0, 0) (fun o σ' => ((∃ r, r < D.1 ∧ s.1 r < D.2.1 r ∧ o = .inl (some (.int (nI r)))) ∨ (o = .inl (some (.int (zI (-1)))) ∧ ∀ r, r < D.1 → ¬ s.1 r < D.2.1 r)) ∧ σ' = (I, J, R, K, N)) := by
    refine bl_for D.1 ?_ (fun r hr ih => ?_)
    · intro z u v w hz hw; subst hz
      refine bl_go oX0_quickNext 80 [10, 93, 103] rfl ?_
      refine ⟨kq, fun h16 => ?_, fun h16 => ?_⟩
      · try simp (disch := omega) only [h12, zI_n, zI_o, zI_lit, zI_neg, zI_add, zI_sub, zI_mul, zI_lt, zI_le, zI_eq, zI_clamp, zI_in, zI_div, zI_rem, lg_lt0, lg_gt0, lg_eq0, lg_le0, lg_ge0, Int.toNat_natCast, ge_iff_le, gt_iff_lt, List.length_cons, List.length_nil, bl_up2_at, bl_up2_nk, bl_up2_nx] at h16
        refine ⟨(fun h => by cases h), ?_⟩
        try show _ ∧ _
        try dsimp only [bl_pv]
        refine ⟨?_, rfl⟩
        rcases hw with ⟨f, f1, f2, rfl⟩ | ⟨rfl, h⟩
        · exact Or.inl ⟨f, f1, f2, rfl⟩
        · exact Or.inr ⟨rfl, h⟩
      · try simp (disch := omega) only [h12, zI_n, zI_o, zI_lit, zI_neg, zI_add, zI_sub, zI_mul, zI_lt, zI_le, zI_eq, zI_clamp, zI_in, zI_div, zI_rem, lg_lt0, lg_gt0, lg_eq0, lg_le0, lg_ge0, Int.toNat_natCast, ge_iff_le, gt_iff_lt, List.length_cons, List.length_nil, bl_up2_at, bl_up2_nk, bl_up2_nx] at h16
        exfalso; omega
    · intro z u v w hz hw; subst hz
      have ec : (nI r).toNatClampNeg = r := nI_clamp (by omega)
      obtain ⟨g1, g2, -⟩ := hD.2.2.2.2 r hr
      have t1 := (hT r hr).1
      have hsr := hk.1 r hr
      have em : nI r * 22 + nI (s.1 r) = nI (r * 22 + s.1 r) := by rw [← nI_add, ← nI_mulc]; rfl
      have L103 : ∀ u v w, ((∃ f, f < D.1 ∧ s.1 f < D.2.1 f ∧ w = nI f) ∨ (w = zI (-1) ∧ ∀ j, j < r + 1 → ¬ s.1 j < D.2.1 j)) → bl_WP G l d mX0_quickNext 103 [(5, .int (nI r)), (4, .int u), (3, .int v), (2, .int w), (0, .ref q), (1, .int y)] [] (I, J, R, K, N) (0, 0) (fun o σ' => ((∃ r, r < D.1 ∧ s.1 r < D.2.1 r ∧ o = .inl (some (.int (nI r)))) ∨ (o = .inl (some (.int (zI (-1)))) ∧ ∀ r, r < D.1 → ¬ s.1 r < D.2.1 r)) ∧ σ' = (I, J, R, K, N)) := by
        intro u v w hw
        refine bl_go oX0_quickNext 80 [10, 93, 103] rfl ?_
        try dsimp only [bl_pv]
        exact ih _ _ _ _ (nI_1 _) hw
      have L93 : s.1 r < D.2.1 r → ∀ u v, bl_WP G l d mX0_quickNext 93 [(7, .int u), (6, .int v), (5, .int (nI r)), (0, .ref q), (1, .int y)] [] (I, J, R, K, N) (0, 0) (fun o σ' => ((∃ r, r < D.1 ∧ s.1 r < D.2.1 r ∧ o = .inl (some (.int (nI r)))) ∨ (o = .inl (some (.int (zI (-1)))) ∧ ∀ r, r < D.1 → ¬ s.1 r < D.2.1 r)) ∧ σ' = (I, J, R, K, N)) := by
        intro hrn u v
        refine bl_go oX0_quickNext 80 [10, 93, 103] rfl ?_
        refine bl_lv [5, 0, 1, 2, 6, 7] rfl ?_
        try dsimp only [bl_pv]
        exact L103 _ _ _ (Or.inl ⟨r, hr, hrn, rfl⟩)
      refine bl_go oX0_quickNext 80 [10, 93, 103] rfl ?_
      refine ⟨kq, fun h16 => ?_, fun h16 => ?_⟩
      · try simp (disch := omega) only [h12, t1, g2, zI_n, zI_o, zI_lit, zI_neg, zI_add, zI_sub, zI_mul, zI_lt, zI_le, zI_eq, zI_clamp, zI_in, zI_div, zI_rem, lg_lt0, lg_gt0, lg_eq0, lg_le0, lg_ge0, Int.toNat_natCast, ge_iff_le, gt_iff_lt, List.length_cons, List.length_nil, bl_up2_at, bl_up2_nk, bl_up2_nx] at h16
        exfalso; omega
      · try simp (disch := omega) only [h12, t1, g2, zI_n, zI_o, zI_lit, zI_neg, zI_add, zI_sub, zI_mul, zI_lt, zI_le, zI_eq, zI_clamp, zI_in, zI_div, zI_rem, lg_lt0, lg_gt0, lg_eq0, lg_le0, lg_ge0, Int.toNat_natCast, ge_iff_le, gt_iff_lt, List.length_cons, List.length_nil, bl_up2_at, bl_up2_nk, bl_up2_nx] at h16
        refine ⟨kq, _, bl_vs rq_4, Or.inl ⟨kq5, (by first | exact (by rw [nq5]; exact vp_in_nI (by omega) (by omega)) | ((try dsimp only [bl_pv]); show vp_in _ (N _); rw [nq5]; simp (disch := omega) only [h12, t1, g2, zI_n, zI_o, zI_lit, zI_neg, zI_add, zI_sub, zI_mul, zI_lt, zI_le, zI_eq, zI_clamp, zI_in, zI_div, zI_rem, lg_lt0, lg_gt0, lg_eq0, lg_le0, lg_ge0, Int.toNat_natCast, ge_iff_le, gt_iff_lt, List.length_cons, List.length_nil, bl_up2_at, bl_up2_nk, bl_up2_nx] <;> omega)), kq, _, bl_vs rq_3, Or.inl ⟨kq4, (by first | exact (by rw [nq4]; exact vp_in_nI (by omega) (by omega)) | ((try dsimp only [bl_pv]); show vp_in _ (N _); rw [nq4]; simp (disch := omega) only [h12, t1, g2, zI_n, zI_o, zI_lit, zI_neg, zI_add, zI_sub, zI_mul, zI_lt, zI_le, zI_eq, zI_clamp, zI_in, zI_div, zI_rem, lg_lt0, lg_gt0, lg_eq0, lg_le0, lg_ge0, Int.toNat_natCast, ge_iff_le, gt_iff_lt, List.length_cons, List.length_nil, bl_up2_at, bl_up2_nk, bl_up2_nx] <;> omega)), fun h33 => ?_, fun h33 => ?_⟩⟩⟩
        · try simp (disch := omega) only [h12, t1, g2, zI_n, zI_o, zI_lit, zI_neg, zI_add, zI_sub, zI_mul, zI_lt, zI_le, zI_eq, zI_clamp, zI_in, zI_div, zI_rem, lg_lt0, lg_gt0, lg_eq0, lg_le0, lg_ge0, Int.toNat_natCast, ge_iff_le, gt_iff_lt, List.length_cons, List.length_nil, bl_up2_at, bl_up2_nk, bl_up2_nx] at h33
          try dsimp only [bl_pv]
          refine L103 _ _ _ ?_
          rcases hw with h | ⟨h, h'⟩
          · exact Or.inl h
          · first
            | exact absurd h h71
            | (refine Or.inr ⟨h, fun j hj => ?_⟩
               by_cases e : j = r
               · subst e; omega
               · exact h' j (by omega))
        · try simp (disch := omega) only [h12, t1, g2, zI_n, zI_o, zI_lit, zI_neg, zI_add, zI_sub, zI_mul, zI_lt, zI_le, zI_eq, zI_clamp, zI_in, zI_div, zI_rem, lg_lt0, lg_gt0, lg_eq0, lg_le0, lg_ge0, Int.toNat_natCast, ge_iff_le, gt_iff_lt, List.length_cons, List.length_nil, bl_up2_at, bl_up2_nk, bl_up2_nx] at h33
          refine ⟨kq, _, bl_vs rq_5, Or.inl ⟨kq6, (by first | exact (by rw [nq6]; exact vp_in_nI (by omega) (by omega)) | ((try dsimp only [bl_pv]); show vp_in _ (N _); rw [nq6]; simp (disch := omega) only [h12, t1, g2, zI_n, zI_o, zI_lit, zI_neg, zI_add, zI_sub, zI_mul, zI_lt, zI_le, zI_eq, zI_clamp, zI_in, zI_div, zI_rem, lg_lt0, lg_gt0, lg_eq0, lg_le0, lg_ge0, Int.toNat_natCast, ge_iff_le, gt_iff_lt, List.length_cons, List.length_nil, bl_up2_at, bl_up2_nk, bl_up2_nx] <;> omega)), (Nat.le_of_ble_eq_true rfl), kq, _, bl_vs rq_2, kq, _, bl_vs rq_4, Or.inl ⟨kq5, (by first | exact (by rw [nq5]; exact vp_in_nI (by omega) (by omega)) | ((try dsimp only [bl_pv]); show vp_in _ (N _); rw [nq5]; simp (disch := omega) only [h12, t1, g2, zI_n, zI_o, zI_lit, zI_neg, zI_add, zI_sub, zI_mul, zI_lt, zI_le, zI_eq, zI_clamp, zI_in, zI_div, zI_rem, lg_lt0, lg_gt0, lg_eq0, lg_le0, lg_ge0, Int.toNat_natCast, ge_iff_le, gt_iff_lt, List.length_cons, List.length_nil, bl_up2_at, bl_up2_nk, bl_up2_nx] <;> omega)), Or.inl ⟨kq3, (by (try dsimp only [bl_pv]); show vp_in _ (N _); rw [nq3, ec, t1, em]; exact vp_in_nI (by omega) (by omega)), fun h71 => ?_, fun h71 => ?_⟩⟩⟩⟩
          · try simp (disch := omega) only [bl_pv, cl0, cl1, cl2, cl3, cl4, cl5, cl6, cl7, cl8, cl9, bl_up2_at, bl_up2_nk, bl_up2_nx] at h71
            refine bl_lv [0, 1, 2, 6, 7] rfl ?_
            try dsimp only [bl_pv]
            exact L93 (by omega) _ _
          · try simp (disch := omega) only [bl_pv, cl0, cl1, cl2, cl3, cl4, cl5, cl6, cl7, cl8, cl9, bl_up2_at, bl_up2_nk, bl_up2_nx] at h71
            refine ⟨fun h77 => ?_, fun h77 => ?_⟩
            · try simp (disch := omega) only [bl_pv, cl0, cl1, cl2, cl3, cl4, cl5, cl6, cl7, cl8, cl9, bl_up2_at, bl_up2_nk, bl_up2_nx] at h77
              refine bl_lv [0, 1, 2, 6, 7] rfl ?_
              try dsimp only [bl_pv]
              exact L93 (by omega) _ _
            · try simp (disch := omega) only [bl_pv, cl0, cl1, cl2, cl3, cl4, cl5, cl6, cl7, cl8, cl9, bl_up2_at, bl_up2_nk, bl_up2_nx] at h77
              refine ⟨fun h83 => ?_, fun h83 => ?_⟩
              · try simp (disch := omega) only [bl_pv, cl0, cl1, cl2, cl3, cl4, cl5, cl6, cl7, cl8, cl9, bl_up2_at, bl_up2_nk, bl_up2_nx] at h83
                refine bl_lv [2, 3, 4, 5, 6, 7] rfl ?_
                try dsimp only [bl_pv]
                refine L103 _ _ _ ?_
                rcases hw with h | ⟨h, h'⟩
                · exact Or.inl h
                · first
                  | exact absurd h h71
                  | (refine Or.inr ⟨h, fun j hj => ?_⟩
                     by_cases e : j = r
                     · subst e; omega
                     · exact h' j (by omega))
              · try simp (disch := omega) only [bl_pv, cl0, cl1, cl2, cl3, cl4, cl5, cl6, cl7, cl8, cl9, bl_up2_at, bl_up2_nk, bl_up2_nx] at h83
                refine ⟨fun h90 => ?_, fun h90 => ?_⟩
                · try simp (disch := omega) only [bl_pv, cl0, cl1, cl2, cl3, cl4, cl5, cl6, cl7, cl8, cl9, bl_up2_at, bl_up2_nk, bl_up2_nx] at h90
                  refine bl_lv [2, 3, 4, 5, 6, 7] rfl ?_
                  try dsimp only [bl_pv]
                  refine L103 _ _ _ ?_
                  rcases hw with h | ⟨h, h'⟩
                  · exact Or.inl h
                  · first
                    | exact absurd h h71
                    | (refine Or.inr ⟨h, fun j hj => ?_⟩
                       by_cases e : j = r
                       · subst e; omega
                       · exact h' j (by omega))
                · try simp (disch := omega) only [bl_pv, cl0, cl1, cl2, cl3, cl4, cl5, cl6, cl7, cl8, cl9, bl_up2_at, bl_up2_nk, bl_up2_nx] at h90
                  refine bl_lv [0, 1, 2, 6, 7] rfl ?_
                  try dsimp only [bl_pv]
                  exact L93 (by omega) _ _
  refine bl_go oX0_quickNext 80 [10, 93, 103] rfl ?_
  try dsimp only [bl_pv]
  exact L 0 (by omega) _ _ _ _ rfl (Or.inr ⟨rfl, fun j hj => absurd hj (by omega)⟩)
theorem c_Bench_quickDone (hq : bnS R K N q) (hD : bnD I q D T) (hDs : bDs D) (hT : T = smf D.2.1 D.1) : bl_MC G l (d + 1) mX0_quickDone [.ref q] (I, J, R, K, N) (0, 0) (fun o σ' => (∃ v, o = .inl (some (.int (nI v))) ∧ mnb D T (bs0 D) ≤ v ∧ v ≤ 30000) ∧ ∃ I', σ' = (I', J, R, K, N) ∧ bnG I I' q) := by
  have hq' := hq
  obtain ⟨hq0, kq, ⟨rq_0, rq_1, rq_2, rq_3, rq_4, rq_5, rq_6, rq_7, rq_8, rq_9, rq_10, rq_11⟩, ⟨kq1, kq2, kq3, kq4, kq5, kq6, kq7, kq8, kq9, kq10, kq11, kq12⟩, ⟨nq1, nq2, nq3, nq4, nq5, nq6, nq7, nq8, nq9, nq10, nq11, nq12⟩⟩ := hq
  have h12 := hD.1
  have h4 := hD.2.1
  have h16 := hD.2.2.1
  have hT12 := hD.2.2.2.1
  refine bl_MC_intro (by decide +kernel) rfl (Nat.le_of_ble_eq_true rfl) ?_
  have L : ∀ n, n ≤ T → ∀ z y s I1, z = nI n → y = nI s.2.2 → bOk D (T - n) s → bSm D (T - n) s → bnG I I1 q → bnT I1 q D s → mnb D T (bs0 D) ≤ mnb D (T - n) s → bl_WP G l (d + 1) mX0_quickDone 8 [(2, .int z), (1, .int y), (0, .ref q)] [] (I1, J, R, K, N) (0, 0) (fun o σ' => (∃ v, o = .inl (some (.int (nI v))) ∧ mnb D T (bs0 D) ≤ v ∧ v ≤ 30000) ∧ ∃ I', σ' = (I', J, R, K, N) ∧ bnG I I' q) := by
    refine bl_for T ?_ (fun n hn ih => ?_)
    · intro z y s I1 hz hy hk hs hG hT1 hm; subst hz hy
      have hD1 := hD.g hG
      have g16 := hD1.2.2.1
      rw [Nat.sub_self] at hk hs hm
      refine bl_go oX0_quickDone 80 [8] rfl ?_
      refine ⟨kq, fun h13 => ?_, fun h13 => ?_⟩
      · try simp (disch := omega) only [g16, zI_n, zI_o, zI_lit, zI_neg, zI_add, zI_sub, zI_mul, zI_lt, zI_le, zI_eq, zI_clamp, zI_in, zI_div, zI_rem, lg_lt0, lg_gt0, lg_eq0, lg_le0, lg_ge0, Int.toNat_natCast, ge_iff_le, gt_iff_lt, List.length_cons, List.length_nil, bl_up2_at, bl_up2_nk, bl_up2_nx] at h13
        refine ⟨rfl, rfl, kq, (Nat.le_of_ble_eq_true rfl), (0, 0), Nat.le_of_ble_eq_true rfl, Nat.le_of_ble_eq_true rfl, bl_MC_mono (c_Bench_lastReady (d := d) hq' hD1.1 hD1.2.1 (fun r hr => (hT1 r hr).2) (bSm_k hs).1) (fun o102 σ102 q102 => ?_)⟩
        try dsimp only [bl_pv] at q102
        obtain ⟨rfl, rfl⟩ := q102
        refine bl_go oX0_quickDone 80 [8] rfl ?_
        refine ⟨(fun h => by cases h), ?_⟩
        try show _ ∧ _
        try dsimp only [bl_pv]
        exact ⟨⟨_, rfl, hm, lrf_le (bSm_k hs).1⟩, I1, rfl, hG⟩
      · try simp (disch := omega) only [g16, zI_n, zI_o, zI_lit, zI_neg, zI_add, zI_sub, zI_mul, zI_lt, zI_le, zI_eq, zI_clamp, zI_in, zI_div, zI_rem, lg_lt0, lg_gt0, lg_eq0, lg_le0, lg_ge0, Int.toNat_natCast, ge_iff_le, gt_iff_lt, List.length_cons, List.length_nil, bl_up2_at, bl_up2_nk, bl_up2_nx] at h13
        exfalso; omega
    · intro z y s I1 hz hy hk hs hG hT1 hm; subst hz hy
      have hD1 := hD.g hG
      have g16 := hD1.2.2.1
      obtain ⟨k, hkk⟩ : ∃ k, T - n = k + 1 := ⟨T - n - 1, by omega⟩
      rw [hkk] at hk hs hm
      have hk1 : T - (n + 1) = k := by omega
      rw [hk1] at ih
      have hs3 := (bSm_k hs).2
      refine bl_go oX0_quickDone 80 [8] rfl ?_
      refine ⟨kq, fun h13 => ?_, fun h13 => ?_⟩
      · try simp (disch := omega) only [g16, zI_n, zI_o, zI_lit, zI_neg, zI_add, zI_sub, zI_mul, zI_lt, zI_le, zI_eq, zI_clamp, zI_in, zI_div, zI_rem, lg_lt0, lg_gt0, lg_eq0, lg_le0, lg_ge0, Int.toNat_natCast, ge_iff_le, gt_iff_lt, List.length_cons, List.length_nil, bl_up2_at, bl_up2_nk, bl_up2_nx] at h13
        exfalso; omega
      · try simp (disch := omega) only [g16, zI_n, zI_o, zI_lit, zI_neg, zI_add, zI_sub, zI_mul, zI_lt, zI_le, zI_eq, zI_clamp, zI_in, zI_div, zI_rem, lg_lt0, lg_gt0, lg_eq0, lg_le0, lg_ge0, Int.toNat_natCast, ge_iff_le, gt_iff_lt, List.length_cons, List.length_nil, bl_up2_at, bl_up2_nk, bl_up2_nx] at h13
        first
        | (exfalso; first | omega | exact h13 trivial)
        | (refine ⟨fun h19 => ?_, fun h19 => ?_⟩
           · try simp (disch := omega) only [g16, zI_n, zI_o, zI_lit, zI_neg, zI_add, zI_sub, zI_mul, zI_lt, zI_le, zI_eq, zI_clamp, zI_in, zI_div, zI_rem, lg_lt0, lg_gt0, lg_eq0, lg_le0, lg_ge0, Int.toNat_natCast, ge_iff_le, gt_iff_lt, List.length_cons, List.length_nil, bl_up2_at, bl_up2_nk, bl_up2_nx] at h19
             exfalso; omega
           · try simp (disch := omega) only [g16, zI_n, zI_o, zI_lit, zI_neg, zI_add, zI_sub, zI_mul, zI_lt, zI_le, zI_eq, zI_clamp, zI_in, zI_div, zI_rem, lg_lt0, lg_gt0, lg_eq0, lg_le0, lg_ge0, Int.toNat_natCast, ge_iff_le, gt_iff_lt, List.length_cons, List.length_nil, bl_up2_at, bl_up2_nk, bl_up2_nx] at h19
             first
             | (exfalso; first | omega | exact h19 trivial)
             | (refine ⟨rfl, rfl, kq, (Nat.le_of_ble_eq_true rfl), (0, 0), Nat.le_of_ble_eq_true rfl, Nat.le_of_ble_eq_true rfl, bl_MC_mono (c_Bench_quickNext (d := d) hq' hD1 hT1 hk) (fun o24 σ24 q24 => ?_)⟩
                obtain ⟨hr, rfl⟩ := q24
                rcases hr with ⟨r, r1, r2, rfl⟩ | ⟨rfl, hno⟩
                · have ecr : (nI r).toNatClampNeg = r := nI_clamp (by omega)
                  obtain ⟨z1, z2, z3, z4⟩ := hD1.2.2.2.2 r r1
                  obtain ⟨t1, t2⟩ := hT1 r r1
                  have hb4 := (bSm_k hs).1 r r1
                  have ecp : (nI (r * 22 + s.1 r)).toNatClampNeg = r * 22 + s.1 r := nI_clamp (by omega)
                  have em : nI r * 22 + I1 (q + 5) (nI r).toNatClampNeg = nI (r * 22 + s.1 r) := by rw [ecr, t1, ← nI_add, ← nI_mulc]; rfl
                  have hu : I1 (q + 1) (r * 22 + s.1 r) = nI (D.2.2.1 r (s.1 r)) := z3 _ r2
                  have hu2 : I1 (q + 2) (r * 22 + s.1 r + 1) = nI (D.2.2.2 r (s.1 r + 1)) := (z4 (s.1 r + 1) (by omega)).1
                  have emx : (if nI s.2.2 < I1 (q + 6) (nI r).toNatClampNeg then I1 (q + 6) (nI r).toNatClampNeg else nI s.2.2) = nI (bbg s r) := nI_max rfl (by rw [ecr]; exact t2) (by omega) (by omega)
                  have ecp1 : (nI (r * 22 + s.1 r) + 1).toNatClampNeg = r * 22 + s.1 r + 1 := by rw [nI_1]; exact nI_clamp (by omega)
                  refine bl_go oX0_quickDone 80 [8] rfl ?_
                  refine ⟨fun h30 => ?_, fun h30 => ?_⟩
                  · try simp (disch := omega) only [g16, zI_n, zI_o, zI_lit, zI_neg, zI_add, zI_sub, zI_mul, zI_lt, zI_le, zI_eq, zI_clamp, zI_in, zI_div, zI_rem, lg_lt0, lg_gt0, lg_eq0, lg_le0, lg_ge0, Int.toNat_natCast, ge_iff_le, gt_iff_lt, List.length_cons, List.length_nil, bl_up2_at, bl_up2_nk, bl_up2_nx] at h30
                    first
                    | (exfalso; first | omega | exact h30 trivial)
                    | (refine ⟨kq, _, bl_vs rq_4, Or.inl ⟨kq5, (by first | exact (by rw [nq5]; exact vp_in_nI (by omega) (by omega)) | ((try dsimp only [bl_pv]); show vp_in _ (N _); rw [nq5]; simp (disch := omega) only [g16, zI_n, zI_o, zI_lit, zI_neg, zI_add, zI_sub, zI_mul, zI_lt, zI_le, zI_eq, zI_clamp, zI_in, zI_div, zI_rem, lg_lt0, lg_gt0, lg_eq0, lg_le0, lg_ge0, Int.toNat_natCast, ge_iff_le, gt_iff_lt, List.length_cons, List.length_nil, bl_up2_at, bl_up2_nk, bl_up2_nx] <;> omega)), kq, _, bl_vs rq_5, Or.inl ⟨kq6, (by first | exact (by rw [nq6]; exact vp_in_nI (by omega) (by omega)) | ((try dsimp only [bl_pv]); show vp_in _ (N _); rw [nq6]; simp (disch := omega) only [g16, zI_n, zI_o, zI_lit, zI_neg, zI_add, zI_sub, zI_mul, zI_lt, zI_le, zI_eq, zI_clamp, zI_in, zI_div, zI_rem, lg_lt0, lg_gt0, lg_eq0, lg_le0, lg_ge0, Int.toNat_natCast, ge_iff_le, gt_iff_lt, List.length_cons, List.length_nil, bl_up2_at, bl_up2_nk, bl_up2_nx] <;> omega)), (Nat.le_of_ble_eq_true rfl), kq, _, bl_vs rq_0, Or.inl ⟨kq1, (by (try dsimp only [bl_pv]); show vp_in _ (N _); rw [nq1, em]; exact vp_in_nI (by omega) (by omega)), kq, _, bl_vs rq_5, kq, _, bl_vs rq_1, Or.inl ⟨kq2, (by (try dsimp only [bl_pv]); show vp_in _ (N _); rw [nq2, em, nI_1]; exact vp_in_nI (by omega) (by omega)), kq6, (by first | exact (by rw [nq6]; exact vp_in_nI (by omega) (by omega)) | ((try dsimp only [bl_pv]); show vp_in _ (N _); rw [nq6]; simp (disch := omega) only [g16, zI_n, zI_o, zI_lit, zI_neg, zI_add, zI_sub, zI_mul, zI_lt, zI_le, zI_eq, zI_clamp, zI_in, zI_div, zI_rem, lg_lt0, lg_gt0, lg_eq0, lg_le0, lg_ge0, Int.toNat_natCast, ge_iff_le, gt_iff_lt, List.length_cons, List.length_nil, bl_up2_at, bl_up2_nk, bl_up2_nx] <;> omega)), kq, _, bl_vs rq_4, ⟨rfl, rfl⟩, Or.inl ⟨kq5, (by first | exact (by rw [nq5]; exact vp_in_nI (by omega) (by omega)) | ((try dsimp only [bl_pv]); show vp_in _ (N _); rw [nq5]; simp (disch := omega) only [g16, zI_n, zI_o, zI_lit, zI_neg, zI_add, zI_sub, zI_mul, zI_lt, zI_le, zI_eq, zI_clamp, zI_in, zI_div, zI_rem, lg_lt0, lg_gt0, lg_eq0, lg_le0, lg_ge0, Int.toNat_natCast, ge_iff_le, gt_iff_lt, List.length_cons, List.length_nil, bl_up2_at, bl_up2_nk, bl_up2_nx] <;> omega)), kq5, (by first | exact (by rw [nq5]; exact vp_in_nI (by omega) (by omega)) | ((try dsimp only [bl_pv]); show vp_in _ (N _); rw [nq5]; simp (disch := omega) only [g16, zI_n, zI_o, zI_lit, zI_neg, zI_add, zI_sub, zI_mul, zI_lt, zI_le, zI_eq, zI_clamp, zI_in, zI_div, zI_rem, lg_lt0, lg_gt0, lg_eq0, lg_le0, lg_ge0, Int.toNat_natCast, ge_iff_le, gt_iff_lt, List.length_cons, List.length_nil, bl_up2_at, bl_up2_nk, bl_up2_nx] <;> omega)), ?_⟩⟩⟩⟩⟩⟩
                       refine bl_lv [0, 1, 4] rfl ?_
                       try dsimp only [bl_pv]
                       refine ih _ _ (pl D s r) _ (nI_1 _) ?_ (bOk_pl hk r1 r2) (bSm_pl hDs hs r1) (hG.trans ⟨fun x x1 x2 x3 => ?_, fun j j1 => ?_⟩) (fun j hj => ?_) (Nat.le_trans hm (mnb_le r1 r2))
                       · rw [emx, em, ecp, hu, nI_add]; rfl
                       · rw [bl_up2_ne x2, bl_up2_ne x3]
                       · rw [bl_up2_ne (by omega), bl_up2_ne (by omega)]
                       · rw [emx, em, ecp, ecp1, ecr, bl_up2_ne (show q + 6 ≠ q + 5 by omega), bl_up2_ne (show q + 5 ≠ q + 6 by omega)]
                         by_cases e : j = r
                         · subst e
                           rw [bl_up2_at, bl_up2_at, t1, hu, hu2, nI_1, nI_add, nI_add]
                           exact ⟨by show _ = nI (up1 s.1 j (s.1 j + 1) j); rw [up1_at], by show _ = nI (up1 s.2.1 j _ j); rw [up1_at]⟩
                         · rw [bl_up2_nk e, bl_up2_nk e, bl_up2_nk e]
                           exact ⟨by show _ = nI (up1 s.1 r (s.1 r + 1) j); rw [up1_ne e]; exact (hT1 j hj).1, by show _ = nI (up1 s.2.1 r _ j); rw [up1_ne e]; exact (hT1 j hj).2⟩)
                  · try simp (disch := omega) only [g16, zI_n, zI_o, zI_lit, zI_neg, zI_add, zI_sub, zI_mul, zI_lt, zI_le, zI_eq, zI_clamp, zI_in, zI_div, zI_rem, lg_lt0, lg_gt0, lg_eq0, lg_le0, lg_ge0, Int.toNat_natCast, ge_iff_le, gt_iff_lt, List.length_cons, List.length_nil, bl_up2_at, bl_up2_nk, bl_up2_nx] at h30
                    first
                    | (exfalso; first | omega | exact h30 trivial)
                    | (refine ⟨rfl, rfl, kq, (Nat.le_of_ble_eq_true rfl), (0, 0), Nat.le_of_ble_eq_true rfl, Nat.le_of_ble_eq_true rfl, ?_⟩
                       fail /- c102: mX0_lastReady -/)
                · obtain ⟨r, r1, r2⟩ := bOk_ex hk
                  exact absurd r2 (hno r r1)))
  refine bl_go oX0_quickDone 80 [8] rfl ?_
  refine ⟨rfl, rfl, kq, (Nat.le_of_ble_eq_true rfl), (0, 0), Nat.le_of_ble_eq_true rfl, Nat.le_of_ble_eq_true rfl, bl_MC_mono (c_Bench_goBack (d := d) hq' hD) (fun o1 σ1 q1 => ?_)⟩
  try dsimp only [bl_pv] at q1
  obtain ⟨rfl, I2, rfl, h1, h2, h3⟩ := q1
  refine bl_go oX0_quickDone 80 [8] rfl ?_
  try dsimp only [bl_pv]
  exact L 0 (by omega) _ _ (bs0 D) I2 rfl rfl (by rw [Nat.sub_zero, hT]; exact bOk_0) (by rw [Nat.sub_zero]; exact bSm_0 hDs hT12) h1 h2 (Nat.le_refl _)
end BENCH6
