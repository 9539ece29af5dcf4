/-! ===== Bench: placeNext ===== -/
theorem bnI.mono {I : Nat → Nat → Int32} {q T n : Nat} {D : bD} {s : bs} {p a : Nat → Int32} {b : bB} {c c' : Nat} (h : bnI I q D T n s p a b c) (hc : c ≤ c') : bnI I q D T n s p a b c' := ⟨h.1, h.2.1, h.2.2.1, h.2.2.2.1, h.2.2.2.2.1, h.2.2.2.2.2.1, h.2.2.2.2.2.2.mono hc⟩
section BENCH5
variable {G : bl_G} {l : Launch} {d q T : Nat} {J : Nat → Nat → Int64} {R : Nat → Nat → Option Nat} {K N : Nat → Nat} {D : bD}
theorem c_Bench_placeNext (hq : bnS R K N q) (hDs : bDs D) (k : Nat) : ∀ (n : Nat) (s : bs) (p a : Nat → Int32) (b : bB) (c : Nat) (I : Nat → Nat → Int32) (x y : Int32), n + k = T → bOk D k s → bSm D k s → bnI I q D T n s p a b c → b.1 ≤ 1000000 → c + cNN k < 2000000000 → x = nI n → y = nI s.2.2 → bl_MC G l (d + 2 * k + 5) mX0_placeNext [.ref q, .int x, .int y] (I, J, R, K, N) (0, 0) (fun o σ' => o = .inl none ∧ ∃ I', σ' = (I', J, R, K, N) ∧ bnF I I' q ∧ bnK I I' q D T n ∧ bnI I' q D T n s p a (srch D k n s p a b) (c + cNN k)) := by
  have hq' := hq
  obtain ⟨hq0, kq, ⟨rq_0, rq_1, rq_2, rq_3, rq_4, rq_5, rq_6, rq_7, rq_8, rq_9, rq_10, rq_11⟩, ⟨kq1, kq2, kq3, kq4, kq5, kq6, kq7, kq8, kq9, kq10, kq11, kq12⟩, ⟨nq1, nq2, nq3, nq4, nq5, nq6, nq7, nq8, nq9, nq10, nq11, nq12⟩⟩ := hq
  induction k with
  | zero =>
    intro n s p a b c I x y hn hk hs hI hb hc hx hy
    have hn' : n = T := by omega
    subst hn'
    have h16 := hI.1.2.2.1
    have h12' := hI.1.2.2.2.1
    subst hx hy
    refine bl_MC_intro (by decide +kernel) rfl (Nat.le_of_ble_eq_true rfl) ?_
    refine bl_go oX0_placeNext 80 [22] rfl ?_
    refine ⟨kq, fun h5 => ?_, fun h5 => ?_⟩
    · try simp (disch := omega) only [h16, zI_n, zI_o, zI_lit, zI_neg, zI_add, zI_sub, zI_mul, zI_lt, zI_le, zI_eq, zI_clamp, zI_in, zI_div, zI_rem, lg_lt0, lg_gt0, lg_eq0, lg_le0, lg_ge0, Int.toNat_natCast, ge_iff_le, gt_iff_lt, List.length_cons, List.length_nil, bl_up2_at, bl_up2_nk, bl_up2_nx] at h5
      refine ⟨rfl, rfl, kq, (Nat.le_of_ble_eq_true rfl), (0, 0), Nat.le_of_ble_eq_true rfl, Nat.le_of_ble_eq_true rfl, bl_MC_mono (c_Bench_keepOrder (d := d + 3) hq' hI hk hs (by omega) rfl) (fun o16 σ16 q16 => ?_)⟩
      try dsimp only [bl_pv] at q16
      obtain ⟨rfl, I', rfl, h1, h2, h3⟩ := q16
      refine bl_go oX0_placeNext 80 [22] rfl ?_
      try show _ ∧ _
      try dsimp only [bl_pv]
      exact ⟨rfl, I', rfl, h1, h2, h3⟩
    · try simp (disch := omega) only [h16, zI_n, zI_o, zI_lit, zI_neg, zI_add, zI_sub, zI_mul, zI_lt, zI_le, zI_eq, zI_clamp, zI_in, zI_div, zI_rem, lg_lt0, lg_gt0, lg_eq0, lg_le0, lg_ge0, Int.toNat_natCast, ge_iff_le, gt_iff_lt, List.length_cons, List.length_nil, bl_up2_at, bl_up2_nk, bl_up2_nx] at h5
      exfalso; omega
  | succ k ih =>
    intro n s p a b c I x y hn hk hs hI hb hc hx hy
    have h16 := hI.1.2.2.1
    have h12' := hI.1.2.2.2.1
    have h12 := hI.1.1
    have h4 := hI.1.2.1
    have ecn : cNN (k + 1) = 4 * (1 + cNN k) := rfl
    have hv := fun r => srf_v (g := fun r b => srch D k (n + 1) (pl D s r) (up1 p n (nI r)) (up1 a n (nI (bbg s r))) b) (c := fun r => decide (s.1 r < D.2.1 r)) (m := fun r => mnb D k (pl D s r)) (n := r) (fun r _ _ b hb => srch_v k (n + 1) (pl D s r) _ _ b hb) b (by omega)
    subst hx hy
    refine bl_MC_intro (by decide +kernel) rfl (Nat.le_of_ble_eq_true rfl) ?_
    have L : ∀ r, r ≤ D.1 → ∀ z I1, z = nI r → bnF I I1 q → bnK I I1 q D T n → bnI I1 q D T n s p a (srf (fun r b => srch D k (n + 1) (pl D s r) (up1 p n (nI r)) (up1 a n (nI (bbg s r))) b) (fun r => decide (s.1 r < D.2.1 r)) r b) (c + r * (1 + cNN k)) → bl_WP G l (d + 2 * (k + 1) + 5) mX0_placeNext 22 [(3, .int z), (0, .ref q), (1, .int (nI n)), (2, .int (nI s.2.2))] [] (I1, J, R, K, N) (0, 0) (fun o σ' => o = .inl none ∧ ∃ I', σ' = (I', J, R, K, N) ∧ bnF I I' q ∧ bnK I I' q D T n ∧ bnI I' q D T n s p a (srch D (k + 1) n s p a b) (c + cNN (k + 1))) := by
      refine bl_for D.1 ?_ (fun r hr ihr => ?_)
      · intro z I1 hz hF hK hI1; subst hz
        have g12 := hI1.1.1
        have hm : D.1 * (1 + cNN k) ≤ 4 * (1 + cNN k) := Nat.mul_le_mul_right _ h4
        refine bl_go oX0_placeNext 80 [22] rfl ?_
        refine ⟨kq, fun h27 => ?_, fun h27 => ?_⟩
        · try simp (disch := omega) only [g12, zI_n, zI_o, zI_lit, zI_neg, zI_add, zI_sub, zI_mul, zI_lt, zI_le, zI_eq, zI_clamp, zI_in, zI_div, zI_rem, lg_lt0, lg_gt0, lg_eq0, lg_le0, lg_ge0, Int.toNat_natCast, ge_iff_le, gt_iff_lt, List.length_cons, List.length_nil, bl_up2_at, bl_up2_nk, bl_up2_nx] at h27
          try show _ ∧ _
          try dsimp only [bl_pv]
          exact ⟨rfl, I1, rfl, hF, hK, hI1.mono (by omega)⟩
        · try simp (disch := omega) only [g12, zI_n, zI_o, zI_lit, zI_neg, zI_add, zI_sub, zI_mul, zI_lt, zI_le, zI_eq, zI_clamp, zI_in, zI_div, zI_rem, lg_lt0, lg_gt0, lg_eq0, lg_le0, lg_ge0, Int.toNat_natCast, ge_iff_le, gt_iff_lt, List.length_cons, List.length_nil, bl_up2_at, bl_up2_nk, bl_up2_nx] at h27
          exfalso; omega
      · intro z I1 hz hF hK hI1; subst hz
        have g12 := hI1.1.1
        obtain ⟨z1, z2, -⟩ := hI1.1.2.2.2.2 r hr
        have t1 := (hI1.2.1 r hr).1
        have hsr := hk.1 r hr
        have hm : (r + 1) * (1 + cNN k) ≤ 4 * (1 + cNN k) := Nat.mul_le_mul_right _ (by omega)
        rw [Nat.succ_mul] at hm
        have hvr := hv r
        refine bl_go oX0_placeNext 80 [22] rfl ?_
        refine ⟨kq, fun h27 => ?_, fun h27 => ?_⟩
        · try simp (disch := omega) only [g12, t1, z2, zI_n, zI_o, zI_lit, zI_neg, zI_add, zI_sub, zI_mul, zI_lt, zI_le, zI_eq, zI_clamp, zI_in, zI_div, zI_rem, lg_lt0, lg_gt0, lg_eq0, lg_le0, lg_ge0, Int.toNat_natCast, ge_iff_le, gt_iff_lt, List.length_cons, List.length_nil, bl_up2_at, bl_up2_nk, bl_up2_nx] at h27
          exfalso; omega
        · try simp (disch := omega) only [g12, t1, z2, zI_n, zI_o, zI_lit, zI_neg, zI_add, zI_sub, zI_mul, zI_lt, zI_le, zI_eq, zI_clamp, zI_in, zI_div, zI_rem, lg_lt0, lg_gt0, lg_eq0, lg_le0, lg_ge0, Int.toNat_natCast, ge_iff_le, gt_iff_lt, List.length_cons, List.length_nil, bl_up2_at, bl_up2_nk, bl_up2_nx] at h27
          refine ⟨kq, _, bl_vs rq_4, Or.inl ⟨kq5, (by first | exact (by rw [nq5]; exact vp_in_nI (by omega) (by omega)) | ((try dsimp only [bl_pv]); show vp_in _ (N _); rw [nq5]; simp (disch := omega) only [g12, t1, z2, zI_n, zI_o, zI_lit, zI_neg, zI_add, zI_sub, zI_mul, zI_lt, zI_le, zI_eq, zI_clamp, zI_in, zI_div, zI_rem, lg_lt0, lg_gt0, lg_eq0, lg_le0, lg_ge0, Int.toNat_natCast, ge_iff_le, gt_iff_lt, List.length_cons, List.length_nil, bl_up2_at, bl_up2_nk, bl_up2_nx] <;> omega)), kq, _, bl_vs rq_3, Or.inl ⟨kq4, (by first | exact (by rw [nq4]; exact vp_in_nI (by omega) (by omega)) | ((try dsimp only [bl_pv]); show vp_in _ (N _); rw [nq4]; simp (disch := omega) only [g12, t1, z2, zI_n, zI_o, zI_lit, zI_neg, zI_add, zI_sub, zI_mul, zI_lt, zI_le, zI_eq, zI_clamp, zI_in, zI_div, zI_rem, lg_lt0, lg_gt0, lg_eq0, lg_le0, lg_ge0, Int.toNat_natCast, ge_iff_le, gt_iff_lt, List.length_cons, List.length_nil, bl_up2_at, bl_up2_nk, bl_up2_nx] <;> omega)), fun h42 => ?_, fun h42 => ?_⟩⟩⟩
          · try simp (disch := omega) only [g12, t1, z2, zI_n, zI_o, zI_lit, zI_neg, zI_add, zI_sub, zI_mul, zI_lt, zI_le, zI_eq, zI_clamp, zI_in, zI_div, zI_rem, lg_lt0, lg_gt0, lg_eq0, lg_le0, lg_ge0, Int.toNat_natCast, ge_iff_le, gt_iff_lt, List.length_cons, List.length_nil, bl_up2_at, bl_up2_nk, bl_up2_nx] at h42
            first
            | (exfalso; first | omega | exact h42 trivial)
            | (try dsimp only [bl_pv]
               first
               | (have hq2 := hI2
                  refine ihr _ I2 (nI_1 _) (hF.trans hF2) (hK.trans hK2 (Nat.le_refl _)) ?_
                  have e : srf (fun r b => srch D k (n + 1) (pl D s r) (up1 p n (nI r)) (up1 a n (nI (bbg s r))) b) (fun r => decide (s.1 r < D.2.1 r)) (r + 1) b = srch D k (n + 1) (pl D s r) (up1 p n (nI r)) (up1 a n (nI (bbg s r))) (srf (fun r b => srch D k (n + 1) (pl D s r) (up1 p n (nI r)) (up1 a n (nI (bbg s r))) b) (fun r => decide (s.1 r < D.2.1 r)) r b) := if_pos (decide_eq_true (by omega))
                  rw [e]
                  exact hI2.mono (by rw [Nat.succ_mul]; omega))
               | (refine ihr _ I1 (nI_1 _) hF hK ?_
                  have hne : ¬ s.1 r < D.2.1 r := by omega
                  have e : srf (fun r b => srch D k (n + 1) (pl D s r) (up1 p n (nI r)) (up1 a n (nI (bbg s r))) b) (fun r => decide (s.1 r < D.2.1 r)) (r + 1) b = srf (fun r b => srch D k (n + 1) (pl D s r) (up1 p n (nI r)) (up1 a n (nI (bbg s r))) b) (fun r => decide (s.1 r < D.2.1 r)) r b := if_neg (fun q => hne (of_decide_eq_true q))
                  rw [e]
                  exact hI1.mono (by rw [Nat.succ_mul]; omega)))
          · try simp (disch := omega) only [g12, t1, z2, zI_n, zI_o, zI_lit, zI_neg, zI_add, zI_sub, zI_mul, zI_lt, zI_le, zI_eq, zI_clamp, zI_in, zI_div, zI_rem, lg_lt0, lg_gt0, lg_eq0, lg_le0, lg_ge0, Int.toNat_natCast, ge_iff_le, gt_iff_lt, List.length_cons, List.length_nil, bl_up2_at, bl_up2_nk, bl_up2_nx] at h42
            first
            | (exfalso; first | omega | exact h42 trivial)
            | (refine ⟨rfl, rfl, kq, (Nat.le_of_ble_eq_true rfl), (0, 0), Nat.le_of_ble_eq_true rfl, Nat.le_of_ble_eq_true rfl, bl_MC_mono (c_Bench_placeBlock (d := d) (k := k) (r := r) hq' hDs (fun s p a b c I x y h1 h2 h3 h4 h5 h6 h7 h8 => ih (n + 1) s p a b c I x y h1 h2 h3 h4 h5 h6 h7 h8) (by omega) hk hs hI1 (by omega) (by omega) rfl rfl rfl hr (by omega)) (fun o49 σ49 q49 => ?_)⟩
               try dsimp only [bl_pv] at q49
               obtain ⟨rfl, I2, rfl, hF2, hK2, hI2⟩ := q49
               refine bl_go oX0_placeNext 80 [22] rfl ?_
               try dsimp only [bl_pv]
               first
               | (have hq2 := hI2
                  refine ihr _ I2 (nI_1 _) (hF.trans hF2) (hK.trans hK2 (Nat.le_refl _)) ?_
                  have e : srf (fun r b => srch D k (n + 1) (pl D s r) (up1 p n (nI r)) (up1 a n (nI (bbg s r))) b) (fun r => decide (s.1 r < D.2.1 r)) (r + 1) b = srch D k (n + 1) (pl D s r) (up1 p n (nI r)) (up1 a n (nI (bbg s r))) (srf (fun r b => srch D k (n + 1) (pl D s r) (up1 p n (nI r)) (up1 a n (nI (bbg s r))) b) (fun r => decide (s.1 r < D.2.1 r)) r b) := if_pos (decide_eq_true (by omega))
                  rw [e]
                  exact hI2.mono (by rw [Nat.succ_mul]; omega))
               | (refine ihr _ I1 (nI_1 _) hF hK ?_
                  have hne : ¬ s.1 r < D.2.1 r := by omega
                  have e : srf (fun r b => srch D k (n + 1) (pl D s r) (up1 p n (nI r)) (up1 a n (nI (bbg s r))) b) (fun r => decide (s.1 r < D.2.1 r)) (r + 1) b = srf (fun r b => srch D k (n + 1) (pl D s r) (up1 p n (nI r)) (up1 a n (nI (bbg s r))) b) (fun r => decide (s.1 r < D.2.1 r)) r b := if_neg (fun q => hne (of_decide_eq_true q))
                  rw [e]
                  exact hI1.mono (by rw [Nat.succ_mul]; omega)))
    refine bl_go oX0_placeNext 80 [22] rfl ?_
    refine ⟨kq, fun h5 => ?_, fun h5 => ?_⟩
    · try simp (disch := omega) only [h16, zI_n, zI_o, zI_lit, zI_neg, zI_add, zI_sub, zI_mul, zI_lt, zI_le, zI_eq, zI_clamp, zI_in, zI_div, zI_rem, lg_lt0, lg_gt0, lg_eq0, lg_le0, lg_ge0, Int.toNat_natCast, ge_iff_le, gt_iff_lt, List.length_cons, List.length_nil, bl_up2_at, bl_up2_nk, bl_up2_nx] at h5
      exfalso; omega
    · try simp (disch := omega) only [h16, zI_n, zI_o, zI_lit, zI_neg, zI_add, zI_sub, zI_mul, zI_lt, zI_le, zI_eq, zI_clamp, zI_in, zI_div, zI_rem, lg_lt0, lg_gt0, lg_eq0, lg_le0, lg_ge0, Int.toNat_natCast, ge_iff_le, gt_iff_lt, List.length_cons, List.length_nil, bl_up2_at, bl_up2_nk, bl_up2_nx] at h5
      refine ⟨fun h11 => ?_, fun h11 => ?_⟩
      · try simp (disch := omega) only [h16, zI_n, zI_o, zI_lit, zI_neg, zI_add, zI_sub, zI_mul, zI_lt, zI_le, zI_eq, zI_clamp, zI_in, zI_div, zI_rem, lg_lt0, lg_gt0, lg_eq0, lg_le0, lg_ge0, Int.toNat_natCast, ge_iff_le, gt_iff_lt, List.length_cons, List.length_nil, bl_up2_at, bl_up2_nk, bl_up2_nx] at h11
        try dsimp only [bl_pv]
        refine L 0 (by omega) _ I rfl bnF.rfl' (fun _ _ _ _ _ => ⟨rfl, fun _ _ _ _ => rfl⟩) ?_
        rw [Nat.zero_mul]; exact hI
      · try simp (disch := omega) only [h16, zI_n, zI_o, zI_lit, zI_neg, zI_add, zI_sub, zI_mul, zI_lt, zI_le, zI_eq, zI_clamp, zI_in, zI_div, zI_rem, lg_lt0, lg_gt0, lg_eq0, lg_le0, lg_ge0, Int.toNat_natCast, ge_iff_le, gt_iff_lt, List.length_cons, List.length_nil, bl_up2_at, bl_up2_nk, bl_up2_nx] at h11
        exfalso; omega
end BENCH5
