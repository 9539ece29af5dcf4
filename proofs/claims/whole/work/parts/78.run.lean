/-! ===== Run ===== -/
def sl_at (S0 : sl) (rc : sq) : Nat → sl
  | 0 => S0
  | k + 1 => sl_step (sl_at S0 rc k) (rc.2.1 k) (rc.2.2 k)
/-- n steps of the recipe can be done, and no more -/
def isDone (S0 : sl) (rc : sq) (n : Nat) : Prop := n ≤ rc.1 ∧ (∀ k, k < n → sl_can (rc.2.1 k) (rc.2.2 k) (sl_at S0 rc k).1.1) ∧ (n < rc.1 → ¬ sl_can (rc.2.1 n) (rc.2.2 n) (sl_at S0 rc n).1.1)
theorem isDone_eq {S0 : sl} {rc : sq} {m n : Nat} (hm : isDone S0 rc m) (hn : isDone S0 rc n) : m = n := by
  obtain ⟨a1, a2, a3⟩ := hm
  obtain ⟨b1, b2, b3⟩ := hn
  rcases Nat.lt_trichotomy m n with h | h | h
  · exact absurd (b2 m h) (a3 (by omega))
  · exact h
  · exact absurd (a2 n h) (b3 (by omega))
/-- the run's names: q its rows behind it, its slabs from β on -/
def rnS (R : Nat → Nat → Option Nat) (K N : Nat → Nat) (q β : Nat) : Prop := (q < 900 ∧ 1000 ≤ β) ∧ K q = 6 ∧ R q 0 = some (q + 1) ∧ R q 1 = some (q + 2) ∧ R q 2 = some (q + 3) ∧ (K (q + 1) = 24 ∧ N (q + 1) = 21) ∧ (K (q + 2) = 20 ∧ N (q + 2) = 21) ∧ (K (q + 3) = 20 ∧ N (q + 3) = 21) ∧ ∀ k, k < 21 → R (q + 1) k = some (β + k) ∧ slS R K N (β + k)
/-- nothing but the run's slabs and its places 3 and 7 have changed -/
def rnM (I I' : Nat → Nat → Int32) (J J' : Nat → Nat → Int64) (q β : Nat) : Prop := (∀ x, x ≠ q → (∀ k, k < 21 → ¬ slN (β + k) x) → I' x = I x ∧ J' x = J x) ∧ ∀ j, j ≠ 3 → j ≠ 7 → I' q j = I q j
section RUN
variable {G : bl_G} {l : Launch} {d q β a v p : Nat} {I : Nat → Nat → Int32} {J : Nat → Nat → Int64} {R : Nat → Nat → Option Nat} {K N : Nat → Nat}
theorem c_Run_forget (kq : K q = 6) : bl_MC G l d mX5_forget [.ref q] (I, J, R, K, N) (0, 0) (fun o σ' => o = .inl none ∧ σ' = (bl_up2 (bl_up2 (bl_up2 I q 7 0) q 8 0) q 9 0, J, R, K, N)) := by
  refine bl_MC_intro (by decide +kernel) rfl (Nat.le_of_ble_eq_true rfl) ?_
  refine bl_go oX5_forget 80 [] rfl ?_
  refine ⟨kq, Or.inr (Or.inr ⟨rfl, rfl, _, rfl⟩), (fun _ => by first | exact Or.inl rfl | exact Or.inr rfl), kq, Or.inr (Or.inr ⟨rfl, rfl, _, rfl⟩), (fun _ => by first | exact Or.inl rfl | exact Or.inr rfl), kq, Or.inr (Or.inr ⟨rfl, rfl, _, rfl⟩), (fun _ => by first | exact Or.inl rfl | exact Or.inr rfl), ?_⟩
  try show _ ∧ _
  try dsimp only [bl_pv]
  exact ⟨rfl, rfl⟩
theorem c_Run_layOut {tf : Nat → Nat} {rc : sq} (hq : rnS R K N q β) (ka : K a = 3) (ra_0 : R a 0 = some v) (kv : K v = 20) (nv : N v = 9) (hv : ∀ k, k < 9 → I v k = nI (tf k)) (hv0 : tf 0 ≤ 12 ∧ tf 1 ≤ 12 ∧ tf 2 ≤ tf 0 ∧ tf 2 ≤ tf 1) (hvn : v < 900) (hp : rcS R K N p) (hpn : p < 900) (hpq : p ≠ q ∧ p + 1 ≠ q ∧ p + 2 ≠ q ∧ v ≠ q) (hrc : rcC I p rc) (hst : ∀ k, k < rc.1 → st_ok (rc.2.1 k) (rc.2.2 k)) : bl_MC G l (d + 3) mX5_layOut [.ref q, .ref a, .ref p] (I, J, R, K, N) (0, 0) (fun o σ' => o = .inl none ∧ ∃ I' J' n, σ' = (I', J', R, K, N) ∧ rnM I I' J J' q β ∧ isDone (sl_first (tf 0) (tf 1) (tf 2)) rc n ∧ I' q 3 = nI n ∧ I' q 7 = 1 ∧ ∀ k, k ≤ n → slC I' J' (β + k) (sl_at (sl_first (tf 0) (tf 1) (tf 2)) rc k)) := by
  generalize hS0 : sl_first (tf 0) (tf 1) (tf 2) = S0
  obtain ⟨hqr, kq, rq_0, rq_1, rq_2, ⟨kqs, nqs⟩, ⟨kqg, nqg⟩, ⟨kqw, nqw⟩, hR⟩ := hq
  obtain ⟨kp, rp_0, rp_1, kpk, npk, kpn, npn⟩ := hp
  have hs20 := hrc.2.1
  have kb0 := (hR 0 (by omega)).2.2.1
  refine bl_MC_intro (by decide +kernel) rfl (Nat.le_of_ble_eq_true rfl) ?_
  have LE : ∀ n, ∀ I1 J1, n ≤ rc.1 → (∀ j, j < n → sl_can (rc.2.1 j) (rc.2.2 j) (sl_at S0 rc j).1.1) → (n < rc.1 → ¬ sl_can (rc.2.1 n) (rc.2.2 n) (sl_at S0 rc n).1.1) → (∀ j, j ≤ n → slC I1 J1 (β + j) (sl_at S0 rc j)) → I1 q 3 = nI n → rnM I I1 J J1 q β → bl_WP G l (d + 3) mX5_layOut 106 [(0, .ref q)] [] (I1, J1, R, K, N) (0, 0) (fun o σ' => o = .inl none ∧ ∃ I' J' n, σ' = (I', J', R, K, N) ∧ rnM I I' J J' q β ∧ isDone S0 rc n ∧ I' q 3 = nI n ∧ I' q 7 = 1 ∧ ∀ k, k ≤ n → slC I' J' (β + k) (sl_at S0 rc k)) := by
    intro n I1 J1 g1 g2 g3 g4 g5 g6
    refine bl_go oX5_layOut 80 [17, 106] rfl ?_
    refine ⟨kq, Or.inr (Or.inr ⟨rfl, rfl, _, rfl⟩), (fun _ => by first | exact Or.inl rfl | exact Or.inr rfl), ?_⟩
    try show _ ∧ _
    try dsimp only [bl_pv]
    refine ⟨rfl, _, _, n, rfl, ⟨fun x hx hk => ?_, fun j j3 j7 => ?_⟩, ⟨g1, g2, g3⟩, ?_, bl_up2_at, fun k hk => ?_⟩
    · rw [bl_up2_ne hx]; exact g6.1 x hx hk
    · rw [bl_up2_nk j7]; exact g6.2 j j3 j7
    · rw [bl_up2_nk (by omega)]; exact g5
    · have hm : slM I1 (bl_up2 I1 q 7 1) J1 J1 q := fun x hx => ⟨bl_up2_ne (fun e => hx (Or.inl e)), rfl⟩
      have hb := (hR k (by omega)).2.1
      have e : ∀ x, x ≠ q → bl_up2 I1 q 7 1 x = I1 x := fun x hx => bl_up2_ne hx
      obtain ⟨c1, c2, c3⟩ := g4 k hk
      exact ⟨c1.same (e _ (by omega)) rfl rfl, c2.same (e _ (by omega)) rfl rfl, c3⟩
  have L : ∀ k, k ≤ rc.1 → ∀ u I1 J1, u = nI k → (∀ j, j < k → sl_can (rc.2.1 j) (rc.2.2 j) (sl_at S0 rc j).1.1) → (∀ j, j ≤ k → slC I1 J1 (β + j) (sl_at S0 rc j)) → I1 q 3 = nI k → rnM I I1 J J1 q β → bl_WP G l (d + 3) mX5_layOut 17 [(3, .int u), (0, .ref q), (1, .ref a), (2, .ref p)] [] (I1, J1, R, K, N) (0, 0) (fun o σ' => o = .inl none ∧ ∃ I' J' n, σ' = (I', J', R, K, N) ∧ rnM I I' J J' q β ∧ isDone S0 rc n ∧ I' q 3 = nI n ∧ I' q 7 = 1 ∧ ∀ k, k ≤ n → slC I' J' (β + k) (sl_at S0 rc k)) := by
    refine bl_for rc.1 ?_ (fun k hk ih => ?_)
    · intro u I1 J1 hu g2 g4 g5 g6; subst hu
      have z0 : I1 p 2 = nI rc.1 := by
        rw [(g6.1 p hpq.1 (fun j hj => by unfold slN; omega)).1]; exact hrc.1
      refine bl_go oX5_layOut 80 [17, 106] rfl ?_
      refine ⟨kp, fun h22 => ?_, fun h22 => ?_⟩
      · try simp (disch := omega) only [z0, zI_n, zI_o, zI_lit, zI_neg, zI_add, zI_sub, zI_mul, zI_lt, zI_le, zI_eq, zI_clamp, zI_in, zI_div, zI_rem, lg_lt0, lg_gt0, lg_eq0, lg_le0, lg_ge0, Int.toNat_natCast, ge_iff_le, gt_iff_lt, List.length_cons, List.length_nil, bl_up2_at, bl_up2_nk, bl_up2_nx] at h22
        refine bl_lv [1] rfl ?_
        try dsimp only [bl_pv]
        exact LE rc.1 _ _ (Nat.le_refl _) g2 (fun h => absurd h (by omega)) g4 g5 g6
      · try simp (disch := omega) only [z0, zI_n, zI_o, zI_lit, zI_neg, zI_add, zI_sub, zI_mul, zI_lt, zI_le, zI_eq, zI_clamp, zI_in, zI_div, zI_rem, lg_lt0, lg_gt0, lg_eq0, lg_le0, lg_ge0, Int.toNat_natCast, ge_iff_le, gt_iff_lt, List.length_cons, List.length_nil, bl_up2_at, bl_up2_nk, bl_up2_nx] at h22
        exfalso; omega
    · intro u I1 J1 hu g2 g4 g5 g6; subst hu
      have ec : (nI k).toNatClampNeg = k := nI_clamp (by omega)
      have ec1 : (nI k + 1).toNatClampNeg = k + 1 := by rw [nI_1]; exact nI_clamp (by omega)
      have z0 : I1 p 2 = nI rc.1 := by
        rw [(g6.1 p hpq.1 (fun j hj => by unfold slN; omega)).1]; exact hrc.1
      obtain ⟨y1, y2, -, -⟩ := hrc.2.2 k hk
      have z1 : I1 (p + 1) k = nI (rc.2.1 k) := by
        rw [(g6.1 (p + 1) hpq.2.1 (fun j hj => by unfold slN; omega)).1]; exact y1
      have z2 : I1 (p + 2) k = nI (rc.2.2 k) := by
        rw [(g6.1 (p + 2) hpq.2.2.1 (fun j hj => by unfold slN; omega)).1]; exact y2
      have hbk := (hR k (by omega)).2
      have hbn := (hR (k + 1) (by omega)).2
      have kbk := hbk.2.1
      have kbn := hbn.2.1
      have rbk_0 := hbk.2.2.1
      have kbka := hbk.2.2.2.2.1.2.1
      have hck := g4 k (Nat.le_refl _)
      refine bl_go oX5_layOut 80 [17, 106] rfl ?_
      refine ⟨kp, fun h22 => ?_, fun h22 => ?_⟩
      · try simp (disch := omega) only [z0, zI_n, zI_o, zI_lit, zI_neg, zI_add, zI_sub, zI_mul, zI_lt, zI_le, zI_eq, zI_clamp, zI_in, zI_div, zI_rem, lg_lt0, lg_gt0, lg_eq0, lg_le0, lg_ge0, Int.toNat_natCast, ge_iff_le, gt_iff_lt, List.length_cons, List.length_nil, bl_up2_at, bl_up2_nk, bl_up2_nx] at h22
        exfalso; omega
      · try simp (disch := omega) only [z0, zI_n, zI_o, zI_lit, zI_neg, zI_add, zI_sub, zI_mul, zI_lt, zI_le, zI_eq, zI_clamp, zI_in, zI_div, zI_rem, lg_lt0, lg_gt0, lg_eq0, lg_le0, lg_ge0, Int.toNat_natCast, ge_iff_le, gt_iff_lt, List.length_cons, List.length_nil, bl_up2_at, bl_up2_nk, bl_up2_nx] at h22
        refine ⟨fun h28 => ?_, fun h28 => ?_⟩
        · try simp (disch := omega) only [z0, zI_n, zI_o, zI_lit, zI_neg, zI_add, zI_sub, zI_mul, zI_lt, zI_le, zI_eq, zI_clamp, zI_in, zI_div, zI_rem, lg_lt0, lg_gt0, lg_eq0, lg_le0, lg_ge0, Int.toNat_natCast, ge_iff_le, gt_iff_lt, List.length_cons, List.length_nil, bl_up2_at, bl_up2_nk, bl_up2_nx] at h28
          exfalso; omega
        · try simp (disch := omega) only [z0, zI_n, zI_o, zI_lit, zI_neg, zI_add, zI_sub, zI_mul, zI_lt, zI_le, zI_eq, zI_clamp, zI_in, zI_div, zI_rem, lg_lt0, lg_gt0, lg_eq0, lg_le0, lg_ge0, Int.toNat_natCast, ge_iff_le, gt_iff_lt, List.length_cons, List.length_nil, bl_up2_at, bl_up2_nk, bl_up2_nx] at h28
          refine ⟨kp, _, bl_vs rp_0, Or.inl ⟨kpk, (by first | exact (by rw [npk]; exact vp_in_nI (by omega) (by omega)) | ((try dsimp only [bl_pv]); show vp_in _ (N _); rw [npk]; simp (disch := omega) only [z0, zI_n, zI_o, zI_lit, zI_neg, zI_add, zI_sub, zI_mul, zI_lt, zI_le, zI_eq, zI_clamp, zI_in, zI_div, zI_rem, lg_lt0, lg_gt0, lg_eq0, lg_le0, lg_ge0, Int.toNat_natCast, ge_iff_le, gt_iff_lt, List.length_cons, List.length_nil, bl_up2_at, bl_up2_nk, bl_up2_nx] <;> omega)), kp, _, bl_vs rp_1, Or.inl ⟨kpn, (by first | exact (by rw [npn]; exact vp_in_nI (by omega) (by omega)) | ((try dsimp only [bl_pv]); show vp_in _ (N _); rw [npn]; simp (disch := omega) only [z0, zI_n, zI_o, zI_lit, zI_neg, zI_add, zI_sub, zI_mul, zI_lt, zI_le, zI_eq, zI_clamp, zI_in, zI_div, zI_rem, lg_lt0, lg_gt0, lg_eq0, lg_le0, lg_ge0, Int.toNat_natCast, ge_iff_le, gt_iff_lt, List.length_cons, List.length_nil, bl_up2_at, bl_up2_nk, bl_up2_nx] <;> omega)), kq, _, bl_vs rq_0, bl_ka kqs, (by first | exact (by rw [nqs]; exact vp_in_nI (by omega) (by omega)) | ((try dsimp only [bl_pv]); show vp_in _ (N _); rw [nqs]; simp (disch := omega) only [z0, zI_n, zI_o, zI_lit, zI_neg, zI_add, zI_sub, zI_mul, zI_lt, zI_le, zI_eq, zI_clamp, zI_in, zI_div, zI_rem, lg_lt0, lg_gt0, lg_eq0, lg_le0, lg_ge0, Int.toNat_natCast, ge_iff_le, gt_iff_lt, List.length_cons, List.length_nil, bl_up2_at, bl_up2_nk, bl_up2_nx] <;> omega)), _, bl_vs ((show _ = some (β + k) from by rw [ec]; exact (hR k (by omega)).1)), kbk, _, bl_vs rbk_0, kbka, rfl, (Nat.le_of_ble_eq_true rfl), (0, 0), Nat.le_refl _, Nat.le_refl _, bl_MC_mono (c_Slab_canTake (by rw [ec]; exact z1) (by rw [ec]; exact z2) hck.1.1 (hst k hk) hck.1.2.1) (fun o63 σ63 q63 => ?_)⟩⟩⟩
          try dsimp only [bl_pv] at q63
          obtain ⟨⟨w, rfl, hw⟩, rfl⟩ := q63
          refine bl_go oX5_layOut 80 [17, 106] rfl ?_
          refine ⟨fun h66 => ?_, fun h66 => ?_⟩
          · try simp (disch := omega) only [z0, zI_n, zI_o, zI_lit, zI_neg, zI_add, zI_sub, zI_mul, zI_lt, zI_le, zI_eq, zI_clamp, zI_in, zI_div, zI_rem, lg_lt0, lg_gt0, lg_eq0, lg_le0, lg_ge0, Int.toNat_natCast, ge_iff_le, gt_iff_lt, List.length_cons, List.length_nil, bl_up2_at, bl_up2_nk, bl_up2_nx] at h66
            have hcan : sl_can (rc.2.1 k) (rc.2.2 k) (sl_at S0 rc k).1.1 := by
              rcases hw with h | h
              · exact h.2
              · exact absurd h.1 h66
            refine ⟨kq, _, bl_vs rq_0, bl_ka kqs, (by (try dsimp only [bl_pv]); rw [nqs, nI_1]; exact vp_in_nI (by omega) (by omega)), _, bl_vs ((show _ = some (β + (k + 1)) from by rw [ec1]; exact (hR (k + 1) (by omega)).1)), kq, _, bl_vs rq_0, bl_ka kqs, (by first | exact (by rw [nqs]; exact vp_in_nI (by omega) (by omega)) | ((try dsimp only [bl_pv]); show vp_in _ (N _); rw [nqs]; simp (disch := omega) only [z0, zI_n, zI_o, zI_lit, zI_neg, zI_add, zI_sub, zI_mul, zI_lt, zI_le, zI_eq, zI_clamp, zI_in, zI_div, zI_rem, lg_lt0, lg_gt0, lg_eq0, lg_le0, lg_ge0, Int.toNat_natCast, ge_iff_le, gt_iff_lt, List.length_cons, List.length_nil, bl_up2_at, bl_up2_nk, bl_up2_nx] <;> omega)), _, bl_vs ((show _ = some (β + k) from by rw [ec]; exact (hR k (by omega)).1)), rfl, rfl, kbn, (Nat.le_of_ble_eq_true rfl), (0, 0), Nat.le_refl _, Nat.le_refl _, bl_MC_mono (c_Slab_becomeOf (d := d) hbn hbk (by omega) hck (by rw [ec]; exact z1) (by rw [ec]; exact z2) (hst k hk) hcan) (fun o90 σ90 q90 => ?_)⟩
            try dsimp only [bl_pv] at q90
            obtain ⟨rfl, I2, J2, rfl, m2, t2⟩ := q90
            refine bl_go oX5_layOut 80 [17, 106] rfl ?_
            refine ⟨kq, Or.inr (Or.inr ⟨rfl, rfl, _, rfl⟩), (fun h => by cases h), ?_⟩
            refine bl_lv [0, 3, 4, 5] rfl ?_
            try dsimp only [bl_pv]
            have hqn : ∀ j, j < 21 → ¬ slN (β + j) q := fun j hj => by unfold slN; omega
            have e : ∀ x, x ≠ q → bl_up2 I2 q 3 (nI k + 1) x = I2 x := fun x hx => bl_up2_ne hx
            have cp : ∀ j, j < 21 → ∀ S, slC I2 J2 (β + j) S → slC (bl_up2 I2 q 3 (nI k + 1)) J2 (β + j) S := fun j hj S h => by
              obtain ⟨c1, c2, c3⟩ := h
              exact ⟨c1.same (e _ (by omega)) rfl rfl, c2.same (e _ (by omega)) rfl rfl, c3⟩
            refine ih _ _ _ (nI_1 _) (fun j hj => ?_) (fun j hj => ?_) ?_ ⟨fun x hx hk' => ?_, fun j j3 j7 => ?_⟩
            · by_cases e : j = k
              · subst e; exact hcan
              · exact g2 j (by omega)
            · by_cases e : j = k + 1
              · subst e; exact cp _ (by omega) _ t2
              · exact cp _ (by omega) _ ((g4 j (by omega)).other m2 hbn.1 (hR j (by omega)).2.1 (by omega))
            · rw [bl_up2_at, nI_1]
            · rw [bl_up2_ne hx]
              have u1 := m2 x (hk' (k + 1) (by omega))
              have u2 := g6.1 x hx hk'
              exact ⟨u1.1.trans u2.1, u1.2.trans u2.2⟩
            · rw [bl_up2_nk j3, (m2 q (hqn (k + 1) (by omega))).1]; exact g6.2 j j3 j7
          · try simp (disch := omega) only [z0, zI_n, zI_o, zI_lit, zI_neg, zI_add, zI_sub, zI_mul, zI_lt, zI_le, zI_eq, zI_clamp, zI_in, zI_div, zI_rem, lg_lt0, lg_gt0, lg_eq0, lg_le0, lg_ge0, Int.toNat_natCast, ge_iff_le, gt_iff_lt, List.length_cons, List.length_nil, bl_up2_at, bl_up2_nk, bl_up2_nx] at h66
            have hcan : ¬ sl_can (rc.2.1 k) (rc.2.2 k) (sl_at S0 rc k).1.1 := by
              rcases hw with h | h
              · exact absurd (h.1.symm.trans h66) (by decide)
              · exact h.2
            refine bl_lv [3] rfl ?_
            try dsimp only [bl_pv]
            exact LE k _ _ (by omega) g2 (fun _ => hcan) g4 g5 g6
  refine bl_go oX5_layOut 80 [17, 106] rfl ?_
  refine ⟨kq, _, bl_vs rq_0, bl_ka kqs, (by first | exact (by rw [nqs]; exact vp_in_nI (by omega) (by omega)) | ((try dsimp only [bl_pv]); show vp_in _ (N _); rw [nqs]; simp (disch := omega) only [zI_n, zI_o, zI_lit, zI_neg, zI_add, zI_sub, zI_mul, zI_lt, zI_le, zI_eq, zI_clamp, zI_in, zI_div, zI_rem, lg_lt0, lg_gt0, lg_eq0, lg_le0, lg_ge0, Int.toNat_natCast, ge_iff_le, gt_iff_lt, List.length_cons, List.length_nil, bl_up2_at, bl_up2_nk, bl_up2_nx] <;> omega)), _, bl_vs ((hR 0 (by omega)).1), rfl, rfl, kb0, (Nat.le_of_ble_eq_true rfl), (0, 0), Nat.le_refl _, Nat.le_refl _, bl_MC_mono (c_Slab_layFirst (d := d + 1) (hR 0 (by omega)).2 ka ra_0 kv nv hv hv0 (by omega)) (fun o7 σ7 q7 => ?_)⟩
  try dsimp only [bl_pv] at q7
  obtain ⟨rfl, I2, J2, rfl, m2, t2⟩ := q7
  rw [hS0] at t2
  refine bl_go oX5_layOut 80 [17, 106] rfl ?_
  refine ⟨kq, Or.inr (Or.inr ⟨rfl, rfl, _, rfl⟩), (fun h => by cases h), ?_⟩
  try dsimp only [bl_pv]
  have hqn : ∀ j, j < 21 → ¬ slN (β + j) q := fun j hj => by unfold slN; omega
  have e : ∀ x, x ≠ q → bl_up2 I2 q 3 0 x = I2 x := fun x hx => bl_up2_ne hx
  refine L 0 (by omega) _ _ _ rfl (fun j hj => absurd hj (by omega)) (fun j hj => ?_) bl_up2_at ⟨fun x hx hk' => ?_, fun j j3 j7 => ?_⟩
  · have hj0 : j = 0 := by omega
    subst hj0
    obtain ⟨c1, c2, c3⟩ := t2
    exact ⟨c1.same (e _ (by omega)) rfl rfl, c2.same (e _ (by omega)) rfl rfl, c3⟩
  · rw [bl_up2_ne hx]; exact m2 x (hk' 0 (by omega))
  · rw [bl_up2_nk j3]; exact congrFun (m2 q (hqn 0 (by omega))).1 j
end RUN
