/-! ===== ButterLeaves: what is asked of slabs ===== -/
section CLS4
variable {G : bl_G} {l : Launch} {d : Nat} {I I' : Nat → Nat → Int32} {J J' : Nat → Nat → Int64} {R : Nat → Nat → Option Nat} {K N : Nat → Nat} {S : cS} {h : Nat} {x y w a b : Int32}
theorem c_BL_needCellT {b0 : Nat} {T : sl} (hs : slS R K N b0) (hC : slC I J b0 T) (hT : slOk T) (hc : cb T a b = true) : bl_MC G l d mX10_needCell [.ref b0, .int a, .int b] (I, J, R, K, N) (1, 6) (fun o s' => o = .inl none ∧ s' = (I, J, R, K, N)) := by
  obtain ⟨hsr, kslb, rslb_0, rslb_1, hsA, hsD⟩ := hs
  have ksla := hsA.2.1
  have ksld := hsD.2.1
  obtain ⟨⟨-, o1⟩, -, o2⟩ := hT
  unfold cb at hc
  rw [Bool.and_eq_true, rb_lt (by omega), rb_lt (by omega)] at hc
  obtain ⟨⟨a1, a2⟩, b1, b2⟩ := hc
  have l1 := hC.1.1
  have l2 := hC.2.1.1
  refine bl_MC_intro (by decide +kernel) rfl (Nat.le_of_ble_eq_true rfl) ?_
  refine bl_go oX10_needCell 80 [] rfl ?_
  refine ⟨fun h1 => ?_, fun h1 => ?_⟩
  · try simp (disch := omega) only [bl_pv, cl0, cl1, cl2, cl3, cl4, cl5, cl6, cl7, cl8, cl9, bl_up2_at, bl_up2_nk, bl_up2_nx] at h1
    exact absurd h1 (Int32.not_lt.mpr a1)
  · try simp (disch := omega) only [bl_pv, cl0, cl1, cl2, cl3, cl4, cl5, cl6, cl7, cl8, cl9, bl_up2_at, bl_up2_nk, bl_up2_nx] at h1
    first
    | (exfalso; first | omega | exact h1 trivial)
    | (refine ⟨kslb, _, bl_vs rslb_0, ksla, fun h12 => ?_, fun h12 => ?_⟩
       · try simp (disch := omega) only [bl_pv, cl0, cl1, cl2, cl3, cl4, cl5, cl6, cl7, cl8, cl9, bl_up2_at, bl_up2_nk, bl_up2_nx] at h12
         rw [l1] at h12; exact absurd h12 (Int32.not_le.mpr a2)
       · try simp (disch := omega) only [bl_pv, cl0, cl1, cl2, cl3, cl4, cl5, cl6, cl7, cl8, cl9, bl_up2_at, bl_up2_nk, bl_up2_nx] at h12
         first
         | (exfalso; first | omega | exact h12 trivial)
         | (refine ⟨fun h16 => ?_, fun h16 => ?_⟩
            · try simp (disch := omega) only [bl_pv, cl0, cl1, cl2, cl3, cl4, cl5, cl6, cl7, cl8, cl9, bl_up2_at, bl_up2_nk, bl_up2_nx] at h16
              exact absurd h16 (Int32.not_lt.mpr b1)
            · try simp (disch := omega) only [bl_pv, cl0, cl1, cl2, cl3, cl4, cl5, cl6, cl7, cl8, cl9, bl_up2_at, bl_up2_nk, bl_up2_nx] at h16
              first
              | (exfalso; first | omega | exact h16 trivial)
              | (refine ⟨kslb, _, bl_vs rslb_1, ksld, fun h27 => ?_, fun h27 => ?_⟩
                 · try simp (disch := omega) only [bl_pv, cl0, cl1, cl2, cl3, cl4, cl5, cl6, cl7, cl8, cl9, bl_up2_at, bl_up2_nk, bl_up2_nx] at h27
                   first
                   | (exfalso; first | omega | exact h27 trivial)
                   | (try show _ ∧ _
                      try dsimp only [bl_pv]
                      exact ⟨rfl, rfl⟩)
                 · try simp (disch := omega) only [bl_pv, cl0, cl1, cl2, cl3, cl4, cl5, cl6, cl7, cl8, cl9, bl_up2_at, bl_up2_nk, bl_up2_nx] at h27
                   rw [l2] at h27; exact absurd b2 h27)))
theorem c_BL_needCellF {b0 : Nat} {T : sl} (hlt : l.stackTraces = false) (hs : slS R K N b0) (hC : slC I J b0 T) (hT : slOk T) (hc : ¬ cb T a b = true) : bl_MC G l d mX10_needCell [.ref b0, .int a, .int b] (I, J, R, K, N) (1, 6) (fun o s' => o = .inr bl_IOE ∧ s' = (I, J, R, K, N)) := by
  obtain ⟨hsr, kslb, rslb_0, rslb_1, hsA, hsD⟩ := hs
  have ksla := hsA.2.1
  have ksld := hsD.2.1
  obtain ⟨⟨-, o1⟩, -, o2⟩ := hT
  unfold cb at hc
  rw [Bool.and_eq_true, rb_lt (by omega), rb_lt (by omega)] at hc
  have l1 := hC.1.1
  have l2 := hC.2.1.1
  refine bl_MC_intro (by decide +kernel) rfl (Nat.le_of_ble_eq_true rfl) ?_
  refine bl_go oX10_needCell 80 [41] rfl ?_
  refine ⟨fun h1 => ?_, fun h1 => ?_⟩
  · try simp (disch := omega) only [bl_pv, cl0, cl1, cl2, cl3, cl4, cl5, cl6, cl7, cl8, cl9, bl_up2_at, bl_up2_nk, bl_up2_nx] at h1
    refine ⟨hlt, (Nat.le_of_ble_eq_true rfl), (Nat.le_of_ble_eq_true rfl), (Nat.le_of_ble_eq_true rfl), ?_⟩
    try show _ ∧ _
    try dsimp only [bl_pv]
    exact ⟨rfl, rfl⟩
  · try simp (disch := omega) only [bl_pv, cl0, cl1, cl2, cl3, cl4, cl5, cl6, cl7, cl8, cl9, bl_up2_at, bl_up2_nk, bl_up2_nx] at h1
    refine ⟨kslb, _, bl_vs rslb_0, ksla, fun h12 => ?_, fun h12 => ?_⟩
    · try simp (disch := omega) only [bl_pv, cl0, cl1, cl2, cl3, cl4, cl5, cl6, cl7, cl8, cl9, bl_up2_at, bl_up2_nk, bl_up2_nx] at h12
      refine ⟨hlt, (Nat.le_of_ble_eq_true rfl), (Nat.le_of_ble_eq_true rfl), (Nat.le_of_ble_eq_true rfl), ?_⟩
      try show _ ∧ _
      try dsimp only [bl_pv]
      exact ⟨rfl, rfl⟩
    · try simp (disch := omega) only [bl_pv, cl0, cl1, cl2, cl3, cl4, cl5, cl6, cl7, cl8, cl9, bl_up2_at, bl_up2_nk, bl_up2_nx] at h12
      refine ⟨fun h16 => ?_, fun h16 => ?_⟩
      · try simp (disch := omega) only [bl_pv, cl0, cl1, cl2, cl3, cl4, cl5, cl6, cl7, cl8, cl9, bl_up2_at, bl_up2_nk, bl_up2_nx] at h16
        refine ⟨hlt, (Nat.le_of_ble_eq_true rfl), (Nat.le_of_ble_eq_true rfl), (Nat.le_of_ble_eq_true rfl), ?_⟩
        try show _ ∧ _
        try dsimp only [bl_pv]
        exact ⟨rfl, rfl⟩
      · try simp (disch := omega) only [bl_pv, cl0, cl1, cl2, cl3, cl4, cl5, cl6, cl7, cl8, cl9, bl_up2_at, bl_up2_nk, bl_up2_nx] at h16
        refine ⟨kslb, _, bl_vs rslb_1, ksld, fun h27 => ?_, fun h27 => ?_⟩
        · try simp (disch := omega) only [bl_pv, cl0, cl1, cl2, cl3, cl4, cl5, cl6, cl7, cl8, cl9, bl_up2_at, bl_up2_nk, bl_up2_nx] at h27
          try dsimp only [bl_pv]
          rw [l1] at h12; rw [l2] at h27; exact absurd ⟨⟨Int32.not_lt.mp h1, Int32.not_le.mp h12⟩, Int32.not_lt.mp h16, h27⟩ hc
        · try simp (disch := omega) only [bl_pv, cl0, cl1, cl2, cl3, cl4, cl5, cl6, cl7, cl8, cl9, bl_up2_at, bl_up2_nk, bl_up2_nx] at h27
          refine ⟨hlt, (Nat.le_of_ble_eq_true rfl), (Nat.le_of_ble_eq_true rfl), (Nat.le_of_ble_eq_true rfl), ?_⟩
          try show _ ∧ _
          try dsimp only [bl_pv]
          exact ⟨rfl, rfl⟩
theorem c_BL_dough {v : Int64} : bl_MC G l d mX10_doughLeaves [.long v] (I, J, R, K, N) (0, 0) (fun o s' => o = .inl (some (.long (v + 1))) ∧ s' = (I, J, R, K, N)) := by
  refine bl_MC_intro (by decide +kernel) rfl (Nat.le_of_ble_eq_true rfl) ?_
  refine bl_go oX10_doughLeaves 80 [] rfl ?_
  try show _ ∧ _
  try dsimp only [bl_pv]
  exact ⟨rfl, rfl⟩
theorem euc_half {a b : Nat} (hb : 0 < b) : (b % (a % b)) * 2 < b ∨ a % b = 0 := by
  rcases Nat.eq_zero_or_pos (a % b) with e | e
  · exact Or.inr e
  · left
    have h1 := Nat.mod_lt a hb
    have h2 := Nat.mod_lt b e
    have h3 := Nat.div_add_mod b (a % b)
    have h4 : 1 ≤ b / (a % b) := (Nat.one_le_div_iff e).mpr (by omega)
    have h5 : a % b * 1 ≤ a % b * (b / (a % b)) := Nat.mul_le_mul_left _ h4
    omega
theorem c_BL_common {p q : Nat} {u v : Int64} (hu : u = nJ p) (hv : v = nJ q) (hp : p < 9223372036854775808) (hq : q < 281474976710656) : bl_MC G l d mX10_commonDivisor [.long u, .long v] (I, J, R, K, N) (0, 0) (fun o s' => o = .inl (some (.long (nJ (Nat.gcd p q)))) ∧ s' = (I, J, R, K, N)) := by
  subst hu hv
  refine bl_MC_intro (by decide +kernel) rfl (Nat.le_of_ble_eq_true rfl) ?_
  have L9e : ∀ i z x, z = nI i → i ≤ 100 → x < 9223372036854775808 → Nat.gcd x 0 = Nat.gcd p q → bl_WP G l d mX10_commonDivisor 9 [(8, .int z), (6, .long (nJ 0)), (4, .long (nJ x))] [] (I, J, R, K, N) (0, 0) (fun o s' => o = .inl (some (.long (nJ (Nat.gcd p q)))) ∧ s' = (I, J, R, K, N)) := by
    intro i z x hz hi hx hg; subst hz
    refine bl_go oX10_commonDivisor 80 [9] rfl ?_
    refine ⟨fun h13 => ?_, fun h13 => ?_⟩
    · try simp (disch := omega) only [zI_n, zI_o, zI_lit, zI_neg, zI_add, zI_sub, zI_mul, zI_lt, zI_le, zI_eq, zI_clamp, zI_in, zI_div, zI_rem, lg_lt0, lg_gt0, lg_eq0, lg_le0, lg_ge0, Int.toNat_natCast, ge_iff_le, gt_iff_lt, List.length_cons, List.length_nil, bl_up2_at, bl_up2_nk, bl_up2_nx] at h13
      try show _ ∧ _
      try dsimp only [bl_pv]
      rw [← hg, Nat.gcd_zero_right]; exact ⟨rfl, rfl⟩
    · try simp (disch := omega) only [zI_n, zI_o, zI_lit, zI_neg, zI_add, zI_sub, zI_mul, zI_lt, zI_le, zI_eq, zI_clamp, zI_in, zI_div, zI_rem, lg_lt0, lg_gt0, lg_eq0, lg_le0, lg_ge0, Int.toNat_natCast, ge_iff_le, gt_iff_lt, List.length_cons, List.length_nil, bl_up2_at, bl_up2_nk, bl_up2_nx] at h13
      refine ⟨fun h20 => ?_, fun h20 => ?_⟩
      · try simp (disch := omega) only [zI_n, zI_o, zI_lit, zI_neg, zI_add, zI_sub, zI_mul, zI_lt, zI_le, zI_eq, zI_clamp, zI_in, zI_div, zI_rem, lg_lt0, lg_gt0, lg_eq0, lg_le0, lg_ge0, Int.toNat_natCast, ge_iff_le, gt_iff_lt, List.length_cons, List.length_nil, bl_up2_at, bl_up2_nk, bl_up2_nx] at h20
        try show _ ∧ _
        try dsimp only [bl_pv]
        rw [← hg, Nat.gcd_zero_right]; exact ⟨rfl, rfl⟩
      · try simp (disch := omega) only [zI_n, zI_o, zI_lit, zI_neg, zI_add, zI_sub, zI_mul, zI_lt, zI_le, zI_eq, zI_clamp, zI_in, zI_div, zI_rem, lg_lt0, lg_gt0, lg_eq0, lg_le0, lg_ge0, Int.toNat_natCast, ge_iff_le, gt_iff_lt, List.length_cons, List.length_nil, bl_up2_at, bl_up2_nk, bl_up2_nx] at h20
        exact absurd rfl h20
  have L9 : ∀ f i z x y, z = nI i → i + 2 * f ≤ 98 → y < 2 ^ f → y < 281474976710656 → x < 9223372036854775808 → Nat.gcd x y = Nat.gcd p q → bl_WP G l d mX10_commonDivisor 9 [(8, .int z), (6, .long (nJ y)), (4, .long (nJ x))] [] (I, J, R, K, N) (0, 0) (fun o s' => o = .inl (some (.long (nJ (Nat.gcd p q)))) ∧ s' = (I, J, R, K, N)) := by
    intro f
    induction f with
    | zero =>
      intro i z x y hz hi hy hy2 hx hg
      have hy0 : y = 0 := by simp at hy; exact hy
      subst hy0
      exact L9e i z x hz (by omega) hx hg
    | succ f ih =>
      intro i z x y hz hi hy hy2 hx hg
      rcases Nat.eq_zero_or_pos y with e0 | e0
      · subst e0; exact L9e i z x hz (by omega) hx hg
      · have hm1 := Nat.mod_lt x e0
        have hg1 : Nat.gcd y (x % y) = Nat.gcd p q := (gcd_st x y).trans hg
        have ne0 : ¬ nJ y = 0 := by rw [nJ_0 (by omega)]; omega
        have L9b : ∀ z, z = nI (i + 1) → bl_WP G l d mX10_commonDivisor 9 [(8, .int z), (6, .long (nJ (x % y))), (4, .long (nJ y))] [] (I, J, R, K, N) (0, 0) (fun o s' => o = .inl (some (.long (nJ (Nat.gcd p q)))) ∧ s' = (I, J, R, K, N)) := by
          intro z hz
          rcases Nat.eq_zero_or_pos (x % y) with e1 | e1
          · rw [e1] at hg1 ⊢; exact L9e (i + 1) z y hz (by omega) (by omega) hg1
          · have hh := (euc_half (a := x) e0).resolve_right (by omega)
            have hm2 := Nat.mod_lt y e1
            have ne1 : ¬ nJ (x % y) = 0 := by rw [nJ_0 (by omega)]; omega
            subst hz
            refine bl_go oX10_commonDivisor 80 [9] rfl ?_
            refine ⟨fun h13 => ?_, fun h13 => ?_⟩
            · try simp (disch := omega) only [zI_n, zI_o, zI_lit, zI_neg, zI_add, zI_sub, zI_mul, zI_lt, zI_le, zI_eq, zI_clamp, zI_in, zI_div, zI_rem, lg_lt0, lg_gt0, lg_eq0, lg_le0, lg_ge0, Int.toNat_natCast, ge_iff_le, gt_iff_lt, List.length_cons, List.length_nil, bl_up2_at, bl_up2_nk, bl_up2_nx] at h13
              exfalso; first | omega | exact h13 trivial
            · try simp (disch := omega) only [zI_n, zI_o, zI_lit, zI_neg, zI_add, zI_sub, zI_mul, zI_lt, zI_le, zI_eq, zI_clamp, zI_in, zI_div, zI_rem, lg_lt0, lg_gt0, lg_eq0, lg_le0, lg_ge0, Int.toNat_natCast, ge_iff_le, gt_iff_lt, List.length_cons, List.length_nil, bl_up2_at, bl_up2_nk, bl_up2_nx] at h13
              refine ⟨fun h20 => ?_, fun h20 => ?_⟩
              · try simp (disch := omega) only [zI_n, zI_o, zI_lit, zI_neg, zI_add, zI_sub, zI_mul, zI_lt, zI_le, zI_eq, zI_clamp, zI_in, zI_div, zI_rem, lg_lt0, lg_gt0, lg_eq0, lg_le0, lg_ge0, Int.toNat_natCast, ge_iff_le, gt_iff_lt, List.length_cons, List.length_nil, bl_up2_at, bl_up2_nk, bl_up2_nx] at h20
                exact absurd h20 ne1
              · try simp (disch := omega) only [zI_n, zI_o, zI_lit, zI_neg, zI_add, zI_sub, zI_mul, zI_lt, zI_le, zI_eq, zI_clamp, zI_in, zI_div, zI_rem, lg_lt0, lg_gt0, lg_eq0, lg_le0, lg_ge0, Int.toNat_natCast, ge_iff_le, gt_iff_lt, List.length_cons, List.length_nil, bl_up2_at, bl_up2_nk, bl_up2_nx] at h20
                refine ⟨(by assumption), ?_⟩
                refine bl_lv [0, 1, 2] rfl ?_
                try dsimp only [bl_pv]
                rw [nJ_rem (by omega) (by omega)]
                refine ih (i + 2) _ (x % y) (y % (x % y)) (nI_1 _) (by omega) ?_ (by omega) (by omega) ((gcd_st y (x % y)).trans hg1)
                rw [Nat.pow_succ] at hy; omega
        subst hz
        refine bl_go oX10_commonDivisor 80 [9] rfl ?_
        refine ⟨fun h13 => ?_, fun h13 => ?_⟩
        · try simp (disch := omega) only [zI_n, zI_o, zI_lit, zI_neg, zI_add, zI_sub, zI_mul, zI_lt, zI_le, zI_eq, zI_clamp, zI_in, zI_div, zI_rem, lg_lt0, lg_gt0, lg_eq0, lg_le0, lg_ge0, Int.toNat_natCast, ge_iff_le, gt_iff_lt, List.length_cons, List.length_nil, bl_up2_at, bl_up2_nk, bl_up2_nx] at h13
          exfalso; first | omega | exact h13 trivial
        · try simp (disch := omega) only [zI_n, zI_o, zI_lit, zI_neg, zI_add, zI_sub, zI_mul, zI_lt, zI_le, zI_eq, zI_clamp, zI_in, zI_div, zI_rem, lg_lt0, lg_gt0, lg_eq0, lg_le0, lg_ge0, Int.toNat_natCast, ge_iff_le, gt_iff_lt, List.length_cons, List.length_nil, bl_up2_at, bl_up2_nk, bl_up2_nx] at h13
          refine ⟨fun h20 => ?_, fun h20 => ?_⟩
          · try simp (disch := omega) only [zI_n, zI_o, zI_lit, zI_neg, zI_add, zI_sub, zI_mul, zI_lt, zI_le, zI_eq, zI_clamp, zI_in, zI_div, zI_rem, lg_lt0, lg_gt0, lg_eq0, lg_le0, lg_ge0, Int.toNat_natCast, ge_iff_le, gt_iff_lt, List.length_cons, List.length_nil, bl_up2_at, bl_up2_nk, bl_up2_nx] at h20
            exact absurd h20 ne0
          · try simp (disch := omega) only [zI_n, zI_o, zI_lit, zI_neg, zI_add, zI_sub, zI_mul, zI_lt, zI_le, zI_eq, zI_clamp, zI_in, zI_div, zI_rem, lg_lt0, lg_gt0, lg_eq0, lg_le0, lg_ge0, Int.toNat_natCast, ge_iff_le, gt_iff_lt, List.length_cons, List.length_nil, bl_up2_at, bl_up2_nk, bl_up2_nx] at h20
            refine ⟨(by assumption), ?_⟩
            refine bl_lv [0, 1, 2] rfl ?_
            try dsimp only [bl_pv]
            rw [nJ_rem hx (by omega)]
            exact L9b _ (nI_1 _)
  refine bl_go oX10_commonDivisor 80 [9] rfl ?_
  refine bl_lv [0, 1, 2] rfl ?_
  try dsimp only [bl_pv]
  exact L9 48 0 _ p q rfl (by omega) (by simpa using hq) hq hp rfl
theorem c_BL_grams {th n v : Nat} {s t : Int64} (hI : clI (I, J, R, K, N) S h) (hO : csO S) (h1 : 0 < th ∧ th ≤ 1099511627776) (h2 : n ≤ 158329674399744) (hs : s = nJ n) (ht : t = nJ th) (hv : v ≤ 1) (hw : w = nI v) : bl_MC G l (d + 1) mX10_partOfGrams [.ref 100, .long s, .long t, .int w] (I, J, R, K, N) (0, 0) (fun o s' => o = .inl (some (.long (grV S.1.1 th n w))) ∧ s' = (I, J, R, K, N)) := by
  obtain ⟨⟨kx, ⟨rx_0, rx_1, rx_2, rx_3, rx_4, rx_5, rx_6, rx_7⟩, ⟨kxr, nxr⟩, ⟨kxn, nxn⟩, kxb, ⟨kxi, nxi⟩, ⟨kxj, nxj⟩⟩, hTp, hUn, hBn, hK1, hK2, hSt, hStr⟩ := hI.1
  obtain ⟨hhs, hh⟩ := hI.house
  obtain ⟨hh0, kxh, rxh_0, rxh_1, rxh_2, ⟨kxhv, nxhv⟩, -, -⟩ := hhs
  have rx_8 := hI.2.1.2.1
  have hkc := hI.2.2.2.2.2.1
  dsimp only at kx rx_8 hkc
  have e0 := hkc.1 0 (by omega)
  have e1 := hkc.1 1 (by omega)
  have e3 := hkc.1 3 (by omega)
  have hOt := hO.1
  obtain ⟨b1, b2⟩ := grB hOt h1.2 h2
  have hlow : 0 < S.1.1 0 * S.1.1 1 * th := Nat.mul_pos (Nat.mul_pos (by have := hOt.1.1; omega) (by have := hOt.2.1.1; omega)) h1.1
  have hg0 := Nat.gcd_pos_of_pos_right (S.1.1 3 * n) hlow
  have hg1 := Nat.gcd_le_right (S.1.1 3 * n) hlow
  have ho01 : S.1.1 0 * S.1.1 1 ≤ 144 := Nat.mul_le_mul hOt.1.2 hOt.2.1.2
  have ho3 : S.1.1 3 ≤ 9999 := hOt.2.2.2.2
  have ho0 := hOt.1.2
  have ho1 := hOt.2.1.2
  subst hs ht hw
  have eu : (I (h + 1) 3).toInt64 * nJ n = nJ (S.1.1 3 * n) := by rw [e3, zI_n, nJ_ofI (by omega), nJ_mul]
  have el : (I (h + 1) 0).toInt64 * (I (h + 1) 1).toInt64 * nJ th = nJ (S.1.1 0 * S.1.1 1 * th) := by rw [e0, e1, zI_n, zI_n, nJ_ofI (by omega), nJ_ofI (by omega), nJ_mul, nJ_mul]
  have hgne : ¬ nJ (Nat.gcd (S.1.1 3 * n) (S.1.1 0 * S.1.1 1 * th)) = 0 := by rw [nJ_0 (by omega)]; omega
  refine bl_MC_intro (by decide +kernel) rfl (Nat.le_of_ble_eq_true rfl) ?_
  refine bl_go oX10_partOfGrams 80 [] rfl ?_
  refine ⟨kx, _, bl_vs rx_8, kxh, _, bl_vs rxh_0, Or.inl ⟨kxhv, (by first | exact (by rw [nxhv]; exact vp_in_nI (by omega) (by omega)) | ((try dsimp only [bl_pv]); show vp_in _ (N _); rw [nxhv]; simp (disch := omega) only [zI_n, zI_o, zI_lit, zI_neg, zI_add, zI_sub, zI_mul, zI_lt, zI_le, zI_eq, zI_clamp, zI_in, zI_div, zI_rem, lg_lt0, lg_gt0, lg_eq0, lg_le0, lg_ge0, Int.toNat_natCast, ge_iff_le, gt_iff_lt, List.length_cons, List.length_nil, bl_up2_at, bl_up2_nk, bl_up2_nx] <;> omega)), kx, _, bl_vs rx_8, kxh, _, bl_vs rxh_0, Or.inl ⟨kxhv, (by first | exact (by rw [nxhv]; exact vp_in_nI (by omega) (by omega)) | ((try dsimp only [bl_pv]); show vp_in _ (N _); rw [nxhv]; simp (disch := omega) only [zI_n, zI_o, zI_lit, zI_neg, zI_add, zI_sub, zI_mul, zI_lt, zI_le, zI_eq, zI_clamp, zI_in, zI_div, zI_rem, lg_lt0, lg_gt0, lg_eq0, lg_le0, lg_ge0, Int.toNat_natCast, ge_iff_le, gt_iff_lt, List.length_cons, List.length_nil, bl_up2_at, bl_up2_nk, bl_up2_nx] <;> omega)), kx, _, bl_vs rx_8, kxh, _, bl_vs rxh_0, Or.inl ⟨kxhv, (by first | exact (by rw [nxhv]; exact vp_in_nI (by omega) (by omega)) | ((try dsimp only [bl_pv]); show vp_in _ (N _); rw [nxhv]; simp (disch := omega) only [zI_n, zI_o, zI_lit, zI_neg, zI_add, zI_sub, zI_mul, zI_lt, zI_le, zI_eq, zI_clamp, zI_in, zI_div, zI_rem, lg_lt0, lg_gt0, lg_eq0, lg_le0, lg_ge0, Int.toNat_natCast, ge_iff_le, gt_iff_lt, List.length_cons, List.length_nil, bl_up2_at, bl_up2_nk, bl_up2_nx] <;> omega)), rfl, (Nat.le_of_ble_eq_true rfl), (0, 0), Nat.le_of_ble_eq_true rfl, Nat.le_of_ble_eq_true rfl, bl_MC_mono (c_BL_common (d := d) (p := S.1.1 3 * n) (q := S.1.1 0 * S.1.1 1 * th) eu el b1 (by omega)) (fun o43 σ43 q43 => ?_)⟩⟩⟩⟩
  try dsimp only [bl_pv] at q43
  obtain ⟨rfl, rfl⟩ := q43
  rw [cl3, cl0, cl1, eu, el]
  refine bl_go oX10_partOfGrams 80 [] rfl ?_
  refine ⟨fun h52 => ?_, fun h52 => ?_⟩
  · try simp (disch := omega) only [bl_pv, cl0, cl1, cl2, cl3, cl4, cl5, cl6, cl7, cl8, cl9, bl_up2_at, bl_up2_nk, bl_up2_nx] at h52
    refine ⟨fun h59 => ?_, fun h59 => ?_⟩
    · try simp (disch := omega) only [bl_pv, cl0, cl1, cl2, cl3, cl4, cl5, cl6, cl7, cl8, cl9, bl_up2_at, bl_up2_nk, bl_up2_nx] at h59
      refine ⟨(by exact hgne), ?_⟩
      try show _ ∧ _
      try dsimp only [bl_pv]
      unfold grV
      first
      | (rw [if_pos h59, nJ_div b1 (by omega)]; exact ⟨rfl, rfl⟩)
      | (rw [if_neg h59, nJ_div (by omega) (by omega)]; exact ⟨rfl, rfl⟩)
    · try simp (disch := omega) only [bl_pv, cl0, cl1, cl2, cl3, cl4, cl5, cl6, cl7, cl8, cl9, bl_up2_at, bl_up2_nk, bl_up2_nx] at h59
      refine ⟨(by exact hgne), ?_⟩
      try show _ ∧ _
      try dsimp only [bl_pv]
      unfold grV
      first
      | (rw [if_pos h59, nJ_div b1 (by omega)]; exact ⟨rfl, rfl⟩)
      | (rw [if_neg h59, nJ_div (by omega) (by omega)]; exact ⟨rfl, rfl⟩)
  · try simp (disch := omega) only [bl_pv, cl0, cl1, cl2, cl3, cl4, cl5, cl6, cl7, cl8, cl9, bl_up2_at, bl_up2_nk, bl_up2_nx] at h52
    try show _ ∧ _
    try dsimp only [bl_pv]
    rw [lgq_ge0, Decidable.not_not, show (1 : Int64) = nJ 1 from rfl, nJ_lt (by omega) (by omega)] at h52; exact absurd h52 (by omega)

theorem c_BL_thin (hlt : l.stackTraces = false) (hI : clI (I, J, R, K, N) S h) (hO : csO S) : bl_MC G l (d + 6) mX10_thin [.ref 100, .int x, .int y] (I, J, R, K, N) (2, 12) (fun o s' => ∃ I' J' R', s' = (I', J', R', K, N) ∧ clI s' S h ∧ cfF (I, J, R, K, N) s' ∧ xO xL3 (askE S.1 x y) (.long (nJ (aSl S.1 (rn x) (rn y)).2.2.1)) o) := by
  obtain ⟨⟨kx, ⟨rx_0, rx_1, rx_2, rx_3, rx_4, rx_5, rx_6, rx_7⟩, ⟨kxr, nxr⟩, ⟨kxn, nxn⟩, kxb, ⟨kxi, nxi⟩, ⟨kxj, nxj⟩⟩, hTp, hUn, hBn, hK1, hK2, hSt, hStr⟩ := hI.1
  dsimp only at kx rx_4
  by_cases hE : askE S.1 x y = 0
  · obtain ⟨r, k, hr, rfl, er, hk, rfl, ek⟩ := askE_kO hO hE
    obtain ⟨hok, hB⟩ := askE_okO hO hE
    have hsp : aSl S.1 (rn (nI r)) (rn (nI k)) = aSl S.1 r k := by rw [er, ek]
    rw [hsp] at hok hB
    have hD := aD_20 hO r
    have hc4 := hO.2.2.1
    obtain ⟨m1, m2, m3, m4⟩ := (hI.2.2.2.2.2.2.2.1 r hr).1
    have hsl := (m2.2.2.2.2.2.2.2.2 k (by omega)).2
    have hsl' := hsl
    obtain ⟨hsr, kslb, rslb_0, rslb_1, hsA, hsD⟩ := hsl
    have ksla := hsA.2.1
    have ksld := hsD.2.1
    have rsla_0 := hsA.2.2.1
    have rsla_1 := hsA.2.2.2.1
    have rsld_0 := hsD.2.2.1
    have rsld_1 := hsD.2.2.2.1
    dsimp only at kslb rslb_0 rslb_1 hsA hsD ksla ksld rsla_0 rsla_1 rsld_0 rsld_1
    refine bl_MC_intro (by decide +kernel) rfl (Nat.le_of_ble_eq_true rfl) ?_
    refine bl_go oX10_thin 80 [] rfl ?_
    refine ⟨rfl, rfl, kx, (Nat.le_of_ble_eq_true rfl), (2, 12), Nat.le_of_ble_eq_true rfl, Nat.le_of_ble_eq_true rfl, bl_MC_mono (c_BL_slabOfT (d := d) (r := r) (k := k) hI hO hr rfl hk rfl) (fun o3 σ3 q3 => ?_)⟩
    try dsimp only [bl_pv] at q3
    obtain ⟨I1, J1, rfl, f1, f2, rfl, f3⟩ := q3
    refine bl_go oX10_thin 80 [] rfl ?_
    refine ⟨kslb, ?_⟩
    try show _ ∧ _
    try dsimp only [bl_pv]
    refine ⟨I1, J1, R, rfl, f1, f2, Or.inl ⟨hE, ?_⟩⟩
    rw [hsp, f3.2.2.1]
  · skip
    refine bl_MC_intro (by decide +kernel) rfl (Nat.le_of_ble_eq_true rfl) ?_
    refine bl_go oX10_thin 80 [] rfl ?_
    refine ⟨rfl, rfl, kx, (Nat.le_of_ble_eq_true rfl), (2, 12), Nat.le_of_ble_eq_true rfl, Nat.le_of_ble_eq_true rfl, ?_⟩
    refine bl_MC_mono (c_BL_slabOfF (d := d) hlt hI hO hE) (fun o s' q => ?_)
    obtain ⟨I1, J1, rfl, f1, f2, f3⟩ := q
    rcases f3 (.int 0) with ⟨e, -⟩ | ⟨e, c, e1, e2, rfl⟩
    · exact absurd e hE
    · exact Or.inl ⟨rfl, I1, J1, R, rfl, f1, f2, Or.inr ⟨e, c, e1, e2, rfl⟩⟩
theorem c_BL_having {c : Int64} (hlt : l.stackTraces = false) (hI : clI (I, J, R, K, N) S h) (hO : csO S) : bl_MC G l (d + 6) mX10_having [.ref 100, .int x, .int y, .long c] (I, J, R, K, N) (2, 12) (fun o s' => ∃ I' J' R', s' = (I', J', R', K, N) ∧ clI s' S h ∧ cfF (I, J, R, K, N) s' ∧ xO xL3 (askE S.1 x y) (.int (hvV (aSl S.1 (rn x) (rn y)) c)) o) := by
  obtain ⟨⟨kx, ⟨rx_0, rx_1, rx_2, rx_3, rx_4, rx_5, rx_6, rx_7⟩, ⟨kxr, nxr⟩, ⟨kxn, nxn⟩, kxb, ⟨kxi, nxi⟩, ⟨kxj, nxj⟩⟩, hTp, hUn, hBn, hK1, hK2, hSt, hStr⟩ := hI.1
  dsimp only at kx rx_4
  by_cases hE : askE S.1 x y = 0
  · obtain ⟨r, k, hr, rfl, er, hk, rfl, ek⟩ := askE_kO hO hE
    obtain ⟨hok, hB⟩ := askE_okO hO hE
    have hsp : aSl S.1 (rn (nI r)) (rn (nI k)) = aSl S.1 r k := by rw [er, ek]
    rw [hsp] at hok hB
    have hD := aD_20 hO r
    have hc4 := hO.2.2.1
    obtain ⟨m1, m2, m3, m4⟩ := (hI.2.2.2.2.2.2.2.1 r hr).1
    have hsl := (m2.2.2.2.2.2.2.2.2 k (by omega)).2
    have hsl' := hsl
    obtain ⟨hsr, kslb, rslb_0, rslb_1, hsA, hsD⟩ := hsl
    have ksla := hsA.2.1
    have ksld := hsD.2.1
    have rsla_0 := hsA.2.2.1
    have rsla_1 := hsA.2.2.2.1
    have rsld_0 := hsD.2.2.1
    have rsld_1 := hsD.2.2.2.1
    dsimp only at kslb rslb_0 rslb_1 hsA hsD ksla ksld rsla_0 rsla_1 rsld_0 rsld_1
    refine bl_MC_intro (by decide +kernel) rfl (Nat.le_of_ble_eq_true rfl) ?_
    refine bl_go oX10_having 80 [] rfl ?_
    refine ⟨rfl, rfl, kx, (Nat.le_of_ble_eq_true rfl), (2, 12), Nat.le_of_ble_eq_true rfl, Nat.le_of_ble_eq_true rfl, bl_MC_mono (c_BL_slabOfT (d := d) (r := r) (k := k) hI hO hr rfl hk rfl) (fun o3 σ3 q3 => ?_)⟩
    try dsimp only [bl_pv] at q3
    obtain ⟨I1, J1, rfl, f1, f2, rfl, f3⟩ := q3
    refine bl_go oX10_having 80 [] rfl ?_
    refine ⟨rfl, rfl, kslb, (Nat.le_of_ble_eq_true rfl), (0, 0), Nat.le_of_ble_eq_true rfl, Nat.le_of_ble_eq_true rfl, bl_MC_mono (c_Slab_cellsWith (d := d + 3) (m := c) hsl' f3) (fun o7 σ7 q7 => ?_)⟩
    try dsimp only [bl_pv] at q7
    obtain ⟨rfl, rfl⟩ := q7
    refine bl_go oX10_having 80 [] rfl ?_
    refine ⟨(fun h => by cases h), ?_⟩
    try show _ ∧ _
    try dsimp only [bl_pv]
    refine ⟨I1, J1, R, rfl, f1, f2, Or.inl ⟨hE, ?_⟩⟩
    rw [hsp]; rfl
  · skip
    refine bl_MC_intro (by decide +kernel) rfl (Nat.le_of_ble_eq_true rfl) ?_
    refine bl_go oX10_having 80 [] rfl ?_
    refine ⟨rfl, rfl, kx, (Nat.le_of_ble_eq_true rfl), (2, 12), Nat.le_of_ble_eq_true rfl, Nat.le_of_ble_eq_true rfl, ?_⟩
    refine bl_MC_mono (c_BL_slabOfF (d := d) hlt hI hO hE) (fun o s' q => ?_)
    obtain ⟨I1, J1, rfl, f1, f2, f3⟩ := q
    rcases f3 (.int 0) with ⟨e, -⟩ | ⟨e, c, e1, e2, rfl⟩
    · exact absurd e hE
    · exact Or.inl ⟨rfl, I1, J1, R, rfl, f1, f2, Or.inr ⟨e, c, e1, e2, rfl⟩⟩
theorem mxB {T : sq} (h0 : 0 < T.1) (hb : sqB T) (hs : smf T.2.1 T.1 ≤ 158329674399744) : mxf T.2.2 T.1 < 9223372036854775808 := by
  obtain ⟨i, hi, e⟩ := mxf_at (f := T.2.2) h0
  rw [← e]
  have h1 := (hb i hi).1
  have h2 := smf_ge (f := T.2.1) hi
  omega
theorem c_BL_block (hlt : l.stackTraces = false) (hI : clI (I, J, R, K, N) S h) (hO : csO S) : bl_MC G l (d + 6) mX10_block [.ref 100, .int x, .int y] (I, J, R, K, N) (2, 12) (fun o s' => ∃ I' J' R', s' = (I', J', R', K, N) ∧ clI s' S h ∧ cfF (I, J, R, K, N) s' ∧ xO xL3 (askE S.1 x y) (.int (nI (bkV (aSl S.1 (rn x) (rn y))))) o) := by
  obtain ⟨⟨kx, ⟨rx_0, rx_1, rx_2, rx_3, rx_4, rx_5, rx_6, rx_7⟩, ⟨kxr, nxr⟩, ⟨kxn, nxn⟩, kxb, ⟨kxi, nxi⟩, ⟨kxj, nxj⟩⟩, hTp, hUn, hBn, hK1, hK2, hSt, hStr⟩ := hI.1
  dsimp only at kx rx_4
  by_cases hE : askE S.1 x y = 0
  · obtain ⟨r, k, hr, rfl, er, hk, rfl, ek⟩ := askE_kO hO hE
    obtain ⟨hok, hB⟩ := askE_okO hO hE
    have hsp : aSl S.1 (rn (nI r)) (rn (nI k)) = aSl S.1 r k := by rw [er, ek]
    rw [hsp] at hok hB
    have hD := aD_20 hO r
    have hc4 := hO.2.2.1
    obtain ⟨m1, m2, m3, m4⟩ := (hI.2.2.2.2.2.2.2.1 r hr).1
    have hsl := (m2.2.2.2.2.2.2.2.2 k (by omega)).2
    have hsl' := hsl
    obtain ⟨hsr, kslb, rslb_0, rslb_1, hsA, hsD⟩ := hsl
    have ksla := hsA.2.1
    have ksld := hsD.2.1
    have rsla_0 := hsA.2.2.1
    have rsla_1 := hsA.2.2.2.1
    have rsld_0 := hsD.2.2.1
    have rsld_1 := hsD.2.2.2.1
    dsimp only at kslb rslb_0 rslb_1 hsA hsD ksla ksld rsla_0 rsla_1 rsld_0 rsld_1
    refine bl_MC_intro (by decide +kernel) rfl (Nat.le_of_ble_eq_true rfl) ?_
    refine bl_go oX10_block 80 [] rfl ?_
    refine ⟨rfl, rfl, kx, (Nat.le_of_ble_eq_true rfl), (2, 12), Nat.le_of_ble_eq_true rfl, Nat.le_of_ble_eq_true rfl, bl_MC_mono (c_BL_slabOfT (d := d) (r := r) (k := k) hI hO hr rfl hk rfl) (fun o3 σ3 q3 => ?_)⟩
    try dsimp only [bl_pv] at q3
    obtain ⟨I1, J1, rfl, f1, f2, rfl, f3⟩ := q3
    refine bl_go oX10_block 80 [] rfl ?_
    refine ⟨rfl, rfl, kslb, (Nat.le_of_ble_eq_true rfl), (0, 0), Nat.le_of_ble_eq_true rfl, Nat.le_of_ble_eq_true rfl, bl_MC_mono (c_Slab_greatestBlock (d := d + 4) hsl' f3 (fun i hi => Nat.lt_of_le_of_lt (hB.2.2.2.2.1 i hi).1 (Nat.lt_of_le_of_lt (smf_ge hi) (by have := hB.2.2.2.1.1; omega))) (fun i hi => Nat.lt_of_le_of_lt (hB.2.2.2.2.2 i hi).1 (Nat.lt_of_le_of_lt (smf_ge hi) (by have := hB.2.2.2.1.2; omega))) (mxB hok.1.1 hB.2.2.2.2.1 hB.2.2.2.1.1) (mxB hok.2.1 hB.2.2.2.2.2 hB.2.2.2.1.2)) (fun o6 σ6 q6 => ?_)⟩
    try dsimp only [bl_pv] at q6
    obtain ⟨rfl, rfl⟩ := q6
    refine bl_go oX10_block 80 [] rfl ?_
    refine ⟨(fun h => by cases h), ?_⟩
    try show _ ∧ _
    try dsimp only [bl_pv]
    refine ⟨I1, J1, R, rfl, f1, f2, Or.inl ⟨hE, ?_⟩⟩
    rw [hsp]; rfl
  · skip
    refine bl_MC_intro (by decide +kernel) rfl (Nat.le_of_ble_eq_true rfl) ?_
    refine bl_go oX10_block 80 [] rfl ?_
    refine ⟨rfl, rfl, kx, (Nat.le_of_ble_eq_true rfl), (2, 12), Nat.le_of_ble_eq_true rfl, Nat.le_of_ble_eq_true rfl, ?_⟩
    refine bl_MC_mono (c_BL_slabOfF (d := d) hlt hI hO hE) (fun o s' q => ?_)
    obtain ⟨I1, J1, rfl, f1, f2, f3⟩ := q
    rcases f3 (.int 0) with ⟨e, -⟩ | ⟨e, c, e1, e2, rfl⟩
    · exact absurd e hE
    · exact Or.inl ⟨rfl, I1, J1, R, rfl, f1, f2, Or.inr ⟨e, c, e1, e2, rfl⟩⟩
theorem c_BL_joins (hlt : l.stackTraces = false) (hI : clI (I, J, R, K, N) S h) (hO : csO S) : bl_MC G l (d + 6) mX10_joins [.ref 100, .int x, .int y, .int w] (I, J, R, K, N) (3, 18) (fun o s' => ∃ I' J' R', s' = (I', J', R', K, N) ∧ clI s' S h ∧ cfF (I, J, R, K, N) s' ∧ xO xL3 (askW S.1 x y w 1) (.long (if w = 0 then nJ (aSl S.1 (rn x) (rn y)).2.2.2.1 else 0)) o) := by
  obtain ⟨⟨kx, ⟨rx_0, rx_1, rx_2, rx_3, rx_4, rx_5, rx_6, rx_7⟩, ⟨kxr, nxr⟩, ⟨kxn, nxn⟩, kxb, ⟨kxi, nxi⟩, ⟨kxj, nxj⟩⟩, hTp, hUn, hBn, hK1, hK2, hSt, hStr⟩ := hI.1
  dsimp only at kx
  by_cases hE : askE S.1 x y = 0
  · obtain ⟨r, k, hr, rfl, er, hk, rfl, ek⟩ := askE_kO hO hE
    obtain ⟨hok, hB⟩ := askE_okO hO hE
    have hsp : aSl S.1 (rn (nI r)) (rn (nI k)) = aSl S.1 r k := by rw [er, ek]
    rw [hsp] at hok hB
    have hD := aD_20 hO r
    have hc4 := hO.2.2.1
    obtain ⟨m1, m2, m3, m4⟩ := (hI.2.2.2.2.2.2.2.1 r hr).1
    have hsl := (m2.2.2.2.2.2.2.2.2 k (by omega)).2
    have hsl' := hsl
    obtain ⟨hsr, kslb, rslb_0, rslb_1, hsA, hsD⟩ := hsl
    have ksla := hsA.2.1
    have ksld := hsD.2.1
    have rsla_0 := hsA.2.2.1
    have rsla_1 := hsA.2.2.2.1
    have rsld_0 := hsD.2.2.1
    have rsld_1 := hsD.2.2.2.1
    dsimp only at kslb rslb_0 rslb_1 hsA hsD ksla ksld rsla_0 rsla_1 rsld_0 rsld_1
    by_cases hw : 0 ≤ w ∧ w ≤ 1
    · have hW := askW_t (w := w) hE hw
      obtain ⟨v, hv, rfl⟩ := i32_nat (b := 1) (by omega) hw.1 hw.2
      refine bl_MC_intro (by decide +kernel) rfl (Nat.le_of_ble_eq_true rfl) ?_
      refine bl_go oX10_joins 80 [] rfl ?_
      refine ⟨rfl, rfl, kx, (Nat.le_of_ble_eq_true rfl), (2, 12), Nat.le_of_ble_eq_true rfl, Nat.le_of_ble_eq_true rfl, bl_MC_mono (c_BL_slabOfT (d := d) (r := r) (k := k) hI hO hr rfl hk rfl) (fun o3 σ3 q3 => ?_)⟩
      try dsimp only [bl_pv] at q3
      obtain ⟨I1, J1, rfl, f1, f2, rfl, f3⟩ := q3
      refine bl_go oX10_joins 80 [] rfl ?_
      refine ⟨rfl, (Nat.le_of_ble_eq_true rfl), (1, 6), Nat.le_of_ble_eq_true rfl, Nat.le_of_ble_eq_true rfl, bl_MC_mono (c_BL_needWhatT (d := d + 5) hw) (fun o10 σ10 q10 => ?_)⟩
      try dsimp only [bl_pv] at q10
      obtain ⟨rfl, rfl⟩ := q10
      refine bl_go oX10_joins 80 [] rfl ?_
      refine ⟨fun h14 => ?_, fun h14 => ?_⟩
      · try simp (disch := omega) only [bl_pv, cl0, cl1, cl2, cl3, cl4, cl5, cl6, cl7, cl8, cl9, bl_up2_at, bl_up2_nk, bl_up2_nx] at h14
        try show _ ∧ _
        try dsimp only [bl_pv]
        refine ⟨I1, J1, R, rfl, f1, f2, Or.inl ⟨hW, ?_⟩⟩
        rw [hsp]
        first
        | (rw [if_pos h14, f3.2.2.2.1])
        | (rw [if_neg h14])
      · try simp (disch := omega) only [bl_pv, cl0, cl1, cl2, cl3, cl4, cl5, cl6, cl7, cl8, cl9, bl_up2_at, bl_up2_nk, bl_up2_nx] at h14
        refine ⟨kslb, ?_⟩
        try show _ ∧ _
        try dsimp only [bl_pv]
        refine ⟨I1, J1, R, rfl, f1, f2, Or.inl ⟨hW, ?_⟩⟩
        rw [hsp]
        first
        | (rw [if_pos h14, f3.2.2.2.1])
        | (rw [if_neg h14])
    · have hW := askW_f (w := w) hE hw
      refine bl_MC_intro (by decide +kernel) rfl (Nat.le_of_ble_eq_true rfl) ?_
      refine bl_go oX10_joins 80 [] rfl ?_
      refine ⟨rfl, rfl, kx, (Nat.le_of_ble_eq_true rfl), (2, 12), Nat.le_of_ble_eq_true rfl, Nat.le_of_ble_eq_true rfl, bl_MC_mono (c_BL_slabOfT (d := d) (r := r) (k := k) hI hO hr rfl hk rfl) (fun o3 σ3 q3 => ?_)⟩
      try dsimp only [bl_pv] at q3
      obtain ⟨I1, J1, rfl, f1, f2, rfl, f3⟩ := q3
      refine bl_go oX10_joins 80 [] rfl ?_
      refine ⟨rfl, (Nat.le_of_ble_eq_true rfl), (1, 6), Nat.le_of_ble_eq_true rfl, Nat.le_of_ble_eq_true rfl, ?_⟩
      refine bl_MC_mono (c_BL_needWhatF (d := d + 5) hlt hw) (fun o s' q => ?_)
      obtain ⟨rfl, rfl⟩ := q
      exact Or.inl ⟨rfl, I1, J1, R, rfl, f1, f2, Or.inr ⟨2, bl_IAE, hW, rfl, rfl⟩⟩
  · have hW := askW_n (w := w) (hi := 1) hE
    refine bl_MC_intro (by decide +kernel) rfl (Nat.le_of_ble_eq_true rfl) ?_
    refine bl_go oX10_joins 80 [] rfl ?_
    refine ⟨rfl, rfl, kx, (Nat.le_of_ble_eq_true rfl), (2, 12), Nat.le_of_ble_eq_true rfl, Nat.le_of_ble_eq_true rfl, ?_⟩
    refine bl_MC_mono (c_BL_slabOfF (d := d) hlt hI hO hE) (fun o s' q => ?_)
    obtain ⟨I1, J1, rfl, f1, f2, f3⟩ := q
    rcases f3 (.int 0) with ⟨e, -⟩ | ⟨e, c, e1, e2, rfl⟩
    · exact absurd e hE
    · exact Or.inl ⟨rfl, I1, J1, R, rfl, f1, f2, Or.inr ⟨e, c, (hW.trans e1), e2, rfl⟩⟩
theorem c_BL_trimmed (hlt : l.stackTraces = false) (hI : clI (I, J, R, K, N) S h) (hO : csO S) : bl_MC G l (d + 6) mX10_trimmed [.ref 100, .int x, .int y, .int w] (I, J, R, K, N) (3, 18) (fun o s' => ∃ I' J' R', s' = (I', J', R', K, N) ∧ clI s' S h ∧ cfF (I, J, R, K, N) s' ∧ xO xL3 (askW S.1 x y w 1) (.long (grV S.1.1 (aSl S.1 (rn x) (rn y)).2.2.1 (aSl S.1 (rn x) (rn y)).2.2.2.2 w)) o) := by
  obtain ⟨⟨kx, ⟨rx_0, rx_1, rx_2, rx_3, rx_4, rx_5, rx_6, rx_7⟩, ⟨kxr, nxr⟩, ⟨kxn, nxn⟩, kxb, ⟨kxi, nxi⟩, ⟨kxj, nxj⟩⟩, hTp, hUn, hBn, hK1, hK2, hSt, hStr⟩ := hI.1
  dsimp only at kx
  by_cases hE : askE S.1 x y = 0
  · obtain ⟨r, k, hr, rfl, er, hk, rfl, ek⟩ := askE_kO hO hE
    obtain ⟨hok, hB⟩ := askE_okO hO hE
    have hsp : aSl S.1 (rn (nI r)) (rn (nI k)) = aSl S.1 r k := by rw [er, ek]
    rw [hsp] at hok hB
    have hD := aD_20 hO r
    have hc4 := hO.2.2.1
    obtain ⟨m1, m2, m3, m4⟩ := (hI.2.2.2.2.2.2.2.1 r hr).1
    have hsl := (m2.2.2.2.2.2.2.2.2 k (by omega)).2
    have hsl' := hsl
    obtain ⟨hsr, kslb, rslb_0, rslb_1, hsA, hsD⟩ := hsl
    have ksla := hsA.2.1
    have ksld := hsD.2.1
    have rsla_0 := hsA.2.2.1
    have rsla_1 := hsA.2.2.2.1
    have rsld_0 := hsD.2.2.1
    have rsld_1 := hsD.2.2.2.1
    dsimp only at kslb rslb_0 rslb_1 hsA hsD ksla ksld rsla_0 rsla_1 rsld_0 rsld_1
    by_cases hw : 0 ≤ w ∧ w ≤ 1
    · have hW := askW_t (w := w) hE hw
      obtain ⟨v, hv, rfl⟩ := i32_nat (b := 1) (by omega) hw.1 hw.2
      refine bl_MC_intro (by decide +kernel) rfl (Nat.le_of_ble_eq_true rfl) ?_
      refine bl_go oX10_trimmed 80 [] rfl ?_
      refine ⟨rfl, rfl, kx, (Nat.le_of_ble_eq_true rfl), (2, 12), Nat.le_of_ble_eq_true rfl, Nat.le_of_ble_eq_true rfl, bl_MC_mono (c_BL_slabOfT (d := d) (r := r) (k := k) hI hO hr rfl hk rfl) (fun o3 σ3 q3 => ?_)⟩
      try dsimp only [bl_pv] at q3
      obtain ⟨I1, J1, rfl, f1, f2, rfl, f3⟩ := q3
      refine bl_go oX10_trimmed 80 [] rfl ?_
      refine ⟨rfl, (Nat.le_of_ble_eq_true rfl), (1, 6), Nat.le_of_ble_eq_true rfl, Nat.le_of_ble_eq_true rfl, bl_MC_mono (c_BL_needWhatT (d := d + 5) hw) (fun o10 σ10 q10 => ?_)⟩
      try dsimp only [bl_pv] at q10
      obtain ⟨rfl, rfl⟩ := q10
      refine bl_go oX10_trimmed 80 [] rfl ?_
      refine ⟨kslb, kslb, rfl, rfl, kx, (Nat.le_of_ble_eq_true rfl), (0, 0), Nat.le_of_ble_eq_true rfl, Nat.le_of_ble_eq_true rfl, bl_MC_mono (c_BL_grams (d := d + 4) (th := (aSl S.1 r k).2.2.1) (n := (aSl S.1 r k).2.2.2.2) (v := v) f1 hO hB.1 hB.2.1 f3.2.2.2.2 f3.2.2.1 hv rfl) (fun o25 σ25 q25 => ?_)⟩
      try dsimp only [bl_pv] at q25
      obtain ⟨rfl, rfl⟩ := q25
      refine bl_go oX10_trimmed 80 [] rfl ?_
      try show _ ∧ _
      try dsimp only [bl_pv]
      refine ⟨I1, J1, R, rfl, f1, f2, Or.inl ⟨hW, ?_⟩⟩
      rw [hsp]
    · have hW := askW_f (w := w) hE hw
      refine bl_MC_intro (by decide +kernel) rfl (Nat.le_of_ble_eq_true rfl) ?_
      refine bl_go oX10_trimmed 80 [] rfl ?_
      refine ⟨rfl, rfl, kx, (Nat.le_of_ble_eq_true rfl), (2, 12), Nat.le_of_ble_eq_true rfl, Nat.le_of_ble_eq_true rfl, bl_MC_mono (c_BL_slabOfT (d := d) (r := r) (k := k) hI hO hr rfl hk rfl) (fun o3 σ3 q3 => ?_)⟩
      try dsimp only [bl_pv] at q3
      obtain ⟨I1, J1, rfl, f1, f2, rfl, f3⟩ := q3
      refine bl_go oX10_trimmed 80 [] rfl ?_
      refine ⟨rfl, (Nat.le_of_ble_eq_true rfl), (1, 6), Nat.le_of_ble_eq_true rfl, Nat.le_of_ble_eq_true rfl, ?_⟩
      refine bl_MC_mono (c_BL_needWhatF (d := d + 5) hlt hw) (fun o s' q => ?_)
      obtain ⟨rfl, rfl⟩ := q
      exact Or.inl ⟨rfl, I1, J1, R, rfl, f1, f2, Or.inr ⟨2, bl_IAE, hW, rfl, rfl⟩⟩
  · have hW := askW_n (w := w) (hi := 1) hE
    refine bl_MC_intro (by decide +kernel) rfl (Nat.le_of_ble_eq_true rfl) ?_
    refine bl_go oX10_trimmed 80 [] rfl ?_
    refine ⟨rfl, rfl, kx, (Nat.le_of_ble_eq_true rfl), (2, 12), Nat.le_of_ble_eq_true rfl, Nat.le_of_ble_eq_true rfl, ?_⟩
    refine bl_MC_mono (c_BL_slabOfF (d := d) hlt hI hO hE) (fun o s' q => ?_)
    obtain ⟨I1, J1, rfl, f1, f2, f3⟩ := q
    rcases f3 (.int 0) with ⟨e, -⟩ | ⟨e, c, e1, e2, rfl⟩
    · exact absurd e hE
    · exact Or.inl ⟨rfl, I1, J1, R, rfl, f1, f2, Or.inr ⟨e, c, (hW.trans e1), e2, rfl⟩⟩
theorem c_BL_most (hlt : l.stackTraces = false) (hI : clI (I, J, R, K, N) S h) (hO : csO S) : bl_MC G l (d + 6) mX10_most [.ref 100, .int x, .int y, .int w] (I, J, R, K, N) (3, 18) (fun o s' => ∃ I' J' R', s' = (I', J', R', K, N) ∧ clI s' S h ∧ cfF (I, J, R, K, N) s' ∧ xO xL3 (askW S.1 x y w 2) (.long (mxV (aSl S.1 (rn x) (rn y)) w)) o) := by
  obtain ⟨⟨kx, ⟨rx_0, rx_1, rx_2, rx_3, rx_4, rx_5, rx_6, rx_7⟩, ⟨kxr, nxr⟩, ⟨kxn, nxn⟩, kxb, ⟨kxi, nxi⟩, ⟨kxj, nxj⟩⟩, hTp, hUn, hBn, hK1, hK2, hSt, hStr⟩ := hI.1
  dsimp only at kx
  by_cases hE : askE S.1 x y = 0
  · obtain ⟨r, k, hr, rfl, er, hk, rfl, ek⟩ := askE_kO hO hE
    obtain ⟨hok, hB⟩ := askE_okO hO hE
    have hsp : aSl S.1 (rn (nI r)) (rn (nI k)) = aSl S.1 r k := by rw [er, ek]
    rw [hsp] at hok hB
    have hD := aD_20 hO r
    have hc4 := hO.2.2.1
    obtain ⟨m1, m2, m3, m4⟩ := (hI.2.2.2.2.2.2.2.1 r hr).1
    have hsl := (m2.2.2.2.2.2.2.2.2 k (by omega)).2
    have hsl' := hsl
    obtain ⟨hsr, kslb, rslb_0, rslb_1, hsA, hsD⟩ := hsl
    have ksla := hsA.2.1
    have ksld := hsD.2.1
    have rsla_0 := hsA.2.2.1
    have rsla_1 := hsA.2.2.2.1
    have rsld_0 := hsD.2.2.1
    have rsld_1 := hsD.2.2.2.1
    dsimp only at kslb rslb_0 rslb_1 hsA hsD ksla ksld rsla_0 rsla_1 rsld_0 rsld_1
    by_cases hw : 0 ≤ w ∧ w ≤ 2
    · have hW := askW_t (w := w) hE hw
      obtain ⟨v, hv, rfl⟩ := i32_nat (b := 2) (by omega) hw.1 hw.2
      refine bl_MC_intro (by decide +kernel) rfl (Nat.le_of_ble_eq_true rfl) ?_
      refine bl_go oX10_most 80 [] rfl ?_
      refine ⟨rfl, rfl, kx, (Nat.le_of_ble_eq_true rfl), (2, 12), Nat.le_of_ble_eq_true rfl, Nat.le_of_ble_eq_true rfl, bl_MC_mono (c_BL_slabOfT (d := d) (r := r) (k := k) hI hO hr rfl hk rfl) (fun o3 σ3 q3 => ?_)⟩
      try dsimp only [bl_pv] at q3
      obtain ⟨I1, J1, rfl, f1, f2, rfl, f3⟩ := q3
      refine bl_go oX10_most 80 [] rfl ?_
      refine ⟨rfl, (Nat.le_of_ble_eq_true rfl), (1, 6), Nat.le_of_ble_eq_true rfl, Nat.le_of_ble_eq_true rfl, bl_MC_mono (c_BL_needWhatT (d := d + 5) hw) (fun o10 σ10 q10 => ?_)⟩
      try dsimp only [bl_pv] at q10
      obtain ⟨rfl, rfl⟩ := q10
      refine bl_go oX10_most 80 [] rfl ?_
      refine ⟨fun h15 => ?_, fun h15 => ?_⟩
      · try simp (disch := omega) only [bl_pv, cl0, cl1, cl2, cl3, cl4, cl5, cl6, cl7, cl8, cl9, bl_up2_at, bl_up2_nk, bl_up2_nx] at h15
        refine ⟨rfl, rfl, kslb, (Nat.le_of_ble_eq_true rfl), (0, 0), Nat.le_of_ble_eq_true rfl, Nat.le_of_ble_eq_true rfl, bl_MC_mono (c_Slab_mostButter (d := d + 4) hsl' f3 (fun i hi => Nat.lt_of_le_of_lt (hB.2.2.2.2.1 i hi).1 (Nat.lt_of_le_of_lt (smf_ge hi) (by have := hB.2.2.2.1.1; omega))) (fun i hi => Nat.lt_of_le_of_lt (hB.2.2.2.2.2 i hi).1 (Nat.lt_of_le_of_lt (smf_ge hi) (by have := hB.2.2.2.1.2; omega)))) (fun o54 σ54 q54 => ?_)⟩
        try dsimp only [bl_pv] at q54
        obtain ⟨rfl, rfl⟩ := q54
        refine bl_go oX10_most 80 [] rfl ?_
        refine ⟨fun h60 => ?_, fun h60 => ?_⟩
        · try simp (disch := omega) only [bl_pv, cl0, cl1, cl2, cl3, cl4, cl5, cl6, cl7, cl8, cl9, bl_up2_at, bl_up2_nk, bl_up2_nx] at h60
          try show _ ∧ _
          try dsimp only [bl_pv]
          refine ⟨I1, J1, R, rfl, f1, f2, Or.inl ⟨hW, ?_⟩⟩
          rw [hsp]; unfold mxV; rw [if_neg h15]
          first
          | (rw [if_pos h60, show (1 : Int64) = nJ 1 from rfl, nJ_add])
          | (rw [if_neg h60])
        · try simp (disch := omega) only [bl_pv, cl0, cl1, cl2, cl3, cl4, cl5, cl6, cl7, cl8, cl9, bl_up2_at, bl_up2_nk, bl_up2_nx] at h60
          refine ⟨rfl, (Nat.le_of_ble_eq_true rfl), (0, 0), Nat.le_of_ble_eq_true rfl, Nat.le_of_ble_eq_true rfl, bl_MC_mono (c_BL_dough (d := d + 5)) (fun o65 σ65 q65 => ?_)⟩
          try dsimp only [bl_pv] at q65
          obtain ⟨rfl, rfl⟩ := q65
          refine bl_go oX10_most 80 [] rfl ?_
          try show _ ∧ _
          try dsimp only [bl_pv]
          refine ⟨I1, J1, R, rfl, f1, f2, Or.inl ⟨hW, ?_⟩⟩
          rw [hsp]; unfold mxV; rw [if_neg h15]
          first
          | (rw [if_pos h60, show (1 : Int64) = nJ 1 from rfl, nJ_add])
          | (rw [if_neg h60])
      · try simp (disch := omega) only [bl_pv, cl0, cl1, cl2, cl3, cl4, cl5, cl6, cl7, cl8, cl9, bl_up2_at, bl_up2_nk, bl_up2_nx] at h15
        refine ⟨kslb, _, bl_vs rslb_0, kslb, _, bl_vs rslb_0, ksla, _, bl_vs rsla_0, rfl, rfl, ksla, (Nat.le_of_ble_eq_true rfl), (0, 0), Nat.le_of_ble_eq_true rfl, Nat.le_of_ble_eq_true rfl, bl_MC_mono (c_Side_greatest (d := d + 5) (S := (aSl S.1 r k).1) (g := (aSl S.1 r k).1.2.1) ksla f3.1.1 f3.1.2.1 hsA.2.2.2.2.1 hsA.2.2.2.2.2.1 (fun i hi => ⟨(f3.1.2.2 i hi).1, Nat.lt_of_le_of_lt (smf_ge hi) (by have := hB.2.2.2.1.1; omega)⟩)) (fun o31 σ31 q31 => ?_)⟩
        try dsimp only [bl_pv] at q31
        obtain ⟨rfl, rfl⟩ := q31
        refine bl_go oX10_most 80 [] rfl ?_
        refine ⟨kslb, _, bl_vs rslb_1, kslb, _, bl_vs rslb_1, ksld, _, bl_vs rsld_0, rfl, rfl, ksld, (Nat.le_of_ble_eq_true rfl), (0, 0), Nat.le_of_ble_eq_true rfl, Nat.le_of_ble_eq_true rfl, bl_MC_mono (c_Side_greatest (d := d + 5) (S := (aSl S.1 r k).2.1) (g := (aSl S.1 r k).2.1.2.1) ksld f3.2.1.1 f3.2.1.2.1 hsD.2.2.2.2.1 hsD.2.2.2.2.2.1 (fun i hi => ⟨(f3.2.1.2.2 i hi).1, Nat.lt_of_le_of_lt (smf_ge hi) (by have := hB.2.2.2.1.2; omega)⟩)) (fun o47 σ47 q47 => ?_)⟩
        try dsimp only [bl_pv] at q47
        obtain ⟨rfl, rfl⟩ := q47
        refine bl_go oX10_most 80 [] rfl ?_
        try show _ ∧ _
        try dsimp only [bl_pv]
        refine ⟨I1, J1, R, rfl, f1, f2, Or.inl ⟨hW, ?_⟩⟩
        rw [hsp, nJ_mul]; unfold mxV; rw [if_pos h15]
    · have hW := askW_f (w := w) hE hw
      refine bl_MC_intro (by decide +kernel) rfl (Nat.le_of_ble_eq_true rfl) ?_
      refine bl_go oX10_most 80 [] rfl ?_
      refine ⟨rfl, rfl, kx, (Nat.le_of_ble_eq_true rfl), (2, 12), Nat.le_of_ble_eq_true rfl, Nat.le_of_ble_eq_true rfl, bl_MC_mono (c_BL_slabOfT (d := d) (r := r) (k := k) hI hO hr rfl hk rfl) (fun o3 σ3 q3 => ?_)⟩
      try dsimp only [bl_pv] at q3
      obtain ⟨I1, J1, rfl, f1, f2, rfl, f3⟩ := q3
      refine bl_go oX10_most 80 [] rfl ?_
      refine ⟨rfl, (Nat.le_of_ble_eq_true rfl), (1, 6), Nat.le_of_ble_eq_true rfl, Nat.le_of_ble_eq_true rfl, ?_⟩
      refine bl_MC_mono (c_BL_needWhatF (d := d + 5) hlt hw) (fun o s' q => ?_)
      obtain ⟨rfl, rfl⟩ := q
      exact Or.inl ⟨rfl, I1, J1, R, rfl, f1, f2, Or.inr ⟨2, bl_IAE, hW, rfl, rfl⟩⟩
  · have hW := askW_n (w := w) (hi := 2) hE
    refine bl_MC_intro (by decide +kernel) rfl (Nat.le_of_ble_eq_true rfl) ?_
    refine bl_go oX10_most 80 [] rfl ?_
    refine ⟨rfl, rfl, kx, (Nat.le_of_ble_eq_true rfl), (2, 12), Nat.le_of_ble_eq_true rfl, Nat.le_of_ble_eq_true rfl, ?_⟩
    refine bl_MC_mono (c_BL_slabOfF (d := d) hlt hI hO hE) (fun o s' q => ?_)
    obtain ⟨I1, J1, rfl, f1, f2, f3⟩ := q
    rcases f3 (.int 0) with ⟨e, -⟩ | ⟨e, c, e1, e2, rfl⟩
    · exact absurd e hE
    · exact Or.inl ⟨rfl, I1, J1, R, rfl, f1, f2, Or.inr ⟨e, c, (hW.trans e1), e2, rfl⟩⟩
theorem c_BL_least (hlt : l.stackTraces = false) (hI : clI (I, J, R, K, N) S h) (hO : csO S) : bl_MC G l (d + 6) mX10_least [.ref 100, .int x, .int y, .int w] (I, J, R, K, N) (3, 18) (fun o s' => ∃ I' J' R', s' = (I', J', R', K, N) ∧ clI s' S h ∧ cfF (I, J, R, K, N) s' ∧ xO xL3 (askW S.1 x y w 2) (.long (mnV (aSl S.1 (rn x) (rn y)) w)) o) := by
  obtain ⟨⟨kx, ⟨rx_0, rx_1, rx_2, rx_3, rx_4, rx_5, rx_6, rx_7⟩, ⟨kxr, nxr⟩, ⟨kxn, nxn⟩, kxb, ⟨kxi, nxi⟩, ⟨kxj, nxj⟩⟩, hTp, hUn, hBn, hK1, hK2, hSt, hStr⟩ := hI.1
  dsimp only at kx
  by_cases hE : askE S.1 x y = 0
  · obtain ⟨r, k, hr, rfl, er, hk, rfl, ek⟩ := askE_kO hO hE
    obtain ⟨hok, hB⟩ := askE_okO hO hE
    have hsp : aSl S.1 (rn (nI r)) (rn (nI k)) = aSl S.1 r k := by rw [er, ek]
    rw [hsp] at hok hB
    have hD := aD_20 hO r
    have hc4 := hO.2.2.1
    obtain ⟨m1, m2, m3, m4⟩ := (hI.2.2.2.2.2.2.2.1 r hr).1
    have hsl := (m2.2.2.2.2.2.2.2.2 k (by omega)).2
    have hsl' := hsl
    obtain ⟨hsr, kslb, rslb_0, rslb_1, hsA, hsD⟩ := hsl
    have ksla := hsA.2.1
    have ksld := hsD.2.1
    have rsla_0 := hsA.2.2.1
    have rsla_1 := hsA.2.2.2.1
    have rsld_0 := hsD.2.2.1
    have rsld_1 := hsD.2.2.2.1
    dsimp only at kslb rslb_0 rslb_1 hsA hsD ksla ksld rsla_0 rsla_1 rsld_0 rsld_1
    by_cases hw : 0 ≤ w ∧ w ≤ 2
    · have hW := askW_t (w := w) hE hw
      obtain ⟨v, hv, rfl⟩ := i32_nat (b := 2) (by omega) hw.1 hw.2
      refine bl_MC_intro (by decide +kernel) rfl (Nat.le_of_ble_eq_true rfl) ?_
      refine bl_go oX10_least 80 [] rfl ?_
      refine ⟨rfl, rfl, kx, (Nat.le_of_ble_eq_true rfl), (2, 12), Nat.le_of_ble_eq_true rfl, Nat.le_of_ble_eq_true rfl, bl_MC_mono (c_BL_slabOfT (d := d) (r := r) (k := k) hI hO hr rfl hk rfl) (fun o3 σ3 q3 => ?_)⟩
      try dsimp only [bl_pv] at q3
      obtain ⟨I1, J1, rfl, f1, f2, rfl, f3⟩ := q3
      refine bl_go oX10_least 80 [] rfl ?_
      refine ⟨rfl, (Nat.le_of_ble_eq_true rfl), (1, 6), Nat.le_of_ble_eq_true rfl, Nat.le_of_ble_eq_true rfl, bl_MC_mono (c_BL_needWhatT (d := d + 5) hw) (fun o10 σ10 q10 => ?_)⟩
      try dsimp only [bl_pv] at q10
      obtain ⟨rfl, rfl⟩ := q10
      refine bl_go oX10_least 80 [] rfl ?_
      refine ⟨fun h15 => ?_, fun h15 => ?_⟩
      · try simp (disch := omega) only [bl_pv, cl0, cl1, cl2, cl3, cl4, cl5, cl6, cl7, cl8, cl9, bl_up2_at, bl_up2_nk, bl_up2_nx] at h15
        refine ⟨kslb, _, bl_vs rslb_0, kslb, _, bl_vs rslb_0, ksla, _, bl_vs rsla_1, rfl, rfl, ksla, (Nat.le_of_ble_eq_true rfl), (0, 0), Nat.le_of_ble_eq_true rfl, Nat.le_of_ble_eq_true rfl, bl_MC_mono (c_Side_smallest (d := d + 5) (S := (aSl S.1 r k).1) (g := (aSl S.1 r k).1.2.2) ksla f3.1.1 f3.1.2.1 hsA.2.2.2.2.2.2.1 hsA.2.2.2.2.2.2.2 (fun i hi => ⟨(f3.1.2.2 i hi).2, Nat.lt_of_le_of_lt (hB.2.2.2.2.1 i hi).1 (Nat.lt_of_le_of_lt (smf_ge hi) (by have := hB.2.2.2.1.1; omega))⟩)) (fun o65 σ65 q65 => ?_)⟩
        try dsimp only [bl_pv] at q65
        obtain ⟨rfl, rfl⟩ := q65
        refine bl_go oX10_least 80 [] rfl ?_
        refine ⟨kslb, _, bl_vs rslb_1, kslb, _, bl_vs rslb_1, ksld, _, bl_vs rsld_1, rfl, rfl, ksld, (Nat.le_of_ble_eq_true rfl), (0, 0), Nat.le_of_ble_eq_true rfl, Nat.le_of_ble_eq_true rfl, bl_MC_mono (c_Side_smallest (d := d + 5) (S := (aSl S.1 r k).2.1) (g := (aSl S.1 r k).2.1.2.2) ksld f3.2.1.1 f3.2.1.2.1 hsD.2.2.2.2.2.2.1 hsD.2.2.2.2.2.2.2 (fun i hi => ⟨(f3.2.1.2.2 i hi).2, Nat.lt_of_le_of_lt (hB.2.2.2.2.2 i hi).1 (Nat.lt_of_le_of_lt (smf_ge hi) (by have := hB.2.2.2.1.2; omega))⟩)) (fun o81 σ81 q81 => ?_)⟩
        try dsimp only [bl_pv] at q81
        obtain ⟨rfl, rfl⟩ := q81
        refine bl_go oX10_least 80 [] rfl ?_
        refine ⟨fun h88 => ?_, fun h88 => ?_⟩
        · try simp (disch := omega) only [bl_pv, cl0, cl1, cl2, cl3, cl4, cl5, cl6, cl7, cl8, cl9, bl_up2_at, bl_up2_nk, bl_up2_nx] at h88
          try show _ ∧ _
          try dsimp only [bl_pv]
          refine ⟨I1, J1, R, rfl, f1, f2, Or.inl ⟨hW, ?_⟩⟩
          rw [hsp, nJ_mul]; unfold mnV; rw [if_neg h15]
          first
          | (rw [if_pos h88, show (1 : Int64) = nJ 1 from rfl, nJ_add])
          | (rw [if_neg h88])
        · try simp (disch := omega) only [bl_pv, cl0, cl1, cl2, cl3, cl4, cl5, cl6, cl7, cl8, cl9, bl_up2_at, bl_up2_nk, bl_up2_nx] at h88
          refine ⟨rfl, (Nat.le_of_ble_eq_true rfl), (0, 0), Nat.le_of_ble_eq_true rfl, Nat.le_of_ble_eq_true rfl, bl_MC_mono (c_BL_dough (d := d + 5)) (fun o93 σ93 q93 => ?_)⟩
          try dsimp only [bl_pv] at q93
          obtain ⟨rfl, rfl⟩ := q93
          refine bl_go oX10_least 80 [] rfl ?_
          try show _ ∧ _
          try dsimp only [bl_pv]
          refine ⟨I1, J1, R, rfl, f1, f2, Or.inl ⟨hW, ?_⟩⟩
          rw [hsp, nJ_mul]; unfold mnV; rw [if_neg h15]
          first
          | (rw [if_pos h88, show (1 : Int64) = nJ 1 from rfl, nJ_add])
          | (rw [if_neg h88])
      · try simp (disch := omega) only [bl_pv, cl0, cl1, cl2, cl3, cl4, cl5, cl6, cl7, cl8, cl9, bl_up2_at, bl_up2_nk, bl_up2_nx] at h15
        refine ⟨kslb, _, bl_vs rslb_0, kslb, _, bl_vs rslb_0, ksla, _, bl_vs rsla_0, rfl, rfl, ksla, (Nat.le_of_ble_eq_true rfl), (0, 0), Nat.le_of_ble_eq_true rfl, Nat.le_of_ble_eq_true rfl, bl_MC_mono (c_Side_smallest (d := d + 5) (S := (aSl S.1 r k).1) (g := (aSl S.1 r k).1.2.1) ksla f3.1.1 f3.1.2.1 hsA.2.2.2.2.1 hsA.2.2.2.2.2.1 (fun i hi => ⟨(f3.1.2.2 i hi).1, Nat.lt_of_le_of_lt (smf_ge hi) (by have := hB.2.2.2.1.1; omega)⟩)) (fun o31 σ31 q31 => ?_)⟩
        try dsimp only [bl_pv] at q31
        obtain ⟨rfl, rfl⟩ := q31
        refine bl_go oX10_least 80 [] rfl ?_
        refine ⟨kslb, _, bl_vs rslb_1, kslb, _, bl_vs rslb_1, ksld, _, bl_vs rsld_0, rfl, rfl, ksld, (Nat.le_of_ble_eq_true rfl), (0, 0), Nat.le_of_ble_eq_true rfl, Nat.le_of_ble_eq_true rfl, bl_MC_mono (c_Side_smallest (d := d + 5) (S := (aSl S.1 r k).2.1) (g := (aSl S.1 r k).2.1.2.1) ksld f3.2.1.1 f3.2.1.2.1 hsD.2.2.2.2.1 hsD.2.2.2.2.2.1 (fun i hi => ⟨(f3.2.1.2.2 i hi).1, Nat.lt_of_le_of_lt (smf_ge hi) (by have := hB.2.2.2.1.2; omega)⟩)) (fun o47 σ47 q47 => ?_)⟩
        try dsimp only [bl_pv] at q47
        obtain ⟨rfl, rfl⟩ := q47
        refine bl_go oX10_least 80 [] rfl ?_
        try show _ ∧ _
        try dsimp only [bl_pv]
        refine ⟨I1, J1, R, rfl, f1, f2, Or.inl ⟨hW, ?_⟩⟩
        rw [hsp, nJ_mul]; unfold mnV; rw [if_pos h15]
    · have hW := askW_f (w := w) hE hw
      refine bl_MC_intro (by decide +kernel) rfl (Nat.le_of_ble_eq_true rfl) ?_
      refine bl_go oX10_least 80 [] rfl ?_
      refine ⟨rfl, rfl, kx, (Nat.le_of_ble_eq_true rfl), (2, 12), Nat.le_of_ble_eq_true rfl, Nat.le_of_ble_eq_true rfl, bl_MC_mono (c_BL_slabOfT (d := d) (r := r) (k := k) hI hO hr rfl hk rfl) (fun o3 σ3 q3 => ?_)⟩
      try dsimp only [bl_pv] at q3
      obtain ⟨I1, J1, rfl, f1, f2, rfl, f3⟩ := q3
      refine bl_go oX10_least 80 [] rfl ?_
      refine ⟨rfl, (Nat.le_of_ble_eq_true rfl), (1, 6), Nat.le_of_ble_eq_true rfl, Nat.le_of_ble_eq_true rfl, ?_⟩
      refine bl_MC_mono (c_BL_needWhatF (d := d + 5) hlt hw) (fun o s' q => ?_)
      obtain ⟨rfl, rfl⟩ := q
      exact Or.inl ⟨rfl, I1, J1, R, rfl, f1, f2, Or.inr ⟨2, bl_IAE, hW, rfl, rfl⟩⟩
  · have hW := askW_n (w := w) (hi := 2) hE
    refine bl_MC_intro (by decide +kernel) rfl (Nat.le_of_ble_eq_true rfl) ?_
    refine bl_go oX10_least 80 [] rfl ?_
    refine ⟨rfl, rfl, kx, (Nat.le_of_ble_eq_true rfl), (2, 12), Nat.le_of_ble_eq_true rfl, Nat.le_of_ble_eq_true rfl, ?_⟩
    refine bl_MC_mono (c_BL_slabOfF (d := d) hlt hI hO hE) (fun o s' q => ?_)
    obtain ⟨I1, J1, rfl, f1, f2, f3⟩ := q
    rcases f3 (.int 0) with ⟨e, -⟩ | ⟨e, c, e1, e2, rfl⟩
    · exact absurd e hE
    · exact Or.inl ⟨rfl, I1, J1, R, rfl, f1, f2, Or.inr ⟨e, c, (hW.trans e1), e2, rfl⟩⟩
theorem c_BL_leaf (hlt : l.stackTraces = false) (hI : clI (I, J, R, K, N) S h) (hO : csO S) : bl_MC G l (d + 6) mX10_leaf [.ref 100, .int x, .int y, .int a, .int b, .int w] (I, J, R, K, N) (4, 24) (fun o s' => ∃ I' J' R', s' = (I', J', R', K, N) ∧ clI s' S h ∧ cfF (I, J, R, K, N) s' ∧ xO xL3 (askC S.1 x y a b w 4) (.long (lfv (aSl S.1 (rn x) (rn y)) (rn a) (rn b) w)) o) := by
  obtain ⟨⟨kx, ⟨rx_0, rx_1, rx_2, rx_3, rx_4, rx_5, rx_6, rx_7⟩, ⟨kxr, nxr⟩, ⟨kxn, nxn⟩, kxb, ⟨kxi, nxi⟩, ⟨kxj, nxj⟩⟩, hTp, hUn, hBn, hK1, hK2, hSt, hStr⟩ := hI.1
  dsimp only at kx
  by_cases hE : askE S.1 x y = 0
  · obtain ⟨r, k, hr, rfl, er, hk, rfl, ek⟩ := askE_kO hO hE
    obtain ⟨hok, hB⟩ := askE_okO hO hE
    have hsp : aSl S.1 (rn (nI r)) (rn (nI k)) = aSl S.1 r k := by rw [er, ek]
    rw [hsp] at hok hB
    have hD := aD_20 hO r
    have hc4 := hO.2.2.1
    obtain ⟨m1, m2, m3, m4⟩ := (hI.2.2.2.2.2.2.2.1 r hr).1
    have hsl := (m2.2.2.2.2.2.2.2.2 k (by omega)).2
    have hsl' := hsl
    obtain ⟨hsr, kslb, rslb_0, rslb_1, hsA, hsD⟩ := hsl
    have ksla := hsA.2.1
    have ksld := hsD.2.1
    have rsla_0 := hsA.2.2.1
    have rsla_1 := hsA.2.2.2.1
    have rsld_0 := hsD.2.2.1
    have rsld_1 := hsD.2.2.2.1
    dsimp only at kslb rslb_0 rslb_1 hsA hsD ksla ksld rsla_0 rsla_1 rsld_0 rsld_1
    by_cases hcb : cb (aSl S.1 (rn (nI r)) (rn (nI k))) a b = true
    · have hcb' := hcb
      rw [hsp] at hcb'
      by_cases hw : 0 ≤ w ∧ w ≤ 4
      · have hW := askC_t hE hcb hw
        obtain ⟨v, hv, rfl⟩ := i32_nat (b := 4) (by omega) hw.1 hw.2
        obtain ⟨p, q, hp, hq, rfl, rfl, ep, eq⟩ := cb_n hok hcb'
        refine bl_MC_intro (by decide +kernel) rfl (Nat.le_of_ble_eq_true rfl) ?_
        refine bl_go oX10_leaf 80 [] rfl ?_
        refine ⟨rfl, rfl, kx, (Nat.le_of_ble_eq_true rfl), (2, 12), Nat.le_of_ble_eq_true rfl, Nat.le_of_ble_eq_true rfl, bl_MC_mono (c_BL_slabOfT (d := d) (r := r) (k := k) hI hO hr rfl hk rfl) (fun o3 σ3 q3 => ?_)⟩
        try dsimp only [bl_pv] at q3
        obtain ⟨I1, J1, rfl, f1, f2, rfl, f3⟩ := q3
        refine bl_go oX10_leaf 80 [] rfl ?_
        refine ⟨rfl, (Nat.le_of_ble_eq_true rfl), (1, 6), Nat.le_of_ble_eq_true rfl, Nat.le_of_ble_eq_true rfl, bl_MC_mono (c_BL_needCellT (d := d + 5) hsl' f3 hok hcb') (fun o13 σ13 q13 => ?_)⟩
        try dsimp only [bl_pv] at q13
        obtain ⟨rfl, rfl⟩ := q13
        refine bl_go oX10_leaf 80 [] rfl ?_
        refine ⟨rfl, (Nat.le_of_ble_eq_true rfl), (1, 6), Nat.le_of_ble_eq_true rfl, Nat.le_of_ble_eq_true rfl, bl_MC_mono (c_BL_needWhatT (d := d + 5) hw) (fun o19 σ19 q19 => ?_)⟩
        try dsimp only [bl_pv] at q19
        obtain ⟨rfl, rfl⟩ := q19
        refine bl_go oX10_leaf 80 [] rfl ?_
        refine ⟨fun h24 => ?_, fun j24 o24 ho24 h24 _ => ?_⟩
        · try simp (disch := omega) only [zI_n, zI_o, zI_lit, zI_neg, zI_add, zI_sub, zI_mul, zI_lt, zI_le, zI_eq, zI_clamp, zI_in, zI_div, zI_rem, lg_lt0, lg_gt0, lg_eq0, lg_le0, lg_ge0, Int.toNat_natCast, ge_iff_le, gt_iff_lt, List.length_cons, List.length_nil, bl_up2_at, bl_up2_nk, bl_up2_nx, zI_toInt] at h24
          first
          | (exfalso; first | omega | exact h24 trivial)
          | (try show _ ∧ _
             try dsimp only [bl_pv]
             refine ⟨I1, J1, R, rfl, f1, f2, Or.inl ⟨hW, ?_⟩⟩
             rw [hsp, show rn (nI p) = p from ep, show rn (nI q) = q from eq]
             unfold lfv
             first
             | (have hq : v = 0 := by omega
                subst hq; rw [if_pos (show nI 0 = 0 from rfl), show (1 : Int64) = nJ 1 from rfl, nJ_add]; rfl)
             | (have hq : v = 1 := by omega
                subst hq; rw [if_neg (by decide), if_pos (show nI 1 = 1 from rfl)]; rfl)
             | (have hq : v = 4 := by omega
                subst hq; rw [if_neg (by decide), if_neg (by decide), if_pos (show nI 4 = 4 from rfl)]; rfl)
             | (have hq : v = 2 := by omega
                subst hq; rw [if_neg (by decide), if_neg (by decide), if_neg (by decide)])
             | (have hq : v = 3 := by omega
                subst hq; rw [if_neg (by decide), if_neg (by decide), if_neg (by decide)]))
        · try simp (disch := omega) only [zI_n, zI_o, zI_lit, zI_neg, zI_add, zI_sub, zI_mul, zI_lt, zI_le, zI_eq, zI_clamp, zI_in, zI_div, zI_rem, lg_lt0, lg_gt0, lg_eq0, lg_le0, lg_ge0, Int.toNat_natCast, ge_iff_le, gt_iff_lt, List.length_cons, List.length_nil, bl_up2_at, bl_up2_nk, bl_up2_nx, zI_toInt] at h24
          match j24, ho24, h24 with
          | 0, ho24, h24 =>
            cases ho24
            first
            | (exfalso; omega)
            | (refine ⟨rfl, rfl, kslb, (Nat.le_of_ble_eq_true rfl), (0, 0), Nat.le_of_ble_eq_true rfl, Nat.le_of_ble_eq_true rfl, bl_MC_mono (c_Slab_butterAt (d := d + 4) hsl' f3 rfl rfl hp hq) (fun o65 σ65 q65 => ?_)⟩
               try dsimp only [bl_pv] at q65
               obtain ⟨rfl, rfl⟩ := q65
               refine bl_go oX10_leaf 80 [] rfl ?_
               refine ⟨rfl, (Nat.le_of_ble_eq_true rfl), (0, 0), Nat.le_of_ble_eq_true rfl, Nat.le_of_ble_eq_true rfl, bl_MC_mono (c_BL_dough (d := d + 5)) (fun o68 σ68 q68 => ?_)⟩
               try dsimp only [bl_pv] at q68
               obtain ⟨rfl, rfl⟩ := q68
               refine bl_go oX10_leaf 80 [] rfl ?_
               try show _ ∧ _
               try dsimp only [bl_pv]
               refine ⟨I1, J1, R, rfl, f1, f2, Or.inl ⟨hW, ?_⟩⟩
               rw [hsp, show rn (nI p) = p from ep, show rn (nI q) = q from eq]
               unfold lfv
               first
               | (have hq : v = 0 := by omega
                  subst hq; rw [if_pos (show nI 0 = 0 from rfl), show (1 : Int64) = nJ 1 from rfl, nJ_add]; rfl)
               | (have hq : v = 1 := by omega
                  subst hq; rw [if_neg (by decide), if_pos (show nI 1 = 1 from rfl)]; rfl)
               | (have hq : v = 4 := by omega
                  subst hq; rw [if_neg (by decide), if_neg (by decide), if_pos (show nI 4 = 4 from rfl)]; rfl)
               | (have hq : v = 2 := by omega
                  subst hq; rw [if_neg (by decide), if_neg (by decide), if_neg (by decide)])
               | (have hq : v = 3 := by omega
                  subst hq; rw [if_neg (by decide), if_neg (by decide), if_neg (by decide)]))
          | 1, ho24, h24 =>
            cases ho24
            first
            | (exfalso; omega)
            | (refine ⟨rfl, rfl, kslb, (Nat.le_of_ble_eq_true rfl), (0, 0), Nat.le_of_ble_eq_true rfl, Nat.le_of_ble_eq_true rfl, bl_MC_mono (c_Slab_butterAt (d := d + 4) hsl' f3 rfl rfl hp hq) (fun o77 σ77 q77 => ?_)⟩
               try dsimp only [bl_pv] at q77
               obtain ⟨rfl, rfl⟩ := q77
               refine bl_go oX10_leaf 80 [] rfl ?_
               try show _ ∧ _
               try dsimp only [bl_pv]
               refine ⟨I1, J1, R, rfl, f1, f2, Or.inl ⟨hW, ?_⟩⟩
               rw [hsp, show rn (nI p) = p from ep, show rn (nI q) = q from eq]
               unfold lfv
               first
               | (have hq : v = 0 := by omega
                  subst hq; rw [if_pos (show nI 0 = 0 from rfl), show (1 : Int64) = nJ 1 from rfl, nJ_add]; rfl)
               | (have hq : v = 1 := by omega
                  subst hq; rw [if_neg (by decide), if_pos (show nI 1 = 1 from rfl)]; rfl)
               | (have hq : v = 4 := by omega
                  subst hq; rw [if_neg (by decide), if_neg (by decide), if_pos (show nI 4 = 4 from rfl)]; rfl)
               | (have hq : v = 2 := by omega
                  subst hq; rw [if_neg (by decide), if_neg (by decide), if_neg (by decide)])
               | (have hq : v = 3 := by omega
                  subst hq; rw [if_neg (by decide), if_neg (by decide), if_neg (by decide)]))
          | 2, ho24, h24 =>
            cases ho24
            first
            | (exfalso; omega)
            | (try show _ ∧ _
               try dsimp only [bl_pv]
               refine ⟨I1, J1, R, rfl, f1, f2, Or.inl ⟨hW, ?_⟩⟩
               rw [hsp, show rn (nI p) = p from ep, show rn (nI q) = q from eq]
               unfold lfv
               first
               | (have hq : v = 0 := by omega
                  subst hq; rw [if_pos (show nI 0 = 0 from rfl), show (1 : Int64) = nJ 1 from rfl, nJ_add]; rfl)
               | (have hq : v = 1 := by omega
                  subst hq; rw [if_neg (by decide), if_pos (show nI 1 = 1 from rfl)]; rfl)
               | (have hq : v = 4 := by omega
                  subst hq; rw [if_neg (by decide), if_neg (by decide), if_pos (show nI 4 = 4 from rfl)]; rfl)
               | (have hq : v = 2 := by omega
                  subst hq; rw [if_neg (by decide), if_neg (by decide), if_neg (by decide)])
               | (have hq : v = 3 := by omega
                  subst hq; rw [if_neg (by decide), if_neg (by decide), if_neg (by decide)]))
          | 3, ho24, h24 =>
            cases ho24
            first
            | (exfalso; omega)
            | (try show _ ∧ _
               try dsimp only [bl_pv]
               refine ⟨I1, J1, R, rfl, f1, f2, Or.inl ⟨hW, ?_⟩⟩
               rw [hsp, show rn (nI p) = p from ep, show rn (nI q) = q from eq]
               unfold lfv
               first
               | (have hq : v = 0 := by omega
                  subst hq; rw [if_pos (show nI 0 = 0 from rfl), show (1 : Int64) = nJ 1 from rfl, nJ_add]; rfl)
               | (have hq : v = 1 := by omega
                  subst hq; rw [if_neg (by decide), if_pos (show nI 1 = 1 from rfl)]; rfl)
               | (have hq : v = 4 := by omega
                  subst hq; rw [if_neg (by decide), if_neg (by decide), if_pos (show nI 4 = 4 from rfl)]; rfl)
               | (have hq : v = 2 := by omega
                  subst hq; rw [if_neg (by decide), if_neg (by decide), if_neg (by decide)])
               | (have hq : v = 3 := by omega
                  subst hq; rw [if_neg (by decide), if_neg (by decide), if_neg (by decide)]))
          | 4, ho24, h24 =>
            cases ho24
            first
            | (exfalso; omega)
            | (refine ⟨rfl, rfl, kslb, (Nat.le_of_ble_eq_true rfl), (0, 0), Nat.le_of_ble_eq_true rfl, Nat.le_of_ble_eq_true rfl, bl_MC_mono (c_Slab_sheetsAt (d := d + 4) hsl' f3 rfl rfl hp hq) (fun o86 σ86 q86 => ?_)⟩
               try dsimp only [bl_pv] at q86
               obtain ⟨rfl, rfl⟩ := q86
               refine bl_go oX10_leaf 80 [] rfl ?_
               try show _ ∧ _
               try dsimp only [bl_pv]
               refine ⟨I1, J1, R, rfl, f1, f2, Or.inl ⟨hW, ?_⟩⟩
               rw [hsp, show rn (nI p) = p from ep, show rn (nI q) = q from eq]
               unfold lfv
               first
               | (have hq : v = 0 := by omega
                  subst hq; rw [if_pos (show nI 0 = 0 from rfl), show (1 : Int64) = nJ 1 from rfl, nJ_add]; rfl)
               | (have hq : v = 1 := by omega
                  subst hq; rw [if_neg (by decide), if_pos (show nI 1 = 1 from rfl)]; rfl)
               | (have hq : v = 4 := by omega
                  subst hq; rw [if_neg (by decide), if_neg (by decide), if_pos (show nI 4 = 4 from rfl)]; rfl)
               | (have hq : v = 2 := by omega
                  subst hq; rw [if_neg (by decide), if_neg (by decide), if_neg (by decide)])
               | (have hq : v = 3 := by omega
                  subst hq; rw [if_neg (by decide), if_neg (by decide), if_neg (by decide)]))
          | _ + 5, ho24, _ => exact absurd ho24 (by simp)
      · have hW := askC_w hE hcb hw
        refine bl_MC_intro (by decide +kernel) rfl (Nat.le_of_ble_eq_true rfl) ?_
        refine bl_go oX10_leaf 80 [] rfl ?_
        refine ⟨rfl, rfl, kx, (Nat.le_of_ble_eq_true rfl), (2, 12), Nat.le_of_ble_eq_true rfl, Nat.le_of_ble_eq_true rfl, bl_MC_mono (c_BL_slabOfT (d := d) (r := r) (k := k) hI hO hr rfl hk rfl) (fun o3 σ3 q3 => ?_)⟩
        try dsimp only [bl_pv] at q3
        obtain ⟨I1, J1, rfl, f1, f2, rfl, f3⟩ := q3
        refine bl_go oX10_leaf 80 [] rfl ?_
        refine ⟨rfl, (Nat.le_of_ble_eq_true rfl), (1, 6), Nat.le_of_ble_eq_true rfl, Nat.le_of_ble_eq_true rfl, bl_MC_mono (c_BL_needCellT (d := d + 5) hsl' f3 hok hcb') (fun o13 σ13 q13 => ?_)⟩
        try dsimp only [bl_pv] at q13
        obtain ⟨rfl, rfl⟩ := q13
        refine bl_go oX10_leaf 80 [] rfl ?_
        refine ⟨rfl, (Nat.le_of_ble_eq_true rfl), (1, 6), Nat.le_of_ble_eq_true rfl, Nat.le_of_ble_eq_true rfl, ?_⟩
        refine bl_MC_mono (c_BL_needWhatF (d := d + 5) hlt hw) (fun o s' q => ?_)
        obtain ⟨rfl, rfl⟩ := q
        exact Or.inl ⟨rfl, I1, J1, R, rfl, f1, f2, Or.inr ⟨2, bl_IAE, hW, rfl, rfl⟩⟩
    · have hW := askC_c (w := w) (hi := 4) hE hcb
      have hcb' := hcb
      rw [hsp] at hcb'
      refine bl_MC_intro (by decide +kernel) rfl (Nat.le_of_ble_eq_true rfl) ?_
      refine bl_go oX10_leaf 80 [] rfl ?_
      refine ⟨rfl, rfl, kx, (Nat.le_of_ble_eq_true rfl), (2, 12), Nat.le_of_ble_eq_true rfl, Nat.le_of_ble_eq_true rfl, bl_MC_mono (c_BL_slabOfT (d := d) (r := r) (k := k) hI hO hr rfl hk rfl) (fun o3 σ3 q3 => ?_)⟩
      try dsimp only [bl_pv] at q3
      obtain ⟨I1, J1, rfl, f1, f2, rfl, f3⟩ := q3
      refine bl_go oX10_leaf 80 [] rfl ?_
      refine ⟨rfl, (Nat.le_of_ble_eq_true rfl), (1, 6), Nat.le_of_ble_eq_true rfl, Nat.le_of_ble_eq_true rfl, ?_⟩
      refine bl_MC_mono (c_BL_needCellF (d := d + 5) hlt hsl' f3 hok hcb') (fun o s' q => ?_)
      obtain ⟨rfl, rfl⟩ := q
      exact Or.inl ⟨rfl, I1, J1, R, rfl, f1, f2, Or.inr ⟨1, bl_IOE, hW, rfl, rfl⟩⟩
  · have hW := askC_n (a := a) (b := b) (w := w) (hi := 4) hE
    refine bl_MC_intro (by decide +kernel) rfl (Nat.le_of_ble_eq_true rfl) ?_
    refine bl_go oX10_leaf 80 [] rfl ?_
    refine ⟨rfl, rfl, kx, (Nat.le_of_ble_eq_true rfl), (2, 12), Nat.le_of_ble_eq_true rfl, Nat.le_of_ble_eq_true rfl, ?_⟩
    refine bl_MC_mono (c_BL_slabOfF (d := d) hlt hI hO hE) (fun o s' q => ?_)
    obtain ⟨I1, J1, rfl, f1, f2, f3⟩ := q
    rcases f3 (.int 0) with ⟨e, -⟩ | ⟨e, c, e1, e2, rfl⟩
    · exact absurd e hE
    · exact Or.inl ⟨rfl, I1, J1, R, rfl, f1, f2, Or.inr ⟨e, c, (hW.trans e1), e2, rfl⟩⟩
theorem c_BL_weight (hlt : l.stackTraces = false) (hI : clI (I, J, R, K, N) S h) (hO : csO S) : bl_MC G l (d + 6) mX10_weight [.ref 100, .int x, .int y, .int a, .int b, .int w] (I, J, R, K, N) (4, 24) (fun o s' => ∃ I' J' R', s' = (I', J', R', K, N) ∧ clI s' S h ∧ cfF (I, J, R, K, N) s' ∧ xO xL3 (askC S.1 x y a b w 1) (.long (grV S.1.1 (aSl S.1 (rn x) (rn y)).2.2.1 (slQ (aSl S.1 (rn x) (rn y)) (rn a) (rn b)) w)) o) := by
  obtain ⟨⟨kx, ⟨rx_0, rx_1, rx_2, rx_3, rx_4, rx_5, rx_6, rx_7⟩, ⟨kxr, nxr⟩, ⟨kxn, nxn⟩, kxb, ⟨kxi, nxi⟩, ⟨kxj, nxj⟩⟩, hTp, hUn, hBn, hK1, hK2, hSt, hStr⟩ := hI.1
  dsimp only at kx
  by_cases hE : askE S.1 x y = 0
  · obtain ⟨r, k, hr, rfl, er, hk, rfl, ek⟩ := askE_kO hO hE
    obtain ⟨hok, hB⟩ := askE_okO hO hE
    have hsp : aSl S.1 (rn (nI r)) (rn (nI k)) = aSl S.1 r k := by rw [er, ek]
    rw [hsp] at hok hB
    have hD := aD_20 hO r
    have hc4 := hO.2.2.1
    obtain ⟨m1, m2, m3, m4⟩ := (hI.2.2.2.2.2.2.2.1 r hr).1
    have hsl := (m2.2.2.2.2.2.2.2.2 k (by omega)).2
    have hsl' := hsl
    obtain ⟨hsr, kslb, rslb_0, rslb_1, hsA, hsD⟩ := hsl
    have ksla := hsA.2.1
    have ksld := hsD.2.1
    have rsla_0 := hsA.2.2.1
    have rsla_1 := hsA.2.2.2.1
    have rsld_0 := hsD.2.2.1
    have rsld_1 := hsD.2.2.2.1
    dsimp only at kslb rslb_0 rslb_1 hsA hsD ksla ksld rsla_0 rsla_1 rsld_0 rsld_1
    by_cases hcb : cb (aSl S.1 (rn (nI r)) (rn (nI k))) a b = true
    · have hcb' := hcb
      rw [hsp] at hcb'
      by_cases hw : 0 ≤ w ∧ w ≤ 1
      · have hW := askC_t hE hcb hw
        obtain ⟨v, hv, rfl⟩ := i32_nat (b := 1) (by omega) hw.1 hw.2
        obtain ⟨p, q, hp, hq, rfl, rfl, ep, eq⟩ := cb_n hok hcb'
        refine bl_MC_intro (by decide +kernel) rfl (Nat.le_of_ble_eq_true rfl) ?_
        refine bl_go oX10_weight 80 [] rfl ?_
        refine ⟨rfl, rfl, kx, (Nat.le_of_ble_eq_true rfl), (2, 12), Nat.le_of_ble_eq_true rfl, Nat.le_of_ble_eq_true rfl, bl_MC_mono (c_BL_slabOfT (d := d) (r := r) (k := k) hI hO hr rfl hk rfl) (fun o3 σ3 q3 => ?_)⟩
        try dsimp only [bl_pv] at q3
        obtain ⟨I1, J1, rfl, f1, f2, rfl, f3⟩ := q3
        refine bl_go oX10_weight 80 [] rfl ?_
        refine ⟨rfl, (Nat.le_of_ble_eq_true rfl), (1, 6), Nat.le_of_ble_eq_true rfl, Nat.le_of_ble_eq_true rfl, bl_MC_mono (c_BL_needCellT (d := d + 5) hsl' f3 hok hcb') (fun o13 σ13 q13 => ?_)⟩
        try dsimp only [bl_pv] at q13
        obtain ⟨rfl, rfl⟩ := q13
        refine bl_go oX10_weight 80 [] rfl ?_
        refine ⟨rfl, (Nat.le_of_ble_eq_true rfl), (1, 6), Nat.le_of_ble_eq_true rfl, Nat.le_of_ble_eq_true rfl, bl_MC_mono (c_BL_needWhatT (d := d + 5) hw) (fun o19 σ19 q19 => ?_)⟩
        try dsimp only [bl_pv] at q19
        obtain ⟨rfl, rfl⟩ := q19
        refine bl_go oX10_weight 80 [] rfl ?_
        refine ⟨rfl, rfl, kslb, (Nat.le_of_ble_eq_true rfl), (0, 0), Nat.le_of_ble_eq_true rfl, Nat.le_of_ble_eq_true rfl, bl_MC_mono (c_Slab_sheetsAt (d := d + 4) hsl' f3 rfl rfl hp hq) (fun o28 σ28 q28 => ?_)⟩
        try dsimp only [bl_pv] at q28
        obtain ⟨rfl, rfl⟩ := q28
        refine bl_go oX10_weight 80 [] rfl ?_
        refine ⟨kslb, rfl, rfl, kx, (Nat.le_of_ble_eq_true rfl), (0, 0), Nat.le_of_ble_eq_true rfl, Nat.le_of_ble_eq_true rfl, bl_MC_mono (c_BL_grams (d := d + 4) (th := (aSl S.1 r k).2.2.1) (n := slQ (aSl S.1 r k) p q) (v := v) f1 hO hB.1 (hB.Q hp hq) rfl f3.2.2.1 hv rfl) (fun o38 σ38 q38 => ?_)⟩
        try dsimp only [bl_pv] at q38
        obtain ⟨rfl, rfl⟩ := q38
        refine bl_go oX10_weight 80 [] rfl ?_
        try show _ ∧ _
        try dsimp only [bl_pv]
        refine ⟨I1, J1, R, rfl, f1, f2, Or.inl ⟨hW, ?_⟩⟩
        rw [hsp, show rn (nI p) = p from ep, show rn (nI q) = q from eq]
      · have hW := askC_w hE hcb hw
        refine bl_MC_intro (by decide +kernel) rfl (Nat.le_of_ble_eq_true rfl) ?_
        refine bl_go oX10_weight 80 [] rfl ?_
        refine ⟨rfl, rfl, kx, (Nat.le_of_ble_eq_true rfl), (2, 12), Nat.le_of_ble_eq_true rfl, Nat.le_of_ble_eq_true rfl, bl_MC_mono (c_BL_slabOfT (d := d) (r := r) (k := k) hI hO hr rfl hk rfl) (fun o3 σ3 q3 => ?_)⟩
        try dsimp only [bl_pv] at q3
        obtain ⟨I1, J1, rfl, f1, f2, rfl, f3⟩ := q3
        refine bl_go oX10_weight 80 [] rfl ?_
        refine ⟨rfl, (Nat.le_of_ble_eq_true rfl), (1, 6), Nat.le_of_ble_eq_true rfl, Nat.le_of_ble_eq_true rfl, bl_MC_mono (c_BL_needCellT (d := d + 5) hsl' f3 hok hcb') (fun o13 σ13 q13 => ?_)⟩
        try dsimp only [bl_pv] at q13
        obtain ⟨rfl, rfl⟩ := q13
        refine bl_go oX10_weight 80 [] rfl ?_
        refine ⟨rfl, (Nat.le_of_ble_eq_true rfl), (1, 6), Nat.le_of_ble_eq_true rfl, Nat.le_of_ble_eq_true rfl, ?_⟩
        refine bl_MC_mono (c_BL_needWhatF (d := d + 5) hlt hw) (fun o s' q => ?_)
        obtain ⟨rfl, rfl⟩ := q
        exact Or.inl ⟨rfl, I1, J1, R, rfl, f1, f2, Or.inr ⟨2, bl_IAE, hW, rfl, rfl⟩⟩
    · have hW := askC_c (w := w) (hi := 1) hE hcb
      have hcb' := hcb
      rw [hsp] at hcb'
      refine bl_MC_intro (by decide +kernel) rfl (Nat.le_of_ble_eq_true rfl) ?_
      refine bl_go oX10_weight 80 [] rfl ?_
      refine ⟨rfl, rfl, kx, (Nat.le_of_ble_eq_true rfl), (2, 12), Nat.le_of_ble_eq_true rfl, Nat.le_of_ble_eq_true rfl, bl_MC_mono (c_BL_slabOfT (d := d) (r := r) (k := k) hI hO hr rfl hk rfl) (fun o3 σ3 q3 => ?_)⟩
      try dsimp only [bl_pv] at q3
      obtain ⟨I1, J1, rfl, f1, f2, rfl, f3⟩ := q3
      refine bl_go oX10_weight 80 [] rfl ?_
      refine ⟨rfl, (Nat.le_of_ble_eq_true rfl), (1, 6), Nat.le_of_ble_eq_true rfl, Nat.le_of_ble_eq_true rfl, ?_⟩
      refine bl_MC_mono (c_BL_needCellF (d := d + 5) hlt hsl' f3 hok hcb') (fun o s' q => ?_)
      obtain ⟨rfl, rfl⟩ := q
      exact Or.inl ⟨rfl, I1, J1, R, rfl, f1, f2, Or.inr ⟨1, bl_IOE, hW, rfl, rfl⟩⟩
  · have hW := askC_n (a := a) (b := b) (w := w) (hi := 1) hE
    refine bl_MC_intro (by decide +kernel) rfl (Nat.le_of_ble_eq_true rfl) ?_
    refine bl_go oX10_weight 80 [] rfl ?_
    refine ⟨rfl, rfl, kx, (Nat.le_of_ble_eq_true rfl), (2, 12), Nat.le_of_ble_eq_true rfl, Nat.le_of_ble_eq_true rfl, ?_⟩
    refine bl_MC_mono (c_BL_slabOfF (d := d) hlt hI hO hE) (fun o s' q => ?_)
    obtain ⟨I1, J1, rfl, f1, f2, f3⟩ := q
    rcases f3 (.int 0) with ⟨e, -⟩ | ⟨e, c, e1, e2, rfl⟩
    · exact absurd e hE
    · exact Or.inl ⟨rfl, I1, J1, R, rfl, f1, f2, Or.inr ⟨e, c, (hW.trans e1), e2, rfl⟩⟩
end CLS4
