/-! ===== Butter.latestStart ===== -/
def stWell (tf : Nat → Nat) (dg : Nat → Int32) (rc : sq) (u : Nat) : Prop := ∀ k, k < rc.1 → fwB tf dg rc u k = false ∧ fwR tf dg rc u k = false
/-- v is the latest good start, or -1 -/
def isLatest (tf : Nat → Nat) (dg : Nat → Int32) (rc : sq) (v : Int32) : Prop := (∃ u, u ≤ 287 ∧ v = nI u ∧ stWell tf dg rc u ∧ ∀ w, u < w → w ≤ 287 → ¬ stWell tf dg rc w) ∨ (v = zI (-1) ∧ ∀ w, w ≤ 287 → ¬ stWell tf dg rc w)
theorem isLatest_eq {tf : Nat → Nat} {dg : Nat → Int32} {rc : sq} {v w : Int32} (hv : isLatest tf dg rc v) (hw : isLatest tf dg rc w) : v = w := by
  rcases hv with ⟨u, u1, u2, u3, u4⟩ | ⟨u1, u2⟩
  · rcases hw with ⟨t, t1, t2, t3, t4⟩ | ⟨t1, t2⟩
    · rcases Nat.lt_trichotomy u t with h | h | h
      · exact absurd t3 (u4 t h t1)
      · rw [u2, t2, h]
      · exact absurd u3 (t4 u h u1)
    · exact absurd u3 (t2 u u1)
  · rcases hw with ⟨t, t1, t2, t3, t4⟩ | ⟨t1, t2⟩
    · exact absurd t3 (u2 t t1)
    · rw [u1, t1]
/-! in one room all starts are alike -/
theorem wu_one {tf : Nat → Nat} {dg : Nat → Int32} (h : ∀ j, j < 24 → dg j = dg 0) (k : Nat) (w : Int32) (u v : Nat) : wu tf dg k w u = wu tf dg k w v := by
  unfold wu
  rw [h (u / 12 % 24) (by omega), h (v / 12 % 24) (by omega)]
theorem wl_one {tf : Nat → Nat} {dg : Nat → Int32} (h : ∀ j, j < 24 → dg j = dg 0) (k : Nat) (w : Int32) (u v : Nat) : ∀ n, wl tf dg k w u n = wl tf dg k w v n
  | 0 => rfl
  | n + 1 => by
    unfold wl
    rw [wl_one h k w u v n, wu_one h k _ (u + n) (v + n)]
theorem fwW_one {tf : Nat → Nat} {dg : Nat → Int32} (h : ∀ j, j < 24 → dg j = dg 0) (rc : sq) (u v : Nat) : ∀ k, fwW tf dg rc u k = fwW tf dg rc v k
  | 0 => rfl
  | k + 1 => by
    unfold fwW tkw
    rw [fwW_one h rc u v k, wl_one h _ _ (fwU rc u k) (fwU rc v k)]
theorem stWell_one {tf : Nat → Nat} {dg : Nat → Int32} (h : ∀ j, j < 24 → dg j = dg 0) (rc : sq) (u v : Nat) (hw : stWell tf dg rc u) : stWell tf dg rc v := by
  intro k hk
  have := hw k hk
  unfold fwB fwR tkr tkw at *
  rw [fwW_one h rc v u k, wl_one h _ _ (fwU rc v k) (fwU rc u k)]
  exact this
theorem bl_up2_idem {α : Type} (f : Nat → Nat → α) (a k : Nat) (v : α) : bl_up2 (bl_up2 f a k v) a k v = bl_up2 f a k v := by
  funext x j
  unfold bl_up2
  split <;> rfl
section BUTTER3
variable {G : bl_G} {l : Launch} {d q a p : Nat} {I : Nat → Nat → Int32} {J : Nat → Nat → Int64} {R : Nat → Nat → Option Nat} {K N : Nat → Nat} {tf : Nat → Nat} {dg : Nat → Int32}
theorem c_Butter_staysWell {rc : sq} {u0 : Nat} {x : Int32} (kq : K q = 2) (ha : kiS R K N a) (hC : kiC I a tf dg) (hp : rcS R K N p) (hrc : rcC I p rc) (hx : x = nI u0) (hu : u0 < 288) (hqa : q ≠ a ∧ q ≠ a + 1 ∧ q ≠ a + 3) (hqp : q ≠ p ∧ q ≠ p + 1 ∧ q ≠ p + 2) : bl_MC G l (d + 2) mX1_staysWell [.ref q, .ref a, .ref p, .int x] (I, J, R, K, N) (0, 0) (fun o σ' => (∃ w, o = .inl (some (.int w)) ∧ ((w = 1 ∧ stWell tf dg rc u0) ∨ (w = 0 ∧ ¬ stWell tf dg rc u0))) ∧ ∃ I', σ' = (I', J, bl_up2 R q 0 (some a), K, N) ∧ ∀ y, y ≠ q → I' y = I y) := by
  have hrc20 := hrc.2.1
  have ha1 : kiS (bl_up2 R q 0 (some a)) K N a := ha.up hqa.1
  have hp1 : rcS (bl_up2 R q 0 (some a)) K N p := hp.up hqp.1
  have hra : (bl_up2 R q 0 (some a)) q 0 = some a := bl_up2_at
  have hst : ∀ k, k < rc.1 → rc.2.1 k ≤ 7 ∧ rc.2.2 k ≤ 36 := fun k hk => (hrc.2.2 k (by omega)).2.2
  have kp := hp.1
  have hFU : ∀ k, k ≤ rc.1 → fwU rc u0 k ≤ u0 + 36 * k ∧ u0 ≤ fwU rc u0 k := fun k hk => fwU_le (fun j hj => (hst j (by omega)).2)
  subst hx
  refine bl_MC_intro (by decide +kernel) rfl (Nat.le_of_ble_eq_true rfl) ?_
  generalize hR1 : bl_up2 R q 0 (some a) = R1 at *
  obtain ⟨kp', rp_0, rp_1, kpk, npk, kpn, npn⟩ := hp1
  have L : ∀ k, k ≤ rc.1 → ∀ z I1, z = nI k → (∀ y, y ≠ q → I1 y = I y) → (∀ j, j < k → fwB tf dg rc u0 j = false ∧ fwR tf dg rc u0 j = false) → I1 q 1 = nI (fwU rc u0 k) → I1 q 2 = fwW tf dg rc u0 k → bl_WP G l (d + 2) mX1_staysWell 9 [(4, .int z), (0, .ref q), (1, .ref a), (2, .ref p), (3, .int (nI u0))] [] (I1, J, R1, K, N) (0, 0) (fun o σ' => (∃ w, o = .inl (some (.int w)) ∧ ((w = 1 ∧ stWell tf dg rc u0) ∨ (w = 0 ∧ ¬ stWell tf dg rc u0))) ∧ ∃ I', σ' = (I', J, R1, K, N) ∧ ∀ y, y ≠ q → I' y = I y) := by
    refine bl_for rc.1 ?_ (fun k hk ih => ?_)
    · intro z I1 hz f1 f2 f6 f7; subst hz
      have z3 : I1 p 2 = nI rc.1 := by rw [f1 _ (by omega)]; exact hrc.1
      refine bl_go oX1_staysWell 80 [9] rfl ?_
      refine ⟨kp, fun h15 => ?_, fun h15 => ?_⟩
      · try simp (disch := omega) only [z3, zI_n, zI_o, zI_lit, zI_neg, zI_add, zI_sub, zI_mul, zI_lt, zI_le, zI_eq, zI_clamp, zI_in, zI_div, zI_rem, lg_lt0, lg_gt0, lg_eq0, lg_le0, lg_ge0, Int.toNat_natCast, ge_iff_le, gt_iff_lt, List.length_cons, List.length_nil, bl_up2_at, bl_up2_nk, bl_up2_nx] at h15
        refine ⟨(fun _ => by first | exact Or.inl rfl | exact Or.inr rfl), ?_⟩
        try show _ ∧ _
        try dsimp only [bl_pv]
        exact ⟨⟨_, rfl, Or.inl ⟨rfl, f2⟩⟩, _, rfl, f1⟩
      · try simp (disch := omega) only [z3, zI_n, zI_o, zI_lit, zI_neg, zI_add, zI_sub, zI_mul, zI_lt, zI_le, zI_eq, zI_clamp, zI_in, zI_div, zI_rem, lg_lt0, lg_gt0, lg_eq0, lg_le0, lg_ge0, Int.toNat_natCast, ge_iff_le, gt_iff_lt, List.length_cons, List.length_nil, bl_up2_at, bl_up2_nk, bl_up2_nx] at h15
        exfalso; omega
    · intro z I1 hz f1 f2 f6 f7; subst hz
      have z3 : I1 p 2 = nI rc.1 := by rw [f1 _ (by omega)]; exact hrc.1
      have ec : (nI k).toNatClampNeg = k := nI_clamp (by omega)
      obtain ⟨s1, s2⟩ := hst k hk
      have un := st_un_le (k := rc.2.1 k) s2
      have hU := hFU k (by omega)
      have hC1 : kiC I1 a tf dg := ⟨fun j hj => by rw [f1 _ (by omega)]; exact hC.1 j hj, fun j hj => by rw [f1 _ (by omega)]; exact hC.2 j hj⟩
      have hrc1 : rcC I1 p rc := by
        refine ⟨?_, hrc.2.1, fun j hj => ?_⟩
        · rw [f1 _ (by omega)]; exact hrc.1
        · rw [f1 (p + 1) (by omega), f1 (p + 2) (by omega)]; exact hrc.2.2 j hj
      refine bl_go oX1_staysWell 80 [9] rfl ?_
      refine ⟨kp, fun h15 => ?_, fun h15 => ?_⟩
      · try simp (disch := omega) only [z3, zI_n, zI_o, zI_lit, zI_neg, zI_add, zI_sub, zI_mul, zI_lt, zI_le, zI_eq, zI_clamp, zI_in, zI_div, zI_rem, lg_lt0, lg_gt0, lg_eq0, lg_le0, lg_ge0, Int.toNat_natCast, ge_iff_le, gt_iff_lt, List.length_cons, List.length_nil, bl_up2_at, bl_up2_nk, bl_up2_nx] at h15
        exfalso; omega
      · try simp (disch := omega) only [z3, zI_n, zI_o, zI_lit, zI_neg, zI_add, zI_sub, zI_mul, zI_lt, zI_le, zI_eq, zI_clamp, zI_in, zI_div, zI_rem, lg_lt0, lg_gt0, lg_eq0, lg_le0, lg_ge0, Int.toNat_natCast, ge_iff_le, gt_iff_lt, List.length_cons, List.length_nil, bl_up2_at, bl_up2_nk, bl_up2_nx] at h15
        refine ⟨fun h22 => ?_, fun h22 => ?_⟩
        · try simp (disch := omega) only [z3, zI_n, zI_o, zI_lit, zI_neg, zI_add, zI_sub, zI_mul, zI_lt, zI_le, zI_eq, zI_clamp, zI_in, zI_div, zI_rem, lg_lt0, lg_gt0, lg_eq0, lg_le0, lg_ge0, Int.toNat_natCast, ge_iff_le, gt_iff_lt, List.length_cons, List.length_nil, bl_up2_at, bl_up2_nk, bl_up2_nx] at h22
          exfalso; omega
        · try simp (disch := omega) only [z3, zI_n, zI_o, zI_lit, zI_neg, zI_add, zI_sub, zI_mul, zI_lt, zI_le, zI_eq, zI_clamp, zI_in, zI_div, zI_rem, lg_lt0, lg_gt0, lg_eq0, lg_le0, lg_ge0, Int.toNat_natCast, ge_iff_le, gt_iff_lt, List.length_cons, List.length_nil, bl_up2_at, bl_up2_nk, bl_up2_nx] at h22
          refine ⟨kp, _, bl_vs rp_0, Or.inl ⟨kpk, (by first | exact (by rw [npk]; exact vp_in_nI (by omega) (by omega)) | ((try dsimp only [bl_pv]); show vp_in _ (N _); rw [npk]; simp (disch := omega) only [z3, zI_n, zI_o, zI_lit, zI_neg, zI_add, zI_sub, zI_mul, zI_lt, zI_le, zI_eq, zI_clamp, zI_in, zI_div, zI_rem, lg_lt0, lg_gt0, lg_eq0, lg_le0, lg_ge0, Int.toNat_natCast, ge_iff_le, gt_iff_lt, List.length_cons, List.length_nil, bl_up2_at, bl_up2_nk, bl_up2_nx] <;> omega)), rfl, rfl, kp, (Nat.le_of_ble_eq_true rfl), (0, 0), Nat.le_refl _, Nat.le_refl _, bl_MC_mono (c_Recipe_unitsOf (d := d + 1) ⟨kp, rp_0, rp_1, kpk, npk, kpn, npn⟩ hrc1 (k := k) (by omega)) (fun o36 σ36 q36 => ?_)⟩⟩
          try dsimp only [bl_pv] at q36
          obtain ⟨rfl, rfl⟩ := q36
          refine bl_go oX1_staysWell 80 [9] rfl ?_
          refine ⟨rfl, rfl, kq, (Nat.le_of_ble_eq_true rfl), (0, 0), Nat.le_refl _, Nat.le_refl _, bl_MC_mono (c_Butter_take (d := d) (k := rc.2.1 k) (n := st_un (rc.2.1 k) (rc.2.2 k)) (u := fwU rc u0 k) kq hra ha1 hC1 hqa (by rw [ec]; exact (hrc1.2.2 k (by omega)).1) rfl s1 un (by omega) f6 f7) (fun o39 σ39 q39 => ?_)⟩
          try dsimp only [bl_pv] at q39
          obtain ⟨rfl, I2, rfl, t1, t2, t3, t4, t5⟩ := q39
          have t4' : I2 q 3 = bI (fwB tf dg rc u0 k) := t4
          have t5' : I2 q 4 = bI (fwR tf dg rc u0 k) := t5
          refine bl_go oX1_staysWell 80 [9] rfl ?_
          refine ⟨kq, fun h46 => ?_, fun h46 => ?_⟩
          · try simp (disch := omega) only [bl_pv, cl0, cl1, cl2, cl3, cl4, cl5, cl6, cl7, cl8, cl9, bl_up2_at, bl_up2_nk, bl_up2_nx] at h46
            refine ⟨(fun _ => by first | exact Or.inl rfl | exact Or.inr rfl), ?_⟩
            try show _ ∧ _
            try dsimp only [bl_pv]
            refine ⟨⟨_, rfl, Or.inr ⟨rfl, fun hw => ?_⟩⟩, _, rfl, fun y hy => (t1 y hy).trans (f1 y hy)⟩
            have := hw k hk
            first
            | exact h46 (by rw [t4', this.1]; rfl)
            | exact h53 (by rw [t5', this.2]; rfl)
          · try simp (disch := omega) only [bl_pv, cl0, cl1, cl2, cl3, cl4, cl5, cl6, cl7, cl8, cl9, bl_up2_at, bl_up2_nk, bl_up2_nx] at h46
            refine ⟨kq, fun h53 => ?_, fun h53 => ?_⟩
            · try simp (disch := omega) only [bl_pv, cl0, cl1, cl2, cl3, cl4, cl5, cl6, cl7, cl8, cl9, bl_up2_at, bl_up2_nk, bl_up2_nx] at h53
              try dsimp only [bl_pv]
              refine ih _ _ (nI_1 _) (fun y hy => (t1 y hy).trans (f1 y hy)) (fun j hj => ?_) t2 t3
              by_cases e : j = k
              · subst e
                exact ⟨bI_0.mp (t4'.symm.trans h46), bI_0.mp (t5'.symm.trans h53)⟩
              · exact f2 j (by omega)
            · try simp (disch := omega) only [bl_pv, cl0, cl1, cl2, cl3, cl4, cl5, cl6, cl7, cl8, cl9, bl_up2_at, bl_up2_nk, bl_up2_nx] at h53
              refine ⟨(fun _ => by first | exact Or.inl rfl | exact Or.inr rfl), ?_⟩
              try show _ ∧ _
              try dsimp only [bl_pv]
              refine ⟨⟨_, rfl, Or.inr ⟨rfl, fun hw => ?_⟩⟩, _, rfl, fun y hy => (t1 y hy).trans (f1 y hy)⟩
              have := hw k hk
              first
              | exact h46 (by rw [t4', this.1]; rfl)
              | exact h53 (by rw [t5', this.2]; rfl)
  refine bl_go oX1_staysWell 80 [9] rfl ?_
  refine ⟨rfl, rfl, kq, (Nat.le_of_ble_eq_true rfl), (0, 0), Nat.le_refl _, Nat.le_refl _, bl_MC_mono (c_Butter_start (d := d + 1) kq ha hC hqa rfl) (fun o3 σ3 q3 => ?_)⟩
  try dsimp only [bl_pv] at q3
  obtain ⟨rfl, I2, rfl, t1, t2, t3⟩ := q3
  rw [hR1]
  refine bl_go oX1_staysWell 80 [9] rfl ?_
  try dsimp only [bl_pv]
  exact L 0 (by omega) _ _ rfl t1 (fun j hj => absurd hj (by omega)) t2 t3
theorem c_Butter_latestStart {rc : sq} (kq : K q = 2) (ha : kiS R K N a) (hC : kiC I a tf dg) (hp : rcS R K N p) (hrc : rcC I p rc) (hqa : q ≠ a ∧ q ≠ a + 1 ∧ q ≠ a + 3) (hqp : q ≠ p ∧ q ≠ p + 1 ∧ q ≠ p + 2) : bl_MC G l (d + 3) mX1_latestStart [.ref q, .ref a, .ref p] (I, J, R, K, N) (0, 0) (fun o σ' => (∃ w, o = .inl (some (.int w)) ∧ isLatest tf dg rc w) ∧ ∃ I', σ' = (I', J, bl_up2 R q 0 (some a), K, N) ∧ ∀ y, y ≠ q → I' y = I y) := by
  have ha1 : kiS (bl_up2 R q 0 (some a)) K N a := ha.up hqa.1
  have hp1 : rcS (bl_up2 R q 0 (some a)) K N p := hp.up hqp.1
  have hid := bl_up2_idem R q 0 (some a)
  have ka := ha.2.1
  have L : ∀ e0 : Nat, e0 ≤ 287 → (e0 = 0 ∨ (e0 = 287 ∧ ∀ u v, stWell tf dg rc u → stWell tf dg rc v)) → ∀ j : Nat, j ≤ 288 - e0 → ∀ x I1 R', x = zI (287 - (j : Int)) → (∀ y, y ≠ q → I1 y = I y) → kiS R' K N a → rcS R' K N p → bl_up2 R' q 0 (some a) = bl_up2 R q 0 (some a) → (0 < j → R' = bl_up2 R q 0 (some a)) → (∀ w, 287 < w + j → w ≤ 287 → ¬ stWell tf dg rc w) → bl_WP G l (d + 3) mX1_latestStart 20 [(4, .int x), (3, .int (nI e0)), (0, .ref q), (1, .ref a), (2, .ref p)] [] (I1, J, R', K, N) (0, 0) (fun o σ' => (∃ w, o = .inl (some (.int w)) ∧ isLatest tf dg rc w) ∧ ∃ I', σ' = (I', J, bl_up2 R q 0 (some a), K, N) ∧ ∀ y, y ≠ q → I' y = I y) := by
    intro e0 he0 hone
    refine bl_for (288 - e0) ?_ (fun j hj ih => ?_)
    · intro x I1 R' hx f1 hk hp hu hu2 hw; subst hx
      refine bl_go oX1_latestStart 80 [20] rfl ?_
      refine ⟨fun h23 => ?_, fun h23 => ?_⟩
      · try simp (disch := omega) only [zI_n, zI_o, zI_lit, zI_neg, zI_add, zI_sub, zI_mul, zI_lt, zI_le, zI_eq, zI_clamp, zI_in, zI_div, zI_rem, lg_lt0, lg_gt0, lg_eq0, lg_le0, lg_ge0, Int.toNat_natCast, ge_iff_le, gt_iff_lt, List.length_cons, List.length_nil, bl_up2_at, bl_up2_nk, bl_up2_nx] at h23
        refine ⟨(fun h => by cases h), ?_⟩
        try show _ ∧ _
        try dsimp only [bl_pv]
        refine ⟨⟨_, rfl, Or.inr ⟨rfl, fun w hw' => ?_⟩⟩, I1, by rw [hu2 (by omega)], f1⟩
        rcases hone with h | ⟨h, h'⟩
        · exact hw w (by omega) hw'
        · exact fun hs => hw 287 (by omega) (by omega) (h' w 287 hs)
      · try simp (disch := omega) only [zI_n, zI_o, zI_lit, zI_neg, zI_add, zI_sub, zI_mul, zI_lt, zI_le, zI_eq, zI_clamp, zI_in, zI_div, zI_rem, lg_lt0, lg_gt0, lg_eq0, lg_le0, lg_ge0, Int.toNat_natCast, ge_iff_le, gt_iff_lt, List.length_cons, List.length_nil, bl_up2_at, bl_up2_nk, bl_up2_nx] at h23
        exfalso; omega
    · intro x I1 R' hx f1 hk hp hu hu2 hw; subst hx
      have hC1 : kiC I1 a tf dg := ⟨fun j hj => by rw [f1 _ (by omega)]; exact hC.1 j hj, fun j hj => by rw [f1 _ (by omega)]; exact hC.2 j hj⟩
      have hrc1 : rcC I1 p rc := by
        refine ⟨?_, hrc.2.1, fun j hj => ?_⟩
        · rw [f1 _ (by omega)]; exact hrc.1
        · rw [f1 (p + 1) (by omega), f1 (p + 2) (by omega)]; exact hrc.2.2 j hj
      have ex : zI (287 - (j : Int)) = nI (287 - j) := by rw [zI_n]; congr 1; omega
      refine bl_go oX1_latestStart 80 [20] rfl ?_
      refine ⟨fun h23 => ?_, fun h23 => ?_⟩
      · try simp (disch := omega) only [zI_n, zI_o, zI_lit, zI_neg, zI_add, zI_sub, zI_mul, zI_lt, zI_le, zI_eq, zI_clamp, zI_in, zI_div, zI_rem, lg_lt0, lg_gt0, lg_eq0, lg_le0, lg_ge0, Int.toNat_natCast, ge_iff_le, gt_iff_lt, List.length_cons, List.length_nil, bl_up2_at, bl_up2_nk, bl_up2_nx] at h23
        exfalso; omega
      · try simp (disch := omega) only [zI_n, zI_o, zI_lit, zI_neg, zI_add, zI_sub, zI_mul, zI_lt, zI_le, zI_eq, zI_clamp, zI_in, zI_div, zI_rem, lg_lt0, lg_gt0, lg_eq0, lg_le0, lg_ge0, Int.toNat_natCast, ge_iff_le, gt_iff_lt, List.length_cons, List.length_nil, bl_up2_at, bl_up2_nk, bl_up2_nx] at h23
        refine ⟨rfl, rfl, kq, (Nat.le_of_ble_eq_true rfl), (0, 0), Nat.le_refl _, Nat.le_refl _, bl_MC_mono (c_Butter_staysWell (d := d) kq hk hC1 hp hrc1 (u0 := 287 - j) ex (by omega) hqa hqp) (fun o31 σ31 q31 => ?_)⟩
        try dsimp only [bl_pv] at q31
        obtain ⟨⟨w, rfl, hww⟩, I2, rfl, t1⟩ := q31
        rw [hu]
        refine bl_go oX1_latestStart 80 [20] rfl ?_
        refine ⟨fun h34 => ?_, fun h34 => ?_⟩
        · try simp (disch := omega) only [bl_pv, cl0, cl1, cl2, cl3, cl4, cl5, cl6, cl7, cl8, cl9, bl_up2_at, bl_up2_nk, bl_up2_nx] at h34
          try dsimp only [bl_pv]
          have hnw : ¬ stWell tf dg rc (287 - j) := by
            rcases hww with ⟨h1, h2⟩ | ⟨h1, h2⟩
            · exact absurd (h1.symm.trans h34) (by decide)
            · exact h2
          refine ih _ _ _ (by first | with_reducible rfl | ((try dsimp only [bl_pv]); simp (disch := omega) only [zI_n, zI_o, zI_lit, zI_neg, zI_add, zI_sub, zI_mul, zI_lt, zI_le, zI_eq, zI_clamp, zI_in, zI_div, zI_rem, lg_lt0, lg_gt0, lg_eq0, lg_le0, lg_ge0, Int.toNat_natCast, ge_iff_le, gt_iff_lt, List.length_cons, List.length_nil, bl_up2_at, bl_up2_nk, bl_up2_nx] <;> omega)) (fun y hy => (t1 y hy).trans (f1 y hy)) ha1 hp1 hid (fun _ => rfl) (fun w h1 h2 => ?_)
          by_cases e : w = 287 - j
          · rw [e]; exact hnw
          · exact hw w (by omega) h2
        · try simp (disch := omega) only [bl_pv, cl0, cl1, cl2, cl3, cl4, cl5, cl6, cl7, cl8, cl9, bl_up2_at, bl_up2_nk, bl_up2_nx] at h34
          refine ⟨(fun h => by cases h), ?_⟩
          try show _ ∧ _
          try dsimp only [bl_pv]
          have hwl : stWell tf dg rc (287 - j) := by
            rcases hww with ⟨h1, h2⟩ | ⟨h1, h2⟩
            · exact h2
            · exact absurd h1 h34
          refine ⟨⟨_, rfl, Or.inl ⟨287 - j, by omega, ex, hwl, fun w h1 h2 => hw w (by omega) h2⟩⟩, _, rfl, fun y hy => (t1 y hy).trans (f1 y hy)⟩
  refine bl_MC_intro (by decide +kernel) rfl (Nat.le_of_ble_eq_true rfl) ?_
  refine bl_go oX1_latestStart 80 [20] rfl ?_
  refine ⟨rfl, rfl, ka, (Nat.le_of_ble_eq_true rfl), (0, 0), Nat.le_refl _, Nat.le_refl _, bl_MC_mono (c_Kitchen_hasOneRoom (d := d + 2) ka ha.2.2.2.2.1 ha.2.2.2.2.2.2.2.1 ha.2.2.2.2.2.2.2.2) (fun o1 σ1 q1 => ?_)⟩
  try dsimp only [bl_pv] at q1
  obtain ⟨⟨w, rfl, w1, w2, w3⟩, rfl⟩ := q1
  refine bl_go oX1_latestStart 80 [20] rfl ?_
  refine ⟨fun h4 => ?_, fun h4 => ?_⟩
  · try simp (disch := omega) only [bl_pv, cl0, cl1, cl2, cl3, cl4, cl5, cl6, cl7, cl8, cl9, bl_up2_at, bl_up2_nk, bl_up2_nx] at h4
    try dsimp only [bl_pv]
    first
    | exact L 0 (by omega) (Or.inl rfl) 0 (by omega) _ _ _ rfl (fun _ _ => rfl) ha hp rfl (fun h => absurd h (by omega)) (fun w h1 h2 => absurd h1 (by omega))
    | (refine L 287 (by omega) (Or.inr ⟨rfl, fun u v => stWell_one ?_ rc u v⟩) 0 (by omega) _ _ _ rfl (fun _ _ => rfl) ha hp rfl (fun h => absurd h (by omega)) (fun w h1 h2 => absurd h1 (by omega))
       intro h hh
       have := w1 (by rcases w3 with e | e; · exact absurd e h4
                      · exact e) h hh
       rw [← hC.2 h hh, ← hC.2 0 (by omega)]; exact this)
  · try simp (disch := omega) only [bl_pv, cl0, cl1, cl2, cl3, cl4, cl5, cl6, cl7, cl8, cl9, bl_up2_at, bl_up2_nk, bl_up2_nx] at h4
    try dsimp only [bl_pv]
    first
    | exact L 0 (by omega) (Or.inl rfl) 0 (by omega) _ _ _ rfl (fun _ _ => rfl) ha hp rfl (fun h => absurd h (by omega)) (fun w h1 h2 => absurd h1 (by omega))
    | (refine L 287 (by omega) (Or.inr ⟨rfl, fun u v => stWell_one ?_ rc u v⟩) 0 (by omega) _ _ _ rfl (fun _ _ => rfl) ha hp rfl (fun h => absurd h (by omega)) (fun w h1 h2 => absurd h1 (by omega))
       intro h hh
       have := w1 (by rcases w3 with e | e; · exact absurd e h4
                      · exact e) h hh
       rw [← hC.2 h hh, ← hC.2 0 (by omega)]; exact this)
end BUTTER3
