/-! ===== the model's constructor ===== -/
section MINJ
variable {G : bl_G} {l : Launch} {d m : Nat} {s : bl_Mem}
theorem mIn.r1 {s1 : bl_Mem} {L : List mEn} {k kd n : Nat} (h : mIn s s1 m L) (he : mR1 m k kd n ∈ L) : mdA s1.2.2.1 s1.2.2.2.1 s1.2.2.2.2 m k kd n ∧ ∀ j, s1.1 (m + k) j = 0 := by
  obtain ⟨c1, c2, s0, ⟨c3, c4, c5⟩, c6, c7⟩ := h.2.2.2 _ he
  obtain ⟨e1, e2, e3, e4, e5⟩ := c7 (m + k) (fun q => q rfl)
  exact ⟨⟨c1, e4.trans c3, e5.trans c4⟩, fun j => by rw [e1]; exact c5 j⟩
theorem mIn.r2 {s1 : bl_Mem} {L : List mEn} {k b n len : Nat} (h : mIn s s1 m L) (he : mR2 m k b n len ∈ L) : mdA s1.2.2.1 s1.2.2.2.1 s1.2.2.2.2 m k 25 n ∧ mdB s1.2.2.1 s1.2.2.2.1 s1.2.2.2.2 m k b n len := by
  obtain ⟨c1, c2, s0, ⟨c3, c4, c5⟩, c6, c7⟩ := h.2.2.2 _ he
  obtain ⟨e1, e2, e3, e4, e5⟩ := c7 (m + k) (fun q => q (Or.inl rfl))
  refine ⟨⟨c1, e4.trans c3, e5.trans c4⟩, fun i hi => ?_⟩
  obtain ⟨f1, f2, f3⟩ := c5 i hi
  obtain ⟨g1, g2, g3, g4, g5⟩ := c7 (m + b + i) (fun q => q (Or.inr ⟨by omega, by omega⟩))
  exact ⟨by rw [e3]; exact f1, g4.trans f2, g5.trans f3⟩
theorem mIn.r3 {s1 : bl_Mem} {L : List mEn} (h : mIn s s1 m L) (he : mR3 m ∈ L) : mdA s1.2.2.1 s1.2.2.2.1 s1.2.2.2.2 m 43 26 121 ∧ (∀ u, u < 121 → s1.2.2.1 (m + 43) u = some (m + 200 + u) ∧ s1.2.2.2.1 (m + 200 + u) = 25 ∧ s1.2.2.2.2 (m + 200 + u) = 403) ∧ ∀ u w, u < 121 → w < 403 → s1.2.2.1 (m + 200 + u) w = some (m + 1000 + u * 403 + w) ∧ s1.2.2.2.1 (m + 1000 + u * 403 + w) = 20 ∧ s1.2.2.2.2 (m + 1000 + u * 403 + w) = 32 := by
  obtain ⟨c1, c2, s0, ⟨⟨c3, c4⟩, c5, c5'⟩, c6, c7⟩ := h.2.2.2 _ he
  obtain ⟨e1, e2, e3, e4, e5⟩ := c7 (m + 43) (fun q => q (Or.inl rfl))
  have g : ∀ u, u < 121 → _ := fun u hu => c7 (m + 200 + u) (fun q => q (Or.inr (Or.inl ⟨by omega, by omega⟩)))
  refine ⟨⟨c1, e4.trans c3, e5.trans c4⟩, fun u hu => ?_, fun u w hu hw => ?_⟩
  · obtain ⟨f1, f2, f3⟩ := c5 u hu
    obtain ⟨g1, g2, g3, g4, g5⟩ := g u hu
    exact ⟨by rw [e3]; exact f1, g4.trans f2, g5.trans f3⟩
  · obtain ⟨f1, f2, f3⟩ := c5' u w hu hw
    obtain ⟨g1, g2, g3, g4, g5⟩ := g u hu
    have hb : u * 403 + w < 48763 := by omega
    obtain ⟨i1, i2, i3, i4, i5⟩ := c7 (m + 1000 + u * 403 + w) (fun q => q (Or.inr (Or.inr ⟨by omega, by omega⟩)))
    exact ⟨by rw [g3]; exact f1, i4.trans f2, i5.trans f3⟩
theorem mIn.mdS {s1 : bl_Mem} (h : mIn s s1 m (mL289 m)) (hm : 6000 ≤ m) : mdS s1.2.2.1 s1.2.2.2.1 s1.2.2.2.2 m := by
  exact ⟨hm, h.2.1, (h.r1 (k := 8) (kd := 20) (n := 400) (by simp [mL289])).1, (h.r1 (k := 9) (kd := 20) (n := 9) (by simp [mL289])).1, (h.r1 (k := 10) (kd := 20) (n := 9) (by simp [mL289])).1, (h.r1 (k := 11) (kd := 20) (n := 24) (by simp [mL289])).1, (h.r1 (k := 12) (kd := 20) (n := 24) (by simp [mL289])).1, (h.r1 (k := 16) (kd := 20) (n := 4) (by simp [mL289])).1, (h.r1 (k := 17) (kd := 20) (n := 40) (by simp [mL289])).1, (h.r2 (k := 18) (b := 100) (n := 4) (len := 40) (by simp [mL289])).1, (h.r2 (k := 19) (b := 110) (n := 3) (len := 2) (by simp [mL289])).1, (h.r1 (k := 31) (kd := 21) (n := 2304) (by simp [mL289])).1, (h.r1 (k := 32) (kd := 21) (n := 2304) (by simp [mL289])).1, (h.r1 (k := 33) (kd := 21) (n := 2304) (by simp [mL289])).1, (h.r1 (k := 34) (kd := 21) (n := 2304) (by simp [mL289])).1, (h.r1 (k := 35) (kd := 21) (n := 2304) (by simp [mL289])).1, (h.r1 (k := 36) (kd := 21) (n := 2304) (by simp [mL289])).1, (h.r1 (k := 37) (kd := 20) (n := 2304) (by simp [mL289])).1, (h.r1 (k := 38) (kd := 20) (n := 2304) (by simp [mL289])).1, (h.r1 (k := 39) (kd := 20) (n := 2304) (by simp [mL289])).1, (h.r1 (k := 40) (kd := 20) (n := 2304) (by simp [mL289])).1, (h.r1 (k := 41) (kd := 21) (n := 2) (by simp [mL289])).1, (h.r1 (k := 42) (kd := 20) (n := 48) (by simp [mL289])).1, (h.r3 (by simp [mL289])).1, (h.r1 (k := 44) (kd := 20) (n := 32) (by simp [mL289])).1, (h.r2 (k := 51) (b := 120) (n := 4) (len := 20) (by simp [mL289])).1, (h.r2 (k := 52) (b := 130) (n := 4) (len := 21) (by simp [mL289])).1, (h.r1 (k := 53) (kd := 20) (n := 4) (by simp [mL289])).1, (h.r1 (k := 54) (kd := 20) (n := 4) (by simp [mL289])).1, (h.r1 (k := 55) (kd := 20) (n := 4) (by simp [mL289])).1, (h.r1 (k := 56) (kd := 20) (n := 12) (by simp [mL289])).1, (h.r1 (k := 57) (kd := 20) (n := 12) (by simp [mL289])).1, (h.r1 (k := 58) (kd := 20) (n := 12) (by simp [mL289])).1, (h.r1 (k := 59) (kd := 20) (n := 12) (by simp [mL289])).1, (h.r2 (k := 18) (b := 100) (n := 4) (len := 40) (by simp [mL289])).2, (h.r2 (k := 19) (b := 110) (n := 3) (len := 2) (by simp [mL289])).2, (h.r2 (k := 51) (b := 120) (n := 4) (len := 20) (by simp [mL289])).2, (h.r2 (k := 52) (b := 130) (n := 4) (len := 21) (by simp [mL289])).2, (h.r3 (by simp [mL289])).2.1, (h.r3 (by simp [mL289])).2.2⟩
theorem c_Model_init (hm : 6000 ≤ m) (ho : s.2.2.2.1 m = 12) (hi : ∀ j, s.1 m j = 0) (hf : ∀ y, m < y → y < m + 49763 → s.2.2.2.1 y = 0) : bl_MC G l (d + 1) mX11_init [.ref m] s (48931, 1633337) (fun r s' => r = .inl none ∧ mdS s'.2.2.1 s'.2.2.2.1 s'.2.2.2.2 m ∧ mdK s'.1 m cS0.1 ∧ (s'.1 m 1 = 0 ∧ s'.1 m 3 = zI (-1) ∧ s'.1 m 15 = 0 ∧ ∀ j, s'.1 (m + 8) j = 0) ∧ eqF s s' (fun y => m ≤ y ∧ y < m + 49763)) := by
  refine bl_MC_intro (by decide +kernel) rfl (Nat.le_of_ble_eq_true rfl) ?_
  have E289 : ∀ s1, mIn (bl_pv s m 3 (.int (zI (-1)))) s1 m (mL289 m) → bl_WP G l (d + 1) mX11_init 289 [(0, .ref m)] [] s1 (0, 0) (fun r s' => r = .inl none ∧ mdS s'.2.2.1 s'.2.2.2.1 s'.2.2.2.2 m ∧ mdK s'.1 m cS0.1 ∧ (s'.1 m 1 = 0 ∧ s'.1 m 3 = zI (-1) ∧ s'.1 m 15 = 0 ∧ ∀ j, s'.1 (m + 8) j = 0) ∧ eqF s s' (fun y => m ≤ y ∧ y < m + 49763)) := by
    intro s1 h
    have hS := h.mdS hm
    have e8 := (h.r1 (k := 8) (kd := 20) (n := 400) (by simp [mL289])).2
    have hm3 : s1.1 m 3 = zI (-1) := by rw [h.2.2.1]; show bl_up2 s.1 m 3 (zI (-1)) m 3 = _; rw [bl_up2_at]
    have hmj : ∀ j, j ≠ 3 → s1.1 m j = 0 := fun j hj => by rw [h.2.2.1]; show bl_up2 s.1 m 3 (zI (-1)) m j = _; rw [bl_up2_nk hj]; exact hi j
    have hE : eqF s s1 (fun y => m ≤ y ∧ y < m + 49763) := (eqF_pv.mono (fun y hy => by omega)).trans (h.1.mono (fun y hy => by
      rcases hy with e | ⟨e, he, q⟩
      · omega
      · simp [mL289] at he
        rcases he with rfl | rfl | rfl | rfl | rfl | rfl | rfl | rfl | rfl | rfl | rfl | rfl | rfl | rfl | rfl | rfl | rfl | rfl | rfl | rfl | rfl | rfl | rfl | rfl | rfl | rfl | rfl | rfl | rfl | rfl | rfl | rfl <;> simp [mR1, mR2, mR3] at q <;> omega))
    obtain ⟨I, J, R, K, N⟩ := s1
    dsimp only at hS e8 hm3 hmj
    have kmm := hS.2.1
    obtain ⟨rm_9, km9, nm9⟩ := hS.2.2.2.1
    obtain ⟨rm_10, km10, nm10⟩ := hS.2.2.2.2.1
    obtain ⟨rm_12, km12, nm12⟩ := hS.2.2.2.2.2.2.1
    have km := kmm
    have L321 : ∀ i, i ≤ 24 → ∀ x I1, x = nI i → (∀ y, y ≠ m + 9 → y ≠ m + 10 → y ≠ m + 11 → y ≠ m + 12 → I1 y = I y) → (∀ k, k < 9 → I1 (m + 10) k = km_un k) → (∀ k, k < i → I1 (m + 12) k = zI (-1)) → bl_WP G l (d + 1) mX11_init 321 [(1, .int x), (0, .ref m)] [] (I1, J, R, K, N) (0, 0) (fun r s' => r = .inl none ∧ mdS s'.2.2.1 s'.2.2.2.1 s'.2.2.2.2 m ∧ mdK s'.1 m cS0.1 ∧ (s'.1 m 1 = 0 ∧ s'.1 m 3 = zI (-1) ∧ s'.1 m 15 = 0 ∧ ∀ j, s'.1 (m + 8) j = 0) ∧ eqF s s' (fun y => m ≤ y ∧ y < m + 49763)) := by
      refine bl_for 24 ?_ (fun i hi ih => ?_)
      · intro x I1 hx f1 f2 f3; subst hx
        refine bl_go oX11_init 80 [289, 295, 321] rfl ?_
        refine ⟨fun h324 => ?_, fun h324 => ?_⟩
        · try simp (disch := omega) only [zI_n, zI_o, zI_lit, zI_neg, zI_add, zI_sub, zI_mul, zI_lt, zI_le, zI_eq, zI_clamp, zI_in, zI_div, zI_rem, lg_lt0, lg_gt0, lg_eq0, lg_le0, lg_ge0, Int.toNat_natCast, ge_iff_le, gt_iff_lt, List.length_cons, List.length_nil, bl_up2_at, bl_up2_nk, bl_up2_nx] at h324
          first
          | (exfalso; first | omega | exact h324 trivial)
          | (refine ⟨km, _, bl_vs rm_10, Or.inl ⟨km10, (by first | exact (by rw [nm10]; exact vp_in_nI (by omega) (by omega)) | ((try dsimp only [bl_pv]); show vp_in _ (N _); rw [nm10]; simp (disch := omega) only [zI_n, zI_o, zI_lit, zI_neg, zI_add, zI_sub, zI_mul, zI_lt, zI_le, zI_eq, zI_clamp, zI_in, zI_div, zI_rem, lg_lt0, lg_gt0, lg_eq0, lg_le0, lg_ge0, Int.toNat_natCast, ge_iff_le, gt_iff_lt, List.length_cons, List.length_nil, bl_up2_at, bl_up2_nk, bl_up2_nx] <;> omega)), km, Or.inr (Or.inr ⟨rfl, rfl, _, rfl⟩), (fun h => by cases h), ?_⟩⟩
             try show _ ∧ _
             try dsimp only [bl_pv]
             have hv : 12 * I1 (m + 10) 8 = 72 := by rw [f2 8 (by omega)]; decide
             rw [cl8, hv]
             refine ⟨rfl, hS, ?_, ?_, ?_⟩
             · refine ⟨⟨fun k hk => ?_, fun h hh => ?_⟩, g0K_all.2.1, ⟨?_, Nat.zero_le _, fun r hr => absurd hr (Nat.not_lt_zero _)⟩, ?_, show 72 < 288 by omega⟩
               · rw [bl_up2_nx (by omega), f2 k hk]; exact g0K_all.1 k hk
               · rw [bl_up2_ne (by omega), rm_deg_congr (g := fun _ => zI (-1)) f3 hh]; exact g0K_all.2.2.2.2 h hh
               · rw [bl_up2_nk (by omega), f1 m (by omega) (by omega) (by omega) (by omega)]; exact hmj 13 (by omega)
               · rw [bl_up2_at]; rfl
             · rw [bl_up2_nk (by omega), bl_up2_nk (by omega), bl_up2_nk (by omega), f1 m (by omega) (by omega) (by omega) (by omega)]
               refine ⟨hmj 1 (by omega), hm3, hmj 15 (by omega), fun j => ?_⟩
               rw [bl_up2_nx (by omega), f1 (m + 8) (by omega) (by omega) (by omega) (by omega)]; exact e8 j
             · intro y hy
               obtain ⟨z1, z2, z3, z4, z5⟩ := hE y hy
               have hy' : ¬ (m ≤ y ∧ y < m + 49763) := hy
               exact ⟨by dsimp only; rw [bl_up2_ne (by omega), f1 y (by omega) (by omega) (by omega) (by omega)]; exact z1, z2, z3, z4, z5⟩)
        · try simp (disch := omega) only [zI_n, zI_o, zI_lit, zI_neg, zI_add, zI_sub, zI_mul, zI_lt, zI_le, zI_eq, zI_clamp, zI_in, zI_div, zI_rem, lg_lt0, lg_gt0, lg_eq0, lg_le0, lg_ge0, Int.toNat_natCast, ge_iff_le, gt_iff_lt, List.length_cons, List.length_nil, bl_up2_at, bl_up2_nk, bl_up2_nx] at h324
          first
          | (exfalso; first | omega | exact h324 trivial)
          | (refine ⟨km, _, bl_vs rm_12, km12, (by first | exact (by rw [nm12]; exact vp_in_nI (by omega) (by omega)) | ((try dsimp only [bl_pv]); show vp_in _ (N _); rw [nm12]; simp (disch := omega) only [zI_n, zI_o, zI_lit, zI_neg, zI_add, zI_sub, zI_mul, zI_lt, zI_le, zI_eq, zI_clamp, zI_in, zI_div, zI_rem, lg_lt0, lg_gt0, lg_eq0, lg_le0, lg_ge0, Int.toNat_natCast, ge_iff_le, gt_iff_lt, List.length_cons, List.length_nil, bl_up2_at, bl_up2_nk, bl_up2_nx] <;> omega)), ?_⟩
             try dsimp only [bl_pv]
             fail /- w321 lv=[1, 0] -/)
      · intro x I1 hx f1 f2 f3; subst hx
        have eci : (nI i).toNatClampNeg = i := nI_clamp (by omega)
        refine bl_go oX11_init 80 [289, 295, 321] rfl ?_
        refine ⟨fun h324 => ?_, fun h324 => ?_⟩
        · try simp (disch := omega) only [zI_n, zI_o, zI_lit, zI_neg, zI_add, zI_sub, zI_mul, zI_lt, zI_le, zI_eq, zI_clamp, zI_in, zI_div, zI_rem, lg_lt0, lg_gt0, lg_eq0, lg_le0, lg_ge0, Int.toNat_natCast, ge_iff_le, gt_iff_lt, List.length_cons, List.length_nil, bl_up2_at, bl_up2_nk, bl_up2_nx] at h324
          first
          | (exfalso; first | omega | exact h324 trivial)
          | (refine ⟨km, _, bl_vs rm_10, Or.inl ⟨km10, (by first | exact (by rw [nm10]; exact vp_in_nI (by omega) (by omega)) | ((try dsimp only [bl_pv]); show vp_in _ (N _); rw [nm10]; simp (disch := omega) only [zI_n, zI_o, zI_lit, zI_neg, zI_add, zI_sub, zI_mul, zI_lt, zI_le, zI_eq, zI_clamp, zI_in, zI_div, zI_rem, lg_lt0, lg_gt0, lg_eq0, lg_le0, lg_ge0, Int.toNat_natCast, ge_iff_le, gt_iff_lt, List.length_cons, List.length_nil, bl_up2_at, bl_up2_nk, bl_up2_nx] <;> omega)), km, Or.inr (Or.inr ⟨rfl, rfl, _, rfl⟩), (fun h => by cases h), ?_⟩⟩
             try show _ ∧ _
             try dsimp only [bl_pv]
             fail /- ret354 -/)
        · try simp (disch := omega) only [zI_n, zI_o, zI_lit, zI_neg, zI_add, zI_sub, zI_mul, zI_lt, zI_le, zI_eq, zI_clamp, zI_in, zI_div, zI_rem, lg_lt0, lg_gt0, lg_eq0, lg_le0, lg_ge0, Int.toNat_natCast, ge_iff_le, gt_iff_lt, List.length_cons, List.length_nil, bl_up2_at, bl_up2_nk, bl_up2_nx] at h324
          first
          | (exfalso; first | omega | exact h324 trivial)
          | (refine ⟨km, _, bl_vs rm_12, km12, (by first | exact (by rw [nm12]; exact vp_in_nI (by omega) (by omega)) | ((try dsimp only [bl_pv]); show vp_in _ (N _); rw [nm12]; simp (disch := omega) only [zI_n, zI_o, zI_lit, zI_neg, zI_add, zI_sub, zI_mul, zI_lt, zI_le, zI_eq, zI_clamp, zI_in, zI_div, zI_rem, lg_lt0, lg_gt0, lg_eq0, lg_le0, lg_ge0, Int.toNat_natCast, ge_iff_le, gt_iff_lt, List.length_cons, List.length_nil, bl_up2_at, bl_up2_nk, bl_up2_nx] <;> omega)), ?_⟩
             try dsimp only [bl_pv]
             rw [eci]
             refine ih _ _ (nI_1 i) (fun y y1 y2 y3 y4 => ?_) (fun k hk => ?_) (fun k hk => ?_)
             · rw [bl_up2_ne y4]; exact f1 y y1 y2 y3 y4
             · rw [bl_up2_nx (by omega)]; exact f2 k hk
             · by_cases e : k = i
               · subst e; rw [bl_up2_at]; rfl
               · rw [bl_up2_nk e]; exact f3 k (by omega))
    have L295 : ∀ i, i ≤ 9 → ∀ x I1, x = nI i → (∀ y, y ≠ m + 9 → y ≠ m + 10 → y ≠ m + 11 → I1 y = I y) → (∀ k, k < 9 → I1 (m + 9) k = km_un k) → (∀ k, k < i → I1 (m + 10) k = km_un k) → bl_WP G l (d + 1) mX11_init 295 [(1, .int x), (0, .ref m)] [] (I1, J, R, K, N) (0, 0) (fun r s' => r = .inl none ∧ mdS s'.2.2.1 s'.2.2.2.1 s'.2.2.2.2 m ∧ mdK s'.1 m cS0.1 ∧ (s'.1 m 1 = 0 ∧ s'.1 m 3 = zI (-1) ∧ s'.1 m 15 = 0 ∧ ∀ j, s'.1 (m + 8) j = 0) ∧ eqF s s' (fun y => m ≤ y ∧ y < m + 49763)) := by
      refine bl_for 9 ?_ (fun i hi ih => ?_)
      · intro x I1 hx f1 f2 f3; subst hx
        refine bl_go oX11_init 80 [289, 295, 321] rfl ?_
        refine ⟨fun h298 => ?_, fun h298 => ?_⟩
        · try simp (disch := omega) only [zI_n, zI_o, zI_lit, zI_neg, zI_add, zI_sub, zI_mul, zI_lt, zI_le, zI_eq, zI_clamp, zI_in, zI_div, zI_rem, lg_lt0, lg_gt0, lg_eq0, lg_le0, lg_ge0, Int.toNat_natCast, ge_iff_le, gt_iff_lt, List.length_cons, List.length_nil, bl_up2_at, bl_up2_nk, bl_up2_nx] at h298
          first
          | (exfalso; first | omega | exact h298 trivial)
          | (try dsimp only [bl_pv]
             exact L321 0 (by omega) _ I1 rfl (fun y y1 y2 y3 _ => f1 y y1 y2 y3) f3 (fun k hk => absurd hk (by omega)))
        · try simp (disch := omega) only [zI_n, zI_o, zI_lit, zI_neg, zI_add, zI_sub, zI_mul, zI_lt, zI_le, zI_eq, zI_clamp, zI_in, zI_div, zI_rem, lg_lt0, lg_gt0, lg_eq0, lg_le0, lg_ge0, Int.toNat_natCast, ge_iff_le, gt_iff_lt, List.length_cons, List.length_nil, bl_up2_at, bl_up2_nk, bl_up2_nx] at h298
          first
          | (exfalso; first | omega | exact h298 trivial)
          | (refine ⟨km, _, bl_vs rm_10, km, _, bl_vs rm_9, Or.inl ⟨km9, (by first | exact (by rw [nm9]; exact vp_in_nI (by omega) (by omega)) | ((try dsimp only [bl_pv]); show vp_in _ (N _); rw [nm9]; simp (disch := omega) only [zI_n, zI_o, zI_lit, zI_neg, zI_add, zI_sub, zI_mul, zI_lt, zI_le, zI_eq, zI_clamp, zI_in, zI_div, zI_rem, lg_lt0, lg_gt0, lg_eq0, lg_le0, lg_ge0, Int.toNat_natCast, ge_iff_le, gt_iff_lt, List.length_cons, List.length_nil, bl_up2_at, bl_up2_nk, bl_up2_nx] <;> omega)), km10, (by first | exact (by rw [nm10]; exact vp_in_nI (by omega) (by omega)) | ((try dsimp only [bl_pv]); show vp_in _ (N _); rw [nm10]; simp (disch := omega) only [zI_n, zI_o, zI_lit, zI_neg, zI_add, zI_sub, zI_mul, zI_lt, zI_le, zI_eq, zI_clamp, zI_in, zI_div, zI_rem, lg_lt0, lg_gt0, lg_eq0, lg_le0, lg_ge0, Int.toNat_natCast, ge_iff_le, gt_iff_lt, List.length_cons, List.length_nil, bl_up2_at, bl_up2_nk, bl_up2_nx] <;> omega)), ?_⟩⟩
             try dsimp only [bl_pv]
             fail /- w295 lv=[1, 0] -/)
      · intro x I1 hx f1 f2 f3; subst hx
        have eci : (nI i).toNatClampNeg = i := nI_clamp (by omega)
        refine bl_go oX11_init 80 [289, 295, 321] rfl ?_
        refine ⟨fun h298 => ?_, fun h298 => ?_⟩
        · try simp (disch := omega) only [zI_n, zI_o, zI_lit, zI_neg, zI_add, zI_sub, zI_mul, zI_lt, zI_le, zI_eq, zI_clamp, zI_in, zI_div, zI_rem, lg_lt0, lg_gt0, lg_eq0, lg_le0, lg_ge0, Int.toNat_natCast, ge_iff_le, gt_iff_lt, List.length_cons, List.length_nil, bl_up2_at, bl_up2_nk, bl_up2_nx] at h298
          first
          | (exfalso; first | omega | exact h298 trivial)
          | (try dsimp only [bl_pv]
             fail /- w321 lv=[1, 0] -/)
        · try simp (disch := omega) only [zI_n, zI_o, zI_lit, zI_neg, zI_add, zI_sub, zI_mul, zI_lt, zI_le, zI_eq, zI_clamp, zI_in, zI_div, zI_rem, lg_lt0, lg_gt0, lg_eq0, lg_le0, lg_ge0, Int.toNat_natCast, ge_iff_le, gt_iff_lt, List.length_cons, List.length_nil, bl_up2_at, bl_up2_nk, bl_up2_nx] at h298
          first
          | (exfalso; first | omega | exact h298 trivial)
          | (refine ⟨km, _, bl_vs rm_10, km, _, bl_vs rm_9, Or.inl ⟨km9, (by first | exact (by rw [nm9]; exact vp_in_nI (by omega) (by omega)) | ((try dsimp only [bl_pv]); show vp_in _ (N _); rw [nm9]; simp (disch := omega) only [zI_n, zI_o, zI_lit, zI_neg, zI_add, zI_sub, zI_mul, zI_lt, zI_le, zI_eq, zI_clamp, zI_in, zI_div, zI_rem, lg_lt0, lg_gt0, lg_eq0, lg_le0, lg_ge0, Int.toNat_natCast, ge_iff_le, gt_iff_lt, List.length_cons, List.length_nil, bl_up2_at, bl_up2_nk, bl_up2_nx] <;> omega)), km10, (by first | exact (by rw [nm10]; exact vp_in_nI (by omega) (by omega)) | ((try dsimp only [bl_pv]); show vp_in _ (N _); rw [nm10]; simp (disch := omega) only [zI_n, zI_o, zI_lit, zI_neg, zI_add, zI_sub, zI_mul, zI_lt, zI_le, zI_eq, zI_clamp, zI_in, zI_div, zI_rem, lg_lt0, lg_gt0, lg_eq0, lg_le0, lg_ge0, Int.toNat_natCast, ge_iff_le, gt_iff_lt, List.length_cons, List.length_nil, bl_up2_at, bl_up2_nk, bl_up2_nx] <;> omega)), ?_⟩⟩
             try dsimp only [bl_pv]
             rw [eci]
             refine ih _ _ (nI_1 i) (fun y y1 y2 y3 => ?_) (fun k hk => ?_) (fun k hk => ?_)
             · rw [bl_up2_ne y2]; exact f1 y y1 y2 y3
             · rw [bl_up2_nx (by omega)]; exact f2 k hk
             · by_cases e : k = i
               · subst e; rw [bl_up2_at]; exact f2 k (by omega)
               · rw [bl_up2_nk e]; exact f3 k (by omega))
    refine bl_go oX11_init 80 [289, 295, 321] rfl ?_
    refine ⟨rfl, rfl, km, (Nat.le_of_ble_eq_true rfl), (0, 0), Nat.le_of_ble_eq_true rfl, Nat.le_of_ble_eq_true rfl, bl_MC_mono (c_Model_tellsNothing (d := d) hS) (fun o290 σ290 q290 => ?_)⟩
    try dsimp only [bl_pv] at q290
    obtain ⟨rfl, I1, rfl, g1, g2, g3⟩ := q290
    refine bl_go oX11_init 80 [289, 295, 321] rfl ?_
    try dsimp only [bl_pv]
    exact L295 0 (by omega) _ I1 rfl (fun y y1 _ y3 => g1 y y1 y3) g2 (fun k hk => absurd hk (by omega))
  refine bl_go oX11_init 80 [9] rfl ?_
  refine ⟨(Nat.le_of_ble_eq_true rfl), ho, Or.inr (Or.inr ⟨rfl, rfl, _, rfl⟩), (fun h => by cases h), ?_⟩
  refine mini_9 (s := bl_pv s m 3 (.int (zI (-1)))) (fun y y1 y2 => hf y y1 y2) E289 _ ⟨fun _ _ => ⟨rfl, rfl, rfl, rfl, rfl⟩, ho, rfl, fun e he => absurd he List.not_mem_nil⟩
end MINJ
