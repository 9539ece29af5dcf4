/-! ===== ButterLeaves: begin, images, runs forgotten ===== -/
abbrev xLn : List String := [bl_NSE]
theorem i32_287 {x : Int32} (h : x < 288) : x ≤ 287 := by
  rw [Int32.lt_iff_toInt_lt] at h; rw [Int32.le_iff_toInt_le]
  have e1 : (288 : Int32).toInt = 288 := by decide
  have e2 : (287 : Int32).toInt = 287 := by decide
  omega
/-- the rows of runs and the ways, made or not -/
def rwS (R : Nat → Nat → Option Nat) (K N : Nat → Nat) : Prop := K 100 = 11 ∧ R 100 2 = some 121 ∧ (K 121 = 23 ∧ N 121 = 4) ∧ (∀ r, r < 4 → R 121 r = none ∨ (R 121 r = some (400 + 10 * r) ∧ K (400 + 10 * r) = 6)) ∧ (R 100 10 = none ∨ (R 100 10 = some 200 ∧ K 200 = 4))
/-- begun anew at x, the runs below n reached -/
def bgF (I I' : Nat → Nat → Int32) (R : Nat → Nat → Option Nat) (x : Int32) (n : Nat) : Prop := I' 100 13 = x ∧ (∀ j, j ≠ 13 → I' 100 j = I 100 j) ∧ (∀ r, r < n → R 121 r = some (400 + 10 * r) → I' (400 + 10 * r) 8 = 0) ∧ (∀ r, r < 4 → ∀ j, j ≠ 8 → I' (400 + 10 * r) j = I (400 + 10 * r) j) ∧ (∀ j, j ≠ 11 → I' 200 j = I 200 j) ∧ ∀ y, y ≠ 100 → y ≠ 200 → (∀ r, r < 4 → y ≠ 400 + 10 * r) → I' y = I y
/-- runs below n forgotten -/
def fgF (I I' : Nat → Nat → Int32) (R : Nat → Nat → Option Nat) (n : Nat) : Prop := (∀ r, r < n → R 121 r = some (400 + 10 * r) → I' (400 + 10 * r) 7 = 0 ∧ I' (400 + 10 * r) 8 = 0 ∧ I' (400 + 10 * r) 9 = 0) ∧ ∀ y, (∀ r, r < 4 → y ≠ 400 + 10 * r) → I' y = I y
theorem rwS.of {s : bl_Mem} (a : clA s) (c : clR s) (w : clW s) : rwS s.2.2.1 s.2.2.2.1 s.2.2.2.2 := by
  obtain ⟨kx, ⟨rx_0, rx_1, rx_2, rx_3, rx_4, rx_5, rx_6, rx_7⟩, ⟨kxr, nxr⟩, ⟨kxn, nxn⟩, kxb, ⟨kxi, nxi⟩, ⟨kxj, nxj⟩⟩ := a
  refine ⟨kx, rx_2, ⟨kxn, nxn⟩, fun r hr => ?_, ?_⟩
  · rcases c r hr with ⟨_, b, _, d⟩ | ⟨_, b, _⟩
    · exact Or.inr ⟨d, b.2.1⟩
    · exact Or.inl b
  · rcases w with ⟨b, _⟩ | ⟨b, e⟩
    · exact Or.inl b
    · exact Or.inr ⟨b, e.2.1⟩
section CLS7
variable {G : bl_G} {l : Launch} {d : Nat} {I I' : Nat → Nat → Int32} {J J' : Nat → Nat → Int64} {R : Nat → Nat → Option Nat} {K N : Nat → Nat} {S : cS} {h : Nat} {x y w a b : Int32}
theorem c_BL_forgetRuns (hs : rwS R K N) : bl_MC G l (d + 1) mX10_forgetRuns [.ref 100] (I, J, R, K, N) (0, 0) (fun o s' => o = .inl none ∧ ∃ I', s' = (I', J, R, K, N) ∧ fgF I I' R 4) := by
  obtain ⟨kx, rx_2, ⟨kxn, nxn⟩, hru, hwa⟩ := hs
  refine bl_MC_intro (by decide +kernel) rfl (Nat.le_of_ble_eq_true rfl) ?_
  have L2 : ∀ i, i ≤ 4 → ∀ I1 z, z = nI i → fgF I I1 R i → bl_WP G l (d + 1) mX10_forgetRuns 2 [(1, .int z), (0, .ref 100)] [] (I1, J, R, K, N) (0, 0) (fun o s' => o = .inl none ∧ ∃ I', s' = (I', J, R, K, N) ∧ fgF I I' R 4) := by
    refine bl_for 4 ?_ (fun i hi ih => ?_)
    · intro I1 z hz f1; subst hz
      refine bl_go oX10_forgetRuns 80 [2] rfl ?_
      refine ⟨fun h4 => ?_, fun h4 => ?_⟩
      · try simp (disch := omega) only [zI_n, zI_o, zI_lit, zI_neg, zI_add, zI_sub, zI_mul, zI_lt, zI_le, zI_eq, zI_clamp, zI_in, zI_div, zI_rem, lg_lt0, lg_gt0, lg_eq0, lg_le0, lg_ge0, Int.toNat_natCast, ge_iff_le, gt_iff_lt, List.length_cons, List.length_nil, bl_up2_at, bl_up2_nk, bl_up2_nx] at h4
        try show _ ∧ _
        try dsimp only [bl_pv]
        exact ⟨rfl, I1, rfl, f1⟩
      · try simp (disch := omega) only [zI_n, zI_o, zI_lit, zI_neg, zI_add, zI_sub, zI_mul, zI_lt, zI_le, zI_eq, zI_clamp, zI_in, zI_div, zI_rem, lg_lt0, lg_gt0, lg_eq0, lg_le0, lg_ge0, Int.toNat_natCast, ge_iff_le, gt_iff_lt, List.length_cons, List.length_nil, bl_up2_at, bl_up2_nk, bl_up2_nx] at h4
        exfalso; first | omega | exact h4 trivial
    · intro I1 z hz f1; subst hz
      have eci : (nI i).toNatClampNeg = i := nI_clamp (by omega)
      rcases hru i hi with e | ⟨e, krq⟩
      · skip
        refine bl_go oX10_forgetRuns 80 [2] rfl ?_
        refine ⟨fun h4 => ?_, fun h4 => ?_⟩
        · try simp (disch := omega) only [zI_n, zI_o, zI_lit, zI_neg, zI_add, zI_sub, zI_mul, zI_lt, zI_le, zI_eq, zI_clamp, zI_in, zI_div, zI_rem, lg_lt0, lg_gt0, lg_eq0, lg_le0, lg_ge0, Int.toNat_natCast, ge_iff_le, gt_iff_lt, List.length_cons, List.length_nil, bl_up2_at, bl_up2_nk, bl_up2_nx] at h4
          exfalso; first | omega | exact h4 trivial
        · try simp (disch := omega) only [zI_n, zI_o, zI_lit, zI_neg, zI_add, zI_sub, zI_mul, zI_lt, zI_le, zI_eq, zI_clamp, zI_in, zI_div, zI_rem, lg_lt0, lg_gt0, lg_eq0, lg_le0, lg_ge0, Int.toNat_natCast, ge_iff_le, gt_iff_lt, List.length_cons, List.length_nil, bl_up2_at, bl_up2_nk, bl_up2_nx] at h4
          refine ⟨kx, _, bl_vs rx_2, bl_ka kxn, (by first | exact (by rw [nxn]; exact vp_in_nI (by omega) (by omega)) | ((try dsimp only [bl_pv]); show vp_in _ (N _); rw [nxn]; simp (disch := omega) only [zI_n, zI_o, zI_lit, zI_neg, zI_add, zI_sub, zI_mul, zI_lt, zI_le, zI_eq, zI_clamp, zI_in, zI_div, zI_rem, lg_lt0, lg_gt0, lg_eq0, lg_le0, lg_ge0, Int.toNat_natCast, ge_iff_le, gt_iff_lt, List.length_cons, List.length_nil, bl_up2_at, bl_up2_nk, bl_up2_nx] <;> omega)), _, bl_v0 (by dsimp only; rw [eci]; exact e), ?_⟩
          try dsimp only [bl_pv]
          exact ih _ _ (nI_1 _) ⟨fun r hr hq => by
            by_cases er : r = i
            · subst er; rw [e] at hq; cases hq
            · exact f1.1 r (by omega) hq, f1.2⟩
      · skip
        refine bl_go oX10_forgetRuns 80 [2] rfl ?_
        refine ⟨fun h4 => ?_, fun h4 => ?_⟩
        · try simp (disch := omega) only [zI_n, zI_o, zI_lit, zI_neg, zI_add, zI_sub, zI_mul, zI_lt, zI_le, zI_eq, zI_clamp, zI_in, zI_div, zI_rem, lg_lt0, lg_gt0, lg_eq0, lg_le0, lg_ge0, Int.toNat_natCast, ge_iff_le, gt_iff_lt, List.length_cons, List.length_nil, bl_up2_at, bl_up2_nk, bl_up2_nx] at h4
          exfalso; first | omega | exact h4 trivial
        · try simp (disch := omega) only [zI_n, zI_o, zI_lit, zI_neg, zI_add, zI_sub, zI_mul, zI_lt, zI_le, zI_eq, zI_clamp, zI_in, zI_div, zI_rem, lg_lt0, lg_gt0, lg_eq0, lg_le0, lg_ge0, Int.toNat_natCast, ge_iff_le, gt_iff_lt, List.length_cons, List.length_nil, bl_up2_at, bl_up2_nk, bl_up2_nx] at h4
          refine ⟨kx, _, bl_vs rx_2, bl_ka kxn, (by first | exact (by rw [nxn]; exact vp_in_nI (by omega) (by omega)) | ((try dsimp only [bl_pv]); show vp_in _ (N _); rw [nxn]; simp (disch := omega) only [zI_n, zI_o, zI_lit, zI_neg, zI_add, zI_sub, zI_mul, zI_lt, zI_le, zI_eq, zI_clamp, zI_in, zI_div, zI_rem, lg_lt0, lg_gt0, lg_eq0, lg_le0, lg_ge0, Int.toNat_natCast, ge_iff_le, gt_iff_lt, List.length_cons, List.length_nil, bl_up2_at, bl_up2_nk, bl_up2_nx] <;> omega)), _, bl_vs (by dsimp only; rw [eci]; exact e), kx, _, bl_vs rx_2, bl_ka kxn, (by first | exact (by rw [nxn]; exact vp_in_nI (by omega) (by omega)) | ((try dsimp only [bl_pv]); show vp_in _ (N _); rw [nxn]; simp (disch := omega) only [zI_n, zI_o, zI_lit, zI_neg, zI_add, zI_sub, zI_mul, zI_lt, zI_le, zI_eq, zI_clamp, zI_in, zI_div, zI_rem, lg_lt0, lg_gt0, lg_eq0, lg_le0, lg_ge0, Int.toNat_natCast, ge_iff_le, gt_iff_lt, List.length_cons, List.length_nil, bl_up2_at, bl_up2_nk, bl_up2_nx] <;> omega)), _, bl_vs (by dsimp only; rw [eci]; exact e), rfl, rfl, krq, (Nat.le_of_ble_eq_true rfl), (0, 0), Nat.le_of_ble_eq_true rfl, Nat.le_of_ble_eq_true rfl, bl_MC_mono (c_Run_forget (d := d) krq) (fun o22 σ22 q22 => ?_)⟩
          try dsimp only [bl_pv] at q22
          obtain ⟨rfl, rfl⟩ := q22
          refine bl_go oX10_forgetRuns 80 [2] rfl ?_
          try dsimp only [bl_pv]
          refine ih _ _ (nI_1 _) ⟨fun r hr hq => ?_, fun y hy => ?_⟩
          · by_cases er : r = i
            · subst er
              simp (disch := omega) only [bl_up2_at, bl_up2_nk, bl_up2_nx, and_self]
            · have := f1.1 r (by omega) hq
              simp (disch := omega) only [bl_up2_nx]
              exact this
          · have := hy i hi
            rw [bl_up2_ne this, bl_up2_ne this, bl_up2_ne this]; exact f1.2 y hy
  refine bl_go oX10_forgetRuns 80 [2] rfl ?_
  try dsimp only [bl_pv]
  exact L2 0 (by omega) I _ rfl ⟨fun r hr => absurd hr (by omega), fun _ _ => rfl⟩
theorem c_BL_beginWith (hs : rwS R K N) : bl_MC G l d mX10_beginWith [.ref 100, .int x] (I, J, R, K, N) (0, 0) (fun o s' => o = .inl none ∧ ∃ I', s' = (I', J, R, K, N) ∧ bgF I I' R x 4 ∧ (R 100 10 = some 200 → I' 200 11 = 0)) := by
  obtain ⟨kx, rx_2, ⟨kxn, nxn⟩, hru, hwa⟩ := hs
  refine bl_MC_intro (by decide +kernel) rfl (Nat.le_of_ble_eq_true rfl) ?_
  have L7 : ∀ i, i ≤ 4 → ∀ I1 z, z = nI i → bgF I I1 R x i → bl_WP G l d mX10_beginWith 7 [(2, .int z), (0, .ref 100), (1, .int x)] [] (I1, J, R, K, N) (0, 0) (fun o s' => o = .inl none ∧ ∃ I', s' = (I', J, R, K, N) ∧ bgF I I' R x 4 ∧ (R 100 10 = some 200 → I' 200 11 = 0)) := by
    refine bl_for 4 ?_ (fun i hi ih => ?_)
    · intro I1 z hz f1; subst hz
      rcases hwa with rx_10 | ⟨rx_10, kxw⟩
      · skip
        refine bl_go oX10_beginWith 80 [7] rfl ?_
        refine ⟨fun h9 => ?_, fun h9 => ?_⟩
        · try simp (disch := omega) only [zI_n, zI_o, zI_lit, zI_neg, zI_add, zI_sub, zI_mul, zI_lt, zI_le, zI_eq, zI_clamp, zI_in, zI_div, zI_rem, lg_lt0, lg_gt0, lg_eq0, lg_le0, lg_ge0, Int.toNat_natCast, ge_iff_le, gt_iff_lt, List.length_cons, List.length_nil, bl_up2_at, bl_up2_nk, bl_up2_nx] at h9
          refine ⟨kx, _, bl_v0 rx_10, ?_⟩
          try show _ ∧ _
          try dsimp only [bl_pv]
          exact ⟨rfl, I1, rfl, f1, fun h => by rw [rx_10] at h; cases h⟩
        · try simp (disch := omega) only [zI_n, zI_o, zI_lit, zI_neg, zI_add, zI_sub, zI_mul, zI_lt, zI_le, zI_eq, zI_clamp, zI_in, zI_div, zI_rem, lg_lt0, lg_gt0, lg_eq0, lg_le0, lg_ge0, Int.toNat_natCast, ge_iff_le, gt_iff_lt, List.length_cons, List.length_nil, bl_up2_at, bl_up2_nk, bl_up2_nx] at h9
          exfalso; first | omega | exact h9 trivial
      · skip
        refine bl_go oX10_beginWith 80 [7] rfl ?_
        refine ⟨fun h9 => ?_, fun h9 => ?_⟩
        · try simp (disch := omega) only [zI_n, zI_o, zI_lit, zI_neg, zI_add, zI_sub, zI_mul, zI_lt, zI_le, zI_eq, zI_clamp, zI_in, zI_div, zI_rem, lg_lt0, lg_gt0, lg_eq0, lg_le0, lg_ge0, Int.toNat_natCast, ge_iff_le, gt_iff_lt, List.length_cons, List.length_nil, bl_up2_at, bl_up2_nk, bl_up2_nx] at h9
          refine ⟨kx, _, bl_vs rx_10, kx, _, bl_vs rx_10, kxw, Or.inr (Or.inr ⟨rfl, rfl, _, rfl⟩), (fun _ => by first | exact Or.inl rfl | exact Or.inr rfl), ?_⟩
          try show _ ∧ _
          try dsimp only [bl_pv]
          refine ⟨rfl, _, rfl, ?_, fun _ => bl_up2_at⟩
          obtain ⟨a1, a2, a3, a4, a5, a6⟩ := f1
          refine ⟨?_, fun j hj => ?_, fun r hr hq => ?_, fun r hr j hj => ?_, fun j hj => ?_, fun y y1 y2 y3 => ?_⟩
          · rw [bl_up2_nx (by omega)]; exact a1
          · rw [bl_up2_nx (by omega)]; exact a2 j hj
          · rw [bl_up2_nx (by omega)]; exact a3 r hr hq
          · rw [bl_up2_nx (by omega)]; exact a4 r hr j hj
          · rw [bl_up2_nk hj]; exact a5 j hj
          · rw [bl_up2_ne y2]; exact a6 y y1 y2 y3
        · try simp (disch := omega) only [zI_n, zI_o, zI_lit, zI_neg, zI_add, zI_sub, zI_mul, zI_lt, zI_le, zI_eq, zI_clamp, zI_in, zI_div, zI_rem, lg_lt0, lg_gt0, lg_eq0, lg_le0, lg_ge0, Int.toNat_natCast, ge_iff_le, gt_iff_lt, List.length_cons, List.length_nil, bl_up2_at, bl_up2_nk, bl_up2_nx] at h9
          exfalso; first | omega | exact h9 trivial
    · intro I1 z hz f1; subst hz
      have eci : (nI i).toNatClampNeg = i := nI_clamp (by omega)
      obtain ⟨a1, a2, a3, a4, a5, a6⟩ := f1
      rcases hru i hi with e | ⟨e, krq⟩
      · skip
        refine bl_go oX10_beginWith 80 [7] rfl ?_
        refine ⟨fun h9 => ?_, fun h9 => ?_⟩
        · try simp (disch := omega) only [zI_n, zI_o, zI_lit, zI_neg, zI_add, zI_sub, zI_mul, zI_lt, zI_le, zI_eq, zI_clamp, zI_in, zI_div, zI_rem, lg_lt0, lg_gt0, lg_eq0, lg_le0, lg_ge0, Int.toNat_natCast, ge_iff_le, gt_iff_lt, List.length_cons, List.length_nil, bl_up2_at, bl_up2_nk, bl_up2_nx] at h9
          exfalso; first | omega | exact h9 trivial
        · try simp (disch := omega) only [zI_n, zI_o, zI_lit, zI_neg, zI_add, zI_sub, zI_mul, zI_lt, zI_le, zI_eq, zI_clamp, zI_in, zI_div, zI_rem, lg_lt0, lg_gt0, lg_eq0, lg_le0, lg_ge0, Int.toNat_natCast, ge_iff_le, gt_iff_lt, List.length_cons, List.length_nil, bl_up2_at, bl_up2_nk, bl_up2_nx] at h9
          refine ⟨kx, _, bl_vs rx_2, bl_ka kxn, (by first | exact (by rw [nxn]; exact vp_in_nI (by omega) (by omega)) | ((try dsimp only [bl_pv]); show vp_in _ (N _); rw [nxn]; simp (disch := omega) only [zI_n, zI_o, zI_lit, zI_neg, zI_add, zI_sub, zI_mul, zI_lt, zI_le, zI_eq, zI_clamp, zI_in, zI_div, zI_rem, lg_lt0, lg_gt0, lg_eq0, lg_le0, lg_ge0, Int.toNat_natCast, ge_iff_le, gt_iff_lt, List.length_cons, List.length_nil, bl_up2_at, bl_up2_nk, bl_up2_nx] <;> omega)), _, bl_v0 (by dsimp only; rw [eci]; exact e), ?_⟩
          try dsimp only [bl_pv]
          exact ih _ _ (nI_1 _) ⟨a1, a2, fun r hr hq => by
            by_cases er : r = i
            · subst er; rw [e] at hq; cases hq
            · exact a3 r (by omega) hq, a4, a5, a6⟩
      · skip
        refine bl_go oX10_beginWith 80 [7] rfl ?_
        refine ⟨fun h9 => ?_, fun h9 => ?_⟩
        · try simp (disch := omega) only [zI_n, zI_o, zI_lit, zI_neg, zI_add, zI_sub, zI_mul, zI_lt, zI_le, zI_eq, zI_clamp, zI_in, zI_div, zI_rem, lg_lt0, lg_gt0, lg_eq0, lg_le0, lg_ge0, Int.toNat_natCast, ge_iff_le, gt_iff_lt, List.length_cons, List.length_nil, bl_up2_at, bl_up2_nk, bl_up2_nx] at h9
          exfalso; first | omega | exact h9 trivial
        · try simp (disch := omega) only [zI_n, zI_o, zI_lit, zI_neg, zI_add, zI_sub, zI_mul, zI_lt, zI_le, zI_eq, zI_clamp, zI_in, zI_div, zI_rem, lg_lt0, lg_gt0, lg_eq0, lg_le0, lg_ge0, Int.toNat_natCast, ge_iff_le, gt_iff_lt, List.length_cons, List.length_nil, bl_up2_at, bl_up2_nk, bl_up2_nx] at h9
          refine ⟨kx, _, bl_vs rx_2, bl_ka kxn, (by first | exact (by rw [nxn]; exact vp_in_nI (by omega) (by omega)) | ((try dsimp only [bl_pv]); show vp_in _ (N _); rw [nxn]; simp (disch := omega) only [zI_n, zI_o, zI_lit, zI_neg, zI_add, zI_sub, zI_mul, zI_lt, zI_le, zI_eq, zI_clamp, zI_in, zI_div, zI_rem, lg_lt0, lg_gt0, lg_eq0, lg_le0, lg_ge0, Int.toNat_natCast, ge_iff_le, gt_iff_lt, List.length_cons, List.length_nil, bl_up2_at, bl_up2_nk, bl_up2_nx] <;> omega)), _, bl_vs (by dsimp only; rw [eci]; exact e), kx, _, bl_vs rx_2, bl_ka kxn, (by first | exact (by rw [nxn]; exact vp_in_nI (by omega) (by omega)) | ((try dsimp only [bl_pv]); show vp_in _ (N _); rw [nxn]; simp (disch := omega) only [zI_n, zI_o, zI_lit, zI_neg, zI_add, zI_sub, zI_mul, zI_lt, zI_le, zI_eq, zI_clamp, zI_in, zI_div, zI_rem, lg_lt0, lg_gt0, lg_eq0, lg_le0, lg_ge0, Int.toNat_natCast, ge_iff_le, gt_iff_lt, List.length_cons, List.length_nil, bl_up2_at, bl_up2_nk, bl_up2_nx] <;> omega)), _, bl_vs (by dsimp only; rw [eci]; exact e), krq, Or.inr (Or.inr ⟨rfl, rfl, _, rfl⟩), (fun _ => by first | exact Or.inl rfl | exact Or.inr rfl), ?_⟩
          try dsimp only [bl_pv]
          refine ih _ _ (nI_1 _) ⟨?_, fun j hj => ?_, fun r hr hq => ?_, fun r hr j hj => ?_, fun j hj => ?_, fun y y1 y2 y3 => ?_⟩
          · rw [bl_up2_nx (by omega)]; exact a1
          · rw [bl_up2_nx (by omega)]; exact a2 j hj
          · by_cases er : r = i
            · subst er; rw [bl_up2_at]
            · rw [bl_up2_nx (by omega)]; exact a3 r (by omega) hq
          · rw [bl_up2_nk hj]; exact a4 r hr j hj
          · rw [bl_up2_nx (by omega)]; exact a5 j hj
          · rw [bl_up2_ne (y3 i hi)]; exact a6 y y1 y2 y3
  refine bl_go oX10_beginWith 80 [7] rfl ?_
  refine ⟨kx, Or.inr (Or.inr ⟨rfl, rfl, _, rfl⟩), (fun h => by cases h), ?_⟩
  try dsimp only [bl_pv]
  refine L7 0 (by omega) _ _ rfl ⟨bl_up2_at, fun j hj => bl_up2_nk hj, fun r hr => absurd hr (by omega), fun r hr j hj => bl_up2_nx (by omega), fun j hj => bl_up2_nx (by omega), fun y y1 y2 y3 => bl_up2_ne y1⟩
/-- with another beginning, and not more recipes -/
def bgS (A : aS) (c u : Nat) : aS := (A.1, A.2.1, c, A.2.2.2.1, u)
theorem rnO.begin {A : aS} {r c u : Nat} (hr : rnO I J A r) (hr4 : r < 4) (h8 : I' (400 + 10 * r) 8 = 0) (h0 : ∀ j, j ≠ 8 → I' (400 + 10 * r) j = I (400 + 10 * r) j) (hy : ∀ y, 1000 ≤ y → I' y = I y) : rnO I' J (bgS A c u) r := by
  obtain ⟨a1, a2, a3⟩ := hr
  refine ⟨?_, Or.inl h8, ?_⟩
  · rw [h0 7 (by omega), h0 3 (by omega)]
    rcases a1 with a | ⟨a, b, e⟩
    · exact Or.inl a
    · exact Or.inr ⟨a, b, fun k hk => (e k hk).nm (fun y hn => ⟨hy y (by unfold slN at hn; omega), rfl⟩)⟩
  · rw [h0 9 (by omega), h0 6 (by omega)]; exact a3
theorem clI.begin {c u k : Nat} {im : Nat → Nat × Nat} {I2 : Nat → Nat → Int32} (hI : clI (I, J, R, K, N) S h) (hO : csO S) (hc : c ≤ S.1.2.2.1) (hk : k ≤ 3) (h2 : ∀ y, y ≠ 100 → y ≠ 150 → y ≠ 170 → y ≠ 171 → I2 y = I y) (h11 : I2 100 11 = nI c) (h12 : I2 100 12 = nI k) (him : ∀ i, i < k → I2 170 i = nI (im i).1 ∧ I2 171 i = nI (im i).2) (h18 : I2 150 18 = 0 ∨ (c = S.1.2.2.1 ∧ I2 150 = I 150)) (hb : bgF I2 I' R (nI u) 4) (hw : R 100 10 = some 200 → I' 200 11 = 0) : clI (I', J, R, K, N) (bgS S.1 c u, S.2.1, S.2.2.1, S.2.2.2.1, S.2.2.2.2.1, k, im) h := by
  obtain ⟨a1, a2, a3, a4, a5, a6, a7, a8, a9, a10⟩ := hI
  obtain ⟨b1, b2, b3, b4, b5, b6⟩ := hb
  have hc4 := hO.2.2.1
  have hh := a2.1
  have hs : ∀ y, y ≠ 100 → y ≠ 200 → (∀ r, r < 4 → y ≠ 400 + 10 * r) → y ≠ 150 → y ≠ 170 → y ≠ 171 → I' y = I y := fun y y1 y2 y3 y4 y5 y6 => (b6 y y1 y2 y3).trans (h2 y y1 y4 y5 y6)
  refine ⟨a1, a2, a3, a4, ?_, ?_, ?_, fun r hr => ?_, ?_, fun hq => ?_⟩
  · unfold clT; dsimp only; rw [hs 110 (by omega) (by omega) (by omega) (by omega) (by omega) (by omega), hs 111 (by omega) (by omega) (by omega) (by omega) (by omega) (by omega)]; exact a5
  · exact kiC.nm a6 (hs _ (by omega) (by omega) (by omega) (by omega) (by omega) (by omega)) (hs _ (by omega) (by omega) (by omega) (by omega) (by omega) (by omega))
  · unfold clN; dsimp only
    rw [b2 11 (by omega), b2 12 (by omega), b1, b6 170 (by omega) (by omega) (by omega), b6 171 (by omega) (by omega) (by omega)]
    exact ⟨h11, h12, rfl, him⟩
  · have hr' : r < c := hr
    obtain ⟨c1, c2, c3⟩ := a8 r (by omega)
    refine ⟨c1, c2.nm (hs _ (by omega) (by omega) (by omega) (by omega) (by omega) (by omega)) (hs _ (by omega) (by omega) (by omega) (by omega) (by omega) (by omega)) (hs _ (by omega) (by omega) (by omega) (by omega) (by omega) (by omega)), ?_⟩
    refine rnO.begin c3 (by omega) (b3 r (by omega) c1.2.2.2) (fun j hj => ?_) (fun y hy => hs y (by omega) (by omega) (by omega) (by omega) (by omega) (by omega))
    show I' _ j = I _ j
    rw [b4 r (by omega) j hj, h2 _ (by omega) (by omega) (by omega) (by omega)]
  · unfold clB; dsimp only; rw [b6 150 (by omega) (by omega) (by omega)]
    rcases h18 with e | ⟨e, e'⟩
    · exact Or.inl e
    · rw [e']
      rcases a9 with q | ⟨q1, q2⟩
      · exact Or.inl q
      · refine Or.inr ⟨q1, ?_⟩
        have hq : bnR I' 150 S.1.2.2.1 S.1.2.2.2.1 := q2.nm (fun y y1 y2 => by
          by_cases e0 : y = 150
          · rw [e0, b6 150 (by omega) (by omega) (by omega), e']
          · exact hs y (by omega) (by omega) (by omega) (by omega) (by omega) (by omega))
        rw [← e] at hq; exact hq
  · have hw1 := hw hq
    have hp := (a10 hq).1
    refine ⟨?_, Or.inl hw1⟩
    unfold pIR at hp ⊢
    dsimp only at hp ⊢
    rw [hs (200 + 1) (by omega) (by omega) (by omega) (by omega) (by omega) (by omega), hs (200 + 2) (by omega) (by omega) (by omega) (by omega) (by omega) (by omega), hs (200 + 3) (by omega) (by omega) (by omega) (by omega) (by omega) (by omega)]
    exact hp
theorem bgF.cf {I2 : Nat → Nat → Int32} (hb : bgF I2 I' R x 4) (h2 : ∀ y, y ≠ 100 → y ≠ 150 → y ≠ 170 → y ≠ 171 → I2 y = I y) : cfF (I, J, R, K, N) (I', J, R, K, N) := fun y y1 y2 => ⟨(hb.2.2.2.2.2 y (by omega) (by omega) (by omega)).trans (h2 y (by omega) (by omega) (by omega) (by omega)), rfl, rfl, rfl, rfl⟩
theorem c_BL_begin (hlt : l.stackTraces = false) (hI : clI (I, J, R, K, N) S h) (hO : csO S) : bl_MC G l (d + 1) mX10_begin [.ref 100, .int x] (I, J, R, K, N) (1, 6) (fun o s' => ∃ I', s' = (I', J, R, K, N) ∧ clI s' (if bgE x = 0 then (bgS S.1 S.1.2.2.1 (rn x), S.2) else S) h ∧ cfF (I, J, R, K, N) s' ∧ xO xLi (bgE x) (.int (nI S.1.2.2.2.2)) o) := by
  have hrw : rwS R K N := rwS.of hI.1.1 hI.2.2.1 hI.2.2.2.1
  obtain ⟨⟨kx, ⟨rx_0, rx_1, rx_2, rx_3, rx_4, rx_5, rx_6, rx_7⟩, ⟨kxr, nxr⟩, ⟨kxn, nxn⟩, kxb, ⟨kxi, nxi⟩, ⟨kxj, nxj⟩⟩, hTp, hUn, hBn, hK1, hK2, hSt, hStr⟩ := hI.1
  have hn := hI.2.2.2.2.2.2.1
  dsimp only at kx hn
  by_cases hw : 0 ≤ x ∧ x ≤ 287
  · have hW : bgE x = 0 := by unfold bgE; rw [if_pos (wb_t hw)]
    obtain ⟨v, hv, rfl⟩ := i32_nat (b := 287) (by omega) hw.1 hw.2
    refine bl_MC_intro (by decide +kernel) rfl (Nat.le_of_ble_eq_true rfl) ?_
    refine bl_go oX10_begin 80 [] rfl ?_
    refine ⟨fun h1 => ?_, fun h1 => ?_⟩
    · try simp (disch := omega) only [zI_n, zI_o, zI_lit, zI_neg, zI_add, zI_sub, zI_mul, zI_lt, zI_le, zI_eq, zI_clamp, zI_in, zI_div, zI_rem, lg_lt0, lg_gt0, lg_eq0, lg_le0, lg_ge0, Int.toNat_natCast, ge_iff_le, gt_iff_lt, List.length_cons, List.length_nil, bl_up2_at, bl_up2_nk, bl_up2_nx] at h1
      first
      | (exfalso; first | omega | exact h1 trivial)
      | (refine ⟨hlt, (Nat.le_of_ble_eq_true rfl), (Nat.le_of_ble_eq_true rfl), (Nat.le_of_ble_eq_true rfl), ?_⟩
         try show _ ∧ _
         try dsimp only [bl_pv]
         fail /- ret11 -/)
    · try simp (disch := omega) only [zI_n, zI_o, zI_lit, zI_neg, zI_add, zI_sub, zI_mul, zI_lt, zI_le, zI_eq, zI_clamp, zI_in, zI_div, zI_rem, lg_lt0, lg_gt0, lg_eq0, lg_le0, lg_ge0, Int.toNat_natCast, ge_iff_le, gt_iff_lt, List.length_cons, List.length_nil, bl_up2_at, bl_up2_nk, bl_up2_nx] at h1
      first
      | (exfalso; first | omega | exact h1 trivial)
      | (refine ⟨fun h8 => ?_, fun h8 => ?_⟩
         · try simp (disch := omega) only [zI_n, zI_o, zI_lit, zI_neg, zI_add, zI_sub, zI_mul, zI_lt, zI_le, zI_eq, zI_clamp, zI_in, zI_div, zI_rem, lg_lt0, lg_gt0, lg_eq0, lg_le0, lg_ge0, Int.toNat_natCast, ge_iff_le, gt_iff_lt, List.length_cons, List.length_nil, bl_up2_at, bl_up2_nk, bl_up2_nx] at h8
           first
           | (exfalso; first | omega | exact h8 trivial)
           | (refine ⟨kx, rfl, rfl, kx, (Nat.le_of_ble_eq_true rfl), (0, 0), Nat.le_of_ble_eq_true rfl, Nat.le_of_ble_eq_true rfl, bl_MC_mono (c_BL_beginWith (d := d) hrw) (fun o29 σ29 q29 => ?_)⟩
              try dsimp only [bl_pv] at q29
              obtain ⟨rfl, I1, rfl, f1, f2⟩ := q29
              refine bl_go oX10_begin 80 [] rfl ?_
              refine ⟨(fun h => by cases h), ?_⟩
              try show _ ∧ _
              try dsimp only [bl_pv]
              have hc := hI.begin (c := S.1.2.2.1) (u := v) (k := S.2.2.2.2.2.1) (im := S.2.2.2.2.2.2) (I2 := I) hO (Nat.le_refl _) hO.2.2.2.2.2.2.1 (fun _ _ _ _ _ => rfl) hn.1 hn.2.1 hn.2.2.2 (Or.inr ⟨rfl, rfl⟩) f1 f2
              refine ⟨I1, rfl, ?_, f1.cf (fun _ _ _ _ _ => rfl), Or.inl ⟨hW, by rw [hn.2.2.1]⟩⟩
              rw [if_pos hW, show rn (nI v) = v from nI_clamp (by omega)]; exact hc)
         · try simp (disch := omega) only [zI_n, zI_o, zI_lit, zI_neg, zI_add, zI_sub, zI_mul, zI_lt, zI_le, zI_eq, zI_clamp, zI_in, zI_div, zI_rem, lg_lt0, lg_gt0, lg_eq0, lg_le0, lg_ge0, Int.toNat_natCast, ge_iff_le, gt_iff_lt, List.length_cons, List.length_nil, bl_up2_at, bl_up2_nk, bl_up2_nx] at h8
           first
           | (exfalso; first | omega | exact h8 trivial)
           | (refine ⟨hlt, (Nat.le_of_ble_eq_true rfl), (Nat.le_of_ble_eq_true rfl), (Nat.le_of_ble_eq_true rfl), ?_⟩
              try show _ ∧ _
              try dsimp only [bl_pv]
              fail /- ret11 -/))
  · have hW : bgE x = 1 := by unfold bgE; rw [if_neg (wb_f hw)]
    refine bl_MC_intro (by decide +kernel) rfl (Nat.le_of_ble_eq_true rfl) ?_
    refine bl_go oX10_begin 80 [22] rfl ?_
    refine ⟨fun h1 => ?_, fun h1 => ?_⟩
    · try simp (disch := omega) only [bl_pv, cl0, cl1, cl2, cl3, cl4, cl5, cl6, cl7, cl8, cl9, bl_up2_at, bl_up2_nk, bl_up2_nx] at h1
      refine ⟨hlt, (Nat.le_of_ble_eq_true rfl), (Nat.le_of_ble_eq_true rfl), (Nat.le_of_ble_eq_true rfl), ?_⟩
      try show _ ∧ _
      try dsimp only [bl_pv]
      exact ⟨I, rfl, by rw [if_neg (by rw [hW]; decide)]; exact hI, cfF.refl, Or.inr ⟨0, bl_IAE, hW, rfl, rfl⟩⟩
    · try simp (disch := omega) only [bl_pv, cl0, cl1, cl2, cl3, cl4, cl5, cl6, cl7, cl8, cl9, bl_up2_at, bl_up2_nk, bl_up2_nx] at h1
      refine ⟨fun h8 => ?_, fun h8 => ?_⟩
      · try simp (disch := omega) only [bl_pv, cl0, cl1, cl2, cl3, cl4, cl5, cl6, cl7, cl8, cl9, bl_up2_at, bl_up2_nk, bl_up2_nx] at h8
        try dsimp only [bl_pv]
        exact absurd ⟨Int32.not_lt.mp h1, (i32_287 h8)⟩ hw
      · try simp (disch := omega) only [bl_pv, cl0, cl1, cl2, cl3, cl4, cl5, cl6, cl7, cl8, cl9, bl_up2_at, bl_up2_nk, bl_up2_nx] at h8
        refine ⟨hlt, (Nat.le_of_ble_eq_true rfl), (Nat.le_of_ble_eq_true rfl), (Nat.le_of_ble_eq_true rfl), ?_⟩
        try show _ ∧ _
        try dsimp only [bl_pv]
        exact ⟨I, rfl, by rw [if_neg (by rw [hW]; decide)]; exact hI, cfF.refl, Or.inr ⟨0, bl_IAE, hW, rfl, rfl⟩⟩

/-- an image taken -/
def imS (S : cS) : cS := (S.1, S.2.1, S.2.2.1, S.2.2.2.1, S.2.2.2.2.1, S.2.2.2.2.2.1 + 1, fun i => if i = S.2.2.2.2.2.1 then (S.1.2.2.1, S.1.2.2.2.2) else S.2.2.2.2.2.2 i)
/-- the image i taken back -/
def reS (S : cS) (i : Nat) : cS := (bgS S.1 (S.2.2.2.2.2.2 i).1 (S.2.2.2.2.2.2 i).2, S.2.1, S.2.2.1, S.2.2.2.1, S.2.2.2.2.1, i, S.2.2.2.2.2.2)
theorem c_BL_image (hI : clI (I, J, R, K, N) S h) (hO : csO S) : bl_MC G l d mX10_image [.ref 100] (I, J, R, K, N) (0, 0) (fun o s' => (S.2.2.2.2.2.1 = 3 ∧ o = .inl (some (.int (zI (-1)))) ∧ s' = (I, J, R, K, N)) ∨ (S.2.2.2.2.2.1 < 3 ∧ o = .inl (some (.int (nI (S.2.2.2.2.2.1 + 1)))) ∧ ∃ I', s' = (I', J, R, K, N) ∧ clI s' (imS S) h ∧ cfF (I, J, R, K, N) s')) := by
  obtain ⟨⟨kx, ⟨rx_0, rx_1, rx_2, rx_3, rx_4, rx_5, rx_6, rx_7⟩, ⟨kxr, nxr⟩, ⟨kxn, nxn⟩, kxb, ⟨kxi, nxi⟩, ⟨kxj, nxj⟩⟩, hTp, hUn, hBn, hK1, hK2, hSt, hStr⟩ := hI.1
  have hn := hI.2.2.2.2.2.2.1
  have hk3 := hO.2.2.2.2.2.2.1
  dsimp only at kx hn rx_6 rx_7 kxi nxi kxj nxj
  obtain ⟨n1, n2, n3, n4⟩ := hn
  generalize hk : S.2.2.2.2.2.1 = k at *
  have eck : (nI k).toNatClampNeg = k := nI_clamp (by omega)
  by_cases e3 : k = 3
  · subst e3
    refine bl_MC_intro (by decide +kernel) rfl (Nat.le_of_ble_eq_true rfl) ?_
    refine bl_go oX10_image 80 [] rfl ?_
    refine ⟨kx, fun h5 => ?_, fun h5 => ?_⟩
    · try simp (disch := omega) only [n2, zI_n, zI_o, zI_lit, zI_neg, zI_add, zI_sub, zI_mul, zI_lt, zI_le, zI_eq, zI_clamp, zI_in, zI_div, zI_rem, lg_lt0, lg_gt0, lg_eq0, lg_le0, lg_ge0, Int.toNat_natCast, ge_iff_le, gt_iff_lt, List.length_cons, List.length_nil, bl_up2_at, bl_up2_nk, bl_up2_nx] at h5
      first
      | (exfalso; first | omega | exact h5 trivial)
      | (refine ⟨kx, _, bl_vs rx_6, kx, kx, kxi, (by first | exact (by rw [nxi]; exact vp_in_nI (by omega) (by omega)) | ((try dsimp only [bl_pv]); show vp_in _ (N _); rw [nxi]; simp (disch := omega) only [n2, zI_n, zI_o, zI_lit, zI_neg, zI_add, zI_sub, zI_mul, zI_lt, zI_le, zI_eq, zI_clamp, zI_in, zI_div, zI_rem, lg_lt0, lg_gt0, lg_eq0, lg_le0, lg_ge0, Int.toNat_natCast, ge_iff_le, gt_iff_lt, List.length_cons, List.length_nil, bl_up2_at, bl_up2_nk, bl_up2_nx] <;> omega)), kx, _, bl_vs rx_7, kx, kx, kxj, (by first | exact (by rw [nxj]; exact vp_in_nI (by omega) (by omega)) | ((try dsimp only [bl_pv]); show vp_in _ (N _); rw [nxj]; simp (disch := omega) only [n2, zI_n, zI_o, zI_lit, zI_neg, zI_add, zI_sub, zI_mul, zI_lt, zI_le, zI_eq, zI_clamp, zI_in, zI_div, zI_rem, lg_lt0, lg_gt0, lg_eq0, lg_le0, lg_ge0, Int.toNat_natCast, ge_iff_le, gt_iff_lt, List.length_cons, List.length_nil, bl_up2_at, bl_up2_nk, bl_up2_nx] <;> omega)), rfl, kx, kx, Or.inr (Or.inr ⟨rfl, rfl, _, rfl⟩), (fun h => by cases h), kx, (fun h => by cases h), ?_⟩
         try show _ ∧ _
         try dsimp only [bl_pv]
         fail /- ret50 -/)
    · try simp (disch := omega) only [n2, zI_n, zI_o, zI_lit, zI_neg, zI_add, zI_sub, zI_mul, zI_lt, zI_le, zI_eq, zI_clamp, zI_in, zI_div, zI_rem, lg_lt0, lg_gt0, lg_eq0, lg_le0, lg_ge0, Int.toNat_natCast, ge_iff_le, gt_iff_lt, List.length_cons, List.length_nil, bl_up2_at, bl_up2_nk, bl_up2_nx] at h5
      first
      | (exfalso; first | omega | exact h5 trivial)
      | (refine ⟨(fun h => by cases h), ?_⟩
         try show _ ∧ _
         try dsimp only [bl_pv]
         exact Or.inl ⟨rfl, rfl, rfl⟩)
  · have hk2 : k < 3 := by omega
    refine bl_MC_intro (by decide +kernel) rfl (Nat.le_of_ble_eq_true rfl) ?_
    refine bl_go oX10_image 80 [] rfl ?_
    refine ⟨kx, fun h5 => ?_, fun h5 => ?_⟩
    · try simp (disch := omega) only [n2, zI_n, zI_o, zI_lit, zI_neg, zI_add, zI_sub, zI_mul, zI_lt, zI_le, zI_eq, zI_clamp, zI_in, zI_div, zI_rem, lg_lt0, lg_gt0, lg_eq0, lg_le0, lg_ge0, Int.toNat_natCast, ge_iff_le, gt_iff_lt, List.length_cons, List.length_nil, bl_up2_at, bl_up2_nk, bl_up2_nx] at h5
      first
      | (exfalso; first | omega | exact h5 trivial)
      | (refine ⟨kx, _, bl_vs rx_6, kx, kx, kxi, (by (try dsimp only [bl_pv]); rw [nxi, n2]; exact vp_in_nI (by omega) (by omega)), kx, _, bl_vs rx_7, kx, kx, kxj, (by (try dsimp only [bl_pv]); rw [nxj]; rw [bl_up2_nx (by omega), n2]; exact vp_in_nI (by omega) (by omega)), rfl, kx, kx, Or.inr (Or.inr ⟨rfl, rfl, _, rfl⟩), (fun h => by cases h), kx, (fun h => by cases h), ?_⟩
         try show _ ∧ _
         try dsimp only [bl_pv]
         rw [n2, eck]
         simp (disch := omega) only [bl_up2_at, bl_up2_nk, bl_up2_nx, n2, n1, n3, eck]
         refine Or.inr ⟨hk2, by rw [show nI k + 1 = nI (k + 1) from nI_1 _], _, rfl, ?_, fun y y1 y2 => ⟨by dsimp only; rw [bl_up2_ne (by omega), bl_up2_ne (by omega), bl_up2_ne (by omega)], rfl, rfl, rfl, rfl⟩⟩
         obtain ⟨a1, a2, a3, a4, a5, a6, a7, a8, a9, a10⟩ := hI
         have hh := a2.1
         have hs : ∀ y, y ≠ 100 → y ≠ 170 → y ≠ 171 → bl_up2 (bl_up2 (bl_up2 I 170 k (nI S.1.2.2.1)) 171 k (nI S.1.2.2.2.2)) 100 12 (nI k + 1) y = I y := fun y y1 y2 y3 => by rw [bl_up2_ne y1, bl_up2_ne y3, bl_up2_ne y2]
         generalize hI' : bl_up2 (bl_up2 (bl_up2 I 170 k (nI S.1.2.2.1)) 171 k (nI S.1.2.2.2.2)) 100 12 (nI k + 1) = I' at *
         refine ⟨a1, a2, a3, a4, ?_, kiC.nm a6 (hs _ (by omega) (by omega) (by omega)) (hs _ (by omega) (by omega) (by omega)), ?_, fun r hr => ?_, ?_, fun hw => (a10 hw).nm (fun y h1 h2 => hs y (by omega) (by omega) (by omega))⟩
         · unfold clT; dsimp only; rw [hs 110 (by omega) (by omega) (by omega), hs 111 (by omega) (by omega) (by omega)]; exact a5
         · unfold clN imS; dsimp only; rw [← hI', hk]
           refine ⟨?_, ?_, ?_, fun i hi => ?_⟩
           · rw [bl_up2_nk (by omega), bl_up2_nx (by omega), bl_up2_nx (by omega)]; exact n1
           · rw [bl_up2_at]; exact nI_1 _
           · rw [bl_up2_nk (by omega), bl_up2_nx (by omega), bl_up2_nx (by omega)]; exact n3
           · by_cases e : i = k
             · subst e; rw [if_pos rfl, bl_up2_nx (by omega), bl_up2_nx (by omega), bl_up2_at, bl_up2_nx (by omega), bl_up2_at]; exact ⟨rfl, rfl⟩
             · rw [if_neg e, bl_up2_nx (by omega), bl_up2_nx (by omega), bl_up2_nk e, bl_up2_nx (by omega), bl_up2_nk e, bl_up2_nx (by omega)]; exact n4 i (by omega)
         · obtain ⟨c1, c2, c3⟩ := a8 r hr
           have hr4 : r < S.1.2.2.1 := hr
           have hc4 := hO.2.2.1
           have hD := aD_20 hO r
           refine ⟨c1, c2.nm (hs _ (by omega) (by omega) (by omega)) (hs _ (by omega) (by omega) (by omega)) (hs _ (by omega) (by omega) (by omega)), c3.nm (fun y hy => ⟨hs y (by have := rnN_rng hy (by omega); omega) (by have := rnN_rng hy (by omega); omega) (by have := rnN_rng hy (by omega); omega), rfl⟩) (by omega)⟩
         · unfold clB; dsimp only; rw [hs 150 (by omega) (by omega) (by omega)]
           rcases a9 with a | ⟨a, b⟩
           · exact Or.inl a
           · exact Or.inr ⟨a, b.nm (fun y h1 h2 => hs y (by omega) (by omega) (by omega))⟩)
    · try simp (disch := omega) only [n2, zI_n, zI_o, zI_lit, zI_neg, zI_add, zI_sub, zI_mul, zI_lt, zI_le, zI_eq, zI_clamp, zI_in, zI_div, zI_rem, lg_lt0, lg_gt0, lg_eq0, lg_le0, lg_ge0, Int.toNat_natCast, ge_iff_le, gt_iff_lt, List.length_cons, List.length_nil, bl_up2_at, bl_up2_nk, bl_up2_nx] at h5
      exfalso; first | omega | exact h5 trivial
theorem c_BL_restore (hI : clI (I, J, R, K, N) S h) (hO : csO S) : bl_MC G l (d + 1) mX10_restore [.ref 100] (I, J, R, K, N) (0, 0) (fun o s' => (S.2.2.2.2.2.1 = 0 ∧ o = .inl (some (.int (zI (-1)))) ∧ s' = (I, J, R, K, N)) ∨ (∃ i, S.2.2.2.2.2.1 = i + 1 ∧ o = .inl (some (.int (nI i))) ∧ ∃ I', s' = (I', J, R, K, N) ∧ clI s' (reS S i) h ∧ cfF (I, J, R, K, N) s')) := by
  have hrw : rwS R K N := rwS.of hI.1.1 hI.2.2.1 hI.2.2.2.1
  obtain ⟨⟨kx, ⟨rx_0, rx_1, rx_2, rx_3, rx_4, rx_5, rx_6, rx_7⟩, ⟨kxr, nxr⟩, ⟨kxn, nxn⟩, kxb, ⟨kxi, nxi⟩, ⟨kxj, nxj⟩⟩, hTp, hUn, hBn, hK1, hK2, hSt, hStr⟩ := hI.1
  have hn := hI.2.2.2.2.2.2.1
  have hk3 := hO.2.2.2.2.2.2.1
  have kxo := hBn.2.1
  dsimp only at kx hn rx_6 rx_7 kxi nxi kxj nxj rx_5 kxo
  obtain ⟨n1, n2, n3, n4⟩ := hn
  rcases hk : S.2.2.2.2.2.1 with _ | i
  · rw [hk] at n2
    refine bl_MC_intro (by decide +kernel) rfl (Nat.le_of_ble_eq_true rfl) ?_
    refine bl_go oX10_restore 80 [] rfl ?_
    refine ⟨kx, fun h5 => ?_, fun h5 => ?_⟩
    · try simp (disch := omega) only [n2, zI_n, zI_o, zI_lit, zI_neg, zI_add, zI_sub, zI_mul, zI_lt, zI_le, zI_eq, zI_clamp, zI_in, zI_div, zI_rem, lg_lt0, lg_gt0, lg_eq0, lg_le0, lg_ge0, Int.toNat_natCast, ge_iff_le, gt_iff_lt, List.length_cons, List.length_nil, bl_up2_at, bl_up2_nk, bl_up2_nx] at h5
      first
      | (exfalso; first | omega | exact h5 trivial)
      | (refine ⟨rfl, kx, kx, Or.inr (Or.inr ⟨rfl, rfl, _, rfl⟩), (fun h => by cases h), kx, _, bl_vs rx_6, kx, Or.inl ⟨kxi, (by first | exact (by rw [nxi]; exact vp_in_nI (by omega) (by omega)) | ((try dsimp only [bl_pv]); show vp_in _ (N _); rw [nxi]; simp (disch := omega) only [n2, zI_n, zI_o, zI_lit, zI_neg, zI_add, zI_sub, zI_mul, zI_lt, zI_le, zI_eq, zI_clamp, zI_in, zI_div, zI_rem, lg_lt0, lg_gt0, lg_eq0, lg_le0, lg_ge0, Int.toNat_natCast, ge_iff_le, gt_iff_lt, List.length_cons, List.length_nil, bl_up2_at, bl_up2_nk, bl_up2_nx] <;> omega)), kx, Or.inr (Or.inr ⟨rfl, rfl, _, rfl⟩), (fun h => by cases h), kx, _, bl_vs rx_5, kxo, Or.inr (Or.inr ⟨rfl, rfl, _, rfl⟩), (fun _ => by first | exact Or.inl rfl | exact Or.inr rfl), kx, _, bl_vs rx_7, kx, Or.inl ⟨kxj, (by first | exact (by rw [nxj]; exact vp_in_nI (by omega) (by omega)) | ((try dsimp only [bl_pv]); show vp_in _ (N _); rw [nxj]; simp (disch := omega) only [n2, zI_n, zI_o, zI_lit, zI_neg, zI_add, zI_sub, zI_mul, zI_lt, zI_le, zI_eq, zI_clamp, zI_in, zI_div, zI_rem, lg_lt0, lg_gt0, lg_eq0, lg_le0, lg_ge0, Int.toNat_natCast, ge_iff_le, gt_iff_lt, List.length_cons, List.length_nil, bl_up2_at, bl_up2_nk, bl_up2_nx] <;> omega)), rfl, rfl, kx, (Nat.le_of_ble_eq_true rfl), (0, 0), Nat.le_of_ble_eq_true rfl, Nat.le_of_ble_eq_true rfl, ?_⟩⟩⟩
         fail /- c51: mX10_beginWith -/)
    · try simp (disch := omega) only [n2, zI_n, zI_o, zI_lit, zI_neg, zI_add, zI_sub, zI_mul, zI_lt, zI_le, zI_eq, zI_clamp, zI_in, zI_div, zI_rem, lg_lt0, lg_gt0, lg_eq0, lg_le0, lg_ge0, Int.toNat_natCast, ge_iff_le, gt_iff_lt, List.length_cons, List.length_nil, bl_up2_at, bl_up2_nk, bl_up2_nx] at h5
      first
      | (exfalso; first | omega | exact h5 trivial)
      | (refine ⟨(fun h => by cases h), ?_⟩
         try show _ ∧ _
         try dsimp only [bl_pv]
         exact Or.inl ⟨rfl, rfl, rfl⟩)
  · rw [hk] at n2 n4 hk3
    obtain ⟨g1, g2⟩ := hO.2.2.2.2.2.2.2.1 i (by omega)
    obtain ⟨p1, p2⟩ := n4 i (by omega)
    have eci : (nI i).toNatClampNeg = i := nI_clamp (by omega)
    have e1 : nI (i + 1) - 1 = nI i := nI_subs (a := i + 1) (b := 1) (by omega)
    refine bl_MC_intro (by decide +kernel) rfl (Nat.le_of_ble_eq_true rfl) ?_
    refine bl_go oX10_restore 80 [] rfl ?_
    refine ⟨kx, fun h5 => ?_, fun h5 => ?_⟩
    · try simp (disch := omega) only [n2, zI_n, zI_o, zI_lit, zI_neg, zI_add, zI_sub, zI_mul, zI_lt, zI_le, zI_eq, zI_clamp, zI_in, zI_div, zI_rem, lg_lt0, lg_gt0, lg_eq0, lg_le0, lg_ge0, Int.toNat_natCast, ge_iff_le, gt_iff_lt, List.length_cons, List.length_nil, bl_up2_at, bl_up2_nk, bl_up2_nx] at h5
      refine ⟨rfl, kx, kx, Or.inr (Or.inr ⟨rfl, rfl, _, rfl⟩), (fun h => by cases h), kx, _, bl_vs rx_6, kx, Or.inl ⟨kxi, (by (try dsimp only [bl_pv]); rw [nxi, bl_up2_at, n2, e1]; exact vp_in_nI (by omega) (by omega)), kx, Or.inr (Or.inr ⟨rfl, rfl, _, rfl⟩), (fun h => by cases h), kx, _, bl_vs rx_5, kxo, Or.inr (Or.inr ⟨rfl, rfl, _, rfl⟩), (fun _ => by first | exact Or.inl rfl | exact Or.inr rfl), kx, _, bl_vs rx_7, kx, Or.inl ⟨kxj, (by (try dsimp only [bl_pv]); rw [nxj, bl_up2_nx (by omega), bl_up2_nk (by omega), bl_up2_at, n2, e1]; exact vp_in_nI (by omega) (by omega)), rfl, rfl, kx, (Nat.le_of_ble_eq_true rfl), (0, 0), Nat.le_of_ble_eq_true rfl, Nat.le_of_ble_eq_true rfl, bl_MC_mono (c_BL_beginWith (d := d) hrw) (fun o51 σ51 q51 => ?_)⟩⟩⟩
      try dsimp only [bl_pv] at q51
      obtain ⟨rfl, I1, rfl, f1, f2⟩ := q51
      simp (disch := omega) only [bl_up2_at, bl_up2_nk, bl_up2_nx, n2, e1, eci, p1, p2] at f1
      refine bl_go oX10_restore 80 [] rfl ?_
      refine ⟨kx, (fun h => by cases h), ?_⟩
      try show _ ∧ _
      try dsimp only [bl_pv]
      have h2 : ∀ y, y ≠ 100 → y ≠ 150 → y ≠ 170 → y ≠ 171 → bl_up2 (bl_up2 (bl_up2 I 100 12 (nI i)) 100 11 (nI (S.2.2.2.2.2.2 i).1)) 150 18 0 y = I y := fun y y1 y2 _ _ => by rw [bl_up2_ne y2, bl_up2_ne y1, bl_up2_ne y1]
      have hc := hI.begin (c := (S.2.2.2.2.2.2 i).1) (u := (S.2.2.2.2.2.2 i).2) (k := i) (im := S.2.2.2.2.2.2) hO g1 (by omega) h2 (by rw [bl_up2_nx (by omega), bl_up2_at]) (by rw [bl_up2_nx (by omega), bl_up2_nk (by omega), bl_up2_at]) (fun j hj => by rw [bl_up2_nx (by omega), bl_up2_nx (by omega), bl_up2_nx (by omega), bl_up2_nx (by omega), bl_up2_nx (by omega), bl_up2_nx (by omega)]; exact n4 j (by omega)) (Or.inl bl_up2_at) f1 f2
      refine Or.inr ⟨i, rfl, ?_, I1, rfl, hc, f1.cf h2⟩
      rw [f1.2.1 12 (by omega), bl_up2_nx (by omega), bl_up2_nk (by omega), bl_up2_at]
    · try simp (disch := omega) only [n2, zI_n, zI_o, zI_lit, zI_neg, zI_add, zI_sub, zI_mul, zI_lt, zI_le, zI_eq, zI_clamp, zI_in, zI_div, zI_rem, lg_lt0, lg_gt0, lg_eq0, lg_le0, lg_ge0, Int.toNat_natCast, ge_iff_le, gt_iff_lt, List.length_cons, List.length_nil, bl_up2_at, bl_up2_nk, bl_up2_nx] at h5
      exfalso; first | omega | exact h5 trivial

end CLS7
