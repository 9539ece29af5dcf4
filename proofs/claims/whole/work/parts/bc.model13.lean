/-! ===== Model: the slab's cells ===== -/
/-- a cell of the slab, of the slab to come -/
def cO (I : Nat → Nat → Int32) (J : Nat → Nat → Int64) (m c b s : Nat) : Prop := J (m + 31) c = nJ (b + 1) ∧ J (m + 32) c = nJ b ∧ J (m + 33) c = nJ s ∧ I (m + 37) c = 0 ∧ I (m + 38) c = 0
def cN (I : Nat → Nat → Int32) (J : Nat → Nat → Int64) (m c b s : Nat) : Prop := J (m + 34) c = nJ (b + 1) ∧ J (m + 35) c = nJ b ∧ J (m + 36) c = nJ s ∧ I (m + 39) c = 0 ∧ I (m + 40) c = 0
/-- only the cell to of the slab to come may have changed, and the count of joins -/
def nwF (I I' : Nat → Nat → Int32) (J J' : Nat → Nat → Int64) (m to : Nat) : Prop := (∀ x, x ≠ m + 39 → x ≠ m + 40 → I' x = I x) ∧ (∀ x, x ≠ m + 34 → x ≠ m + 35 → x ≠ m + 36 → x ≠ m + 41 → J' x = J x) ∧ ∀ c b s, c ≠ to → cN I J m c b s → cN I' J' m c b s
theorem nwF.O {I I' : Nat → Nat → Int32} {J J' : Nat → Nat → Int64} {m to c b s : Nat} (h : nwF I I' J J' m to) (h1 : cO I J m c b s) : cO I' J' m c b s := by
  unfold cO
  rw [h.2.1 _ (by omega) (by omega) (by omega) (by omega), h.2.1 _ (by omega) (by omega) (by omega) (by omega), h.2.1 _ (by omega) (by omega) (by omega) (by omega), h.1 _ (by omega) (by omega), h.1 _ (by omega) (by omega)]
  exact h1
theorem nJ_m1 (k : Nat) : nJ (k + 1) - 1 = nJ k := by
  rw [← nJ_add]; exact Int64.add_sub_cancel _ _
section MODEL13
variable {G : bl_G} {l : Launch} {d m : Nat} {I : Nat → Nat → Int32} {J : Nat → Nat → Int64} {R : Nat → Nat → Option Nat} {K N : Nat → Nat} {n r t : Nat}
theorem c_Model_cell {x y : Nat} {a b : Int32} (ha : a = nI x) (hb : b = nI y) : bl_MC G l d mX11_cell [.int a, .int b] (I, J, R, K, N) (0, 0) (fun o σ' => o = .inl (some (.int (nI (48 * y + x)))) ∧ σ' = (I, J, R, K, N)) := by
  subst ha hb
  refine bl_MC_intro (by decide +kernel) rfl (Nat.le_of_ble_eq_true rfl) ?_
  refine bl_go oX11_cell 80 [] rfl ?_
  refine ⟨(fun h => by cases h), ?_⟩
  try show _ ∧ _
  try dsimp only [bl_pv]
  rw [show (48 : Int32) * nI y + nI x = nI (48 * y + x) from by rw [show (48 : Int32) * nI y = nI (48 * y) from (Int32.ofNat_mul 48 y).symm]; exact (Int32.ofNat_add _ _).symm]; exact ⟨rfl, rfl⟩
theorem c_Model_takes {x y : Nat} {a e : Int32} {b s : Nat} (hm : mdS R K N m) (ha : a = nI x) (he : e = nI y) (hx : x < 2304) (hy : y < 2304) (hc : cO I J m y b s) : bl_MC G l d mX11_takes [.ref m, .int a, .int e] (I, J, R, K, N) (0, 0) (fun o σ' => o = .inl none ∧ ∃ I' J', σ' = (I', J', R, K, N) ∧ nwF I I' J J' m x ∧ J' (m + 41) = J (m + 41) ∧ cN I' J' m x b s) := by
  have km := hm.2.1
  obtain ⟨rm_31, km31, nm31⟩ := hm.f31
  obtain ⟨rm_32, km32, nm32⟩ := hm.f32
  obtain ⟨rm_33, km33, nm33⟩ := hm.f33
  obtain ⟨rm_34, km34, nm34⟩ := hm.f34
  obtain ⟨rm_35, km35, nm35⟩ := hm.f35
  obtain ⟨rm_36, km36, nm36⟩ := hm.f36
  obtain ⟨rm_37, km37, nm37⟩ := hm.f37
  obtain ⟨rm_38, km38, nm38⟩ := hm.f38
  obtain ⟨rm_39, km39, nm39⟩ := hm.f39
  obtain ⟨rm_40, km40, nm40⟩ := hm.f40
  subst ha he
  have ex : (nI x).toNatClampNeg = x := nI_clamp (by omega)
  have ey : (nI y).toNatClampNeg = y := nI_clamp (by omega)
  refine bl_MC_intro (by decide +kernel) rfl (Nat.le_of_ble_eq_true rfl) ?_
  refine bl_go oX11_takes 80 [] rfl ?_
  refine ⟨km, _, bl_vs rm_34, km, _, bl_vs rm_31, km31, (by first | exact (by rw [nm31]; exact vp_in_nI (by omega) (by omega)) | ((try dsimp only [bl_pv]); show vp_in _ (N _); rw [nm31]; simp (disch := omega) only [zI_n, zI_o, zI_lit, zI_neg, zI_add, zI_sub, zI_mul, zI_lt, zI_le, zI_eq, zI_clamp, zI_in, zI_div, zI_rem, lg_lt0, lg_gt0, lg_eq0, lg_le0, lg_ge0, Int.toNat_natCast, ge_iff_le, gt_iff_lt, List.length_cons, List.length_nil, bl_up2_at, bl_up2_nk, bl_up2_nx] <;> omega)), km34, (by first | exact (by rw [nm34]; exact vp_in_nI (by omega) (by omega)) | ((try dsimp only [bl_pv]); show vp_in _ (N _); rw [nm34]; simp (disch := omega) only [zI_n, zI_o, zI_lit, zI_neg, zI_add, zI_sub, zI_mul, zI_lt, zI_le, zI_eq, zI_clamp, zI_in, zI_div, zI_rem, lg_lt0, lg_gt0, lg_eq0, lg_le0, lg_ge0, Int.toNat_natCast, ge_iff_le, gt_iff_lt, List.length_cons, List.length_nil, bl_up2_at, bl_up2_nk, bl_up2_nx] <;> omega)), km, _, bl_vs rm_35, km, _, bl_vs rm_32, km32, (by first | exact (by rw [nm32]; exact vp_in_nI (by omega) (by omega)) | ((try dsimp only [bl_pv]); show vp_in _ (N _); rw [nm32]; simp (disch := omega) only [zI_n, zI_o, zI_lit, zI_neg, zI_add, zI_sub, zI_mul, zI_lt, zI_le, zI_eq, zI_clamp, zI_in, zI_div, zI_rem, lg_lt0, lg_gt0, lg_eq0, lg_le0, lg_ge0, Int.toNat_natCast, ge_iff_le, gt_iff_lt, List.length_cons, List.length_nil, bl_up2_at, bl_up2_nk, bl_up2_nx] <;> omega)), km35, (by first | exact (by rw [nm35]; exact vp_in_nI (by omega) (by omega)) | ((try dsimp only [bl_pv]); show vp_in _ (N _); rw [nm35]; simp (disch := omega) only [zI_n, zI_o, zI_lit, zI_neg, zI_add, zI_sub, zI_mul, zI_lt, zI_le, zI_eq, zI_clamp, zI_in, zI_div, zI_rem, lg_lt0, lg_gt0, lg_eq0, lg_le0, lg_ge0, Int.toNat_natCast, ge_iff_le, gt_iff_lt, List.length_cons, List.length_nil, bl_up2_at, bl_up2_nk, bl_up2_nx] <;> omega)), km, _, bl_vs rm_36, km, _, bl_vs rm_33, km33, (by first | exact (by rw [nm33]; exact vp_in_nI (by omega) (by omega)) | ((try dsimp only [bl_pv]); show vp_in _ (N _); rw [nm33]; simp (disch := omega) only [zI_n, zI_o, zI_lit, zI_neg, zI_add, zI_sub, zI_mul, zI_lt, zI_le, zI_eq, zI_clamp, zI_in, zI_div, zI_rem, lg_lt0, lg_gt0, lg_eq0, lg_le0, lg_ge0, Int.toNat_natCast, ge_iff_le, gt_iff_lt, List.length_cons, List.length_nil, bl_up2_at, bl_up2_nk, bl_up2_nx] <;> omega)), km36, (by first | exact (by rw [nm36]; exact vp_in_nI (by omega) (by omega)) | ((try dsimp only [bl_pv]); show vp_in _ (N _); rw [nm36]; simp (disch := omega) only [zI_n, zI_o, zI_lit, zI_neg, zI_add, zI_sub, zI_mul, zI_lt, zI_le, zI_eq, zI_clamp, zI_in, zI_div, zI_rem, lg_lt0, lg_gt0, lg_eq0, lg_le0, lg_ge0, Int.toNat_natCast, ge_iff_le, gt_iff_lt, List.length_cons, List.length_nil, bl_up2_at, bl_up2_nk, bl_up2_nx] <;> omega)), km, _, bl_vs rm_39, km, _, bl_vs rm_37, Or.inl ⟨km37, (by first | exact (by rw [nm37]; exact vp_in_nI (by omega) (by omega)) | ((try dsimp only [bl_pv]); show vp_in _ (N _); rw [nm37]; simp (disch := omega) only [zI_n, zI_o, zI_lit, zI_neg, zI_add, zI_sub, zI_mul, zI_lt, zI_le, zI_eq, zI_clamp, zI_in, zI_div, zI_rem, lg_lt0, lg_gt0, lg_eq0, lg_le0, lg_ge0, Int.toNat_natCast, ge_iff_le, gt_iff_lt, List.length_cons, List.length_nil, bl_up2_at, bl_up2_nk, bl_up2_nx] <;> omega)), km39, (by first | exact (by rw [nm39]; exact vp_in_nI (by omega) (by omega)) | ((try dsimp only [bl_pv]); show vp_in _ (N _); rw [nm39]; simp (disch := omega) only [zI_n, zI_o, zI_lit, zI_neg, zI_add, zI_sub, zI_mul, zI_lt, zI_le, zI_eq, zI_clamp, zI_in, zI_div, zI_rem, lg_lt0, lg_gt0, lg_eq0, lg_le0, lg_ge0, Int.toNat_natCast, ge_iff_le, gt_iff_lt, List.length_cons, List.length_nil, bl_up2_at, bl_up2_nk, bl_up2_nx] <;> omega)), km, _, bl_vs rm_40, km, _, bl_vs rm_38, Or.inl ⟨km38, (by first | exact (by rw [nm38]; exact vp_in_nI (by omega) (by omega)) | ((try dsimp only [bl_pv]); show vp_in _ (N _); rw [nm38]; simp (disch := omega) only [zI_n, zI_o, zI_lit, zI_neg, zI_add, zI_sub, zI_mul, zI_lt, zI_le, zI_eq, zI_clamp, zI_in, zI_div, zI_rem, lg_lt0, lg_gt0, lg_eq0, lg_le0, lg_ge0, Int.toNat_natCast, ge_iff_le, gt_iff_lt, List.length_cons, List.length_nil, bl_up2_at, bl_up2_nk, bl_up2_nx] <;> omega)), km40, (by first | exact (by rw [nm40]; exact vp_in_nI (by omega) (by omega)) | ((try dsimp only [bl_pv]); show vp_in _ (N _); rw [nm40]; simp (disch := omega) only [zI_n, zI_o, zI_lit, zI_neg, zI_add, zI_sub, zI_mul, zI_lt, zI_le, zI_eq, zI_clamp, zI_in, zI_div, zI_rem, lg_lt0, lg_gt0, lg_eq0, lg_le0, lg_ge0, Int.toNat_natCast, ge_iff_le, gt_iff_lt, List.length_cons, List.length_nil, bl_up2_at, bl_up2_nk, bl_up2_nx] <;> omega)), ?_⟩⟩⟩
  try show _ ∧ _
  try dsimp only [bl_pv]
  rw [ex, ey]
  refine ⟨rfl, _, _, rfl, ⟨fun z z1 z2 => ?_, fun z z1 z2 z3 z4 => ?_, fun c b s hcx h => ?_⟩, ?_, ?_⟩
  · rw [bl_up2_ne z2, bl_up2_ne z1]
  · rw [bl_up2_ne z3, bl_up2_ne z2, bl_up2_ne z1]
  · unfold cN
    simp (disch := omega) only [bl_up2_nk, bl_up2_nx]
    exact h
  · rw [bl_up2_ne (by omega), bl_up2_ne (by omega), bl_up2_ne (by omega)]
  · unfold cN
    simp (disch := omega) only [bl_up2_at, bl_up2_nx]
    exact hc
theorem c_Model_lays {x y : Nat} {a e : Int32} {b s b' s' : Nat} (hm : mdS R K N m) (ha : a = nI x) (he : e = nI y) (hx : x < 2304) (hy : y < 2304) (hc : cO I J m y b s) (hn : cN I J m x b' s') : bl_MC G l d mX11_lays [.ref m, .int a, .int e] (I, J, R, K, N) (0, 0) (fun o σ' => o = .inl none ∧ ∃ I' J', σ' = (I', J', R, K, N) ∧ nwF I I' J J' m x ∧ J' (m + 41) 0 = J (m + 41) 0 + 1 ∧ J' (m + 41) 1 = J (m + 41) 1 ∧ cN I' J' m x (b' + b) (s' + s)) := by
  have km := hm.2.1
  obtain ⟨rm_31, km31, nm31⟩ := hm.f31
  obtain ⟨rm_32, km32, nm32⟩ := hm.f32
  obtain ⟨rm_33, km33, nm33⟩ := hm.f33
  obtain ⟨rm_34, km34, nm34⟩ := hm.f34
  obtain ⟨rm_35, km35, nm35⟩ := hm.f35
  obtain ⟨rm_36, km36, nm36⟩ := hm.f36
  obtain ⟨rm_37, km37, nm37⟩ := hm.f37
  obtain ⟨rm_38, km38, nm38⟩ := hm.f38
  obtain ⟨rm_40, km40, nm40⟩ := hm.f40
  obtain ⟨rm_41, km41, nm41⟩ := hm.f41
  subst ha he
  have ex : (nI x).toNatClampNeg = x := nI_clamp (by omega)
  have ey : (nI y).toNatClampNeg = y := nI_clamp (by omega)
  obtain ⟨c1, c2, c3, c4, c5⟩ := hc
  obtain ⟨n1, n2, n3, n4, n5⟩ := hn
  have t1 : I (m + 38) (nI y).toNatClampNeg = 0 := by rw [ey]; exact c5
  have t2 : I (m + 40) (nI x).toNatClampNeg = 0 := by rw [ex]; exact n5
  refine bl_MC_intro (by decide +kernel) rfl (Nat.le_of_ble_eq_true rfl) ?_
  refine bl_go oX11_lays 150 [] rfl ?_
  refine ⟨km, _, bl_vs rm_40, Or.inl ⟨km40, (by first | exact (by rw [nm40]; exact vp_in_nI (by omega) (by omega)) | ((try dsimp only [bl_pv]); show vp_in _ (N _); rw [nm40]; simp (disch := omega) only [zI_n, zI_o, zI_lit, zI_neg, zI_add, zI_sub, zI_mul, zI_lt, zI_le, zI_eq, zI_clamp, zI_in, zI_div, zI_rem, lg_lt0, lg_gt0, lg_eq0, lg_le0, lg_ge0, Int.toNat_natCast, ge_iff_le, gt_iff_lt, List.length_cons, List.length_nil, bl_up2_at, bl_up2_nk, bl_up2_nx] <;> omega)), km, _, bl_vs rm_38, Or.inl ⟨km38, (by first | exact (by rw [nm38]; exact vp_in_nI (by omega) (by omega)) | ((try dsimp only [bl_pv]); show vp_in _ (N _); rw [nm38]; simp (disch := omega) only [zI_n, zI_o, zI_lit, zI_neg, zI_add, zI_sub, zI_mul, zI_lt, zI_le, zI_eq, zI_clamp, zI_in, zI_div, zI_rem, lg_lt0, lg_gt0, lg_eq0, lg_le0, lg_ge0, Int.toNat_natCast, ge_iff_le, gt_iff_lt, List.length_cons, List.length_nil, bl_up2_at, bl_up2_nk, bl_up2_nx] <;> omega)), fun h12 => ?_, fun h12 => ?_⟩⟩⟩
  · try simp (disch := omega) only [bl_pv, cl0, cl1, cl2, cl3, cl4, cl5, cl6, cl7, cl8, cl9, bl_up2_at, bl_up2_nk, bl_up2_nx] at h12
    exact absurd (t2.trans t1.symm) h12
  · try simp (disch := omega) only [bl_pv, cl0, cl1, cl2, cl3, cl4, cl5, cl6, cl7, cl8, cl9, bl_up2_at, bl_up2_nk, bl_up2_nx] at h12
    first
    | (exfalso; first | omega | exact h12 trivial)
    | (refine ⟨km, _, bl_vs rm_34, ⟨rfl, rfl⟩, km34, (by first | exact (by rw [nm34]; exact vp_in_nI (by omega) (by omega)) | ((try dsimp only [bl_pv]); show vp_in _ (N _); rw [nm34]; simp (disch := omega) only [zI_n, zI_o, zI_lit, zI_neg, zI_add, zI_sub, zI_mul, zI_lt, zI_le, zI_eq, zI_clamp, zI_in, zI_div, zI_rem, lg_lt0, lg_gt0, lg_eq0, lg_le0, lg_ge0, Int.toNat_natCast, ge_iff_le, gt_iff_lt, List.length_cons, List.length_nil, bl_up2_at, bl_up2_nk, bl_up2_nx] <;> omega)), km, _, bl_vs rm_31, km31, (by first | exact (by rw [nm31]; exact vp_in_nI (by omega) (by omega)) | ((try dsimp only [bl_pv]); show vp_in _ (N _); rw [nm31]; simp (disch := omega) only [zI_n, zI_o, zI_lit, zI_neg, zI_add, zI_sub, zI_mul, zI_lt, zI_le, zI_eq, zI_clamp, zI_in, zI_div, zI_rem, lg_lt0, lg_gt0, lg_eq0, lg_le0, lg_ge0, Int.toNat_natCast, ge_iff_le, gt_iff_lt, List.length_cons, List.length_nil, bl_up2_at, bl_up2_nk, bl_up2_nx] <;> omega)), km34, (by first | exact (by rw [nm34]; exact vp_in_nI (by omega) (by omega)) | ((try dsimp only [bl_pv]); show vp_in _ (N _); rw [nm34]; simp (disch := omega) only [zI_n, zI_o, zI_lit, zI_neg, zI_add, zI_sub, zI_mul, zI_lt, zI_le, zI_eq, zI_clamp, zI_in, zI_div, zI_rem, lg_lt0, lg_gt0, lg_eq0, lg_le0, lg_ge0, Int.toNat_natCast, ge_iff_le, gt_iff_lt, List.length_cons, List.length_nil, bl_up2_at, bl_up2_nk, bl_up2_nx] <;> omega)), km, _, bl_vs rm_35, ⟨rfl, rfl⟩, km35, (by first | exact (by rw [nm35]; exact vp_in_nI (by omega) (by omega)) | ((try dsimp only [bl_pv]); show vp_in _ (N _); rw [nm35]; simp (disch := omega) only [zI_n, zI_o, zI_lit, zI_neg, zI_add, zI_sub, zI_mul, zI_lt, zI_le, zI_eq, zI_clamp, zI_in, zI_div, zI_rem, lg_lt0, lg_gt0, lg_eq0, lg_le0, lg_ge0, Int.toNat_natCast, ge_iff_le, gt_iff_lt, List.length_cons, List.length_nil, bl_up2_at, bl_up2_nk, bl_up2_nx] <;> omega)), km, _, bl_vs rm_32, km32, (by first | exact (by rw [nm32]; exact vp_in_nI (by omega) (by omega)) | ((try dsimp only [bl_pv]); show vp_in _ (N _); rw [nm32]; simp (disch := omega) only [zI_n, zI_o, zI_lit, zI_neg, zI_add, zI_sub, zI_mul, zI_lt, zI_le, zI_eq, zI_clamp, zI_in, zI_div, zI_rem, lg_lt0, lg_gt0, lg_eq0, lg_le0, lg_ge0, Int.toNat_natCast, ge_iff_le, gt_iff_lt, List.length_cons, List.length_nil, bl_up2_at, bl_up2_nk, bl_up2_nx] <;> omega)), km35, (by first | exact (by rw [nm35]; exact vp_in_nI (by omega) (by omega)) | ((try dsimp only [bl_pv]); show vp_in _ (N _); rw [nm35]; simp (disch := omega) only [zI_n, zI_o, zI_lit, zI_neg, zI_add, zI_sub, zI_mul, zI_lt, zI_le, zI_eq, zI_clamp, zI_in, zI_div, zI_rem, lg_lt0, lg_gt0, lg_eq0, lg_le0, lg_ge0, Int.toNat_natCast, ge_iff_le, gt_iff_lt, List.length_cons, List.length_nil, bl_up2_at, bl_up2_nk, bl_up2_nx] <;> omega)), km, _, bl_vs rm_36, ⟨rfl, rfl⟩, km36, (by first | exact (by rw [nm36]; exact vp_in_nI (by omega) (by omega)) | ((try dsimp only [bl_pv]); show vp_in _ (N _); rw [nm36]; simp (disch := omega) only [zI_n, zI_o, zI_lit, zI_neg, zI_add, zI_sub, zI_mul, zI_lt, zI_le, zI_eq, zI_clamp, zI_in, zI_div, zI_rem, lg_lt0, lg_gt0, lg_eq0, lg_le0, lg_ge0, Int.toNat_natCast, ge_iff_le, gt_iff_lt, List.length_cons, List.length_nil, bl_up2_at, bl_up2_nk, bl_up2_nx] <;> omega)), km, _, bl_vs rm_33, km33, (by first | exact (by rw [nm33]; exact vp_in_nI (by omega) (by omega)) | ((try dsimp only [bl_pv]); show vp_in _ (N _); rw [nm33]; simp (disch := omega) only [zI_n, zI_o, zI_lit, zI_neg, zI_add, zI_sub, zI_mul, zI_lt, zI_le, zI_eq, zI_clamp, zI_in, zI_div, zI_rem, lg_lt0, lg_gt0, lg_eq0, lg_le0, lg_ge0, Int.toNat_natCast, ge_iff_le, gt_iff_lt, List.length_cons, List.length_nil, bl_up2_at, bl_up2_nk, bl_up2_nx] <;> omega)), km36, (by first | exact (by rw [nm36]; exact vp_in_nI (by omega) (by omega)) | ((try dsimp only [bl_pv]); show vp_in _ (N _); rw [nm36]; simp (disch := omega) only [zI_n, zI_o, zI_lit, zI_neg, zI_add, zI_sub, zI_mul, zI_lt, zI_le, zI_eq, zI_clamp, zI_in, zI_div, zI_rem, lg_lt0, lg_gt0, lg_eq0, lg_le0, lg_ge0, Int.toNat_natCast, ge_iff_le, gt_iff_lt, List.length_cons, List.length_nil, bl_up2_at, bl_up2_nk, bl_up2_nx] <;> omega)), fun h67 => ?_, fun h67 => ?_⟩
       · try simp (disch := omega) only [bl_pv, cl0, cl1, cl2, cl3, cl4, cl5, cl6, cl7, cl8, cl9, bl_up2_at, bl_up2_nk, bl_up2_nx] at h67
         exact absurd h67 (by decide)
       · try simp (disch := omega) only [bl_pv, cl0, cl1, cl2, cl3, cl4, cl5, cl6, cl7, cl8, cl9, bl_up2_at, bl_up2_nk, bl_up2_nx] at h67
         first
         | (exfalso; first | omega | exact h67 trivial)
         | (refine ⟨km, _, bl_vs rm_38, Or.inl ⟨km38, (by first | exact (by rw [nm38]; exact vp_in_nI (by omega) (by omega)) | ((try dsimp only [bl_pv]); show vp_in _ (N _); rw [nm38]; simp (disch := omega) only [zI_n, zI_o, zI_lit, zI_neg, zI_add, zI_sub, zI_mul, zI_lt, zI_le, zI_eq, zI_clamp, zI_in, zI_div, zI_rem, lg_lt0, lg_gt0, lg_eq0, lg_le0, lg_ge0, Int.toNat_natCast, ge_iff_le, gt_iff_lt, List.length_cons, List.length_nil, bl_up2_at, bl_up2_nk, bl_up2_nx] <;> omega)), fun h76 => ?_, fun h76 => ?_⟩⟩
            · try simp (disch := omega) only [bl_pv, cl0, cl1, cl2, cl3, cl4, cl5, cl6, cl7, cl8, cl9, bl_up2_at, bl_up2_nk, bl_up2_nx] at h76
              exact absurd t1 h76
            · try simp (disch := omega) only [bl_pv, cl0, cl1, cl2, cl3, cl4, cl5, cl6, cl7, cl8, cl9, bl_up2_at, bl_up2_nk, bl_up2_nx] at h76
              first
              | (exfalso; first | omega | exact h76 trivial)
              | (refine ⟨km, _, bl_vs rm_34, ⟨rfl, rfl⟩, km34, (by first | exact (by rw [nm34]; exact vp_in_nI (by omega) (by omega)) | ((try dsimp only [bl_pv]); show vp_in _ (N _); rw [nm34]; simp (disch := omega) only [zI_n, zI_o, zI_lit, zI_neg, zI_add, zI_sub, zI_mul, zI_lt, zI_le, zI_eq, zI_clamp, zI_in, zI_div, zI_rem, lg_lt0, lg_gt0, lg_eq0, lg_le0, lg_ge0, Int.toNat_natCast, ge_iff_le, gt_iff_lt, List.length_cons, List.length_nil, bl_up2_at, bl_up2_nk, bl_up2_nx] <;> omega)), km34, (by first | exact (by rw [nm34]; exact vp_in_nI (by omega) (by omega)) | ((try dsimp only [bl_pv]); show vp_in _ (N _); rw [nm34]; simp (disch := omega) only [zI_n, zI_o, zI_lit, zI_neg, zI_add, zI_sub, zI_mul, zI_lt, zI_le, zI_eq, zI_clamp, zI_in, zI_div, zI_rem, lg_lt0, lg_gt0, lg_eq0, lg_le0, lg_ge0, Int.toNat_natCast, ge_iff_le, gt_iff_lt, List.length_cons, List.length_nil, bl_up2_at, bl_up2_nk, bl_up2_nx] <;> omega)), fun h90 => ?_, fun h90 => ?_⟩
                 · try simp (disch := omega) only [bl_pv, cl0, cl1, cl2, cl3, cl4, cl5, cl6, cl7, cl8, cl9, bl_up2_at, bl_up2_nk, bl_up2_nx] at h90
                   exact absurd h90 (by decide)
                 · try simp (disch := omega) only [bl_pv, cl0, cl1, cl2, cl3, cl4, cl5, cl6, cl7, cl8, cl9, bl_up2_at, bl_up2_nk, bl_up2_nx] at h90
                   first
                   | (exfalso; first | omega | exact h90 trivial)
                   | (refine ⟨km, _, bl_vs rm_38, Or.inl ⟨km38, (by first | exact (by rw [nm38]; exact vp_in_nI (by omega) (by omega)) | ((try dsimp only [bl_pv]); show vp_in _ (N _); rw [nm38]; simp (disch := omega) only [zI_n, zI_o, zI_lit, zI_neg, zI_add, zI_sub, zI_mul, zI_lt, zI_le, zI_eq, zI_clamp, zI_in, zI_div, zI_rem, lg_lt0, lg_gt0, lg_eq0, lg_le0, lg_ge0, Int.toNat_natCast, ge_iff_le, gt_iff_lt, List.length_cons, List.length_nil, bl_up2_at, bl_up2_nk, bl_up2_nx] <;> omega)), fun h100 => ?_, fun h100 => ?_⟩⟩
                      · try simp (disch := omega) only [bl_pv, cl0, cl1, cl2, cl3, cl4, cl5, cl6, cl7, cl8, cl9, bl_up2_at, bl_up2_nk, bl_up2_nx] at h100
                        first
                        | (exfalso; first | omega | exact h100 trivial)
                        | (refine ⟨fun h114 => ?_, fun h114 => ?_⟩
                           · try simp (disch := omega) only [bl_pv, cl0, cl1, cl2, cl3, cl4, cl5, cl6, cl7, cl8, cl9, bl_up2_at, bl_up2_nk, bl_up2_nx] at h114
                             exact absurd h114 (by decide)
                           · try simp (disch := omega) only [bl_pv, cl0, cl1, cl2, cl3, cl4, cl5, cl6, cl7, cl8, cl9, bl_up2_at, bl_up2_nk, bl_up2_nx] at h114
                             first
                             | (exfalso; first | omega | exact h114 trivial)
                             | (refine ⟨km, _, bl_vs rm_41, km, _, bl_vs rm_38, Or.inl ⟨km38, (by first | exact (by rw [nm38]; exact vp_in_nI (by omega) (by omega)) | ((try dsimp only [bl_pv]); show vp_in _ (N _); rw [nm38]; simp (disch := omega) only [zI_n, zI_o, zI_lit, zI_neg, zI_add, zI_sub, zI_mul, zI_lt, zI_le, zI_eq, zI_clamp, zI_in, zI_div, zI_rem, lg_lt0, lg_gt0, lg_eq0, lg_le0, lg_ge0, Int.toNat_natCast, ge_iff_le, gt_iff_lt, List.length_cons, List.length_nil, bl_up2_at, bl_up2_nk, bl_up2_nx] <;> omega)), ⟨rfl, rfl⟩, km41, (by (try dsimp only [bl_pv]); rw [nm41, t1]; exact vp_in_nI (n := 0) (by omega) (by omega)), km41, (by (try dsimp only [bl_pv]); rw [nm41, t1]; exact vp_in_nI (n := 0) (by omega) (by omega)), km, _, bl_vs rm_40, km, _, bl_vs rm_37, Or.inl ⟨km37, (by first | exact (by rw [nm37]; exact vp_in_nI (by omega) (by omega)) | ((try dsimp only [bl_pv]); show vp_in _ (N _); rw [nm37]; simp (disch := omega) only [zI_n, zI_o, zI_lit, zI_neg, zI_add, zI_sub, zI_mul, zI_lt, zI_le, zI_eq, zI_clamp, zI_in, zI_div, zI_rem, lg_lt0, lg_gt0, lg_eq0, lg_le0, lg_ge0, Int.toNat_natCast, ge_iff_le, gt_iff_lt, List.length_cons, List.length_nil, bl_up2_at, bl_up2_nk, bl_up2_nx] <;> omega)), km40, (by first | exact (by rw [nm40]; exact vp_in_nI (by omega) (by omega)) | ((try dsimp only [bl_pv]); show vp_in _ (N _); rw [nm40]; simp (disch := omega) only [zI_n, zI_o, zI_lit, zI_neg, zI_add, zI_sub, zI_mul, zI_lt, zI_le, zI_eq, zI_clamp, zI_in, zI_div, zI_rem, lg_lt0, lg_gt0, lg_eq0, lg_le0, lg_ge0, Int.toNat_natCast, ge_iff_le, gt_iff_lt, List.length_cons, List.length_nil, bl_up2_at, bl_up2_nk, bl_up2_nx] <;> omega)), ?_⟩⟩⟩
                                try show _ ∧ _
                                try dsimp only [bl_pv]
                                rw [t1, ex, ey, cl0]
                                refine ⟨rfl, _, _, rfl, ⟨fun z z1 z2 => ?_, fun z z1 z2 z3 z4 => ?_, fun c b s hcx h => ?_⟩, ?_, ?_, ?_⟩
                                · rw [bl_up2_ne z2]
                                · rw [bl_up2_ne z4, bl_up2_ne z1, bl_up2_ne z3, bl_up2_ne z2, bl_up2_ne z1]
                                · unfold cN
                                  simp (disch := omega) only [bl_up2_nk, bl_up2_nx]
                                  exact h
                                · simp (disch := omega) only [bl_up2_at, bl_up2_nx]
                                · simp (disch := omega) only [bl_up2_nk, bl_up2_nx]
                                · unfold cN
                                  simp (disch := omega) only [bl_up2_at, bl_up2_nx]
                                  rw [c1, c2, c3, c4, n1, n2, n3, n4]
                                  refine ⟨?_, ?_, ?_, rfl, rfl⟩
                                  · rw [nJ_add, show b' + 1 + (b + 1) = b' + b + 1 + 1 by omega]; exact nJ_m1 _
                                  · exact nJ_add _ _
                                  · exact nJ_add _ _))
                      · try simp (disch := omega) only [bl_pv, cl0, cl1, cl2, cl3, cl4, cl5, cl6, cl7, cl8, cl9, bl_up2_at, bl_up2_nk, bl_up2_nx] at h100
                        exact absurd (t1.symm.trans h100) (by decide)))))
/-- only the slab itself may have changed -/
def bcF (I I' : Nat → Nat → Int32) (J J' : Nat → Nat → Int64) (m : Nat) : Prop := (∀ x, x ≠ m → x ≠ m + 37 → x ≠ m + 38 → I' x = I x) ∧ (∀ j, j ≠ 21 → j ≠ 22 → I' m j = I m j) ∧ ∀ x, x ≠ m + 31 → x ≠ m + 32 → x ≠ m + 33 → J' x = J x
theorem bcF_N {I I' : Nat → Nat → Int32} {J J' : Nat → Nat → Int64} {m c b s : Nat} (h : bcF I I' J J' m) (h1 : cN I J m c b s) : cN I' J' m c b s := by
  unfold cN
  rw [h.2.2 _ (by omega) (by omega) (by omega), h.2.2 _ (by omega) (by omega) (by omega), h.2.2 _ (by omega) (by omega) (by omega), h.1 _ (by omega) (by omega) (by omega), h.1 _ (by omega) (by omega) (by omega)]
  exact h1
theorem c_Model_becomes {w h : Nat} {a e : Int32} {B S : Nat → Nat → Nat} (hm : mdS R K N m) (ha : a = nI w) (he : e = nI h) (hw : w ≤ 48) (hh : h ≤ 48) (hc : ∀ x y, x < w → y < h → cN I J m (48 * y + x) (B x y) (S x y)) : bl_MC G l (d + 1) mX11_becomes [.ref m, .int a, .int e] (I, J, R, K, N) (0, 0) (fun o σ' => o = .inl none ∧ ∃ I' J', σ' = (I', J', R, K, N) ∧ bcF I I' J J' m ∧ I' m 21 = nI w ∧ I' m 22 = nI h ∧ ∀ x y, x < w → y < h → cO I' J' m (48 * y + x) (B x y) (S x y)) := by
  have km := hm.2.1
  obtain ⟨rm_31, km31, nm31⟩ := hm.f31
  obtain ⟨rm_32, km32, nm32⟩ := hm.f32
  obtain ⟨rm_33, km33, nm33⟩ := hm.f33
  obtain ⟨rm_34, km34, nm34⟩ := hm.f34
  obtain ⟨rm_35, km35, nm35⟩ := hm.f35
  obtain ⟨rm_36, km36, nm36⟩ := hm.f36
  obtain ⟨rm_37, km37, nm37⟩ := hm.f37
  obtain ⟨rm_38, km38, nm38⟩ := hm.f38
  obtain ⟨rm_39, km39, nm39⟩ := hm.f39
  obtain ⟨rm_40, km40, nm40⟩ := hm.f40
  subst ha he
  refine bl_MC_intro (by decide +kernel) rfl (Nat.le_of_ble_eq_true rfl) ?_
  have L12 : ∀ i, i ≤ w → ∀ z I1 J1, z = nI i → bcF I I1 J J1 m → I1 m 21 = nI w → I1 m 22 = nI h → (∀ x y, x < i → y < h → cO I1 J1 m (48 * y + x) (B x y) (S x y)) → bl_WP G l (d + 1) mX11_becomes 12 [(3, .int z), (0, .ref m), (1, .int (nI w)), (2, .int (nI h))] [] (I1, J1, R, K, N) (0, 0) (fun o σ' => o = .inl none ∧ ∃ I' J', σ' = (I', J', R, K, N) ∧ bcF I I' J J' m ∧ I' m 21 = nI w ∧ I' m 22 = nI h ∧ ∀ x y, x < w → y < h → cO I' J' m (48 * y + x) (B x y) (S x y)) := by
    refine bl_for w ?_ (fun i hi ih => ?_)
    · intro z I1 J1 hz f1 f2 f3 f4; subst hz
      refine bl_go oX11_becomes 80 [12, 20] rfl ?_
      refine ⟨fun h14 => ?_, fun h14 => ?_⟩
      · try simp (disch := omega) only [zI_n, zI_o, zI_lit, zI_neg, zI_add, zI_sub, zI_mul, zI_lt, zI_le, zI_eq, zI_clamp, zI_in, zI_div, zI_rem, lg_lt0, lg_gt0, lg_eq0, lg_le0, lg_ge0, Int.toNat_natCast, ge_iff_le, gt_iff_lt, List.length_cons, List.length_nil, bl_up2_at, bl_up2_nk, bl_up2_nx] at h14
        try show _ ∧ _
        try dsimp only [bl_pv]
        exact ⟨rfl, I1, J1, rfl, f1, f2, f3, f4⟩
      · try simp (disch := omega) only [zI_n, zI_o, zI_lit, zI_neg, zI_add, zI_sub, zI_mul, zI_lt, zI_le, zI_eq, zI_clamp, zI_in, zI_div, zI_rem, lg_lt0, lg_gt0, lg_eq0, lg_le0, lg_ge0, Int.toNat_natCast, ge_iff_le, gt_iff_lt, List.length_cons, List.length_nil, bl_up2_at, bl_up2_nk, bl_up2_nx] at h14
        exfalso; omega
    · intro z I1 J1 hz f1 f2 f3 f4; subst hz
      have L20 : ∀ j, j ≤ h → ∀ z I1 J1, z = nI j → bcF I I1 J J1 m → I1 m 21 = nI w → I1 m 22 = nI h → (∀ x y, x < i → y < h → cO I1 J1 m (48 * y + x) (B x y) (S x y)) → (∀ y, y < j → cO I1 J1 m (48 * y + i) (B i y) (S i y)) → bl_WP G l (d + 1) mX11_becomes 20 [(4, .int z), (3, .int (nI i)), (0, .ref m), (1, .int (nI w)), (2, .int (nI h))] [] (I1, J1, R, K, N) (0, 0) (fun o σ' => o = .inl none ∧ ∃ I' J', σ' = (I', J', R, K, N) ∧ bcF I I' J J' m ∧ I' m 21 = nI w ∧ I' m 22 = nI h ∧ ∀ x y, x < w → y < h → cO I' J' m (48 * y + x) (B x y) (S x y)) := by
        refine bl_for h ?_ (fun j hj ih2 => ?_)
        · intro z I1 J1 hz f1 f2 f3 f4 f5; subst hz
          refine bl_go oX11_becomes 80 [12, 20] rfl ?_
          refine ⟨fun h23 => ?_, fun h23 => ?_⟩
          · try simp (disch := omega) only [zI_n, zI_o, zI_lit, zI_neg, zI_add, zI_sub, zI_mul, zI_lt, zI_le, zI_eq, zI_clamp, zI_in, zI_div, zI_rem, lg_lt0, lg_gt0, lg_eq0, lg_le0, lg_ge0, Int.toNat_natCast, ge_iff_le, gt_iff_lt, List.length_cons, List.length_nil, bl_up2_at, bl_up2_nk, bl_up2_nx] at h23
            refine bl_lv [0, 2, 3, 4] rfl ?_
            try dsimp only [bl_pv]
            refine ih _ _ _ (nI_1 _) f1 f2 f3 (fun x y hx hy => ?_)
            by_cases ex : x = i
            · subst ex; exact f5 y hy
            · exact f4 x y (by omega) hy
          · try simp (disch := omega) only [zI_n, zI_o, zI_lit, zI_neg, zI_add, zI_sub, zI_mul, zI_lt, zI_le, zI_eq, zI_clamp, zI_in, zI_div, zI_rem, lg_lt0, lg_gt0, lg_eq0, lg_le0, lg_ge0, Int.toNat_natCast, ge_iff_le, gt_iff_lt, List.length_cons, List.length_nil, bl_up2_at, bl_up2_nk, bl_up2_nx] at h23
            exfalso; omega
        · intro z I1 J1 hz f1 f2 f3 f4 f5; subst hz
          have ec : (nI (48 * j + i)).toNatClampNeg = 48 * j + i := nI_clamp (by omega)
          obtain ⟨n1, n2, n3, n4, n5⟩ := bcF_N f1 (hc i j hi hj)
          refine bl_go oX11_becomes 80 [12, 20] rfl ?_
          refine ⟨fun h23 => ?_, fun h23 => ?_⟩
          · try simp (disch := omega) only [zI_n, zI_o, zI_lit, zI_neg, zI_add, zI_sub, zI_mul, zI_lt, zI_le, zI_eq, zI_clamp, zI_in, zI_div, zI_rem, lg_lt0, lg_gt0, lg_eq0, lg_le0, lg_ge0, Int.toNat_natCast, ge_iff_le, gt_iff_lt, List.length_cons, List.length_nil, bl_up2_at, bl_up2_nk, bl_up2_nx] at h23
            exfalso; omega
          · try simp (disch := omega) only [zI_n, zI_o, zI_lit, zI_neg, zI_add, zI_sub, zI_mul, zI_lt, zI_le, zI_eq, zI_clamp, zI_in, zI_div, zI_rem, lg_lt0, lg_gt0, lg_eq0, lg_le0, lg_ge0, Int.toNat_natCast, ge_iff_le, gt_iff_lt, List.length_cons, List.length_nil, bl_up2_at, bl_up2_nk, bl_up2_nx] at h23
            refine ⟨rfl, (Nat.le_of_ble_eq_true rfl), (0, 0), Nat.le_of_ble_eq_true rfl, Nat.le_of_ble_eq_true rfl, bl_MC_mono (c_Model_cell (d := d) (x := i) (y := j) rfl rfl) (fun o29 σ29 q29 => ?_)⟩
            try dsimp only [bl_pv] at q29
            obtain ⟨rfl, rfl⟩ := q29
            refine bl_go oX11_becomes 80 [12, 20] rfl ?_
            refine ⟨km, _, bl_vs rm_31, km, _, bl_vs rm_34, km34, (by first | exact (by rw [nm34]; exact vp_in_nI (by omega) (by omega)) | ((try dsimp only [bl_pv]); show vp_in _ (N _); rw [nm34]; simp (disch := omega) only [zI_n, zI_o, zI_lit, zI_neg, zI_add, zI_sub, zI_mul, zI_lt, zI_le, zI_eq, zI_clamp, zI_in, zI_div, zI_rem, lg_lt0, lg_gt0, lg_eq0, lg_le0, lg_ge0, Int.toNat_natCast, ge_iff_le, gt_iff_lt, List.length_cons, List.length_nil, bl_up2_at, bl_up2_nk, bl_up2_nx] <;> omega)), km31, (by first | exact (by rw [nm31]; exact vp_in_nI (by omega) (by omega)) | ((try dsimp only [bl_pv]); show vp_in _ (N _); rw [nm31]; simp (disch := omega) only [zI_n, zI_o, zI_lit, zI_neg, zI_add, zI_sub, zI_mul, zI_lt, zI_le, zI_eq, zI_clamp, zI_in, zI_div, zI_rem, lg_lt0, lg_gt0, lg_eq0, lg_le0, lg_ge0, Int.toNat_natCast, ge_iff_le, gt_iff_lt, List.length_cons, List.length_nil, bl_up2_at, bl_up2_nk, bl_up2_nx] <;> omega)), km, _, bl_vs rm_32, km, _, bl_vs rm_35, km35, (by first | exact (by rw [nm35]; exact vp_in_nI (by omega) (by omega)) | ((try dsimp only [bl_pv]); show vp_in _ (N _); rw [nm35]; simp (disch := omega) only [zI_n, zI_o, zI_lit, zI_neg, zI_add, zI_sub, zI_mul, zI_lt, zI_le, zI_eq, zI_clamp, zI_in, zI_div, zI_rem, lg_lt0, lg_gt0, lg_eq0, lg_le0, lg_ge0, Int.toNat_natCast, ge_iff_le, gt_iff_lt, List.length_cons, List.length_nil, bl_up2_at, bl_up2_nk, bl_up2_nx] <;> omega)), km32, (by first | exact (by rw [nm32]; exact vp_in_nI (by omega) (by omega)) | ((try dsimp only [bl_pv]); show vp_in _ (N _); rw [nm32]; simp (disch := omega) only [zI_n, zI_o, zI_lit, zI_neg, zI_add, zI_sub, zI_mul, zI_lt, zI_le, zI_eq, zI_clamp, zI_in, zI_div, zI_rem, lg_lt0, lg_gt0, lg_eq0, lg_le0, lg_ge0, Int.toNat_natCast, ge_iff_le, gt_iff_lt, List.length_cons, List.length_nil, bl_up2_at, bl_up2_nk, bl_up2_nx] <;> omega)), km, _, bl_vs rm_33, km, _, bl_vs rm_36, km36, (by first | exact (by rw [nm36]; exact vp_in_nI (by omega) (by omega)) | ((try dsimp only [bl_pv]); show vp_in _ (N _); rw [nm36]; simp (disch := omega) only [zI_n, zI_o, zI_lit, zI_neg, zI_add, zI_sub, zI_mul, zI_lt, zI_le, zI_eq, zI_clamp, zI_in, zI_div, zI_rem, lg_lt0, lg_gt0, lg_eq0, lg_le0, lg_ge0, Int.toNat_natCast, ge_iff_le, gt_iff_lt, List.length_cons, List.length_nil, bl_up2_at, bl_up2_nk, bl_up2_nx] <;> omega)), km33, (by first | exact (by rw [nm33]; exact vp_in_nI (by omega) (by omega)) | ((try dsimp only [bl_pv]); show vp_in _ (N _); rw [nm33]; simp (disch := omega) only [zI_n, zI_o, zI_lit, zI_neg, zI_add, zI_sub, zI_mul, zI_lt, zI_le, zI_eq, zI_clamp, zI_in, zI_div, zI_rem, lg_lt0, lg_gt0, lg_eq0, lg_le0, lg_ge0, Int.toNat_natCast, ge_iff_le, gt_iff_lt, List.length_cons, List.length_nil, bl_up2_at, bl_up2_nk, bl_up2_nx] <;> omega)), km, _, bl_vs rm_37, km, _, bl_vs rm_39, Or.inl ⟨km39, (by first | exact (by rw [nm39]; exact vp_in_nI (by omega) (by omega)) | ((try dsimp only [bl_pv]); show vp_in _ (N _); rw [nm39]; simp (disch := omega) only [zI_n, zI_o, zI_lit, zI_neg, zI_add, zI_sub, zI_mul, zI_lt, zI_le, zI_eq, zI_clamp, zI_in, zI_div, zI_rem, lg_lt0, lg_gt0, lg_eq0, lg_le0, lg_ge0, Int.toNat_natCast, ge_iff_le, gt_iff_lt, List.length_cons, List.length_nil, bl_up2_at, bl_up2_nk, bl_up2_nx] <;> omega)), km37, (by first | exact (by rw [nm37]; exact vp_in_nI (by omega) (by omega)) | ((try dsimp only [bl_pv]); show vp_in _ (N _); rw [nm37]; simp (disch := omega) only [zI_n, zI_o, zI_lit, zI_neg, zI_add, zI_sub, zI_mul, zI_lt, zI_le, zI_eq, zI_clamp, zI_in, zI_div, zI_rem, lg_lt0, lg_gt0, lg_eq0, lg_le0, lg_ge0, Int.toNat_natCast, ge_iff_le, gt_iff_lt, List.length_cons, List.length_nil, bl_up2_at, bl_up2_nk, bl_up2_nx] <;> omega)), km, _, bl_vs rm_38, km, _, bl_vs rm_40, Or.inl ⟨km40, (by first | exact (by rw [nm40]; exact vp_in_nI (by omega) (by omega)) | ((try dsimp only [bl_pv]); show vp_in _ (N _); rw [nm40]; simp (disch := omega) only [zI_n, zI_o, zI_lit, zI_neg, zI_add, zI_sub, zI_mul, zI_lt, zI_le, zI_eq, zI_clamp, zI_in, zI_div, zI_rem, lg_lt0, lg_gt0, lg_eq0, lg_le0, lg_ge0, Int.toNat_natCast, ge_iff_le, gt_iff_lt, List.length_cons, List.length_nil, bl_up2_at, bl_up2_nk, bl_up2_nx] <;> omega)), km38, (by first | exact (by rw [nm38]; exact vp_in_nI (by omega) (by omega)) | ((try dsimp only [bl_pv]); show vp_in _ (N _); rw [nm38]; simp (disch := omega) only [zI_n, zI_o, zI_lit, zI_neg, zI_add, zI_sub, zI_mul, zI_lt, zI_le, zI_eq, zI_clamp, zI_in, zI_div, zI_rem, lg_lt0, lg_gt0, lg_eq0, lg_le0, lg_ge0, Int.toNat_natCast, ge_iff_le, gt_iff_lt, List.length_cons, List.length_nil, bl_up2_at, bl_up2_nk, bl_up2_nx] <;> omega)), ?_⟩⟩⟩
            refine bl_lv [0, 2, 3, 4, 5] rfl ?_
            try dsimp only [bl_pv]
            rw [ec]
            have pres : ∀ c b s, c ≠ 48 * j + i → cO I1 J1 m c b s → cO (bl_up2 (bl_up2 I1 (m + 37) (48 * j + i) (I1 (m + 39) (48 * j + i))) (m + 38) (48 * j + i) (bl_up2 I1 (m + 37) (48 * j + i) (I1 (m + 39) (48 * j + i)) (m + 40) (48 * j + i))) (bl_up2 (bl_up2 (bl_up2 J1 (m + 31) (48 * j + i) (J1 (m + 34) (48 * j + i))) (m + 32) (48 * j + i) (bl_up2 J1 (m + 31) (48 * j + i) (J1 (m + 34) (48 * j + i)) (m + 35) (48 * j + i))) (m + 33) (48 * j + i) (bl_up2 (bl_up2 J1 (m + 31) (48 * j + i) (J1 (m + 34) (48 * j + i))) (m + 32) (48 * j + i) (bl_up2 J1 (m + 31) (48 * j + i) (J1 (m + 34) (48 * j + i)) (m + 35) (48 * j + i)) (m + 36) (48 * j + i))) m c b s := by
              intro c b s hcc h
              unfold cO
              simp (disch := omega) only [bl_up2_nk, bl_up2_nx]
              exact h
            refine ih2 _ _ _ (nI_1 _) ⟨fun x x1 x2 x3 => ?_, fun k k1 k2 => ?_, fun x x1 x2 x3 => ?_⟩ ?_ ?_ (fun x y hx hy => pres _ _ _ (by omega) (f4 x y hx hy)) (fun y hy => ?_)
            · rw [bl_up2_ne x3, bl_up2_ne x2]; exact f1.1 x x1 x2 x3
            · rw [bl_up2_ne (by omega), bl_up2_ne (by omega)]; exact f1.2.1 k k1 k2
            · rw [bl_up2_ne x3, bl_up2_ne x2, bl_up2_ne x1]; exact f1.2.2 x x1 x2 x3
            · rw [bl_up2_ne (by omega), bl_up2_ne (by omega)]; exact f2
            · rw [bl_up2_ne (by omega), bl_up2_ne (by omega)]; exact f3
            · by_cases ey : y = j
              · subst ey
                unfold cO
                simp (disch := omega) only [bl_up2_at, bl_up2_nx]
                exact ⟨n1, n2, n3, n4, n5⟩
              · exact pres _ _ _ (by omega) (f5 y (by omega))
      refine bl_go oX11_becomes 80 [12, 20] rfl ?_
      refine ⟨fun h14 => ?_, fun h14 => ?_⟩
      · try simp (disch := omega) only [zI_n, zI_o, zI_lit, zI_neg, zI_add, zI_sub, zI_mul, zI_lt, zI_le, zI_eq, zI_clamp, zI_in, zI_div, zI_rem, lg_lt0, lg_gt0, lg_eq0, lg_le0, lg_ge0, Int.toNat_natCast, ge_iff_le, gt_iff_lt, List.length_cons, List.length_nil, bl_up2_at, bl_up2_nk, bl_up2_nx] at h14
        exfalso; omega
      · try simp (disch := omega) only [zI_n, zI_o, zI_lit, zI_neg, zI_add, zI_sub, zI_mul, zI_lt, zI_le, zI_eq, zI_clamp, zI_in, zI_div, zI_rem, lg_lt0, lg_gt0, lg_eq0, lg_le0, lg_ge0, Int.toNat_natCast, ge_iff_le, gt_iff_lt, List.length_cons, List.length_nil, bl_up2_at, bl_up2_nk, bl_up2_nx] at h14
        try dsimp only [bl_pv]
        exact L20 0 (by omega) _ _ _ rfl f1 f2 f3 f4 (fun y hy => absurd hy (by omega))
  refine bl_go oX11_becomes 80 [12, 20] rfl ?_
  refine ⟨km, Or.inr (Or.inr ⟨rfl, rfl, _, rfl⟩), (fun h => by cases h), km, Or.inr (Or.inr ⟨rfl, rfl, _, rfl⟩), (fun h => by cases h), ?_⟩
  try dsimp only [bl_pv]
  refine L12 0 (by omega) _ _ _ rfl ⟨fun x x1 x2 x3 => ?_, fun k k1 k2 => ?_, fun x x1 x2 x3 => rfl⟩ ?_ ?_ (fun x y hx => absurd hx (by omega))
  · rw [bl_up2_ne x1, bl_up2_ne x1]
  · rw [bl_up2_nk k2, bl_up2_nk k1]
  · rw [bl_up2_nk (by omega), bl_up2_at]
  · rw [bl_up2_at]
end MODEL13
