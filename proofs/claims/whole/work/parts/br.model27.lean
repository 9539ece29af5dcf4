/-! ===== Model: most, least, having ===== -/
def isMx (f : Nat → Nat → Nat) (w h v : Nat) : Prop := (∃ x y, x < w ∧ y < h ∧ f x y = v) ∧ ∀ x y, x < w → y < h → f x y ≤ v
def isMn (f : Nat → Nat → Nat) (w h v : Nat) : Prop := (∃ x y, x < w ∧ y < h ∧ f x y = v) ∧ ∀ x y, x < w → y < h → v ≤ f x y
theorem isMx_eq {f : Nat → Nat → Nat} {w h v v' : Nat} (a : isMx f w h v) (b : isMx f w h v') : v = v' := by
  obtain ⟨⟨x, y, hx, hy, rfl⟩, h1⟩ := a
  obtain ⟨⟨x', y', hx', hy', rfl⟩, h2⟩ := b
  exact Nat.le_antisymm (h2 x y hx hy) (h1 x' y' hx' hy')
theorem isMn_eq {f : Nat → Nat → Nat} {w h v v' : Nat} (a : isMn f w h v) (b : isMn f w h v') : v = v' := by
  obtain ⟨⟨x, y, hx, hy, rfl⟩, h1⟩ := a
  obtain ⟨⟨x', y', hx', hy', rfl⟩, h2⟩ := b
  exact Nat.le_antisymm (h1 x' y' hx' hy') (h2 x y hx hy)
theorem mxf_le {f : Nat → Nat} : ∀ {n i : Nat}, i < n → f i ≤ mxf f n
  | n + 1, i, hi => by
    show f i ≤ if f n > mxf f n then f n else mxf f n
    by_cases e : i = n
    · subst e; split <;> omega
    · have := mxf_le (f := f) (show i < n by omega); split <;> omega
theorem mxf_at {f : Nat → Nat} : ∀ {n : Nat}, 0 < n → ∃ i, i < n ∧ f i = mxf f n
  | 1, _ => ⟨0, by omega, by show f 0 = if f 0 > 0 then f 0 else 0; split <;> omega⟩
  | n + 2, _ => by
    obtain ⟨i, hi, e⟩ := mxf_at (f := f) (show 0 < n + 1 by omega)
    show ∃ i, i < n + 2 ∧ f i = if f (n + 1) > mxf f (n + 1) then f (n + 1) else mxf f (n + 1)
    by_cases hq : f (n + 1) > mxf f (n + 1)
    · rw [if_pos hq]; exact ⟨n + 1, by omega, rfl⟩
    · rw [if_neg hq]; exact ⟨i, by omega, e⟩
theorem mnf_le {f : Nat → Nat} : ∀ {n i : Nat}, i < n → mnf f n ≤ f i
  | n + 1, i, hi => by
    show (if f n < mnf f n then f n else mnf f n) ≤ f i
    by_cases e : i = n
    · subst e; split <;> omega
    · have := mnf_le (f := f) (show i < n by omega); split <;> omega
theorem mnf_at {f : Nat → Nat} : ∀ {n : Nat}, 0 < n → (∀ i, i < n → f i < 1152921504606846976) → ∃ i, i < n ∧ f i = mnf f n
  | 1, _, hb => ⟨0, by omega, by have := hb 0 (by omega); show f 0 = if f 0 < 1152921504606846976 then f 0 else _; rw [if_pos this]⟩
  | n + 2, _, hb => by
    obtain ⟨i, hi, e⟩ := mnf_at (f := f) (show 0 < n + 1 by omega) (fun i hi => hb i (by omega))
    show ∃ i, i < n + 2 ∧ f i = if f (n + 1) < mnf f (n + 1) then f (n + 1) else mnf f (n + 1)
    by_cases hq : f (n + 1) < mnf f (n + 1)
    · rw [if_pos hq]; exact ⟨n + 1, by omega, rfl⟩
    · rw [if_neg hq]; exact ⟨i, by omega, e⟩
theorem isMx_mul {a d : Nat → Nat} {w h : Nat} (hw : 0 < w) (hh : 0 < h) : isMx (fun x y => a x * d y) w h (mxf a w * mxf d h) := by
  obtain ⟨i, hi, ei⟩ := mxf_at (f := a) hw
  obtain ⟨j, hj, ej⟩ := mxf_at (f := d) hh
  exact ⟨⟨i, j, hi, hj, by show a i * d j = _; rw [ei, ej]⟩, fun x y hx hy => Nat.mul_le_mul (mxf_le hx) (mxf_le hy)⟩
theorem isMn_mul {a d : Nat → Nat} {w h : Nat} (hw : 0 < w) (hh : 0 < h) (ha : ∀ i, i < w → a i < 1152921504606846976) (hd : ∀ i, i < h → d i < 1152921504606846976) : isMn (fun x y => a x * d y) w h (mnf a w * mnf d h) := by
  obtain ⟨i, hi, ei⟩ := mnf_at (f := a) hw ha
  obtain ⟨j, hj, ej⟩ := mnf_at (f := d) hh hd
  exact ⟨⟨i, j, hi, hj, by show a i * d j = _; rw [ei, ej]⟩, fun x y hx hy => Nat.mul_le_mul (mnf_le hx) (mnf_le hy)⟩
theorem isMx_1 {f : Nat → Nat → Nat} {w h v : Nat} (a : isMx f w h v) : isMx (fun x y => f x y + 1) w h (v + 1) := by
  obtain ⟨⟨x, y, hx, hy, rfl⟩, h1⟩ := a
  exact ⟨⟨x, y, hx, hy, rfl⟩, fun x' y' hx' hy' => Nat.succ_le_succ (h1 x' y' hx' hy')⟩
theorem isMn_1 {f : Nat → Nat → Nat} {w h v : Nat} (a : isMn f w h v) : isMn (fun x y => f x y + 1) w h (v + 1) := by
  obtain ⟨⟨x, y, hx, hy, rfl⟩, h1⟩ := a
  exact ⟨⟨x, y, hx, hy, rfl⟩, fun x' y' hx' hy' => Nat.succ_le_succ (h1 x' y' hx' hy')⟩
def ofv (S : sl) (v : Nat) : Nat → Nat → Nat := fun x y => if v = 0 then slP S x y + 1 else if v = 1 then slP S x y else slQ S x y
theorem ofv_B {S : sl} (h : slB S) {v x y : Nat} (hx : x < S.1.1) (hy : y < S.2.1.1) : ofv S v x y ≤ 158329674399745 := by
  have := h.P hx hy; have := h.Q hx hy
  unfold ofv; split
  · omega
  · split <;> omega
def mxV (S : sl) (w : Int32) : Int64 := if w = 2 then nJ (mxf S.1.2.1 S.1.1 * mxf S.2.1.2.1 S.2.1.1) else if w = 0 then nJ (mxf S.1.2.2 S.1.1 * mxf S.2.1.2.2 S.2.1.1 + 1) else nJ (mxf S.1.2.2 S.1.1 * mxf S.2.1.2.2 S.2.1.1)
def mnV (S : sl) (w : Int32) : Int64 := if w = 2 then nJ (mnf S.1.2.1 S.1.1 * mnf S.2.1.2.1 S.2.1.1) else if w = 0 then nJ (mnf S.1.2.2 S.1.1 * mnf S.2.1.2.2 S.2.1.1 + 1) else nJ (mnf S.1.2.2 S.1.1 * mnf S.2.1.2.2 S.2.1.1)
theorem mxV_of {S : sl} (hS : slOk S) {v n : Nat} (hv : v ≤ 2) (h : isMx (ofv S v) S.1.1 S.2.1.1 n) : nJ n = mxV S (nI v) := by
  have hv' : v = 0 ∨ v = 1 ∨ v = 2 := by omega
  unfold mxV
  rcases hv' with rfl | rfl | rfl
  · rw [if_neg (by decide), if_pos (show nI 0 = 0 from rfl)]
    exact congrArg nJ (isMx_eq h (isMx_1 (isMx_mul hS.1.1 hS.2.1)))
  · rw [if_neg (by decide), if_neg (by decide)]
    exact congrArg nJ (isMx_eq h (isMx_mul hS.1.1 hS.2.1))
  · rw [if_pos (show nI 2 = 2 from rfl)]
    exact congrArg nJ (isMx_eq h (isMx_mul hS.1.1 hS.2.1))
theorem mnV_of {S : sl} (hS : slOk S) (hB : slB S) {v n : Nat} (hv : v ≤ 2) (h : isMn (ofv S v) S.1.1 S.2.1.1 n) : nJ n = mnV S (nI v) := by
  have hv' : v = 0 ∨ v = 1 ∨ v = 2 := by omega
  have b1 : ∀ i, i < S.1.1 → S.1.2.1 i < 1152921504606846976 := fun i hi => Nat.lt_of_le_of_lt (smf_ge hi) (by have := hB.2.2.2.1.1; omega)
  have b2 : ∀ i, i < S.2.1.1 → S.2.1.2.1 i < 1152921504606846976 := fun i hi => Nat.lt_of_le_of_lt (smf_ge hi) (by have := hB.2.2.2.1.2; omega)
  have b3 : ∀ i, i < S.1.1 → S.1.2.2 i < 1152921504606846976 := fun i hi => Nat.lt_of_le_of_lt (hB.2.2.2.2.1 i hi).1 (b1 i hi)
  have b4 : ∀ i, i < S.2.1.1 → S.2.1.2.2 i < 1152921504606846976 := fun i hi => Nat.lt_of_le_of_lt (hB.2.2.2.2.2 i hi).1 (b2 i hi)
  unfold mnV
  rcases hv' with rfl | rfl | rfl
  · rw [if_neg (by decide), if_pos (show nI 0 = 0 from rfl)]
    exact congrArg nJ (isMn_eq h (isMn_1 (isMn_mul hS.1.1 hS.2.1 b3 b4)))
  · rw [if_neg (by decide), if_neg (by decide)]
    exact congrArg nJ (isMn_eq h (isMn_mul hS.1.1 hS.2.1 b3 b4))
  · rw [if_pos (show nI 2 = 2 from rfl)]
    exact congrArg nJ (isMn_eq h (isMn_mul hS.1.1 hS.2.1 b1 b2))
section MODEL27
variable {G : bl_G} {l : Launch} {d m : Nat} {I : Nat → Nat → Int32} {J : Nat → Nat → Int64} {R : Nat → Nat → Option Nat} {K N : Nat → Nat} {A : aS} {x y w : Int32} {S : sl}
theorem c_Model_of {p q v : Nat} {a b : Int32} (hm : mdS R K N m) (hs : msC I J m S.1.1 S.2.1.1 (slP S) (slQ S)) (hS : slOk S) (ha : a = nI p) (hb : b = nI q) (hp : p < S.1.1) (hq : q < S.2.1.1) (hw : w = nI v) (hv : v ≤ 2) : bl_MC G l (d + 1) mX11_of [.ref m, .int a, .int b, .int w] (I, J, R, K, N) (0, 0) (fun o σ' => o = .inl (some (.long (nJ (ofv S v p q)))) ∧ σ' = (I, J, R, K, N)) := by
  have km := hm.2.1
  obtain ⟨rm_31, km31, nm31⟩ := hm.f31
  obtain ⟨rm_32, km32, nm32⟩ := hm.f32
  obtain ⟨rm_33, km33, nm33⟩ := hm.f33
  obtain ⟨⟨-, o1⟩, -, o2⟩ := hS
  have ec : (nI (48 * q + p)).toNatClampNeg = 48 * q + p := nI_clamp (by omega)
  obtain ⟨z1, z2, z3, z4, z5⟩ := hs.2.2 p q hp hq
  subst ha hb hw
  refine bl_MC_intro (by decide +kernel) rfl (Nat.le_of_ble_eq_true rfl) ?_
  refine bl_go oX11_of 80 [] rfl ?_
  refine ⟨rfl, (Nat.le_of_ble_eq_true rfl), (0, 0), Nat.le_of_ble_eq_true rfl, Nat.le_of_ble_eq_true rfl, bl_MC_mono (c_Model_cell (d := d) (x := p) (y := q) rfl rfl) (fun o2 σ2 q2 => ?_)⟩
  try dsimp only [bl_pv] at q2
  obtain ⟨rfl, rfl⟩ := q2
  refine bl_go oX11_of 80 [] rfl ?_
  refine ⟨fun h8 => ?_, fun h8 => ?_⟩
  · try simp (disch := omega) only [zI_n, zI_o, zI_lit, zI_neg, zI_add, zI_sub, zI_mul, zI_lt, zI_le, zI_eq, zI_clamp, zI_in, zI_div, zI_rem, lg_lt0, lg_gt0, lg_eq0, lg_le0, lg_ge0, Int.toNat_natCast, ge_iff_le, gt_iff_lt, List.length_cons, List.length_nil, bl_up2_at, bl_up2_nk, bl_up2_nx] at h8
    first
    | (exfalso; first | omega | exact h8 trivial)
    | (refine ⟨fun h23 => ?_, fun h23 => ?_⟩
       · try simp (disch := omega) only [zI_n, zI_o, zI_lit, zI_neg, zI_add, zI_sub, zI_mul, zI_lt, zI_le, zI_eq, zI_clamp, zI_in, zI_div, zI_rem, lg_lt0, lg_gt0, lg_eq0, lg_le0, lg_ge0, Int.toNat_natCast, ge_iff_le, gt_iff_lt, List.length_cons, List.length_nil, bl_up2_at, bl_up2_nk, bl_up2_nx] at h23
         first
         | (exfalso; first | omega | exact h23 trivial)
         | (refine ⟨km, _, bl_vs rm_33, km33, (by first | exact (by rw [nm33]; exact vp_in_nI (by omega) (by omega)) | ((try dsimp only [bl_pv]); show vp_in _ (N _); rw [nm33]; simp (disch := omega) only [zI_n, zI_o, zI_lit, zI_neg, zI_add, zI_sub, zI_mul, zI_lt, zI_le, zI_eq, zI_clamp, zI_in, zI_div, zI_rem, lg_lt0, lg_gt0, lg_eq0, lg_le0, lg_ge0, Int.toNat_natCast, ge_iff_le, gt_iff_lt, List.length_cons, List.length_nil, bl_up2_at, bl_up2_nk, bl_up2_nx] <;> omega)), ?_⟩
            try show _ ∧ _
            try dsimp only [bl_pv]
            refine ⟨?_, rfl⟩
            rw [ec]
            unfold ofv
            first
            | (rw [if_pos (by omega), z1])
            | (rw [if_neg (by omega), if_pos (by omega), z2])
            | (rw [if_neg (by omega), if_neg (by omega), z3]))
       · try simp (disch := omega) only [zI_n, zI_o, zI_lit, zI_neg, zI_add, zI_sub, zI_mul, zI_lt, zI_le, zI_eq, zI_clamp, zI_in, zI_div, zI_rem, lg_lt0, lg_gt0, lg_eq0, lg_le0, lg_ge0, Int.toNat_natCast, ge_iff_le, gt_iff_lt, List.length_cons, List.length_nil, bl_up2_at, bl_up2_nk, bl_up2_nx] at h23
         first
         | (exfalso; first | omega | exact h23 trivial)
         | (refine ⟨km, _, bl_vs rm_32, km32, (by first | exact (by rw [nm32]; exact vp_in_nI (by omega) (by omega)) | ((try dsimp only [bl_pv]); show vp_in _ (N _); rw [nm32]; simp (disch := omega) only [zI_n, zI_o, zI_lit, zI_neg, zI_add, zI_sub, zI_mul, zI_lt, zI_le, zI_eq, zI_clamp, zI_in, zI_div, zI_rem, lg_lt0, lg_gt0, lg_eq0, lg_le0, lg_ge0, Int.toNat_natCast, ge_iff_le, gt_iff_lt, List.length_cons, List.length_nil, bl_up2_at, bl_up2_nk, bl_up2_nx] <;> omega)), ?_⟩
            try show _ ∧ _
            try dsimp only [bl_pv]
            refine ⟨?_, rfl⟩
            rw [ec]
            unfold ofv
            first
            | (rw [if_pos (by omega), z1])
            | (rw [if_neg (by omega), if_pos (by omega), z2])
            | (rw [if_neg (by omega), if_neg (by omega), z3])))
  · try simp (disch := omega) only [zI_n, zI_o, zI_lit, zI_neg, zI_add, zI_sub, zI_mul, zI_lt, zI_le, zI_eq, zI_clamp, zI_in, zI_div, zI_rem, lg_lt0, lg_gt0, lg_eq0, lg_le0, lg_ge0, Int.toNat_natCast, ge_iff_le, gt_iff_lt, List.length_cons, List.length_nil, bl_up2_at, bl_up2_nk, bl_up2_nx] at h8
    first
    | (exfalso; first | omega | exact h8 trivial)
    | (refine ⟨km, _, bl_vs rm_31, km31, (by first | exact (by rw [nm31]; exact vp_in_nI (by omega) (by omega)) | ((try dsimp only [bl_pv]); show vp_in _ (N _); rw [nm31]; simp (disch := omega) only [zI_n, zI_o, zI_lit, zI_neg, zI_add, zI_sub, zI_mul, zI_lt, zI_le, zI_eq, zI_clamp, zI_in, zI_div, zI_rem, lg_lt0, lg_gt0, lg_eq0, lg_le0, lg_ge0, Int.toNat_natCast, ge_iff_le, gt_iff_lt, List.length_cons, List.length_nil, bl_up2_at, bl_up2_nk, bl_up2_nx] <;> omega)), ?_⟩
       try show _ ∧ _
       try dsimp only [bl_pv]
       refine ⟨?_, rfl⟩
       rw [ec]
       unfold ofv
       first
       | (rw [if_pos (by omega), z1])
       | (rw [if_neg (by omega), if_pos (by omega), z2])
       | (rw [if_neg (by omega), if_neg (by omega), z3]))

theorem c_Model_most0 {v : Nat} (hm : mdS R K N m) (hs : msC I J m S.1.1 S.2.1.1 (slP S) (slQ S)) (hS : slOk S) (hB : slB S) (hw : w = nI v) (hv : v ≤ 2) : bl_MC G l (d + 2) mX11_most0 [.ref m, .int w] (I, J, R, K, N) (0, 0) (fun o σ' => (∃ n, o = .inl (some (.long (nJ n))) ∧ isMx (ofv S v) S.1.1 S.2.1.1 n) ∧ σ' = (I, J, R, K, N)) := by
  have km := hm.2.1
  subst hw
  have e21 := hs.1
  have e22 := hs.2.1
  have hS' := hS
  obtain ⟨⟨o0, o1⟩, o3, o2⟩ := hS'
  refine bl_MC_intro (by decide +kernel) rfl (Nat.le_of_ble_eq_true rfl) ?_
  have L11 : ∀ i, i ≤ S.1.1 → ∀ z n, z = nI i → (∃ x y, x < S.1.1 ∧ y < S.2.1.1 ∧ ofv S v x y = n) → (∀ x y, x < i → y < S.2.1.1 → ofv S v x y ≤ n) → bl_WP G l (d + 2) mX11_most0 11 [(4, .int z), (2, .long (nJ n)), (0, .ref m), (1, .int (nI v))] [] (I, J, R, K, N) (0, 0) (fun o σ' => (∃ n, o = .inl (some (.long (nJ n))) ∧ isMx (ofv S v) S.1.1 S.2.1.1 n) ∧ σ' = (I, J, R, K, N)) := by
    refine bl_for S.1.1 ?_ (fun i hi ih => ?_)
    · intro z n hz f1 f2; subst hz
      refine bl_go oX11_most0 80 [11, 23] rfl ?_
      refine ⟨km, fun h17 => ?_, fun h17 => ?_⟩
      · try simp (disch := omega) only [e21, zI_n, zI_o, zI_lit, zI_neg, zI_add, zI_sub, zI_mul, zI_lt, zI_le, zI_eq, zI_clamp, zI_in, zI_div, zI_rem, lg_lt0, lg_gt0, lg_eq0, lg_le0, lg_ge0, Int.toNat_natCast, ge_iff_le, gt_iff_lt, List.length_cons, List.length_nil, bl_up2_at, bl_up2_nk, bl_up2_nx] at h17
        try show _ ∧ _
        try dsimp only [bl_pv]
        exact ⟨⟨n, rfl, f1, f2⟩, rfl⟩
      · try simp (disch := omega) only [e21, zI_n, zI_o, zI_lit, zI_neg, zI_add, zI_sub, zI_mul, zI_lt, zI_le, zI_eq, zI_clamp, zI_in, zI_div, zI_rem, lg_lt0, lg_gt0, lg_eq0, lg_le0, lg_ge0, Int.toNat_natCast, ge_iff_le, gt_iff_lt, List.length_cons, List.length_nil, bl_up2_at, bl_up2_nk, bl_up2_nx] at h17
        exfalso; omega
    · intro z n hz f1 f2; subst hz
      have L23 : ∀ j, j ≤ S.2.1.1 → ∀ z n, z = nI j → (∃ x y, x < S.1.1 ∧ y < S.2.1.1 ∧ ofv S v x y = n) → (∀ x y, x < i → y < S.2.1.1 → ofv S v x y ≤ n) → (∀ y, y < j → ofv S v i y ≤ n) → bl_WP G l (d + 2) mX11_most0 23 [(5, .int z), (4, .int (nI i)), (2, .long (nJ n)), (0, .ref m), (1, .int (nI v))] [] (I, J, R, K, N) (0, 0) (fun o σ' => (∃ n, o = .inl (some (.long (nJ n))) ∧ isMx (ofv S v) S.1.1 S.2.1.1 n) ∧ σ' = (I, J, R, K, N)) := by
        refine bl_for S.2.1.1 ?_ (fun j hj ih2 => ?_)
        · intro z n hz f1 f2 f3; subst hz
          refine bl_go oX11_most0 80 [11, 23] rfl ?_
          refine ⟨km, fun h29 => ?_, fun h29 => ?_⟩
          · try simp (disch := omega) only [e22, zI_n, zI_o, zI_lit, zI_neg, zI_add, zI_sub, zI_mul, zI_lt, zI_le, zI_eq, zI_clamp, zI_in, zI_div, zI_rem, lg_lt0, lg_gt0, lg_eq0, lg_le0, lg_ge0, Int.toNat_natCast, ge_iff_le, gt_iff_lt, List.length_cons, List.length_nil, bl_up2_at, bl_up2_nk, bl_up2_nx] at h29
            refine bl_lv [0, 2, 3, 4] rfl ?_
            try dsimp only [bl_pv]
            refine ih _ _ (nI_1 _) f1 (fun x y hx hy => ?_)
            by_cases ex : x = i
            · subst ex; exact f3 y hy
            · exact f2 x y (by omega) hy
          · try simp (disch := omega) only [e22, zI_n, zI_o, zI_lit, zI_neg, zI_add, zI_sub, zI_mul, zI_lt, zI_le, zI_eq, zI_clamp, zI_in, zI_div, zI_rem, lg_lt0, lg_gt0, lg_eq0, lg_le0, lg_ge0, Int.toNat_natCast, ge_iff_le, gt_iff_lt, List.length_cons, List.length_nil, bl_up2_at, bl_up2_nk, bl_up2_nx] at h29
            exfalso; omega
        · intro z n hz f1 f2 f3; subst hz
          have hb1 := ofv_B hB (v := v) hi hj
          have hb2 : n ≤ 158329674399745 := by obtain ⟨x, y, hx, hy, e⟩ := f1; rw [← e]; exact ofv_B hB hx hy
          refine bl_go oX11_most0 80 [11, 23] rfl ?_
          refine ⟨km, fun h29 => ?_, fun h29 => ?_⟩
          · try simp (disch := omega) only [e22, zI_n, zI_o, zI_lit, zI_neg, zI_add, zI_sub, zI_mul, zI_lt, zI_le, zI_eq, zI_clamp, zI_in, zI_div, zI_rem, lg_lt0, lg_gt0, lg_eq0, lg_le0, lg_ge0, Int.toNat_natCast, ge_iff_le, gt_iff_lt, List.length_cons, List.length_nil, bl_up2_at, bl_up2_nk, bl_up2_nx] at h29
            exfalso; omega
          · try simp (disch := omega) only [e22, zI_n, zI_o, zI_lit, zI_neg, zI_add, zI_sub, zI_mul, zI_lt, zI_le, zI_eq, zI_clamp, zI_in, zI_div, zI_rem, lg_lt0, lg_gt0, lg_eq0, lg_le0, lg_ge0, Int.toNat_natCast, ge_iff_le, gt_iff_lt, List.length_cons, List.length_nil, bl_up2_at, bl_up2_nk, bl_up2_nx] at h29
            refine ⟨rfl, rfl, km, (Nat.le_of_ble_eq_true rfl), (0, 0), Nat.le_of_ble_eq_true rfl, Nat.le_of_ble_eq_true rfl, bl_MC_mono (c_Model_of (d := d) (S := S) (p := i) (q := j) (v := v) hm hs hS rfl rfl hi hj rfl hv) (fun o38 σ38 q38 => ?_)⟩
            try dsimp only [bl_pv] at q38
            obtain ⟨rfl, rfl⟩ := q38
            refine bl_go oX11_most0 80 [11, 23] rfl ?_
            refine ⟨fun h43 => ?_, fun h43 => ?_⟩
            · try simp (disch := omega) only [bl_pv, cl0, cl1, cl2, cl3, cl4, cl5, cl6, cl7, cl8, cl9, bl_up2_at, bl_up2_nk, bl_up2_nx] at h43
              refine bl_lv [0, 2, 1, 3, 4] rfl ?_
              try dsimp only [bl_pv]
              first
              | (rw [lgq_le0, Decidable.not_not, nJ_lt (by omega) (by omega)] at h43
                 refine ih2 _ _ (nI_1 _) ⟨i, j, hi, hj, rfl⟩ (fun x y hx hy => ?_) (fun y hy => ?_)
                 · have := f2 x y hx hy; omega
                 · by_cases ey : y = j
                   · subst ey; exact Nat.le_refl _
                   · have := f3 y (by omega); omega)
              | (rw [lgq_le0, nJ_lt (by omega) (by omega)] at h43
                 refine ih2 _ _ (nI_1 _) f1 f2 (fun y hy => ?_)
                 by_cases ey : y = j
                 · subst ey; omega
                 · exact f3 y (by omega))
            · try simp (disch := omega) only [bl_pv, cl0, cl1, cl2, cl3, cl4, cl5, cl6, cl7, cl8, cl9, bl_up2_at, bl_up2_nk, bl_up2_nx] at h43
              refine ⟨rfl, rfl, km, (Nat.le_of_ble_eq_true rfl), (0, 0), Nat.le_of_ble_eq_true rfl, Nat.le_of_ble_eq_true rfl, bl_MC_mono (c_Model_of (d := d) (S := S) (p := i) (q := j) (v := v) hm hs hS rfl rfl hi hj rfl hv) (fun o52 σ52 q52 => ?_)⟩
              try dsimp only [bl_pv] at q52
              obtain ⟨rfl, rfl⟩ := q52
              refine bl_go oX11_most0 80 [11, 23] rfl ?_
              refine bl_lv [0, 2, 1, 3, 4] rfl ?_
              try dsimp only [bl_pv]
              first
              | (rw [lgq_le0, Decidable.not_not, nJ_lt (by omega) (by omega)] at h43
                 refine ih2 _ _ (nI_1 _) ⟨i, j, hi, hj, rfl⟩ (fun x y hx hy => ?_) (fun y hy => ?_)
                 · have := f2 x y hx hy; omega
                 · by_cases ey : y = j
                   · subst ey; exact Nat.le_refl _
                   · have := f3 y (by omega); omega)
              | (rw [lgq_le0, nJ_lt (by omega) (by omega)] at h43
                 refine ih2 _ _ (nI_1 _) f1 f2 (fun y hy => ?_)
                 by_cases ey : y = j
                 · subst ey; omega
                 · exact f3 y (by omega))
      refine bl_go oX11_most0 80 [11, 23] rfl ?_
      refine ⟨km, fun h17 => ?_, fun h17 => ?_⟩
      · try simp (disch := omega) only [e21, zI_n, zI_o, zI_lit, zI_neg, zI_add, zI_sub, zI_mul, zI_lt, zI_le, zI_eq, zI_clamp, zI_in, zI_div, zI_rem, lg_lt0, lg_gt0, lg_eq0, lg_le0, lg_ge0, Int.toNat_natCast, ge_iff_le, gt_iff_lt, List.length_cons, List.length_nil, bl_up2_at, bl_up2_nk, bl_up2_nx] at h17
        exfalso; omega
      · try simp (disch := omega) only [e21, zI_n, zI_o, zI_lit, zI_neg, zI_add, zI_sub, zI_mul, zI_lt, zI_le, zI_eq, zI_clamp, zI_in, zI_div, zI_rem, lg_lt0, lg_gt0, lg_eq0, lg_le0, lg_ge0, Int.toNat_natCast, ge_iff_le, gt_iff_lt, List.length_cons, List.length_nil, bl_up2_at, bl_up2_nk, bl_up2_nx] at h17
        try dsimp only [bl_pv]
        exact L23 0 (by omega) _ _ rfl f1 f2 (fun y hy => absurd hy (by omega))
  refine bl_go oX11_most0 80 [11, 23] rfl ?_
  refine ⟨rfl, rfl, km, (Nat.le_of_ble_eq_true rfl), (0, 0), Nat.le_of_ble_eq_true rfl, Nat.le_of_ble_eq_true rfl, bl_MC_mono (c_Model_of (d := d) (S := S) (p := 0) (q := 0) (v := v) hm hs hS rfl rfl o0 o3 rfl hv) (fun o4 σ4 q4 => ?_)⟩
  try dsimp only [bl_pv] at q4
  obtain ⟨rfl, rfl⟩ := q4
  refine bl_go oX11_most0 80 [11, 23] rfl ?_
  try dsimp only [bl_pv]
  exact L11 0 (by omega) _ _ rfl ⟨0, 0, o0, o3, rfl⟩ (fun x y hx => absurd hx (by omega))

theorem c_Model_least0 {v : Nat} (hm : mdS R K N m) (hs : msC I J m S.1.1 S.2.1.1 (slP S) (slQ S)) (hS : slOk S) (hB : slB S) (hw : w = nI v) (hv : v ≤ 2) : bl_MC G l (d + 2) mX11_least0 [.ref m, .int w] (I, J, R, K, N) (0, 0) (fun o σ' => (∃ n, o = .inl (some (.long (nJ n))) ∧ isMn (ofv S v) S.1.1 S.2.1.1 n) ∧ σ' = (I, J, R, K, N)) := by
  have km := hm.2.1
  subst hw
  have e21 := hs.1
  have e22 := hs.2.1
  have hS' := hS
  obtain ⟨⟨o0, o1⟩, o3, o2⟩ := hS'
  refine bl_MC_intro (by decide +kernel) rfl (Nat.le_of_ble_eq_true rfl) ?_
  have L11 : ∀ i, i ≤ S.1.1 → ∀ z n, z = nI i → (∃ x y, x < S.1.1 ∧ y < S.2.1.1 ∧ ofv S v x y = n) → (∀ x y, x < i → y < S.2.1.1 → n ≤ ofv S v x y) → bl_WP G l (d + 2) mX11_least0 11 [(4, .int z), (2, .long (nJ n)), (0, .ref m), (1, .int (nI v))] [] (I, J, R, K, N) (0, 0) (fun o σ' => (∃ n, o = .inl (some (.long (nJ n))) ∧ isMn (ofv S v) S.1.1 S.2.1.1 n) ∧ σ' = (I, J, R, K, N)) := by
    refine bl_for S.1.1 ?_ (fun i hi ih => ?_)
    · intro z n hz f1 f2; subst hz
      refine bl_go oX11_least0 80 [11, 23] rfl ?_
      refine ⟨km, fun h17 => ?_, fun h17 => ?_⟩
      · try simp (disch := omega) only [e21, zI_n, zI_o, zI_lit, zI_neg, zI_add, zI_sub, zI_mul, zI_lt, zI_le, zI_eq, zI_clamp, zI_in, zI_div, zI_rem, lg_lt0, lg_gt0, lg_eq0, lg_le0, lg_ge0, Int.toNat_natCast, ge_iff_le, gt_iff_lt, List.length_cons, List.length_nil, bl_up2_at, bl_up2_nk, bl_up2_nx] at h17
        try show _ ∧ _
        try dsimp only [bl_pv]
        exact ⟨⟨n, rfl, f1, f2⟩, rfl⟩
      · try simp (disch := omega) only [e21, zI_n, zI_o, zI_lit, zI_neg, zI_add, zI_sub, zI_mul, zI_lt, zI_le, zI_eq, zI_clamp, zI_in, zI_div, zI_rem, lg_lt0, lg_gt0, lg_eq0, lg_le0, lg_ge0, Int.toNat_natCast, ge_iff_le, gt_iff_lt, List.length_cons, List.length_nil, bl_up2_at, bl_up2_nk, bl_up2_nx] at h17
        exfalso; omega
    · intro z n hz f1 f2; subst hz
      have L23 : ∀ j, j ≤ S.2.1.1 → ∀ z n, z = nI j → (∃ x y, x < S.1.1 ∧ y < S.2.1.1 ∧ ofv S v x y = n) → (∀ x y, x < i → y < S.2.1.1 → n ≤ ofv S v x y) → (∀ y, y < j → n ≤ ofv S v i y) → bl_WP G l (d + 2) mX11_least0 23 [(5, .int z), (4, .int (nI i)), (2, .long (nJ n)), (0, .ref m), (1, .int (nI v))] [] (I, J, R, K, N) (0, 0) (fun o σ' => (∃ n, o = .inl (some (.long (nJ n))) ∧ isMn (ofv S v) S.1.1 S.2.1.1 n) ∧ σ' = (I, J, R, K, N)) := by
        refine bl_for S.2.1.1 ?_ (fun j hj ih2 => ?_)
        · intro z n hz f1 f2 f3; subst hz
          refine bl_go oX11_least0 80 [11, 23] rfl ?_
          refine ⟨km, fun h29 => ?_, fun h29 => ?_⟩
          · try simp (disch := omega) only [e22, zI_n, zI_o, zI_lit, zI_neg, zI_add, zI_sub, zI_mul, zI_lt, zI_le, zI_eq, zI_clamp, zI_in, zI_div, zI_rem, lg_lt0, lg_gt0, lg_eq0, lg_le0, lg_ge0, Int.toNat_natCast, ge_iff_le, gt_iff_lt, List.length_cons, List.length_nil, bl_up2_at, bl_up2_nk, bl_up2_nx] at h29
            refine bl_lv [0, 2, 3, 4] rfl ?_
            try dsimp only [bl_pv]
            refine ih _ _ (nI_1 _) f1 (fun x y hx hy => ?_)
            by_cases ex : x = i
            · subst ex; exact f3 y hy
            · exact f2 x y (by omega) hy
          · try simp (disch := omega) only [e22, zI_n, zI_o, zI_lit, zI_neg, zI_add, zI_sub, zI_mul, zI_lt, zI_le, zI_eq, zI_clamp, zI_in, zI_div, zI_rem, lg_lt0, lg_gt0, lg_eq0, lg_le0, lg_ge0, Int.toNat_natCast, ge_iff_le, gt_iff_lt, List.length_cons, List.length_nil, bl_up2_at, bl_up2_nk, bl_up2_nx] at h29
            exfalso; omega
        · intro z n hz f1 f2 f3; subst hz
          have hb1 := ofv_B hB (v := v) hi hj
          have hb2 : n ≤ 158329674399745 := by obtain ⟨x, y, hx, hy, e⟩ := f1; rw [← e]; exact ofv_B hB hx hy
          refine bl_go oX11_least0 80 [11, 23] rfl ?_
          refine ⟨km, fun h29 => ?_, fun h29 => ?_⟩
          · try simp (disch := omega) only [e22, zI_n, zI_o, zI_lit, zI_neg, zI_add, zI_sub, zI_mul, zI_lt, zI_le, zI_eq, zI_clamp, zI_in, zI_div, zI_rem, lg_lt0, lg_gt0, lg_eq0, lg_le0, lg_ge0, Int.toNat_natCast, ge_iff_le, gt_iff_lt, List.length_cons, List.length_nil, bl_up2_at, bl_up2_nk, bl_up2_nx] at h29
            exfalso; omega
          · try simp (disch := omega) only [e22, zI_n, zI_o, zI_lit, zI_neg, zI_add, zI_sub, zI_mul, zI_lt, zI_le, zI_eq, zI_clamp, zI_in, zI_div, zI_rem, lg_lt0, lg_gt0, lg_eq0, lg_le0, lg_ge0, Int.toNat_natCast, ge_iff_le, gt_iff_lt, List.length_cons, List.length_nil, bl_up2_at, bl_up2_nk, bl_up2_nx] at h29
            refine ⟨rfl, rfl, km, (Nat.le_of_ble_eq_true rfl), (0, 0), Nat.le_of_ble_eq_true rfl, Nat.le_of_ble_eq_true rfl, bl_MC_mono (c_Model_of (d := d) (S := S) (p := i) (q := j) (v := v) hm hs hS rfl rfl hi hj rfl hv) (fun o38 σ38 q38 => ?_)⟩
            try dsimp only [bl_pv] at q38
            obtain ⟨rfl, rfl⟩ := q38
            refine bl_go oX11_least0 80 [11, 23] rfl ?_
            refine ⟨fun h43 => ?_, fun h43 => ?_⟩
            · try simp (disch := omega) only [bl_pv, cl0, cl1, cl2, cl3, cl4, cl5, cl6, cl7, cl8, cl9, bl_up2_at, bl_up2_nk, bl_up2_nx] at h43
              refine bl_lv [0, 2, 1, 3, 4] rfl ?_
              try dsimp only [bl_pv]
              first
              | (rw [lgq_ge0, Decidable.not_not, nJ_lt (by omega) (by omega)] at h43
                 refine ih2 _ _ (nI_1 _) ⟨i, j, hi, hj, rfl⟩ (fun x y hx hy => ?_) (fun y hy => ?_)
                 · have := f2 x y hx hy; omega
                 · by_cases ey : y = j
                   · subst ey; exact Nat.le_refl _
                   · have := f3 y (by omega); omega)
              | (rw [lgq_ge0, nJ_lt (by omega) (by omega)] at h43
                 refine ih2 _ _ (nI_1 _) f1 f2 (fun y hy => ?_)
                 by_cases ey : y = j
                 · subst ey; omega
                 · exact f3 y (by omega))
            · try simp (disch := omega) only [bl_pv, cl0, cl1, cl2, cl3, cl4, cl5, cl6, cl7, cl8, cl9, bl_up2_at, bl_up2_nk, bl_up2_nx] at h43
              refine ⟨rfl, rfl, km, (Nat.le_of_ble_eq_true rfl), (0, 0), Nat.le_of_ble_eq_true rfl, Nat.le_of_ble_eq_true rfl, bl_MC_mono (c_Model_of (d := d) (S := S) (p := i) (q := j) (v := v) hm hs hS rfl rfl hi hj rfl hv) (fun o52 σ52 q52 => ?_)⟩
              try dsimp only [bl_pv] at q52
              obtain ⟨rfl, rfl⟩ := q52
              refine bl_go oX11_least0 80 [11, 23] rfl ?_
              refine bl_lv [0, 2, 1, 3, 4] rfl ?_
              try dsimp only [bl_pv]
              first
              | (rw [lgq_ge0, Decidable.not_not, nJ_lt (by omega) (by omega)] at h43
                 refine ih2 _ _ (nI_1 _) ⟨i, j, hi, hj, rfl⟩ (fun x y hx hy => ?_) (fun y hy => ?_)
                 · have := f2 x y hx hy; omega
                 · by_cases ey : y = j
                   · subst ey; exact Nat.le_refl _
                   · have := f3 y (by omega); omega)
              | (rw [lgq_ge0, nJ_lt (by omega) (by omega)] at h43
                 refine ih2 _ _ (nI_1 _) f1 f2 (fun y hy => ?_)
                 by_cases ey : y = j
                 · subst ey; omega
                 · exact f3 y (by omega))
      refine bl_go oX11_least0 80 [11, 23] rfl ?_
      refine ⟨km, fun h17 => ?_, fun h17 => ?_⟩
      · try simp (disch := omega) only [e21, zI_n, zI_o, zI_lit, zI_neg, zI_add, zI_sub, zI_mul, zI_lt, zI_le, zI_eq, zI_clamp, zI_in, zI_div, zI_rem, lg_lt0, lg_gt0, lg_eq0, lg_le0, lg_ge0, Int.toNat_natCast, ge_iff_le, gt_iff_lt, List.length_cons, List.length_nil, bl_up2_at, bl_up2_nk, bl_up2_nx] at h17
        exfalso; omega
      · try simp (disch := omega) only [e21, zI_n, zI_o, zI_lit, zI_neg, zI_add, zI_sub, zI_mul, zI_lt, zI_le, zI_eq, zI_clamp, zI_in, zI_div, zI_rem, lg_lt0, lg_gt0, lg_eq0, lg_le0, lg_ge0, Int.toNat_natCast, ge_iff_le, gt_iff_lt, List.length_cons, List.length_nil, bl_up2_at, bl_up2_nk, bl_up2_nx] at h17
        try dsimp only [bl_pv]
        exact L23 0 (by omega) _ _ rfl f1 f2 (fun y hy => absurd hy (by omega))
  refine bl_go oX11_least0 80 [11, 23] rfl ?_
  refine ⟨rfl, rfl, km, (Nat.le_of_ble_eq_true rfl), (0, 0), Nat.le_of_ble_eq_true rfl, Nat.le_of_ble_eq_true rfl, bl_MC_mono (c_Model_of (d := d) (S := S) (p := 0) (q := 0) (v := v) hm hs hS rfl rfl o0 o3 rfl hv) (fun o4 σ4 q4 => ?_)⟩
  try dsimp only [bl_pv] at q4
  obtain ⟨rfl, rfl⟩ := q4
  refine bl_go oX11_least0 80 [11, 23] rfl ?_
  try dsimp only [bl_pv]
  exact L11 0 (by omega) _ _ rfl ⟨0, 0, o0, o3, rfl⟩ (fun x y hx => absurd hx (by omega))

theorem c_Model_most (hm : mdS R K N m) (hK : mdK I m A) : bl_MC G l (d + 7) mX11_most [.ref m, .int x, .int y, .int w] (I, J, R, K, N) (0, 0) (fun o σ' => ∃ I' J' v, σ' = (I', J', R, K, N) ∧ gtG I I' J J' m ∧ I' m 0 = nI (askW A x y w 2) ∧ o = .inl (some (.long v)) ∧ (askW A x y w 2 = 0 → v = mxV (aSl A (rn x) (rn y)) w)) := by
  have km := hm.2.1
  have hK0 : mdK (bl_up2 I m 0 0) m A := hK.G (J := J) (J' := J) gtG.up
  by_cases hE : askE A x y = 0
  · by_cases hw : 0 ≤ w ∧ w ≤ 2
    · have hW := askW_t hE hw
      have hB := slB_A hK hE
      obtain ⟨v, hv, rfl⟩ := i32_nat (b := 2) (by omega) hw.1 hw.2
      refine bl_MC_intro (by decide +kernel) rfl (Nat.le_of_ble_eq_true rfl) ?_
      refine bl_go oX11_most 80 [] rfl ?_
      refine ⟨km, Or.inr (Or.inr ⟨rfl, rfl, _, rfl⟩), (fun h => by cases h), rfl, rfl, km, (Nat.le_of_ble_eq_true rfl), (0, 0), Nat.le_of_ble_eq_true rfl, Nat.le_of_ble_eq_true rfl, bl_MC_mono (c_Model_asks (d := d) hm hK0 bl_up2_at) (fun o8 σ8 q8 => ?_)⟩
      try dsimp only [bl_pv] at q8
      obtain ⟨I1, J1, rfl, f1, f2, rfl, f3⟩ := q8
      have f4 := f3 hE
      have f5 := gtG.trans gtG.up f1
      rw [hE] at f2
      rw [if_pos hE]
      refine bl_go oX11_most 80 [] rfl ?_
      refine ⟨fun h11 => ?_, fun h11 => ?_⟩
      · try simp (disch := omega) only [bl_pv, cl0, cl1, cl2, cl3, cl4, cl5, cl6, cl7, cl8, cl9, bl_up2_at, bl_up2_nk, bl_up2_nx] at h11
        (first | exact absurd rfl h11 | exact absurd trivial h11 | exact absurd h11 (by decide))
      · try simp (disch := omega) only [bl_pv, cl0, cl1, cl2, cl3, cl4, cl5, cl6, cl7, cl8, cl9, bl_up2_at, bl_up2_nk, bl_up2_nx] at h11
        first
        | (exfalso; first | omega | exact h11 trivial)
        | (refine ⟨rfl, (Nat.le_of_ble_eq_true rfl), (0, 0), Nat.le_of_ble_eq_true rfl, Nat.le_of_ble_eq_true rfl, bl_MC_mono (c_Model_inT (d := d + 6) hw) (fun o18 σ18 q18 => ?_)⟩
           try dsimp only [bl_pv] at q18
           obtain ⟨rfl, rfl⟩ := q18
           refine bl_go oX11_most 80 [] rfl ?_
           refine ⟨fun h21 => ?_, fun h21 => ?_⟩
           · try simp (disch := omega) only [bl_pv, cl0, cl1, cl2, cl3, cl4, cl5, cl6, cl7, cl8, cl9, bl_up2_at, bl_up2_nk, bl_up2_nx] at h21
             first
             | (exfalso; first | omega | exact h21 trivial)
             | (refine ⟨rfl, rfl, km, (Nat.le_of_ble_eq_true rfl), (0, 0), Nat.le_of_ble_eq_true rfl, Nat.le_of_ble_eq_true rfl, bl_MC_mono (c_Model_badF (d := d + 6) km f2) (fun o30 σ30 q30 => ?_)⟩
                try dsimp only [bl_pv] at q30
                obtain ⟨rfl, rfl⟩ := q30
                refine bl_go oX11_most 80 [] rfl ?_
                refine ⟨fun h33 => ?_, fun h33 => ?_⟩
                · try simp (disch := omega) only [bl_pv, cl0, cl1, cl2, cl3, cl4, cl5, cl6, cl7, cl8, cl9, bl_up2_at, bl_up2_nk, bl_up2_nx] at h33
                  first
                  | (exfalso; first | omega | exact h33 trivial)
                  | (refine ⟨rfl, rfl, km, (Nat.le_of_ble_eq_true rfl), (0, 0), Nat.le_of_ble_eq_true rfl, Nat.le_of_ble_eq_true rfl, bl_MC_mono (c_Model_most0 (d := d + 4) (S := aSl A (rn x) (rn y)) (v := v) hm f4.1.1 (askE_ok hK hE) hB rfl hv) (fun o40 σ40 q40 => ?_)⟩
                     try dsimp only [bl_pv] at q40
                     obtain ⟨⟨n, rfl, hn⟩, rfl⟩ := q40
                     refine bl_go oX11_most 80 [] rfl ?_
                     try show _ ∧ _
                     try dsimp only [bl_pv]
                     exact ⟨I1, J1, _, rfl, f5, by rw [hW]; exact f2, rfl, fun _ => mxV_of (askE_ok hK hE) hv hn⟩)
                · try simp (disch := omega) only [bl_pv, cl0, cl1, cl2, cl3, cl4, cl5, cl6, cl7, cl8, cl9, bl_up2_at, bl_up2_nk, bl_up2_nx] at h33
                  (first | exact absurd rfl h33 | exact absurd trivial h33 | exact absurd h33 (by decide)))
           · try simp (disch := omega) only [bl_pv, cl0, cl1, cl2, cl3, cl4, cl5, cl6, cl7, cl8, cl9, bl_up2_at, bl_up2_nk, bl_up2_nx] at h21
             (first | exact absurd rfl h21 | exact absurd trivial h21 | exact absurd h21 (by decide)))
    · have hW := askW_f hE hw
      refine bl_MC_intro (by decide +kernel) rfl (Nat.le_of_ble_eq_true rfl) ?_
      refine bl_go oX11_most 80 [38] rfl ?_
      refine ⟨km, Or.inr (Or.inr ⟨rfl, rfl, _, rfl⟩), (fun h => by cases h), rfl, rfl, km, (Nat.le_of_ble_eq_true rfl), (0, 0), Nat.le_of_ble_eq_true rfl, Nat.le_of_ble_eq_true rfl, bl_MC_mono (c_Model_asks (d := d) hm hK0 bl_up2_at) (fun o8 σ8 q8 => ?_)⟩
      try dsimp only [bl_pv] at q8
      obtain ⟨I1, J1, rfl, f1, f2, rfl, f3⟩ := q8
      have f5 := gtG.trans gtG.up f1
      rw [hE] at f2
      rw [if_pos hE]
      refine bl_go oX11_most 80 [38] rfl ?_
      refine ⟨fun h11 => ?_, fun h11 => ?_⟩
      · try simp (disch := omega) only [bl_pv, cl0, cl1, cl2, cl3, cl4, cl5, cl6, cl7, cl8, cl9, bl_up2_at, bl_up2_nk, bl_up2_nx] at h11
        (first | exact absurd rfl h11 | exact absurd trivial h11 | exact absurd h11 (by decide))
      · try simp (disch := omega) only [bl_pv, cl0, cl1, cl2, cl3, cl4, cl5, cl6, cl7, cl8, cl9, bl_up2_at, bl_up2_nk, bl_up2_nx] at h11
        first
        | (exfalso; first | omega | exact h11 trivial)
        | (refine ⟨rfl, (Nat.le_of_ble_eq_true rfl), (0, 0), Nat.le_of_ble_eq_true rfl, Nat.le_of_ble_eq_true rfl, bl_MC_mono (c_Model_inF (d := d + 6) hw) (fun o18 σ18 q18 => ?_)⟩
           try dsimp only [bl_pv] at q18
           obtain ⟨rfl, rfl⟩ := q18
           refine bl_go oX11_most 80 [38] rfl ?_
           refine ⟨fun h21 => ?_, fun h21 => ?_⟩
           · try simp (disch := omega) only [bl_pv, cl0, cl1, cl2, cl3, cl4, cl5, cl6, cl7, cl8, cl9, bl_up2_at, bl_up2_nk, bl_up2_nx] at h21
             (first | exact absurd rfl h21 | exact absurd trivial h21 | exact absurd h21 (by decide))
           · try simp (disch := omega) only [bl_pv, cl0, cl1, cl2, cl3, cl4, cl5, cl6, cl7, cl8, cl9, bl_up2_at, bl_up2_nk, bl_up2_nx] at h21
             first
             | (exfalso; first | omega | exact h21 trivial)
             | (refine ⟨rfl, rfl, km, (Nat.le_of_ble_eq_true rfl), (0, 0), Nat.le_of_ble_eq_true rfl, Nat.le_of_ble_eq_true rfl, bl_MC_mono (c_Model_badT (d := d + 6) km f2 (by decide) (by decide)) (fun o30 σ30 q30 => ?_)⟩
                try dsimp only [bl_pv] at q30
                obtain ⟨rfl, rfl⟩ := q30
                refine bl_go oX11_most 80 [38] rfl ?_
                refine ⟨fun h33 => ?_, fun h33 => ?_⟩
                · try simp (disch := omega) only [bl_pv, cl0, cl1, cl2, cl3, cl4, cl5, cl6, cl7, cl8, cl9, bl_up2_at, bl_up2_nk, bl_up2_nx] at h33
                  first
                  | (exfalso; first | omega | exact h33 trivial)
                  | (try dsimp only [bl_pv]
                     (first | exact absurd rfl h33 | exact absurd trivial h33 | exact absurd h33 (by decide)))
                · try simp (disch := omega) only [bl_pv, cl0, cl1, cl2, cl3, cl4, cl5, cl6, cl7, cl8, cl9, bl_up2_at, bl_up2_nk, bl_up2_nx] at h33
                  first
                  | (exfalso; first | omega | exact h33 trivial)
                  | (try show _ ∧ _
                     try dsimp only [bl_pv]
                     exact ⟨_, J1, _, rfl, f5.trans gtG.up, by rw [hW]; exact bl_up2_at, rfl, fun h => absurd (hW.symm.trans h) (by decide)⟩)))
  · have hW := askW_n (w := w) (hi := 2) hE
    refine bl_MC_intro (by decide +kernel) rfl (Nat.le_of_ble_eq_true rfl) ?_
    refine bl_go oX11_most 80 [14] rfl ?_
    refine ⟨km, Or.inr (Or.inr ⟨rfl, rfl, _, rfl⟩), (fun h => by cases h), rfl, rfl, km, (Nat.le_of_ble_eq_true rfl), (0, 0), Nat.le_of_ble_eq_true rfl, Nat.le_of_ble_eq_true rfl, bl_MC_mono (c_Model_asks (d := d) hm hK0 bl_up2_at) (fun o8 σ8 q8 => ?_)⟩
    try dsimp only [bl_pv] at q8
    obtain ⟨I1, J1, rfl, f1, f2, rfl, f3⟩ := q8
    rw [if_neg hE]
    refine bl_go oX11_most 80 [14] rfl ?_
    refine ⟨fun h11 => ?_, fun h11 => ?_⟩
    · try simp (disch := omega) only [bl_pv, cl0, cl1, cl2, cl3, cl4, cl5, cl6, cl7, cl8, cl9, bl_up2_at, bl_up2_nk, bl_up2_nx] at h11
      first
      | (exfalso; first | omega | exact h11 trivial)
      | (try show _ ∧ _
         try dsimp only [bl_pv]
         exact ⟨I1, J1, _, rfl, gtG.trans gtG.up f1, by rw [hW]; exact f2, rfl, fun h => absurd (hW.symm.trans h) hE⟩)
    · try simp (disch := omega) only [bl_pv, cl0, cl1, cl2, cl3, cl4, cl5, cl6, cl7, cl8, cl9, bl_up2_at, bl_up2_nk, bl_up2_nx] at h11
      first
      | (exfalso; first | omega | exact h11 trivial)
      | (try dsimp only [bl_pv]
         (first | exact absurd rfl h11 | exact absurd trivial h11 | exact absurd h11 (by decide)))

theorem c_Model_least (hm : mdS R K N m) (hK : mdK I m A) : bl_MC G l (d + 7) mX11_least [.ref m, .int x, .int y, .int w] (I, J, R, K, N) (0, 0) (fun o σ' => ∃ I' J' v, σ' = (I', J', R, K, N) ∧ gtG I I' J J' m ∧ I' m 0 = nI (askW A x y w 2) ∧ o = .inl (some (.long v)) ∧ (askW A x y w 2 = 0 → v = mnV (aSl A (rn x) (rn y)) w)) := by
  have km := hm.2.1
  have hK0 : mdK (bl_up2 I m 0 0) m A := hK.G (J := J) (J' := J) gtG.up
  by_cases hE : askE A x y = 0
  · by_cases hw : 0 ≤ w ∧ w ≤ 2
    · have hW := askW_t hE hw
      have hB := slB_A hK hE
      obtain ⟨v, hv, rfl⟩ := i32_nat (b := 2) (by omega) hw.1 hw.2
      refine bl_MC_intro (by decide +kernel) rfl (Nat.le_of_ble_eq_true rfl) ?_
      refine bl_go oX11_least 80 [] rfl ?_
      refine ⟨km, Or.inr (Or.inr ⟨rfl, rfl, _, rfl⟩), (fun h => by cases h), rfl, rfl, km, (Nat.le_of_ble_eq_true rfl), (0, 0), Nat.le_of_ble_eq_true rfl, Nat.le_of_ble_eq_true rfl, bl_MC_mono (c_Model_asks (d := d) hm hK0 bl_up2_at) (fun o8 σ8 q8 => ?_)⟩
      try dsimp only [bl_pv] at q8
      obtain ⟨I1, J1, rfl, f1, f2, rfl, f3⟩ := q8
      have f4 := f3 hE
      have f5 := gtG.trans gtG.up f1
      rw [hE] at f2
      rw [if_pos hE]
      refine bl_go oX11_least 80 [] rfl ?_
      refine ⟨fun h11 => ?_, fun h11 => ?_⟩
      · try simp (disch := omega) only [bl_pv, cl0, cl1, cl2, cl3, cl4, cl5, cl6, cl7, cl8, cl9, bl_up2_at, bl_up2_nk, bl_up2_nx] at h11
        (first | exact absurd rfl h11 | exact absurd trivial h11 | exact absurd h11 (by decide))
      · try simp (disch := omega) only [bl_pv, cl0, cl1, cl2, cl3, cl4, cl5, cl6, cl7, cl8, cl9, bl_up2_at, bl_up2_nk, bl_up2_nx] at h11
        first
        | (exfalso; first | omega | exact h11 trivial)
        | (refine ⟨rfl, (Nat.le_of_ble_eq_true rfl), (0, 0), Nat.le_of_ble_eq_true rfl, Nat.le_of_ble_eq_true rfl, bl_MC_mono (c_Model_inT (d := d + 6) hw) (fun o18 σ18 q18 => ?_)⟩
           try dsimp only [bl_pv] at q18
           obtain ⟨rfl, rfl⟩ := q18
           refine bl_go oX11_least 80 [] rfl ?_
           refine ⟨fun h21 => ?_, fun h21 => ?_⟩
           · try simp (disch := omega) only [bl_pv, cl0, cl1, cl2, cl3, cl4, cl5, cl6, cl7, cl8, cl9, bl_up2_at, bl_up2_nk, bl_up2_nx] at h21
             first
             | (exfalso; first | omega | exact h21 trivial)
             | (refine ⟨rfl, rfl, km, (Nat.le_of_ble_eq_true rfl), (0, 0), Nat.le_of_ble_eq_true rfl, Nat.le_of_ble_eq_true rfl, bl_MC_mono (c_Model_badF (d := d + 6) km f2) (fun o30 σ30 q30 => ?_)⟩
                try dsimp only [bl_pv] at q30
                obtain ⟨rfl, rfl⟩ := q30
                refine bl_go oX11_least 80 [] rfl ?_
                refine ⟨fun h33 => ?_, fun h33 => ?_⟩
                · try simp (disch := omega) only [bl_pv, cl0, cl1, cl2, cl3, cl4, cl5, cl6, cl7, cl8, cl9, bl_up2_at, bl_up2_nk, bl_up2_nx] at h33
                  first
                  | (exfalso; first | omega | exact h33 trivial)
                  | (refine ⟨rfl, rfl, km, (Nat.le_of_ble_eq_true rfl), (0, 0), Nat.le_of_ble_eq_true rfl, Nat.le_of_ble_eq_true rfl, bl_MC_mono (c_Model_least0 (d := d + 4) (S := aSl A (rn x) (rn y)) (v := v) hm f4.1.1 (askE_ok hK hE) hB rfl hv) (fun o40 σ40 q40 => ?_)⟩
                     try dsimp only [bl_pv] at q40
                     obtain ⟨⟨n, rfl, hn⟩, rfl⟩ := q40
                     refine bl_go oX11_least 80 [] rfl ?_
                     try show _ ∧ _
                     try dsimp only [bl_pv]
                     exact ⟨I1, J1, _, rfl, f5, by rw [hW]; exact f2, rfl, fun _ => mnV_of (askE_ok hK hE) hB hv hn⟩)
                · try simp (disch := omega) only [bl_pv, cl0, cl1, cl2, cl3, cl4, cl5, cl6, cl7, cl8, cl9, bl_up2_at, bl_up2_nk, bl_up2_nx] at h33
                  (first | exact absurd rfl h33 | exact absurd trivial h33 | exact absurd h33 (by decide)))
           · try simp (disch := omega) only [bl_pv, cl0, cl1, cl2, cl3, cl4, cl5, cl6, cl7, cl8, cl9, bl_up2_at, bl_up2_nk, bl_up2_nx] at h21
             (first | exact absurd rfl h21 | exact absurd trivial h21 | exact absurd h21 (by decide)))
    · have hW := askW_f hE hw
      refine bl_MC_intro (by decide +kernel) rfl (Nat.le_of_ble_eq_true rfl) ?_
      refine bl_go oX11_least 80 [38] rfl ?_
      refine ⟨km, Or.inr (Or.inr ⟨rfl, rfl, _, rfl⟩), (fun h => by cases h), rfl, rfl, km, (Nat.le_of_ble_eq_true rfl), (0, 0), Nat.le_of_ble_eq_true rfl, Nat.le_of_ble_eq_true rfl, bl_MC_mono (c_Model_asks (d := d) hm hK0 bl_up2_at) (fun o8 σ8 q8 => ?_)⟩
      try dsimp only [bl_pv] at q8
      obtain ⟨I1, J1, rfl, f1, f2, rfl, f3⟩ := q8
      have f5 := gtG.trans gtG.up f1
      rw [hE] at f2
      rw [if_pos hE]
      refine bl_go oX11_least 80 [38] rfl ?_
      refine ⟨fun h11 => ?_, fun h11 => ?_⟩
      · try simp (disch := omega) only [bl_pv, cl0, cl1, cl2, cl3, cl4, cl5, cl6, cl7, cl8, cl9, bl_up2_at, bl_up2_nk, bl_up2_nx] at h11
        (first | exact absurd rfl h11 | exact absurd trivial h11 | exact absurd h11 (by decide))
      · try simp (disch := omega) only [bl_pv, cl0, cl1, cl2, cl3, cl4, cl5, cl6, cl7, cl8, cl9, bl_up2_at, bl_up2_nk, bl_up2_nx] at h11
        first
        | (exfalso; first | omega | exact h11 trivial)
        | (refine ⟨rfl, (Nat.le_of_ble_eq_true rfl), (0, 0), Nat.le_of_ble_eq_true rfl, Nat.le_of_ble_eq_true rfl, bl_MC_mono (c_Model_inF (d := d + 6) hw) (fun o18 σ18 q18 => ?_)⟩
           try dsimp only [bl_pv] at q18
           obtain ⟨rfl, rfl⟩ := q18
           refine bl_go oX11_least 80 [38] rfl ?_
           refine ⟨fun h21 => ?_, fun h21 => ?_⟩
           · try simp (disch := omega) only [bl_pv, cl0, cl1, cl2, cl3, cl4, cl5, cl6, cl7, cl8, cl9, bl_up2_at, bl_up2_nk, bl_up2_nx] at h21
             (first | exact absurd rfl h21 | exact absurd trivial h21 | exact absurd h21 (by decide))
           · try simp (disch := omega) only [bl_pv, cl0, cl1, cl2, cl3, cl4, cl5, cl6, cl7, cl8, cl9, bl_up2_at, bl_up2_nk, bl_up2_nx] at h21
             first
             | (exfalso; first | omega | exact h21 trivial)
             | (refine ⟨rfl, rfl, km, (Nat.le_of_ble_eq_true rfl), (0, 0), Nat.le_of_ble_eq_true rfl, Nat.le_of_ble_eq_true rfl, bl_MC_mono (c_Model_badT (d := d + 6) km f2 (by decide) (by decide)) (fun o30 σ30 q30 => ?_)⟩
                try dsimp only [bl_pv] at q30
                obtain ⟨rfl, rfl⟩ := q30
                refine bl_go oX11_least 80 [38] rfl ?_
                refine ⟨fun h33 => ?_, fun h33 => ?_⟩
                · try simp (disch := omega) only [bl_pv, cl0, cl1, cl2, cl3, cl4, cl5, cl6, cl7, cl8, cl9, bl_up2_at, bl_up2_nk, bl_up2_nx] at h33
                  first
                  | (exfalso; first | omega | exact h33 trivial)
                  | (try dsimp only [bl_pv]
                     (first | exact absurd rfl h33 | exact absurd trivial h33 | exact absurd h33 (by decide)))
                · try simp (disch := omega) only [bl_pv, cl0, cl1, cl2, cl3, cl4, cl5, cl6, cl7, cl8, cl9, bl_up2_at, bl_up2_nk, bl_up2_nx] at h33
                  first
                  | (exfalso; first | omega | exact h33 trivial)
                  | (try show _ ∧ _
                     try dsimp only [bl_pv]
                     exact ⟨_, J1, _, rfl, f5.trans gtG.up, by rw [hW]; exact bl_up2_at, rfl, fun h => absurd (hW.symm.trans h) (by decide)⟩)))
  · have hW := askW_n (w := w) (hi := 2) hE
    refine bl_MC_intro (by decide +kernel) rfl (Nat.le_of_ble_eq_true rfl) ?_
    refine bl_go oX11_least 80 [14] rfl ?_
    refine ⟨km, Or.inr (Or.inr ⟨rfl, rfl, _, rfl⟩), (fun h => by cases h), rfl, rfl, km, (Nat.le_of_ble_eq_true rfl), (0, 0), Nat.le_of_ble_eq_true rfl, Nat.le_of_ble_eq_true rfl, bl_MC_mono (c_Model_asks (d := d) hm hK0 bl_up2_at) (fun o8 σ8 q8 => ?_)⟩
    try dsimp only [bl_pv] at q8
    obtain ⟨I1, J1, rfl, f1, f2, rfl, f3⟩ := q8
    rw [if_neg hE]
    refine bl_go oX11_least 80 [14] rfl ?_
    refine ⟨fun h11 => ?_, fun h11 => ?_⟩
    · try simp (disch := omega) only [bl_pv, cl0, cl1, cl2, cl3, cl4, cl5, cl6, cl7, cl8, cl9, bl_up2_at, bl_up2_nk, bl_up2_nx] at h11
      first
      | (exfalso; first | omega | exact h11 trivial)
      | (try show _ ∧ _
         try dsimp only [bl_pv]
         exact ⟨I1, J1, _, rfl, gtG.trans gtG.up f1, by rw [hW]; exact f2, rfl, fun h => absurd (hW.symm.trans h) hE⟩)
    · try simp (disch := omega) only [bl_pv, cl0, cl1, cl2, cl3, cl4, cl5, cl6, cl7, cl8, cl9, bl_up2_at, bl_up2_nk, bl_up2_nx] at h11
      first
      | (exfalso; first | omega | exact h11 trivial)
      | (try dsimp only [bl_pv]
         (first | exact absurd rfl h11 | exact absurd trivial h11 | exact absurd h11 (by decide)))

def hvV (S : sl) (n : Int64) : Int32 := nI (ct2 (fun x y => nJ (S.1.2.2 x * S.2.1.2.2 y) == n) S.2.1.1 S.1.1)
theorem c_Model_hv16 {c : Int64} (hm : mdS R K N m) (hs : msC I J m S.1.1 S.2.1.1 (slP S) (slQ S)) (hS : slOk S) : bl_WP G l (d + 1) mX11_having 16 [(0, .ref m), (1, .int x), (2, .int y), (3, .long c)] [] (I, J, R, K, N) (0, 0) (fun o σ' => o = .inl (some (.int (hvV S c))) ∧ σ' = (I, J, R, K, N)) := by
  have km := hm.2.1
  obtain ⟨rm_32, km32, nm32⟩ := hm.f32
  have e21 := hs.1
  have e22 := hs.2.1
  have hS' := hS
  obtain ⟨⟨o0, o1⟩, o3, o2⟩ := hS'
  have L22 : ∀ i, i ≤ S.1.1 → ∀ z k, z = nI i → k = nI (ct2 (fun x y => nJ (S.1.2.2 x * S.2.1.2.2 y) == c) S.2.1.1 i) → bl_WP G l (d + 1) mX11_having 22 [(6, .int z), (5, .int k), (0, .ref m), (3, .long c)] [] (I, J, R, K, N) (0, 0) (fun o σ' => o = .inl (some (.int (hvV S c))) ∧ σ' = (I, J, R, K, N)) := by
    refine bl_for S.1.1 ?_ (fun i hi ih => ?_)
    · intro z k hz hk; subst hz hk
      refine bl_go oX11_having 80 [16, 22, 34] rfl ?_
      refine ⟨km, fun h28 => ?_, fun h28 => ?_⟩
      · try simp (disch := omega) only [e21, zI_n, zI_o, zI_lit, zI_neg, zI_add, zI_sub, zI_mul, zI_lt, zI_le, zI_eq, zI_clamp, zI_in, zI_div, zI_rem, lg_lt0, lg_gt0, lg_eq0, lg_le0, lg_ge0, Int.toNat_natCast, ge_iff_le, gt_iff_lt, List.length_cons, List.length_nil, bl_up2_at, bl_up2_nk, bl_up2_nx] at h28
        refine ⟨(fun h => by cases h), ?_⟩
        try show _ ∧ _
        try dsimp only [bl_pv]
        exact ⟨rfl, rfl⟩
      · try simp (disch := omega) only [e21, zI_n, zI_o, zI_lit, zI_neg, zI_add, zI_sub, zI_mul, zI_lt, zI_le, zI_eq, zI_clamp, zI_in, zI_div, zI_rem, lg_lt0, lg_gt0, lg_eq0, lg_le0, lg_ge0, Int.toNat_natCast, ge_iff_le, gt_iff_lt, List.length_cons, List.length_nil, bl_up2_at, bl_up2_nk, bl_up2_nx] at h28
        exfalso; omega
    · intro z k hz hk; subst hz
      have L34 : ∀ j, j ≤ S.2.1.1 → ∀ z k, z = nI j → k = nI (ct2 (fun x y => nJ (S.1.2.2 x * S.2.1.2.2 y) == c) S.2.1.1 i + ctf (fun y => nJ (S.1.2.2 i * S.2.1.2.2 y) == c) j) → bl_WP G l (d + 1) mX11_having 34 [(7, .int z), (6, .int (nI i)), (5, .int k), (0, .ref m), (3, .long c)] [] (I, J, R, K, N) (0, 0) (fun o σ' => o = .inl (some (.int (hvV S c))) ∧ σ' = (I, J, R, K, N)) := by
        refine bl_for S.2.1.1 ?_ (fun j hj ih2 => ?_)
        · intro z k hz hk; subst hz
          refine bl_go oX11_having 80 [16, 22, 34] rfl ?_
          refine ⟨km, fun h40 => ?_, fun h40 => ?_⟩
          · try simp (disch := omega) only [e22, zI_n, zI_o, zI_lit, zI_neg, zI_add, zI_sub, zI_mul, zI_lt, zI_le, zI_eq, zI_clamp, zI_in, zI_div, zI_rem, lg_lt0, lg_gt0, lg_eq0, lg_le0, lg_ge0, Int.toNat_natCast, ge_iff_le, gt_iff_lt, List.length_cons, List.length_nil, bl_up2_at, bl_up2_nk, bl_up2_nx] at h40
            refine bl_lv [0, 2, 3, 4] rfl ?_
            try dsimp only [bl_pv]
            exact ih _ _ (nI_1 _) hk
          · try simp (disch := omega) only [e22, zI_n, zI_o, zI_lit, zI_neg, zI_add, zI_sub, zI_mul, zI_lt, zI_le, zI_eq, zI_clamp, zI_in, zI_div, zI_rem, lg_lt0, lg_gt0, lg_eq0, lg_le0, lg_ge0, Int.toNat_natCast, ge_iff_le, gt_iff_lt, List.length_cons, List.length_nil, bl_up2_at, bl_up2_nk, bl_up2_nx] at h40
            exfalso; omega
        · intro z k hz hk; subst hz
          have ec : (nI (48 * j + i)).toNatClampNeg = 48 * j + i := nI_clamp (by omega)
          have z2 := (hs.2.2 i j hi hj).2.1
          refine bl_go oX11_having 80 [16, 22, 34] rfl ?_
          refine ⟨km, fun h40 => ?_, fun h40 => ?_⟩
          · try simp (disch := omega) only [e22, zI_n, zI_o, zI_lit, zI_neg, zI_add, zI_sub, zI_mul, zI_lt, zI_le, zI_eq, zI_clamp, zI_in, zI_div, zI_rem, lg_lt0, lg_gt0, lg_eq0, lg_le0, lg_ge0, Int.toNat_natCast, ge_iff_le, gt_iff_lt, List.length_cons, List.length_nil, bl_up2_at, bl_up2_nk, bl_up2_nx] at h40
            exfalso; omega
          · try simp (disch := omega) only [e22, zI_n, zI_o, zI_lit, zI_neg, zI_add, zI_sub, zI_mul, zI_lt, zI_le, zI_eq, zI_clamp, zI_in, zI_div, zI_rem, lg_lt0, lg_gt0, lg_eq0, lg_le0, lg_ge0, Int.toNat_natCast, ge_iff_le, gt_iff_lt, List.length_cons, List.length_nil, bl_up2_at, bl_up2_nk, bl_up2_nx] at h40
            refine ⟨km, _, bl_vs rm_32, rfl, (Nat.le_of_ble_eq_true rfl), (0, 0), Nat.le_of_ble_eq_true rfl, Nat.le_of_ble_eq_true rfl, bl_MC_mono (c_Model_cell (d := d) (x := i) (y := j) rfl rfl) (fun o53 σ53 q53 => ?_)⟩
            try dsimp only [bl_pv] at q53
            obtain ⟨rfl, rfl⟩ := q53
            refine bl_go oX11_having 80 [16, 22, 34] rfl ?_
            refine ⟨km32, (by first | exact (by rw [nm32]; exact vp_in_nI (by omega) (by omega)) | ((try dsimp only [bl_pv]); show vp_in _ (N _); rw [nm32]; simp (disch := omega) only [e22, zI_n, zI_o, zI_lit, zI_neg, zI_add, zI_sub, zI_mul, zI_lt, zI_le, zI_eq, zI_clamp, zI_in, zI_div, zI_rem, lg_lt0, lg_gt0, lg_eq0, lg_le0, lg_ge0, Int.toNat_natCast, ge_iff_le, gt_iff_lt, List.length_cons, List.length_nil, bl_up2_at, bl_up2_nk, bl_up2_nx] <;> omega)), fun h59 => ?_, fun h59 => ?_⟩
            · try simp (disch := omega) only [bl_pv, cl0, cl1, cl2, cl3, cl4, cl5, cl6, cl7, cl8, cl9, bl_up2_at, bl_up2_nk, bl_up2_nx] at h59
              refine bl_lv [0, 2, 1, 3, 4] rfl ?_
              try dsimp only [bl_pv]
              refine ih2 _ _ (nI_1 _) ?_
              rw [ec, z2, lgq_eq0, show slP S i j = S.1.2.2 i * S.2.1.2.2 j from rfl] at h59
              show _ = nI (_ + (ctf (fun y => nJ (S.1.2.2 i * S.2.1.2.2 y) == c) j + (if (nJ (S.1.2.2 i * S.2.1.2.2 j) == c) then 1 else 0)))
              first
              | rw [if_pos (beq_iff_eq.mpr h59), hk, ← Nat.add_assoc, nI_1]
              | (rw [if_neg (fun e => h59 (beq_iff_eq.mp e)), hk, Nat.add_zero]; exact Int32.add_zero _)
            · try simp (disch := omega) only [bl_pv, cl0, cl1, cl2, cl3, cl4, cl5, cl6, cl7, cl8, cl9, bl_up2_at, bl_up2_nk, bl_up2_nx] at h59
              refine bl_lv [0, 2, 1, 3, 4] rfl ?_
              try dsimp only [bl_pv]
              refine ih2 _ _ (nI_1 _) ?_
              rw [ec, z2, lgq_eq0, show slP S i j = S.1.2.2 i * S.2.1.2.2 j from rfl] at h59
              show _ = nI (_ + (ctf (fun y => nJ (S.1.2.2 i * S.2.1.2.2 y) == c) j + (if (nJ (S.1.2.2 i * S.2.1.2.2 j) == c) then 1 else 0)))
              first
              | rw [if_pos (beq_iff_eq.mpr h59), hk, ← Nat.add_assoc, nI_1]
              | (rw [if_neg (fun e => h59 (beq_iff_eq.mp e)), hk, Nat.add_zero]; exact Int32.add_zero _)
      refine bl_go oX11_having 80 [16, 22, 34] rfl ?_
      refine ⟨km, fun h28 => ?_, fun h28 => ?_⟩
      · try simp (disch := omega) only [e21, zI_n, zI_o, zI_lit, zI_neg, zI_add, zI_sub, zI_mul, zI_lt, zI_le, zI_eq, zI_clamp, zI_in, zI_div, zI_rem, lg_lt0, lg_gt0, lg_eq0, lg_le0, lg_ge0, Int.toNat_natCast, ge_iff_le, gt_iff_lt, List.length_cons, List.length_nil, bl_up2_at, bl_up2_nk, bl_up2_nx] at h28
        exfalso; omega
      · try simp (disch := omega) only [e21, zI_n, zI_o, zI_lit, zI_neg, zI_add, zI_sub, zI_mul, zI_lt, zI_le, zI_eq, zI_clamp, zI_in, zI_div, zI_rem, lg_lt0, lg_gt0, lg_eq0, lg_le0, lg_ge0, Int.toNat_natCast, ge_iff_le, gt_iff_lt, List.length_cons, List.length_nil, bl_up2_at, bl_up2_nk, bl_up2_nx] at h28
        try dsimp only [bl_pv]
        exact L34 0 (by omega) _ _ rfl hk
  refine bl_go oX11_having 80 [16, 22, 34] rfl ?_
  refine bl_lv [0, 1, 2, 5] rfl ?_
  try dsimp only [bl_pv]
  exact L22 0 (by omega) _ _ rfl rfl
theorem c_Model_having {c : Int64} (hm : mdS R K N m) (hK : mdK I m A) : bl_MC G l (d + 7) mX11_having [.ref m, .int x, .int y, .long c] (I, J, R, K, N) (0, 0) (fun o σ' => ∃ I' J' v, σ' = (I', J', R, K, N) ∧ gtG I I' J J' m ∧ I' m 0 = nI (askE A x y) ∧ o = .inl (some (.int v)) ∧ (askE A x y = 0 → v = hvV (aSl A (rn x) (rn y)) c)) := by
  have km := hm.2.1
  have hK0 : mdK (bl_up2 I m 0 0) m A := hK.G (J := J) (J' := J) gtG.up
  by_cases hE : askE A x y = 0
  · skip
    refine bl_MC_intro (by decide +kernel) rfl (Nat.le_of_ble_eq_true rfl) ?_
    refine bl_go oX11_having 80 [16] rfl ?_
    refine ⟨km, Or.inr (Or.inr ⟨rfl, rfl, _, rfl⟩), (fun h => by cases h), rfl, rfl, km, (Nat.le_of_ble_eq_true rfl), (0, 0), Nat.le_of_ble_eq_true rfl, Nat.le_of_ble_eq_true rfl, bl_MC_mono (c_Model_asks (d := d) hm hK0 bl_up2_at) (fun o8 σ8 q8 => ?_)⟩
    try dsimp only [bl_pv] at q8
    obtain ⟨I1, J1, rfl, f1, f2, rfl, f3⟩ := q8
    have f4 := f3 hE
    have f5 := gtG.trans gtG.up f1
    rw [if_pos hE]
    refine bl_go oX11_having 80 [16] rfl ?_
    refine ⟨fun h11 => ?_, fun h11 => ?_⟩
    · try simp (disch := omega) only [bl_pv, cl0, cl1, cl2, cl3, cl4, cl5, cl6, cl7, cl8, cl9, bl_up2_at, bl_up2_nk, bl_up2_nx] at h11
      first
      | (exfalso; first | omega | exact h11 trivial)
      | (try dsimp only [bl_pv]
         refine bl_WP_mono (c_Model_hv16 (d := d + 6) (S := aSl A (rn x) (rn y)) hm f4.1.1 (askE_ok hK hE)) (fun o σ' q => ?_)
         obtain ⟨rfl, rfl⟩ := q
         exact ⟨I1, J1, _, rfl, f5, f2, rfl, fun _ => rfl⟩)
    · try simp (disch := omega) only [bl_pv, cl0, cl1, cl2, cl3, cl4, cl5, cl6, cl7, cl8, cl9, bl_up2_at, bl_up2_nk, bl_up2_nx] at h11
      (first | exact absurd rfl h11 | exact absurd trivial h11 | exact absurd h11 (by decide))
  · skip
    refine bl_MC_intro (by decide +kernel) rfl (Nat.le_of_ble_eq_true rfl) ?_
    refine bl_go oX11_having 80 [16] rfl ?_
    refine ⟨km, Or.inr (Or.inr ⟨rfl, rfl, _, rfl⟩), (fun h => by cases h), rfl, rfl, km, (Nat.le_of_ble_eq_true rfl), (0, 0), Nat.le_of_ble_eq_true rfl, Nat.le_of_ble_eq_true rfl, bl_MC_mono (c_Model_asks (d := d) hm hK0 bl_up2_at) (fun o8 σ8 q8 => ?_)⟩
    try dsimp only [bl_pv] at q8
    obtain ⟨I1, J1, rfl, f1, f2, rfl, f3⟩ := q8
    rw [if_neg hE]
    refine bl_go oX11_having 80 [16] rfl ?_
    refine ⟨fun h11 => ?_, fun h11 => ?_⟩
    · try simp (disch := omega) only [bl_pv, cl0, cl1, cl2, cl3, cl4, cl5, cl6, cl7, cl8, cl9, bl_up2_at, bl_up2_nk, bl_up2_nx] at h11
      first
      | (exfalso; first | omega | exact h11 trivial)
      | (try dsimp only [bl_pv]
         (first | exact absurd rfl h11 | exact absurd trivial h11 | exact absurd h11 (by decide)))
    · try simp (disch := omega) only [bl_pv, cl0, cl1, cl2, cl3, cl4, cl5, cl6, cl7, cl8, cl9, bl_up2_at, bl_up2_nk, bl_up2_nx] at h11
      first
      | (exfalso; first | omega | exact h11 trivial)
      | (refine ⟨(fun h => by cases h), ?_⟩
         try show _ ∧ _
         try dsimp only [bl_pv]
         exact ⟨I1, J1, _, rfl, gtG.trans gtG.up f1, f2, rfl, fun h => absurd h hE⟩)

end MODEL27
