/-! ===== Model: the first slab, butter's units ===== -/
def sdf (c rim i : Nat) : Nat := if i < rim ∨ c - rim ≤ i then 0 else 1
theorem sdf_1 {c rim i : Nat} (h1 : rim ≤ i) (h2 : i ≤ c - 1 - rim) (h3 : 2 * rim < c) : sdf c rim i = 1 := if_neg (by omega)
theorem sdf_0 {c rim i : Nat} (h : ¬ (rim ≤ i ∧ i ≤ c - 1 - rim)) (h3 : 2 * rim < c) : sdf c rim i = 0 := if_pos (by omega)
def lyF (I I' : Nat → Nat → Int32) (J J' : Nat → Nat → Int64) (m : Nat) : Prop := (∀ x, x ≠ m + 37 → x ≠ m + 38 → I' x = I x) ∧ ∀ x, x ≠ m + 31 → x ≠ m + 32 → x ≠ m + 33 → J' x = J x
theorem lyF_put {I I1 : Nat → Nat → Int32} {J J1 : Nat → Nat → Int64} {m c : Nat} {a b e : Int64} {p q : Int32} (h : lyF I I1 J J1 m) : lyF I (bl_up2 (bl_up2 I1 (m + 37) c p) (m + 38) c q) J (bl_up2 (bl_up2 (bl_up2 J1 (m + 31) c a) (m + 32) c b) (m + 33) c e) m := by
  refine ⟨fun x x1 x2 => ?_, fun x x1 x2 x3 => ?_⟩
  · rw [bl_up2_ne x2, bl_up2_ne x1]; exact h.1 x x1 x2
  · rw [bl_up2_ne x3, bl_up2_ne x2, bl_up2_ne x1]; exact h.2 x x1 x2 x3
theorem cO_put {I : Nat → Nat → Int32} {J : Nat → Nat → Int64} {m c c' b' s' : Nat} {a b e : Int64} {p q : Int32} (hc : c' ≠ c) (h : cO I J m c' b' s') : cO (bl_up2 (bl_up2 I (m + 37) c p) (m + 38) c q) (bl_up2 (bl_up2 (bl_up2 J (m + 31) c a) (m + 32) c b) (m + 33) c e) m c' b' s' := by
  unfold cO
  simp (disch := omega) only [bl_up2_nk, bl_up2_nx]
  exact h
theorem cO_new {I : Nat → Nat → Int32} {J : Nat → Nat → Int64} {m c b s : Nat} {a b' e : Int64} {p q : Int32} (ha : a = nJ (b + 1)) (hb : b' = nJ b) (he : e = nJ s) (hp : p = 0) (hq : q = 0) : cO (bl_up2 (bl_up2 I (m + 37) c p) (m + 38) c q) (bl_up2 (bl_up2 (bl_up2 J (m + 31) c a) (m + 32) c b') (m + 33) c e) m c b s := by
  unfold cO
  simp (disch := omega) only [bl_up2_at, bl_up2_nx]
  exact ⟨ha, hb, he, hp, hq⟩
/-- what going through a recipe may change -/
def gtF (I I' : Nat → Nat → Int32) (J J' : Nat → Nat → Int64) (m : Nat) : Prop := (∀ x, x ≠ m → (x < m + 37 ∨ m + 40 < x) → I' x = I x) ∧ (∀ j, (j < 21 ∨ 28 < j) → I' m j = I m j) ∧ ∀ x, x < m → J' x = J x
theorem gtF.trans {I I1 I2 : Nat → Nat → Int32} {J J1 J2 : Nat → Nat → Int64} {m : Nat} (h : gtF I I1 J J1 m) (h2 : gtF I1 I2 J1 J2 m) : gtF I I2 J J2 m :=
  ⟨fun x a b => (h2.1 x a b).trans (h.1 x a b), fun j a => (h2.2.1 j a).trans (h.2.1 j a), fun x a => (h2.2.2 x a).trans (h.2.2 x a)⟩
theorem smF.gt {I I1 : Nat → Nat → Int32} {J J1 : Nat → Nat → Int64} {m : Nat} (h : smF I I1 J J1 m) : gtF I I1 J J1 m :=
  ⟨fun x a b => h.1 x a (by omega) (by omega) (by omega) (by omega), fun j a => h.2.1 j (by omega) (by omega), fun x a => h.2.2.1 x (by omega) (by omega) (by omega)⟩
/-- the model's kitchen -/
def mkC (I : Nat → Nat → Int32) (m : Nat) (tf : Nat → Nat) (dg : Nat → Int32) : Prop := (∀ k, k < 9 → I (m + 10) k = nI (tf k)) ∧ ∀ h, h < 24 → rm_deg (I (m + 12)) h = dg h
theorem mkC.same {I I' : Nat → Nat → Int32} {m : Nat} {tf : Nat → Nat} {dg : Nat → Int32} (h : mkC I m tf dg) (h1 : I' (m + 10) = I (m + 10)) (h2 : I' (m + 12) = I (m + 12)) : mkC I' m tf dg := by
  unfold mkC; rw [h1, h2]; exact h
def tfO (tf : Nat → Nat) : Prop := (2 ≤ tf 0 ∧ tf 0 ≤ 12) ∧ (2 ≤ tf 1 ∧ tf 1 ≤ 12) ∧ 2 * tf 2 < tf 0 ∧ 2 * tf 2 < tf 1 ∧ tf 3 ≤ 9999
section MODEL21
variable {G : bl_G} {l : Launch} {d m : Nat} {I : Nat → Nat → Int32} {J : Nat → Nat → Int64} {R : Nat → Nat → Option Nat} {K N : Nat → Nat} {tf : Nat → Nat} {dg : Nat → Int32} {w h rim : Nat}
theorem c_Model_inNT {a b c : Nat} {x y z : Int32} (hx : x = nI a) (hy : y = nI b) (hz : z = nI c) (ha : a < 2147483648) (hb : b < 2147483648) (hc : c < 2147483648) (h : b ≤ a ∧ a ≤ c) : bl_MC G l d mX11_in [.int x, .int y, .int z] (I, J, R, K, N) (0, 0) (fun o σ' => o = .inl (some (.int 1)) ∧ σ' = (I, J, R, K, N)) := by
  refine bl_MC_mono (c_Model_inN hx hy hz ha hb hc) (fun o σ' hh => ⟨?_, hh.2⟩)
  rcases hh.1 with ⟨_, _, e⟩ | ⟨e, _⟩
  · exact e
  · exact absurd h e
theorem c_Model_inNF {a b c : Nat} {x y z : Int32} (hx : x = nI a) (hy : y = nI b) (hz : z = nI c) (ha : a < 2147483648) (hb : b < 2147483648) (hc : c < 2147483648) (h : ¬ (b ≤ a ∧ a ≤ c)) : bl_MC G l d mX11_in [.int x, .int y, .int z] (I, J, R, K, N) (0, 0) (fun o σ' => o = .inl (some (.int 0)) ∧ σ' = (I, J, R, K, N)) := by
  refine bl_MC_mono (c_Model_inN hx hy hz ha hb hc) (fun o σ' hh => ⟨?_, hh.2⟩)
  rcases hh.1 with ⟨e1, e2, _⟩ | ⟨_, e⟩
  · exact absurd ⟨e1, e2⟩ h
  · exact e
theorem c_Model_ls91 {u : Int32} (hm : mdS R K N m) (hs1 : I m 21 = nI w) (hs2 : I m 22 = nI h) (hw : w ≤ 12) (hh : h ≤ 12) (hr1 : 2 * rim < w) (hr2 : 2 * rim < h) : bl_WP G l (d + 1) mX11_laysSlab 91 [(3, .int (nI 0)), (0, .ref m), (1, .int u), (2, .int (nI rim))] [] (I, J, R, K, N) (0, 0) (fun o σ' => o = .inl none ∧ ∃ I' J', σ' = (I', J', R, K, N) ∧ lyF I I' J J' m ∧ ∀ x y, x < w → y < h → cO I' J' m (48 * y + x) (sdf w rim x * sdf h rim y) 1) := by
  have km := hm.2.1
  obtain ⟨rm_31, km31, nm31⟩ := hm.f31
  obtain ⟨rm_32, km32, nm32⟩ := hm.f32
  obtain ⟨rm_33, km33, nm33⟩ := hm.f33
  obtain ⟨rm_37, km37, nm37⟩ := hm.f37
  obtain ⟨rm_38, km38, nm38⟩ := hm.f38
  have L91 : ∀ i, i ≤ w → ∀ z I1 J1, z = nI i → lyF I I1 J J1 m → (∀ x y, x < i → y < h → cO I1 J1 m (48 * y + x) (sdf w rim x * sdf h rim y) 1) → bl_WP G l (d + 1) mX11_laysSlab 91 [(3, .int z), (0, .ref m), (1, .int u), (2, .int (nI rim))] [] (I1, J1, R, K, N) (0, 0) (fun o σ' => o = .inl none ∧ ∃ I' J', σ' = (I', J', R, K, N) ∧ lyF I I' J J' m ∧ ∀ x y, x < w → y < h → cO I' J' m (48 * y + x) (sdf w rim x * sdf h rim y) 1) := by
    refine bl_for w ?_ (fun i hi ih => ?_)
    · intro z I1 J1 hz f1 f2; subst hz
      have e21 : I1 m 21 = nI w := (congrFun (f1.1 m (by omega) (by omega)) 21).trans hs1
      refine bl_go oX11_laysSlab 80 [91, 102, 151] rfl ?_
      refine ⟨km, fun h96 => ?_, fun h96 => ?_⟩
      · try simp (disch := omega) only [e21, zI_n, zI_o, zI_lit, zI_neg, zI_add, zI_sub, zI_mul, zI_lt, zI_le, zI_eq, zI_clamp, zI_in, zI_div, zI_rem, lg_lt0, lg_gt0, lg_eq0, lg_le0, lg_ge0, Int.toNat_natCast, ge_iff_le, gt_iff_lt, List.length_cons, List.length_nil, bl_up2_at, bl_up2_nk, bl_up2_nx] at h96
        try show _ ∧ _
        try dsimp only [bl_pv]
        exact ⟨rfl, I1, J1, rfl, f1, f2⟩
      · try simp (disch := omega) only [e21, zI_n, zI_o, zI_lit, zI_neg, zI_add, zI_sub, zI_mul, zI_lt, zI_le, zI_eq, zI_clamp, zI_in, zI_div, zI_rem, lg_lt0, lg_gt0, lg_eq0, lg_le0, lg_ge0, Int.toNat_natCast, ge_iff_le, gt_iff_lt, List.length_cons, List.length_nil, bl_up2_at, bl_up2_nk, bl_up2_nx] at h96
        exfalso; omega
    · intro z I1 J1 hz f1 f2; subst hz
      have e21 : I1 m 21 = nI w := (congrFun (f1.1 m (by omega) (by omega)) 21).trans hs1
      have L102 : ∀ j, j ≤ h → ∀ z I1 J1, z = nI j → lyF I I1 J J1 m → (∀ x y, x < i → y < h → cO I1 J1 m (48 * y + x) (sdf w rim x * sdf h rim y) 1) → (∀ y, y < j → cO I1 J1 m (48 * y + i) (sdf w rim i * sdf h rim y) 1) → bl_WP G l (d + 1) mX11_laysSlab 102 [(4, .int z), (3, .int (nI i)), (0, .ref m), (1, .int u), (2, .int (nI rim))] [] (I1, J1, R, K, N) (0, 0) (fun o σ' => o = .inl none ∧ ∃ I' J', σ' = (I', J', R, K, N) ∧ lyF I I' J J' m ∧ ∀ x y, x < w → y < h → cO I' J' m (48 * y + x) (sdf w rim x * sdf h rim y) 1) := by
        refine bl_for h ?_ (fun j hj ih2 => ?_)
        · intro z I1 J1 hz f1 f2 f3; subst hz
          have e22 : I1 m 22 = nI h := (congrFun (f1.1 m (by omega) (by omega)) 22).trans hs2
          refine bl_go oX11_laysSlab 80 [91, 102, 151] rfl ?_
          refine ⟨km, fun h108 => ?_, fun h108 => ?_⟩
          · try simp (disch := omega) only [e22, zI_n, zI_o, zI_lit, zI_neg, zI_add, zI_sub, zI_mul, zI_lt, zI_le, zI_eq, zI_clamp, zI_in, zI_div, zI_rem, lg_lt0, lg_gt0, lg_eq0, lg_le0, lg_ge0, Int.toNat_natCast, ge_iff_le, gt_iff_lt, List.length_cons, List.length_nil, bl_up2_at, bl_up2_nk, bl_up2_nx] at h108
            refine bl_lv [0, 2, 3, 4] rfl ?_
            try dsimp only [bl_pv]
            refine ih _ _ _ (nI_1 _) f1 (fun x y hx hy => ?_)
            by_cases ex : x = i
            · subst ex; exact f3 y hy
            · exact f2 x y (by omega) hy
          · try simp (disch := omega) only [e22, zI_n, zI_o, zI_lit, zI_neg, zI_add, zI_sub, zI_mul, zI_lt, zI_le, zI_eq, zI_clamp, zI_in, zI_div, zI_rem, lg_lt0, lg_gt0, lg_eq0, lg_le0, lg_ge0, Int.toNat_natCast, ge_iff_le, gt_iff_lt, List.length_cons, List.length_nil, bl_up2_at, bl_up2_nk, bl_up2_nx] at h108
            exfalso; omega
        · intro z I1 J1 hz f1 f2 f3; subst hz
          have e21 : I1 m 21 = nI w := (congrFun (f1.1 m (by omega) (by omega)) 21).trans hs1
          have e22 : I1 m 22 = nI h := (congrFun (f1.1 m (by omega) (by omega)) 22).trans hs2
          have ec : (nI (48 * j + i)).toNatClampNeg = 48 * j + i := nI_clamp (by omega)
          have e1 : I1 m 21 - 1 - nI rim = nI (w - 1 - rim) := by rw [e21]; exact nI_sub2 (by omega)
          have e2 : I1 m 22 - 1 - nI rim = nI (h - 1 - rim) := by rw [e22]; exact nI_sub2 (by omega)
          have L151 : ∀ v b, (v = 1 ∧ b = 1) ∨ (v = 0 ∧ b = 0) → b = sdf w rim i * sdf h rim j → bl_WP G l (d + 1) mX11_laysSlab 151 [(5, .int v), (4, .int (nI j)), (3, .int (nI i)), (0, .ref m), (1, .int u), (2, .int (nI rim))] [] (I1, J1, R, K, N) (0, 0) (fun o σ' => o = .inl none ∧ ∃ I' J', σ' = (I', J', R, K, N) ∧ lyF I I' J J' m ∧ ∀ x y, x < w → y < h → cO I' J' m (48 * y + x) (sdf w rim x * sdf h rim y) 1) := by
            intro v b hv hb
            rcases hv with ⟨rfl, rfl⟩ | ⟨rfl, rfl⟩
            · skip
              refine bl_go oX11_laysSlab 80 [91, 102, 151] rfl ?_
              refine ⟨rfl, (Nat.le_of_ble_eq_true rfl), (0, 0), Nat.le_of_ble_eq_true rfl, Nat.le_of_ble_eq_true rfl, bl_MC_mono (c_Model_cell (d := d) (x := i) (y := j) rfl rfl) (fun o154 σ154 q154 => ?_)⟩
              try dsimp only [bl_pv] at q154
              obtain ⟨rfl, rfl⟩ := q154
              refine bl_go oX11_laysSlab 80 [91, 102, 151] rfl ?_
              refine ⟨km, _, bl_vs rm_31, fun h167 => ?_, fun h167 => ?_⟩
              · try simp (disch := omega) only [bl_pv, cl0, cl1, cl2, cl3, cl4, cl5, cl6, cl7, cl8, cl9, bl_up2_at, bl_up2_nk, bl_up2_nx] at h167
                (first | exact absurd rfl h167 | exact absurd trivial h167 | exact absurd h167 (by decide))
              · try simp (disch := omega) only [bl_pv, cl0, cl1, cl2, cl3, cl4, cl5, cl6, cl7, cl8, cl9, bl_up2_at, bl_up2_nk, bl_up2_nx] at h167
                first
                | (exfalso; first | omega | exact h167 trivial)
                | (refine ⟨km31, (by first | exact (by rw [nm31]; exact vp_in_nI (by omega) (by omega)) | ((try dsimp only [bl_pv]); show vp_in _ (N _); rw [nm31]; simp (disch := omega) only [zI_n, zI_o, zI_lit, zI_neg, zI_add, zI_sub, zI_mul, zI_lt, zI_le, zI_eq, zI_clamp, zI_in, zI_div, zI_rem, lg_lt0, lg_gt0, lg_eq0, lg_le0, lg_ge0, Int.toNat_natCast, ge_iff_le, gt_iff_lt, List.length_cons, List.length_nil, bl_up2_at, bl_up2_nk, bl_up2_nx] <;> omega)), km, _, bl_vs rm_32, fun h186 => ?_, fun h186 => ?_⟩
                   · try simp (disch := omega) only [bl_pv, cl0, cl1, cl2, cl3, cl4, cl5, cl6, cl7, cl8, cl9, bl_up2_at, bl_up2_nk, bl_up2_nx] at h186
                     (first | exact absurd rfl h186 | exact absurd trivial h186 | exact absurd h186 (by decide))
                   · try simp (disch := omega) only [bl_pv, cl0, cl1, cl2, cl3, cl4, cl5, cl6, cl7, cl8, cl9, bl_up2_at, bl_up2_nk, bl_up2_nx] at h186
                     first
                     | (exfalso; first | omega | exact h186 trivial)
                     | (refine ⟨km32, (by first | exact (by rw [nm32]; exact vp_in_nI (by omega) (by omega)) | ((try dsimp only [bl_pv]); show vp_in _ (N _); rw [nm32]; simp (disch := omega) only [zI_n, zI_o, zI_lit, zI_neg, zI_add, zI_sub, zI_mul, zI_lt, zI_le, zI_eq, zI_clamp, zI_in, zI_div, zI_rem, lg_lt0, lg_gt0, lg_eq0, lg_le0, lg_ge0, Int.toNat_natCast, ge_iff_le, gt_iff_lt, List.length_cons, List.length_nil, bl_up2_at, bl_up2_nk, bl_up2_nx] <;> omega)), km, _, bl_vs rm_33, km33, (by first | exact (by rw [nm33]; exact vp_in_nI (by omega) (by omega)) | ((try dsimp only [bl_pv]); show vp_in _ (N _); rw [nm33]; simp (disch := omega) only [zI_n, zI_o, zI_lit, zI_neg, zI_add, zI_sub, zI_mul, zI_lt, zI_le, zI_eq, zI_clamp, zI_in, zI_div, zI_rem, lg_lt0, lg_gt0, lg_eq0, lg_le0, lg_ge0, Int.toNat_natCast, ge_iff_le, gt_iff_lt, List.length_cons, List.length_nil, bl_up2_at, bl_up2_nk, bl_up2_nx] <;> omega)), km, _, bl_vs rm_37, km37, (by first | exact (by rw [nm37]; exact vp_in_nI (by omega) (by omega)) | ((try dsimp only [bl_pv]); show vp_in _ (N _); rw [nm37]; simp (disch := omega) only [zI_n, zI_o, zI_lit, zI_neg, zI_add, zI_sub, zI_mul, zI_lt, zI_le, zI_eq, zI_clamp, zI_in, zI_div, zI_rem, lg_lt0, lg_gt0, lg_eq0, lg_le0, lg_ge0, Int.toNat_natCast, ge_iff_le, gt_iff_lt, List.length_cons, List.length_nil, bl_up2_at, bl_up2_nk, bl_up2_nx] <;> omega)), km, _, bl_vs rm_38, km38, (by first | exact (by rw [nm38]; exact vp_in_nI (by omega) (by omega)) | ((try dsimp only [bl_pv]); show vp_in _ (N _); rw [nm38]; simp (disch := omega) only [zI_n, zI_o, zI_lit, zI_neg, zI_add, zI_sub, zI_mul, zI_lt, zI_le, zI_eq, zI_clamp, zI_in, zI_div, zI_rem, lg_lt0, lg_gt0, lg_eq0, lg_le0, lg_ge0, Int.toNat_natCast, ge_iff_le, gt_iff_lt, List.length_cons, List.length_nil, bl_up2_at, bl_up2_nk, bl_up2_nx] <;> omega)), ?_⟩
                        refine bl_lv [0, 3, 4, 5, 6] rfl ?_
                        try dsimp only [bl_pv]
                        rw [ec]
                        refine ih2 _ _ _ (nI_1 _) (lyF_put f1) (fun x y hx hy => cO_put (by omega) (f2 x y hx hy)) (fun y hy => ?_)
                        by_cases ey : y = j
                        · subst ey; rw [← hb]; exact cO_new rfl rfl rfl rfl rfl
                        · exact cO_put (by omega) (f3 y (by omega))))
            · skip
              refine bl_go oX11_laysSlab 80 [91, 102, 151] rfl ?_
              refine ⟨rfl, (Nat.le_of_ble_eq_true rfl), (0, 0), Nat.le_of_ble_eq_true rfl, Nat.le_of_ble_eq_true rfl, bl_MC_mono (c_Model_cell (d := d) (x := i) (y := j) rfl rfl) (fun o154 σ154 q154 => ?_)⟩
              try dsimp only [bl_pv] at q154
              obtain ⟨rfl, rfl⟩ := q154
              refine bl_go oX11_laysSlab 80 [91, 102, 151] rfl ?_
              refine ⟨km, _, bl_vs rm_31, fun h167 => ?_, fun h167 => ?_⟩
              · try simp (disch := omega) only [bl_pv, cl0, cl1, cl2, cl3, cl4, cl5, cl6, cl7, cl8, cl9, bl_up2_at, bl_up2_nk, bl_up2_nx] at h167
                first
                | (exfalso; first | omega | exact h167 trivial)
                | (refine ⟨km31, (by first | exact (by rw [nm31]; exact vp_in_nI (by omega) (by omega)) | ((try dsimp only [bl_pv]); show vp_in _ (N _); rw [nm31]; simp (disch := omega) only [zI_n, zI_o, zI_lit, zI_neg, zI_add, zI_sub, zI_mul, zI_lt, zI_le, zI_eq, zI_clamp, zI_in, zI_div, zI_rem, lg_lt0, lg_gt0, lg_eq0, lg_le0, lg_ge0, Int.toNat_natCast, ge_iff_le, gt_iff_lt, List.length_cons, List.length_nil, bl_up2_at, bl_up2_nk, bl_up2_nx] <;> omega)), km, _, bl_vs rm_32, fun h186 => ?_, fun h186 => ?_⟩
                   · try simp (disch := omega) only [bl_pv, cl0, cl1, cl2, cl3, cl4, cl5, cl6, cl7, cl8, cl9, bl_up2_at, bl_up2_nk, bl_up2_nx] at h186
                     first
                     | (exfalso; first | omega | exact h186 trivial)
                     | (refine ⟨km32, (by first | exact (by rw [nm32]; exact vp_in_nI (by omega) (by omega)) | ((try dsimp only [bl_pv]); show vp_in _ (N _); rw [nm32]; simp (disch := omega) only [zI_n, zI_o, zI_lit, zI_neg, zI_add, zI_sub, zI_mul, zI_lt, zI_le, zI_eq, zI_clamp, zI_in, zI_div, zI_rem, lg_lt0, lg_gt0, lg_eq0, lg_le0, lg_ge0, Int.toNat_natCast, ge_iff_le, gt_iff_lt, List.length_cons, List.length_nil, bl_up2_at, bl_up2_nk, bl_up2_nx] <;> omega)), km, _, bl_vs rm_33, km33, (by first | exact (by rw [nm33]; exact vp_in_nI (by omega) (by omega)) | ((try dsimp only [bl_pv]); show vp_in _ (N _); rw [nm33]; simp (disch := omega) only [zI_n, zI_o, zI_lit, zI_neg, zI_add, zI_sub, zI_mul, zI_lt, zI_le, zI_eq, zI_clamp, zI_in, zI_div, zI_rem, lg_lt0, lg_gt0, lg_eq0, lg_le0, lg_ge0, Int.toNat_natCast, ge_iff_le, gt_iff_lt, List.length_cons, List.length_nil, bl_up2_at, bl_up2_nk, bl_up2_nx] <;> omega)), km, _, bl_vs rm_37, km37, (by first | exact (by rw [nm37]; exact vp_in_nI (by omega) (by omega)) | ((try dsimp only [bl_pv]); show vp_in _ (N _); rw [nm37]; simp (disch := omega) only [zI_n, zI_o, zI_lit, zI_neg, zI_add, zI_sub, zI_mul, zI_lt, zI_le, zI_eq, zI_clamp, zI_in, zI_div, zI_rem, lg_lt0, lg_gt0, lg_eq0, lg_le0, lg_ge0, Int.toNat_natCast, ge_iff_le, gt_iff_lt, List.length_cons, List.length_nil, bl_up2_at, bl_up2_nk, bl_up2_nx] <;> omega)), km, _, bl_vs rm_38, km38, (by first | exact (by rw [nm38]; exact vp_in_nI (by omega) (by omega)) | ((try dsimp only [bl_pv]); show vp_in _ (N _); rw [nm38]; simp (disch := omega) only [zI_n, zI_o, zI_lit, zI_neg, zI_add, zI_sub, zI_mul, zI_lt, zI_le, zI_eq, zI_clamp, zI_in, zI_div, zI_rem, lg_lt0, lg_gt0, lg_eq0, lg_le0, lg_ge0, Int.toNat_natCast, ge_iff_le, gt_iff_lt, List.length_cons, List.length_nil, bl_up2_at, bl_up2_nk, bl_up2_nx] <;> omega)), ?_⟩
                        refine bl_lv [0, 3, 4, 5, 6] rfl ?_
                        try dsimp only [bl_pv]
                        rw [ec]
                        refine ih2 _ _ _ (nI_1 _) (lyF_put f1) (fun x y hx hy => cO_put (by omega) (f2 x y hx hy)) (fun y hy => ?_)
                        by_cases ey : y = j
                        · subst ey; rw [← hb]; exact cO_new rfl rfl rfl rfl rfl
                        · exact cO_put (by omega) (f3 y (by omega)))
                   · try simp (disch := omega) only [bl_pv, cl0, cl1, cl2, cl3, cl4, cl5, cl6, cl7, cl8, cl9, bl_up2_at, bl_up2_nk, bl_up2_nx] at h186
                     (first | exact absurd rfl h186 | exact absurd trivial h186 | exact absurd h186 (by decide)))
              · try simp (disch := omega) only [bl_pv, cl0, cl1, cl2, cl3, cl4, cl5, cl6, cl7, cl8, cl9, bl_up2_at, bl_up2_nk, bl_up2_nx] at h167
                (first | exact absurd rfl h167 | exact absurd trivial h167 | exact absurd h167 (by decide))
          by_cases c1 : rim ≤ i ∧ i ≤ w - 1 - rim
          · by_cases c2 : rim ≤ j ∧ j ≤ h - 1 - rim
            · skip
              refine bl_go oX11_laysSlab 80 [91, 102, 151] rfl ?_
              refine ⟨km, fun h108 => ?_, fun h108 => ?_⟩
              · try simp (disch := omega) only [e22, zI_n, zI_o, zI_lit, zI_neg, zI_add, zI_sub, zI_mul, zI_lt, zI_le, zI_eq, zI_clamp, zI_in, zI_div, zI_rem, lg_lt0, lg_gt0, lg_eq0, lg_le0, lg_ge0, Int.toNat_natCast, ge_iff_le, gt_iff_lt, List.length_cons, List.length_nil, bl_up2_at, bl_up2_nk, bl_up2_nx] at h108
                exfalso; omega
              · try simp (disch := omega) only [e22, zI_n, zI_o, zI_lit, zI_neg, zI_add, zI_sub, zI_mul, zI_lt, zI_le, zI_eq, zI_clamp, zI_in, zI_div, zI_rem, lg_lt0, lg_gt0, lg_eq0, lg_le0, lg_ge0, Int.toNat_natCast, ge_iff_le, gt_iff_lt, List.length_cons, List.length_nil, bl_up2_at, bl_up2_nk, bl_up2_nx] at h108
                refine ⟨km, rfl, (Nat.le_of_ble_eq_true rfl), (0, 0), Nat.le_of_ble_eq_true rfl, Nat.le_of_ble_eq_true rfl, bl_MC_mono (c_Model_inNT (d := d) (a := i) (b := rim) (c := w - 1 - rim) rfl rfl e1 (by omega) (by omega) (by omega) c1) (fun o121 σ121 q121 => ?_)⟩
                try dsimp only [bl_pv] at q121
                obtain ⟨rfl, rfl⟩ := q121
                refine bl_go oX11_laysSlab 80 [91, 102, 151] rfl ?_
                refine ⟨fun h124 => ?_, fun h124 => ?_⟩
                · try simp (disch := omega) only [bl_pv, cl0, cl1, cl2, cl3, cl4, cl5, cl6, cl7, cl8, cl9, bl_up2_at, bl_up2_nk, bl_up2_nx] at h124
                  (first | exact absurd rfl h124 | exact absurd trivial h124 | exact absurd h124 (by decide))
                · try simp (disch := omega) only [bl_pv, cl0, cl1, cl2, cl3, cl4, cl5, cl6, cl7, cl8, cl9, bl_up2_at, bl_up2_nk, bl_up2_nx] at h124
                  first
                  | (exfalso; first | omega | exact h124 trivial)
                  | (refine ⟨km, rfl, (Nat.le_of_ble_eq_true rfl), (0, 0), Nat.le_of_ble_eq_true rfl, Nat.le_of_ble_eq_true rfl, bl_MC_mono (c_Model_inNT (d := d) (a := j) (b := rim) (c := h - 1 - rim) rfl rfl e2 (by omega) (by omega) (by omega) c2) (fun o138 σ138 q138 => ?_)⟩
                     try dsimp only [bl_pv] at q138
                     obtain ⟨rfl, rfl⟩ := q138
                     refine bl_go oX11_laysSlab 80 [91, 102, 151] rfl ?_
                     refine ⟨fun h141 => ?_, fun h141 => ?_⟩
                     · try simp (disch := omega) only [bl_pv, cl0, cl1, cl2, cl3, cl4, cl5, cl6, cl7, cl8, cl9, bl_up2_at, bl_up2_nk, bl_up2_nx] at h141
                       (first | exact absurd rfl h141 | exact absurd trivial h141 | exact absurd h141 (by decide))
                     · try simp (disch := omega) only [bl_pv, cl0, cl1, cl2, cl3, cl4, cl5, cl6, cl7, cl8, cl9, bl_up2_at, bl_up2_nk, bl_up2_nx] at h141
                       first
                       | (exfalso; first | omega | exact h141 trivial)
                       | (try dsimp only [bl_pv]
                          exact L151 _ 1 (Or.inl ⟨rfl, rfl⟩) (by rw [sdf_1 c1.1 c1.2 hr1, sdf_1 c2.1 c2.2 hr2])))
            · skip
              refine bl_go oX11_laysSlab 80 [91, 102, 151] rfl ?_
              refine ⟨km, fun h108 => ?_, fun h108 => ?_⟩
              · try simp (disch := omega) only [e22, zI_n, zI_o, zI_lit, zI_neg, zI_add, zI_sub, zI_mul, zI_lt, zI_le, zI_eq, zI_clamp, zI_in, zI_div, zI_rem, lg_lt0, lg_gt0, lg_eq0, lg_le0, lg_ge0, Int.toNat_natCast, ge_iff_le, gt_iff_lt, List.length_cons, List.length_nil, bl_up2_at, bl_up2_nk, bl_up2_nx] at h108
                exfalso; omega
              · try simp (disch := omega) only [e22, zI_n, zI_o, zI_lit, zI_neg, zI_add, zI_sub, zI_mul, zI_lt, zI_le, zI_eq, zI_clamp, zI_in, zI_div, zI_rem, lg_lt0, lg_gt0, lg_eq0, lg_le0, lg_ge0, Int.toNat_natCast, ge_iff_le, gt_iff_lt, List.length_cons, List.length_nil, bl_up2_at, bl_up2_nk, bl_up2_nx] at h108
                refine ⟨km, rfl, (Nat.le_of_ble_eq_true rfl), (0, 0), Nat.le_of_ble_eq_true rfl, Nat.le_of_ble_eq_true rfl, bl_MC_mono (c_Model_inNT (d := d) (a := i) (b := rim) (c := w - 1 - rim) rfl rfl e1 (by omega) (by omega) (by omega) c1) (fun o121 σ121 q121 => ?_)⟩
                try dsimp only [bl_pv] at q121
                obtain ⟨rfl, rfl⟩ := q121
                refine bl_go oX11_laysSlab 80 [91, 102, 151] rfl ?_
                refine ⟨fun h124 => ?_, fun h124 => ?_⟩
                · try simp (disch := omega) only [bl_pv, cl0, cl1, cl2, cl3, cl4, cl5, cl6, cl7, cl8, cl9, bl_up2_at, bl_up2_nk, bl_up2_nx] at h124
                  (first | exact absurd rfl h124 | exact absurd trivial h124 | exact absurd h124 (by decide))
                · try simp (disch := omega) only [bl_pv, cl0, cl1, cl2, cl3, cl4, cl5, cl6, cl7, cl8, cl9, bl_up2_at, bl_up2_nk, bl_up2_nx] at h124
                  first
                  | (exfalso; first | omega | exact h124 trivial)
                  | (refine ⟨km, rfl, (Nat.le_of_ble_eq_true rfl), (0, 0), Nat.le_of_ble_eq_true rfl, Nat.le_of_ble_eq_true rfl, bl_MC_mono (c_Model_inNF (d := d) (a := j) (b := rim) (c := h - 1 - rim) rfl rfl e2 (by omega) (by omega) (by omega) c2) (fun o138 σ138 q138 => ?_)⟩
                     try dsimp only [bl_pv] at q138
                     obtain ⟨rfl, rfl⟩ := q138
                     refine bl_go oX11_laysSlab 80 [91, 102, 151] rfl ?_
                     refine ⟨fun h141 => ?_, fun h141 => ?_⟩
                     · try simp (disch := omega) only [bl_pv, cl0, cl1, cl2, cl3, cl4, cl5, cl6, cl7, cl8, cl9, bl_up2_at, bl_up2_nk, bl_up2_nx] at h141
                       first
                       | (exfalso; first | omega | exact h141 trivial)
                       | (try dsimp only [bl_pv]
                          exact L151 _ 0 (Or.inr ⟨rfl, rfl⟩) (by rw [sdf_0 c2 hr2, Nat.mul_zero]))
                     · try simp (disch := omega) only [bl_pv, cl0, cl1, cl2, cl3, cl4, cl5, cl6, cl7, cl8, cl9, bl_up2_at, bl_up2_nk, bl_up2_nx] at h141
                       (first | exact absurd rfl h141 | exact absurd trivial h141 | exact absurd h141 (by decide)))
          · skip
            refine bl_go oX11_laysSlab 80 [91, 102, 151] rfl ?_
            refine ⟨km, fun h108 => ?_, fun h108 => ?_⟩
            · try simp (disch := omega) only [e22, zI_n, zI_o, zI_lit, zI_neg, zI_add, zI_sub, zI_mul, zI_lt, zI_le, zI_eq, zI_clamp, zI_in, zI_div, zI_rem, lg_lt0, lg_gt0, lg_eq0, lg_le0, lg_ge0, Int.toNat_natCast, ge_iff_le, gt_iff_lt, List.length_cons, List.length_nil, bl_up2_at, bl_up2_nk, bl_up2_nx] at h108
              exfalso; omega
            · try simp (disch := omega) only [e22, zI_n, zI_o, zI_lit, zI_neg, zI_add, zI_sub, zI_mul, zI_lt, zI_le, zI_eq, zI_clamp, zI_in, zI_div, zI_rem, lg_lt0, lg_gt0, lg_eq0, lg_le0, lg_ge0, Int.toNat_natCast, ge_iff_le, gt_iff_lt, List.length_cons, List.length_nil, bl_up2_at, bl_up2_nk, bl_up2_nx] at h108
              refine ⟨km, rfl, (Nat.le_of_ble_eq_true rfl), (0, 0), Nat.le_of_ble_eq_true rfl, Nat.le_of_ble_eq_true rfl, bl_MC_mono (c_Model_inNF (d := d) (a := i) (b := rim) (c := w - 1 - rim) rfl rfl e1 (by omega) (by omega) (by omega) c1) (fun o121 σ121 q121 => ?_)⟩
              try dsimp only [bl_pv] at q121
              obtain ⟨rfl, rfl⟩ := q121
              refine bl_go oX11_laysSlab 80 [91, 102, 151] rfl ?_
              refine ⟨fun h124 => ?_, fun h124 => ?_⟩
              · try simp (disch := omega) only [bl_pv, cl0, cl1, cl2, cl3, cl4, cl5, cl6, cl7, cl8, cl9, bl_up2_at, bl_up2_nk, bl_up2_nx] at h124
                first
                | (exfalso; first | omega | exact h124 trivial)
                | (try dsimp only [bl_pv]
                   exact L151 _ 0 (Or.inr ⟨rfl, rfl⟩) (by rw [sdf_0 c1 hr1, Nat.zero_mul]))
              · try simp (disch := omega) only [bl_pv, cl0, cl1, cl2, cl3, cl4, cl5, cl6, cl7, cl8, cl9, bl_up2_at, bl_up2_nk, bl_up2_nx] at h124
                (first | exact absurd rfl h124 | exact absurd trivial h124 | exact absurd h124 (by decide))
      refine bl_go oX11_laysSlab 80 [91, 102, 151] rfl ?_
      refine ⟨km, fun h96 => ?_, fun h96 => ?_⟩
      · try simp (disch := omega) only [e21, zI_n, zI_o, zI_lit, zI_neg, zI_add, zI_sub, zI_mul, zI_lt, zI_le, zI_eq, zI_clamp, zI_in, zI_div, zI_rem, lg_lt0, lg_gt0, lg_eq0, lg_le0, lg_ge0, Int.toNat_natCast, ge_iff_le, gt_iff_lt, List.length_cons, List.length_nil, bl_up2_at, bl_up2_nk, bl_up2_nx] at h96
        exfalso; omega
      · try simp (disch := omega) only [e21, zI_n, zI_o, zI_lit, zI_neg, zI_add, zI_sub, zI_mul, zI_lt, zI_le, zI_eq, zI_clamp, zI_in, zI_div, zI_rem, lg_lt0, lg_gt0, lg_eq0, lg_le0, lg_ge0, Int.toNat_natCast, ge_iff_le, gt_iff_lt, List.length_cons, List.length_nil, bl_up2_at, bl_up2_nk, bl_up2_nx] at h96
        try dsimp only [bl_pv]
        exact L102 0 (by omega) _ _ _ rfl f1 f2 (fun y hy => absurd hy (by omega))
  exact L91 0 (by omega) _ _ _ rfl ⟨fun _ _ _ => rfl, fun _ _ _ _ => rfl⟩ (fun x y hx => absurd hx (by omega))
theorem c_Model_laysSlab {u : Int32} (hm : mdS R K N m) (hC : mkC I m tf dg) (hO : tfO tf) : bl_MC G l (d + 1) mX11_laysSlab [.ref m, .int u] (I, J, R, K, N) (0, 0) (fun o σ' => o = .inl none ∧ ∃ I' J', σ' = (I', J', R, K, N) ∧ gtF I I' J J' m ∧ msl I' J' m (sl_first (tf 0) (tf 1) (tf 2)) ∧ I' m 23 = nI 0 ∧ I' m 24 = zI (-1) ∧ I' m 25 = zI (-1) ∧ I' m 26 = zI (-1) ∧ I' m 27 = u ∧ I' m 28 = 10 * nI (tf 4)) := by
  have km := hm.2.1
  obtain ⟨rm_10, km10, nm10⟩ := hm.f10
  obtain ⟨rm_41, km41, nm41⟩ := hm.f41
  have e0 := hC.1 0 (by omega)
  have e1 := hC.1 1 (by omega)
  have e2 := hC.1 2 (by omega)
  have e4 := hC.1 4 (by omega)
  obtain ⟨o1, o2, o3, o4, -⟩ := hO
  refine bl_MC_intro (by decide +kernel) rfl (Nat.le_of_ble_eq_true rfl) ?_
  refine bl_go oX11_laysSlab 80 [91] rfl ?_
  refine ⟨km, _, bl_vs rm_10, Or.inl ⟨km10, (by first | exact (by rw [nm10]; exact vp_in_nI (by omega) (by omega)) | ((try dsimp only [bl_pv]); show vp_in _ (N _); rw [nm10]; simp (disch := omega) only [zI_n, zI_o, zI_lit, zI_neg, zI_add, zI_sub, zI_mul, zI_lt, zI_le, zI_eq, zI_clamp, zI_in, zI_div, zI_rem, lg_lt0, lg_gt0, lg_eq0, lg_le0, lg_ge0, Int.toNat_natCast, ge_iff_le, gt_iff_lt, List.length_cons, List.length_nil, bl_up2_at, bl_up2_nk, bl_up2_nx] <;> omega)), km, Or.inr (Or.inr ⟨rfl, rfl, _, rfl⟩), (fun h => by cases h), km, _, bl_vs rm_10, Or.inl ⟨km10, (by first | exact (by rw [nm10]; exact vp_in_nI (by omega) (by omega)) | ((try dsimp only [bl_pv]); show vp_in _ (N _); rw [nm10]; simp (disch := omega) only [zI_n, zI_o, zI_lit, zI_neg, zI_add, zI_sub, zI_mul, zI_lt, zI_le, zI_eq, zI_clamp, zI_in, zI_div, zI_rem, lg_lt0, lg_gt0, lg_eq0, lg_le0, lg_ge0, Int.toNat_natCast, ge_iff_le, gt_iff_lt, List.length_cons, List.length_nil, bl_up2_at, bl_up2_nk, bl_up2_nx] <;> omega)), km, Or.inr (Or.inr ⟨rfl, rfl, _, rfl⟩), (fun h => by cases h), km, Or.inr (Or.inr ⟨rfl, rfl, _, rfl⟩), (fun h => by cases h), km, Or.inr (Or.inr ⟨rfl, rfl, _, rfl⟩), (fun h => by cases h), km, Or.inr (Or.inr ⟨rfl, rfl, _, rfl⟩), (fun h => by cases h), km, Or.inr (Or.inr ⟨rfl, rfl, _, rfl⟩), (fun h => by cases h), km, Or.inr (Or.inr ⟨rfl, rfl, _, rfl⟩), (fun h => by cases h), km, _, bl_vs rm_10, Or.inl ⟨km10, (by first | exact (by rw [nm10]; exact vp_in_nI (by omega) (by omega)) | ((try dsimp only [bl_pv]); show vp_in _ (N _); rw [nm10]; simp (disch := omega) only [zI_n, zI_o, zI_lit, zI_neg, zI_add, zI_sub, zI_mul, zI_lt, zI_le, zI_eq, zI_clamp, zI_in, zI_div, zI_rem, lg_lt0, lg_gt0, lg_eq0, lg_le0, lg_ge0, Int.toNat_natCast, ge_iff_le, gt_iff_lt, List.length_cons, List.length_nil, bl_up2_at, bl_up2_nk, bl_up2_nx] <;> omega)), km, Or.inr (Or.inr ⟨rfl, rfl, _, rfl⟩), (fun h => by cases h), km, Or.inr (Or.inl ⟨rfl, rfl, _, rfl⟩), (fun h => by cases h), km, Or.inr (Or.inl ⟨rfl, rfl, _, rfl⟩), (fun h => by cases h), km, _, bl_vs rm_41, km41, (by first | exact (by rw [nm41]; exact vp_in_nI (by omega) (by omega)) | ((try dsimp only [bl_pv]); show vp_in _ (N _); rw [nm41]; simp (disch := omega) only [zI_n, zI_o, zI_lit, zI_neg, zI_add, zI_sub, zI_mul, zI_lt, zI_le, zI_eq, zI_clamp, zI_in, zI_div, zI_rem, lg_lt0, lg_gt0, lg_eq0, lg_le0, lg_ge0, Int.toNat_natCast, ge_iff_le, gt_iff_lt, List.length_cons, List.length_nil, bl_up2_at, bl_up2_nk, bl_up2_nx] <;> omega)), km, _, bl_vs rm_41, km41, (by first | exact (by rw [nm41]; exact vp_in_nI (by omega) (by omega)) | ((try dsimp only [bl_pv]); show vp_in _ (N _); rw [nm41]; simp (disch := omega) only [zI_n, zI_o, zI_lit, zI_neg, zI_add, zI_sub, zI_mul, zI_lt, zI_le, zI_eq, zI_clamp, zI_in, zI_div, zI_rem, lg_lt0, lg_gt0, lg_eq0, lg_le0, lg_ge0, Int.toNat_natCast, ge_iff_le, gt_iff_lt, List.length_cons, List.length_nil, bl_up2_at, bl_up2_nk, bl_up2_nx] <;> omega)), km, _, bl_vs rm_10, Or.inl ⟨km10, (by first | exact (by rw [nm10]; exact vp_in_nI (by omega) (by omega)) | ((try dsimp only [bl_pv]); show vp_in _ (N _); rw [nm10]; simp (disch := omega) only [zI_n, zI_o, zI_lit, zI_neg, zI_add, zI_sub, zI_mul, zI_lt, zI_le, zI_eq, zI_clamp, zI_in, zI_div, zI_rem, lg_lt0, lg_gt0, lg_eq0, lg_le0, lg_ge0, Int.toNat_natCast, ge_iff_le, gt_iff_lt, List.length_cons, List.length_nil, bl_up2_at, bl_up2_nk, bl_up2_nx] <;> omega)), ?_⟩⟩⟩⟩⟩
  refine bl_lv [0, 2, 3, 1] rfl ?_
  try dsimp only [bl_pv]
  simp (disch := omega) only [bl_up2_nx, cl0, cl1, cl2, cl4]
  rw [e0, e1, e2, e4]
  refine bl_WP_mono (c_Model_ls91 (d := d) (w := tf 0) (h := tf 1) (rim := tf 2) hm ?_ ?_ (by omega) (by omega) o3 o4) (fun o σ' q => ?_)
  · simp (disch := omega) only [bl_up2_at, bl_up2_nk]
  · simp (disch := omega) only [bl_up2_at, bl_up2_nk]
  obtain ⟨rfl, I1, J1, rfl, f1, f2⟩ := q
  have em : ∀ j, I1 m j = _ := fun j => congrFun (f1.1 m (by omega) (by omega)) j
  have ej : ∀ j, J1 m j = _ := fun j => congrFun (f1.2 m (by omega) (by omega) (by omega)) j
  have e41 : ∀ j, J1 (m + 41) j = _ := fun j => congrFun (f1.2 (m + 41) (by omega) (by omega) (by omega)) j
  refine ⟨rfl, I1, J1, rfl, ⟨fun x a b => ?_, fun j a => ?_, fun x a => ?_⟩, ⟨⟨?_, ?_, f2⟩, ?_, ?_, ?_, ?_⟩, ?_, ?_, ?_, ?_, ?_, ?_⟩
  · rw [f1.1 x (by omega) (by omega)]; simp (disch := omega) only [bl_up2_ne]
  · rw [em]; simp (disch := omega) only [bl_up2_nk]
  · rw [f1.2 x (by omega) (by omega) (by omega)]; simp (disch := omega) only [bl_up2_ne]
  · rw [em]; simp (disch := omega) only [bl_up2_at, bl_up2_nk]; rfl
  · rw [em]; simp (disch := omega) only [bl_up2_at, bl_up2_nk]; rfl
  · rw [ej]; simp (disch := omega) only [bl_up2_at, bl_up2_nk, bl_up2_nx]; rfl
  · rw [ej]; simp (disch := omega) only [bl_up2_at, bl_up2_nk, bl_up2_nx]; rfl
  · rw [e41]; simp (disch := omega) only [bl_up2_at, bl_up2_nk, bl_up2_nx]; rfl
  · rw [e41]; simp (disch := omega) only [bl_up2_at, bl_up2_nk, bl_up2_nx]
  · rw [em]; simp (disch := omega) only [bl_up2_at, bl_up2_nk]; rfl
  · rw [em]; simp (disch := omega) only [bl_up2_at, bl_up2_nk]; rfl
  · rw [em]; simp (disch := omega) only [bl_up2_at, bl_up2_nk]; rfl
  · rw [em]; simp (disch := omega) only [bl_up2_at, bl_up2_nk]; rfl
  · rw [em]; simp (disch := omega) only [bl_up2_at, bl_up2_nk]
  · rw [em]; simp (disch := omega) only [bl_up2_at, bl_up2_nk]
theorem c_Model_unitBy {k u : Nat} {w x bx : Int32} (hm : mdS R K N m) (hC : mkC I m tf dg) (hx : x = nI u) (hu : u < 100000) (hb : (k = 6 ∧ bx = 1) ∨ (k ≠ 6 ∧ bx = 0)) : bl_MC G l (d + 1) mX11_unitBy [.ref m, .int w, .int x, .int bx] (I, J, R, K, N) (0, 0) (fun o σ' => o = .inl (some (.int (wu tf dg k w u))) ∧ σ' = (I, J, R, K, N)) := by
  have km := hm.2.1
  obtain ⟨rm_10, km10, nm10⟩ := hm.f10
  have e4 := hC.1 4 (by omega)
  subst hx
  have eh : nI u / 12 - nI u / 12 / 24 * 24 = nI (u / 12 % 24) := by simp (disch := omega) only [zI_n, zI_o, zI_lit, zI_neg, zI_add, zI_sub, zI_mul, zI_lt, zI_le, zI_eq, zI_clamp, zI_in, zI_div, zI_rem, lg_lt0, lg_gt0, lg_eq0, lg_le0, lg_ge0, Int.toNat_natCast, ge_iff_le, gt_iff_lt, List.length_cons, List.length_nil, bl_up2_at, bl_up2_nk, bl_up2_nx]; omega
  rcases hb with ⟨hk, rfl⟩ | ⟨hk, rfl⟩
  · skip
    refine bl_MC_intro (by decide +kernel) rfl (Nat.le_of_ble_eq_true rfl) ?_
    refine bl_go oX11_unitBy 80 [] rfl ?_
    refine ⟨fun h1 => ?_, fun h1 => ?_⟩
    · try simp (disch := omega) only [bl_pv, cl0, cl1, cl2, cl3, cl4, cl5, cl6, cl7, cl8, cl9, bl_up2_at, bl_up2_nk, bl_up2_nx] at h1
      (first | exact absurd rfl h1 | exact absurd trivial h1 | exact absurd h1 (by decide))
    · try simp (disch := omega) only [bl_pv, cl0, cl1, cl2, cl3, cl4, cl5, cl6, cl7, cl8, cl9, bl_up2_at, bl_up2_nk, bl_up2_nx] at h1
      first
      | (exfalso; first | omega | exact h1 trivial)
      | (refine ⟨km, _, bl_vs rm_10, Or.inl ⟨km10, (by first | exact (by rw [nm10]; exact vp_in_nI (by omega) (by omega)) | ((try dsimp only [bl_pv]); show vp_in _ (N _); rw [nm10]; simp (disch := omega) only [zI_n, zI_o, zI_lit, zI_neg, zI_add, zI_sub, zI_mul, zI_lt, zI_le, zI_eq, zI_clamp, zI_in, zI_div, zI_rem, lg_lt0, lg_gt0, lg_eq0, lg_le0, lg_ge0, Int.toNat_natCast, ge_iff_le, gt_iff_lt, List.length_cons, List.length_nil, bl_up2_at, bl_up2_nk, bl_up2_nx] <;> omega)), fun h38 => ?_, fun h38 => ?_⟩⟩
         · try simp (disch := omega) only [bl_pv, cl0, cl1, cl2, cl3, cl4, cl5, cl6, cl7, cl8, cl9, bl_up2_at, bl_up2_nk, bl_up2_nx] at h38
           (first | exact absurd rfl h38 | exact absurd trivial h38 | exact absurd h38 (by decide))
         · try simp (disch := omega) only [bl_pv, cl0, cl1, cl2, cl3, cl4, cl5, cl6, cl7, cl8, cl9, bl_up2_at, bl_up2_nk, bl_up2_nx] at h38
           first
           | (exfalso; first | omega | exact h38 trivial)
           | (refine ⟨(by first | decide | (simp (disch := omega) only [zI_n, zI_o, zI_lit, zI_neg, zI_add, zI_sub, zI_mul, zI_lt, zI_le, zI_eq, zI_clamp, zI_in, zI_div, zI_rem, lg_lt0, lg_gt0, lg_eq0, lg_le0, lg_ge0, Int.toNat_natCast, ge_iff_le, gt_iff_lt, List.length_cons, List.length_nil, bl_up2_at, bl_up2_nk, bl_up2_nx] <;> omega)), (fun h => by cases h), ?_⟩
              try show _ ∧ _
              try dsimp only [bl_pv]
              unfold wu; rw [if_pos hk, ← e4]; exact ⟨rfl, rfl⟩))
  · skip
    refine bl_MC_intro (by decide +kernel) rfl (Nat.le_of_ble_eq_true rfl) ?_
    refine bl_go oX11_unitBy 80 [] rfl ?_
    refine ⟨fun h1 => ?_, fun h1 => ?_⟩
    · try simp (disch := omega) only [bl_pv, cl0, cl1, cl2, cl3, cl4, cl5, cl6, cl7, cl8, cl9, bl_up2_at, bl_up2_nk, bl_up2_nx] at h1
      first
      | (exfalso; first | omega | exact h1 trivial)
      | (refine ⟨(by first | decide | (simp (disch := omega) only [zI_n, zI_o, zI_lit, zI_neg, zI_add, zI_sub, zI_mul, zI_lt, zI_le, zI_eq, zI_clamp, zI_in, zI_div, zI_rem, lg_lt0, lg_gt0, lg_eq0, lg_le0, lg_ge0, Int.toNat_natCast, ge_iff_le, gt_iff_lt, List.length_cons, List.length_nil, bl_up2_at, bl_up2_nk, bl_up2_nx] <;> omega)), (by first | decide | (simp (disch := omega) only [zI_n, zI_o, zI_lit, zI_neg, zI_add, zI_sub, zI_mul, zI_lt, zI_le, zI_eq, zI_clamp, zI_in, zI_div, zI_rem, lg_lt0, lg_gt0, lg_eq0, lg_le0, lg_ge0, Int.toNat_natCast, ge_iff_le, gt_iff_lt, List.length_cons, List.length_nil, bl_up2_at, bl_up2_nk, bl_up2_nx] <;> omega)), rfl, rfl, km, (Nat.le_of_ble_eq_true rfl), (0, 0), Nat.le_of_ble_eq_true rfl, Nat.le_of_ble_eq_true rfl, bl_MC_mono (c_Model_roomOf (d := d) (h := u / 12 % 24) hm eh (by omega)) (fun o26 σ26 q26 => ?_)⟩
         try dsimp only [bl_pv] at q26
         obtain ⟨rfl, rfl⟩ := q26
         refine bl_go oX11_unitBy 80 [] rfl ?_
         refine ⟨fun h38 => ?_, fun h38 => ?_⟩
         · try simp (disch := omega) only [bl_pv, cl0, cl1, cl2, cl3, cl4, cl5, cl6, cl7, cl8, cl9, bl_up2_at, bl_up2_nk, bl_up2_nx] at h38
           first
           | (exfalso; first | omega | exact h38 trivial)
           | (refine ⟨(by first | decide | (simp (disch := omega) only [zI_n, zI_o, zI_lit, zI_neg, zI_add, zI_sub, zI_mul, zI_lt, zI_le, zI_eq, zI_clamp, zI_in, zI_div, zI_rem, lg_lt0, lg_gt0, lg_eq0, lg_le0, lg_ge0, Int.toNat_natCast, ge_iff_le, gt_iff_lt, List.length_cons, List.length_nil, bl_up2_at, bl_up2_nk, bl_up2_nx] <;> omega)), (fun h => by cases h), ?_⟩
              try show _ ∧ _
              try dsimp only [bl_pv]
              unfold wu; rw [if_neg hk, ← hC.2 _ (by omega)]; exact ⟨rfl, rfl⟩)
         · try simp (disch := omega) only [bl_pv, cl0, cl1, cl2, cl3, cl4, cl5, cl6, cl7, cl8, cl9, bl_up2_at, bl_up2_nk, bl_up2_nx] at h38
           (first | exact absurd rfl h38 | exact absurd trivial h38 | exact absurd h38 (by decide)))
    · try simp (disch := omega) only [bl_pv, cl0, cl1, cl2, cl3, cl4, cl5, cl6, cl7, cl8, cl9, bl_up2_at, bl_up2_nk, bl_up2_nx] at h1
      (first | exact absurd rfl h1 | exact absurd trivial h1 | exact absurd h1 (by decide))
theorem un_nI {k v : Nat} (hk : k ≤ 7) : (if nI k = 0 then (2 : Int32) else if nI k < 5 then 1 else if nI k = 5 then 0 else nI v) = nI (st_un k v) := by
  have eq0 : (nI k = 0) ↔ k = 0 := nI_eqk (b := 0) (by omega) (by omega)
  have eq5 : (nI k = 5) ↔ k = 5 := nI_eqk (b := 5) (by omega) (by omega)
  have lt5 : (nI k < 5) ↔ k < 5 := nI_ltk (b := 5) (by omega) (by omega)
  simp only [eq0, eq5, lt5]
  unfold st_un
  by_cases h0 : k = 0
  · rw [if_pos h0, if_pos h0]; rfl
  · rw [if_neg h0, if_neg h0]
    by_cases h1 : k < 5
    · rw [if_pos h1, if_neg (by omega), if_neg (by omega)]; rfl
    · rw [if_neg h1]
      by_cases h5 : k = 5
      · rw [if_pos h5, if_pos h5]; rfl
      · rw [if_neg h5, if_neg h5, if_pos (by omega)]
theorem c_Model_units {k v : Nat} {x y : Int32} (hx : x = nI k) (hy : y = nI v) (hk : k ≤ 7) : bl_MC G l d mX11_unitsOf [.int x, .int y] (I, J, R, K, N) (0, 0) (fun o σ' => o = .inl (some (.int (nI (st_un k v)))) ∧ σ' = (I, J, R, K, N)) := by
  subst hx hy
  refine bl_MC_mono c_Model_unitsOf (fun o σ' q => ⟨?_, q.2⟩)
  rw [q.1, un_nI hk]
end MODEL21
