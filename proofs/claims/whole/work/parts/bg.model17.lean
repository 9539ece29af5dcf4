/-! ===== Model: tucking ===== -/
def tkc (n w i : Nat) : Nat := min i n + (i - (w - 3 * n))
section MODEL17
variable {G : bl_G} {l : Launch} {d m : Nat} {I : Nat → Nat → Int32} {J : Nat → Nat → Int64} {R : Nat → Nat → Option Nat} {K N : Nat → Nat} {n w h : Nat} {B S : Nat → Nat → Nat}
theorem c_Model_tucks {a : Int32} (hm : mdS R K N m) (ha : a = nI n) (hn0 : 0 < n) (hnw : 4 * n ≤ w) (hw : w ≤ 48) (hh : h ≤ 48) (hs : msC I J m w h B S) : bl_MC G l (d + 2) mX11_tucks [.ref m, .int a] (I, J, R, K, N) (0, 0) (fun o σ' => o = .inl none ∧ ∃ I' J', σ' = (I', J', R, K, N) ∧ smF I I' J J' m ∧ J' m = J m ∧ jnC J J' m (2 * n * h) ∧ msC I' J' m (w - 2 * n) h (fun x y => tu1 n w (fun k => B k y) x) (fun x y => tu1 n w (fun k => S k y) x)) := by
  have km := hm.2.1
  obtain ⟨hs1, hs2, hs3⟩ := hs
  subst ha
  refine bl_MC_intro (by decide +kernel) rfl (Nat.le_of_ble_eq_true rfl) ?_
  have L2 : ∀ i, i ≤ w - 2 * n → ∀ z I1 J1, z = nI (n + i) → lpF I I1 J J1 m → jnC J J1 m (tkc n w i * h) → (∀ x y, x < i → y < h → cN I1 J1 m (48 * y + x) (tu1 n w (fun k => B k y) x) (tu1 n w (fun k => S k y) x)) → bl_WP G l (d + 2) mX11_tucks 2 [(2, .int z), (0, .ref m), (1, .int (nI n))] [] (I1, J1, R, K, N) (0, 0) (fun o σ' => o = .inl none ∧ ∃ I' J', σ' = (I', J', R, K, N) ∧ smF I I' J J' m ∧ J' m = J m ∧ jnC J J' m (2 * n * h) ∧ msC I' J' m (w - 2 * n) h (fun x y => tu1 n w (fun k => B k y) x) (fun x y => tu1 n w (fun k => S k y) x)) := by
    refine bl_for (w - 2 * n) ?_ (fun i hi ih => ?_)
    · intro z I1 J1 hz f1 f2 f3; subst hz
      have e21 : I1 m 21 = nI w := (congrFun (f1.1 m (by omega) (by omega)) 21).trans hs1
      have e22 : I1 m 22 = nI h := (congrFun (f1.1 m (by omega) (by omega)) 22).trans hs2
      have eW : I1 m 21 - 2 * nI n = nI (w - 2 * n) := by rw [e21, show (2 : Int32) * nI n = nI (2 * n) from (Int32.ofNat_mul 2 n).symm]; exact nI_subs (by omega)
      refine bl_go oX11_tucks 80 [2, 14] rfl ?_
      refine ⟨km, fun h9 => ?_, fun h9 => ?_⟩
      · try simp (disch := omega) only [e21, zI_n, zI_o, zI_lit, zI_neg, zI_add, zI_sub, zI_mul, zI_lt, zI_le, zI_eq, zI_clamp, zI_in, zI_div, zI_rem, lg_lt0, lg_gt0, lg_eq0, lg_le0, lg_ge0, Int.toNat_natCast, ge_iff_le, gt_iff_lt, List.length_cons, List.length_nil, bl_up2_at, bl_up2_nk, bl_up2_nx] at h9
        refine ⟨km, km, rfl, rfl, km, (Nat.le_of_ble_eq_true rfl), (0, 0), Nat.le_of_ble_eq_true rfl, Nat.le_of_ble_eq_true rfl, bl_MC_mono (c_Model_becomes (d := d) (w := w - 2 * n) (h := h) (B := (fun x y => tu1 n w (fun k => B k y) x)) (S := (fun x y => tu1 n w (fun k => S k y) x)) hm eW e22 (by omega) hh f3) (fun o131 σ131 q131 => ?_)⟩
        try dsimp only [bl_pv] at q131
        obtain ⟨rfl, I2, J2, rfl, g1, g2, g3, g4⟩ := q131
        refine bl_go oX11_tucks 80 [2, 14] rfl ?_
        try show _ ∧ _
        try dsimp only [bl_pv]
        refine ⟨rfl, I2, J2, rfl, smF_of f1 g1, ?_, ?_, g2, g3, g4⟩
        · rw [g1.2.2 m (by omega) (by omega) (by omega), f1.2 m (by omega) (by omega) (by omega) (by omega)]
        · have et : tkc n w (w - 2 * n) = 2 * n := by unfold tkc; omega
          rw [et] at f2
          exact f2.same (g1.2.2 _ (by omega) (by omega) (by omega))
      · try simp (disch := omega) only [e21, zI_n, zI_o, zI_lit, zI_neg, zI_add, zI_sub, zI_mul, zI_lt, zI_le, zI_eq, zI_clamp, zI_in, zI_div, zI_rem, lg_lt0, lg_gt0, lg_eq0, lg_le0, lg_ge0, Int.toNat_natCast, ge_iff_le, gt_iff_lt, List.length_cons, List.length_nil, bl_up2_at, bl_up2_nk, bl_up2_nx] at h9
        exfalso; omega
    · intro z I1 J1 hz f1 f2 f3; subst hz
      have e21 : I1 m 21 = nI w := (congrFun (f1.1 m (by omega) (by omega)) 21).trans hs1
      have hx : nI (n + i) - nI n = nI i := by rw [nI_subs (by omega), Nat.add_sub_cancel_left]
      have hA : i < n → 2 * nI n - 1 - nI (n + i) = nI (n - 1 - i) := fun hin => by
        rw [show (2 : Int32) * nI n = nI (2 * n) from (Int32.ofNat_mul 2 n).symm, nI_sub2 (by omega)]; congr 1; omega
      have hB : w - 3 * n ≤ i → ∀ v, v = nI w → 2 * (v - nI n) - 1 - nI (n + i) = nI (2 * w - 3 * n - 1 - i) := fun hin v hv => by
        rw [hv, nI_subs (by omega), show (2 : Int32) * nI (w - n) = nI (2 * (w - n)) from (Int32.ofNat_mul 2 _).symm, nI_sub2 (by omega)]; congr 1; omega
      have L14 : ∀ j, j ≤ h → ∀ z I1 J1, z = nI j → lpF I I1 J J1 m → jnC J J1 m (tkc n w i * h + (if i < n ∨ w - 3 * n ≤ i then j else 0)) → (∀ x y, x < i → y < h → cN I1 J1 m (48 * y + x) (tu1 n w (fun k => B k y) x) (tu1 n w (fun k => S k y) x)) → (∀ y, y < j → cN I1 J1 m (48 * y + i) (tu1 n w (fun k => B k y) i) (tu1 n w (fun k => S k y) i)) → bl_WP G l (d + 2) mX11_tucks 14 [(3, .int z), (2, .int (nI (n + i))), (0, .ref m), (1, .int (nI n))] [] (I1, J1, R, K, N) (0, 0) (fun o σ' => o = .inl none ∧ ∃ I' J', σ' = (I', J', R, K, N) ∧ smF I I' J J' m ∧ J' m = J m ∧ jnC J J' m (2 * n * h) ∧ msC I' J' m (w - 2 * n) h (fun x y => tu1 n w (fun k => B k y) x) (fun x y => tu1 n w (fun k => S k y) x)) := by
        refine bl_for h ?_ (fun j hj ih2 => ?_)
        · intro z I1 J1 hz f1 f2 f3 f4; subst hz
          have e22 : I1 m 22 = nI h := (congrFun (f1.1 m (by omega) (by omega)) 22).trans hs2
          have et : tkc n w i * h + (if i < n ∨ w - 3 * n ≤ i then h else 0) = tkc n w (i + 1) * h := by
            by_cases hc : i < n ∨ w - 3 * n ≤ i
            · rw [if_pos hc, show tkc n w (i + 1) = tkc n w i + 1 by unfold tkc; omega, Nat.succ_mul]
            · rw [if_neg hc, show tkc n w (i + 1) = tkc n w i by unfold tkc; omega]; rfl
          rw [et] at f2
          refine bl_go oX11_tucks 80 [2, 14] rfl ?_
          refine ⟨km, fun h19 => ?_, fun h19 => ?_⟩
          · try simp (disch := omega) only [e22, zI_n, zI_o, zI_lit, zI_neg, zI_add, zI_sub, zI_mul, zI_lt, zI_le, zI_eq, zI_clamp, zI_in, zI_div, zI_rem, lg_lt0, lg_gt0, lg_eq0, lg_le0, lg_ge0, Int.toNat_natCast, ge_iff_le, gt_iff_lt, List.length_cons, List.length_nil, bl_up2_at, bl_up2_nk, bl_up2_nx] at h19
            refine bl_lv [0, 2, 3] rfl ?_
            try dsimp only [bl_pv]
            refine ih _ _ _ (nI_1 _) f1 f2 (fun x y hx hy => ?_)
            by_cases ex : x = i
            · subst ex; exact f4 y hy
            · exact f3 x y (by omega) hy
          · try simp (disch := omega) only [e22, zI_n, zI_o, zI_lit, zI_neg, zI_add, zI_sub, zI_mul, zI_lt, zI_le, zI_eq, zI_clamp, zI_in, zI_div, zI_rem, lg_lt0, lg_gt0, lg_eq0, lg_le0, lg_ge0, Int.toNat_natCast, ge_iff_le, gt_iff_lt, List.length_cons, List.length_nil, bl_up2_at, bl_up2_nk, bl_up2_nx] at h19
            exfalso; omega
        · intro z I1 J1 hz f1 f2 f3 f4; subst hz
          have e22 : I1 m 22 = nI h := (congrFun (f1.1 m (by omega) (by omega)) 22).trans hs2
          by_cases cA : i < n
          · have tA : ∀ f, tu1 n w f i = f (n + i) + f (n - 1 - i) := fun f => if_pos cA
            rw [if_pos (Or.inl cA)] at f2
            refine bl_go oX11_tucks 80 [2, 14] rfl ?_
            refine ⟨km, fun h19 => ?_, fun h19 => ?_⟩
            · try simp (disch := omega) only [e22, zI_n, zI_o, zI_lit, zI_neg, zI_add, zI_sub, zI_mul, zI_lt, zI_le, zI_eq, zI_clamp, zI_in, zI_div, zI_rem, lg_lt0, lg_gt0, lg_eq0, lg_le0, lg_ge0, Int.toNat_natCast, ge_iff_le, gt_iff_lt, List.length_cons, List.length_nil, bl_up2_at, bl_up2_nk, bl_up2_nx] at h19
              exfalso; omega
            · try simp (disch := omega) only [e22, zI_n, zI_o, zI_lit, zI_neg, zI_add, zI_sub, zI_mul, zI_lt, zI_le, zI_eq, zI_clamp, zI_in, zI_div, zI_rem, lg_lt0, lg_gt0, lg_eq0, lg_le0, lg_ge0, Int.toNat_natCast, ge_iff_le, gt_iff_lt, List.length_cons, List.length_nil, bl_up2_at, bl_up2_nk, bl_up2_nx] at h19
              refine ⟨rfl, (Nat.le_of_ble_eq_true rfl), (0, 0), Nat.le_of_ble_eq_true rfl, Nat.le_of_ble_eq_true rfl, bl_MC_mono (c_Model_cell (d := d + 1) (x := i) (y := j) hx rfl) (fun o27 σ27 q27 => ?_)⟩
              try dsimp only [bl_pv] at q27
              obtain ⟨rfl, rfl⟩ := q27
              refine bl_go oX11_tucks 80 [2, 14] rfl ?_
              refine ⟨rfl, (Nat.le_of_ble_eq_true rfl), (0, 0), Nat.le_of_ble_eq_true rfl, Nat.le_of_ble_eq_true rfl, bl_MC_mono (c_Model_cell (d := d + 1) (x := n + i) (y := j) rfl rfl) (fun o32 σ32 q32 => ?_)⟩
              try dsimp only [bl_pv] at q32
              obtain ⟨rfl, rfl⟩ := q32
              refine bl_go oX11_tucks 80 [2, 14] rfl ?_
              refine ⟨rfl, rfl, km, (Nat.le_of_ble_eq_true rfl), (0, 0), Nat.le_of_ble_eq_true rfl, Nat.le_of_ble_eq_true rfl, bl_MC_mono (c_Model_takes (d := d + 1) (x := 48 * j + i) (y := 48 * j + (n + i)) hm rfl rfl (by omega) (by omega) (f1.O (hs3 (n + i) j (by omega) hj))) (fun o35 σ35 q35 => ?_)⟩
              try dsimp only [bl_pv] at q35
              obtain ⟨rfl, I2, J2, rfl, g1, g2, g3⟩ := q35
              refine bl_go oX11_tucks 80 [2, 14] rfl ?_
              refine ⟨fun h42 => ?_, fun h42 => ?_⟩
              · try simp (disch := omega) only [e22, zI_n, zI_o, zI_lit, zI_neg, zI_add, zI_sub, zI_mul, zI_lt, zI_le, zI_eq, zI_clamp, zI_in, zI_div, zI_rem, lg_lt0, lg_gt0, lg_eq0, lg_le0, lg_ge0, Int.toNat_natCast, ge_iff_le, gt_iff_lt, List.length_cons, List.length_nil, bl_up2_at, bl_up2_nk, bl_up2_nx] at h42
                exfalso; omega
              · try simp (disch := omega) only [e22, zI_n, zI_o, zI_lit, zI_neg, zI_add, zI_sub, zI_mul, zI_lt, zI_le, zI_eq, zI_clamp, zI_in, zI_div, zI_rem, lg_lt0, lg_gt0, lg_eq0, lg_le0, lg_ge0, Int.toNat_natCast, ge_iff_le, gt_iff_lt, List.length_cons, List.length_nil, bl_up2_at, bl_up2_nk, bl_up2_nx] at h42
                refine ⟨rfl, (Nat.le_of_ble_eq_true rfl), (0, 0), Nat.le_of_ble_eq_true rfl, Nat.le_of_ble_eq_true rfl, bl_MC_mono (c_Model_cell (d := d + 1) (x := i) (y := j) hx rfl) (fun o50 σ50 q50 => ?_)⟩
                try dsimp only [bl_pv] at q50
                obtain ⟨rfl, rfl⟩ := q50
                refine bl_go oX11_tucks 80 [2, 14] rfl ?_
                refine ⟨rfl, (Nat.le_of_ble_eq_true rfl), (0, 0), Nat.le_of_ble_eq_true rfl, Nat.le_of_ble_eq_true rfl, bl_MC_mono (c_Model_cell (d := d + 1) (x := n - 1 - i) (y := j) (hA cA) rfl) (fun o61 σ61 q61 => ?_)⟩
                try dsimp only [bl_pv] at q61
                obtain ⟨rfl, rfl⟩ := q61
                refine bl_go oX11_tucks 80 [2, 14] rfl ?_
                refine ⟨rfl, rfl, km, (Nat.le_of_ble_eq_true rfl), (0, 0), Nat.le_of_ble_eq_true rfl, Nat.le_of_ble_eq_true rfl, bl_MC_mono (c_Model_lays (d := d + 1) (x := 48 * j + i) (y := 48 * j + (n - 1 - i)) hm rfl rfl (by omega) (by omega) ((f1.step g1).O (hs3 (n - 1 - i) j (by omega) hj)) g3) (fun o64 σ64 q64 => ?_)⟩
                try dsimp only [bl_pv] at q64
                obtain ⟨rfl, I3, J3, rfl, k1, k2, k3, k4⟩ := q64
                have e21' : I3 m 21 = nI w := (congrFun (((f1.step g1).step k1).1 m (by omega) (by omega)) 21).trans hs1
                refine bl_go oX11_tucks 80 [2, 14] rfl ?_
                refine ⟨km, fun h76 => ?_, fun h76 => ?_⟩
                · try simp (disch := omega) only [e22, zI_n, zI_o, zI_lit, zI_neg, zI_add, zI_sub, zI_mul, zI_lt, zI_le, zI_eq, zI_clamp, zI_in, zI_div, zI_rem, lg_lt0, lg_gt0, lg_eq0, lg_le0, lg_ge0, Int.toNat_natCast, ge_iff_le, gt_iff_lt, List.length_cons, List.length_nil, bl_up2_at, bl_up2_nk, bl_up2_nx] at h76
                  first
                  | (exfalso; first | omega | exact h76 trivial)
                  | (try dsimp only [bl_pv]
                     refine ih2 _ _ _ (nI_1 _) ((f1.step g1).step k1) (by rw [if_pos (Or.inl cA)]; exact (f2.same g2).one k2 k3) (fun x y hx hy => k1.2.2 _ _ _ (by omega) (g1.2.2 _ _ _ (by omega) (f3 x y hx hy))) (fun y hy => ?_)
                     by_cases ey : y = j
                     · subst ey; rw [tA, tA]; exact k4
                     · exact k1.2.2 _ _ _ (by omega) (g1.2.2 _ _ _ (by omega) (f4 y (by omega))))
                · try simp (disch := omega) only [e22, zI_n, zI_o, zI_lit, zI_neg, zI_add, zI_sub, zI_mul, zI_lt, zI_le, zI_eq, zI_clamp, zI_in, zI_div, zI_rem, lg_lt0, lg_gt0, lg_eq0, lg_le0, lg_ge0, Int.toNat_natCast, ge_iff_le, gt_iff_lt, List.length_cons, List.length_nil, bl_up2_at, bl_up2_nk, bl_up2_nx] at h76
                  exfalso; simp (disch := omega) only [e21', bl_pv, zI_n, zI_o, zI_lit, zI_neg, zI_add, zI_sub, zI_mul, zI_lt, zI_le, zI_eq, zI_clamp, zI_in, zI_div, zI_rem, lg_lt0, lg_gt0, lg_eq0, lg_le0, lg_ge0, Int.toNat_natCast, ge_iff_le, gt_iff_lt, List.length_cons, List.length_nil, bl_up2_at, bl_up2_nk, bl_up2_nx] at h76; omega
          · by_cases cB : w - 3 * n ≤ i
            · have tB : ∀ f, tu1 n w f i = f (n + i) + f (2 * w - 3 * n - 1 - i) := fun f => (if_neg cA).trans (if_pos cB)
              rw [if_pos (Or.inr cB)] at f2
              refine bl_go oX11_tucks 80 [2, 14] rfl ?_
              refine ⟨km, fun h19 => ?_, fun h19 => ?_⟩
              · try simp (disch := omega) only [e22, zI_n, zI_o, zI_lit, zI_neg, zI_add, zI_sub, zI_mul, zI_lt, zI_le, zI_eq, zI_clamp, zI_in, zI_div, zI_rem, lg_lt0, lg_gt0, lg_eq0, lg_le0, lg_ge0, Int.toNat_natCast, ge_iff_le, gt_iff_lt, List.length_cons, List.length_nil, bl_up2_at, bl_up2_nk, bl_up2_nx] at h19
                exfalso; omega
              · try simp (disch := omega) only [e22, zI_n, zI_o, zI_lit, zI_neg, zI_add, zI_sub, zI_mul, zI_lt, zI_le, zI_eq, zI_clamp, zI_in, zI_div, zI_rem, lg_lt0, lg_gt0, lg_eq0, lg_le0, lg_ge0, Int.toNat_natCast, ge_iff_le, gt_iff_lt, List.length_cons, List.length_nil, bl_up2_at, bl_up2_nk, bl_up2_nx] at h19
                refine ⟨rfl, (Nat.le_of_ble_eq_true rfl), (0, 0), Nat.le_of_ble_eq_true rfl, Nat.le_of_ble_eq_true rfl, bl_MC_mono (c_Model_cell (d := d + 1) (x := i) (y := j) hx rfl) (fun o27 σ27 q27 => ?_)⟩
                try dsimp only [bl_pv] at q27
                obtain ⟨rfl, rfl⟩ := q27
                refine bl_go oX11_tucks 80 [2, 14] rfl ?_
                refine ⟨rfl, (Nat.le_of_ble_eq_true rfl), (0, 0), Nat.le_of_ble_eq_true rfl, Nat.le_of_ble_eq_true rfl, bl_MC_mono (c_Model_cell (d := d + 1) (x := n + i) (y := j) rfl rfl) (fun o32 σ32 q32 => ?_)⟩
                try dsimp only [bl_pv] at q32
                obtain ⟨rfl, rfl⟩ := q32
                refine bl_go oX11_tucks 80 [2, 14] rfl ?_
                refine ⟨rfl, rfl, km, (Nat.le_of_ble_eq_true rfl), (0, 0), Nat.le_of_ble_eq_true rfl, Nat.le_of_ble_eq_true rfl, bl_MC_mono (c_Model_takes (d := d + 1) (x := 48 * j + i) (y := 48 * j + (n + i)) hm rfl rfl (by omega) (by omega) (f1.O (hs3 (n + i) j (by omega) hj))) (fun o35 σ35 q35 => ?_)⟩
                try dsimp only [bl_pv] at q35
                obtain ⟨rfl, I2, J2, rfl, g1, g2, g3⟩ := q35
                have e21' : I2 m 21 = nI w := (congrFun ((f1.step g1).1 m (by omega) (by omega)) 21).trans hs1
                refine bl_go oX11_tucks 80 [2, 14] rfl ?_
                refine ⟨fun h42 => ?_, fun h42 => ?_⟩
                · try simp (disch := omega) only [e22, zI_n, zI_o, zI_lit, zI_neg, zI_add, zI_sub, zI_mul, zI_lt, zI_le, zI_eq, zI_clamp, zI_in, zI_div, zI_rem, lg_lt0, lg_gt0, lg_eq0, lg_le0, lg_ge0, Int.toNat_natCast, ge_iff_le, gt_iff_lt, List.length_cons, List.length_nil, bl_up2_at, bl_up2_nk, bl_up2_nx] at h42
                  refine ⟨km, fun h76 => ?_, fun h76 => ?_⟩
                  · try simp (disch := omega) only [e22, zI_n, zI_o, zI_lit, zI_neg, zI_add, zI_sub, zI_mul, zI_lt, zI_le, zI_eq, zI_clamp, zI_in, zI_div, zI_rem, lg_lt0, lg_gt0, lg_eq0, lg_le0, lg_ge0, Int.toNat_natCast, ge_iff_le, gt_iff_lt, List.length_cons, List.length_nil, bl_up2_at, bl_up2_nk, bl_up2_nx] at h76
                    exfalso; simp (disch := omega) only [e21', bl_pv, zI_n, zI_o, zI_lit, zI_neg, zI_add, zI_sub, zI_mul, zI_lt, zI_le, zI_eq, zI_clamp, zI_in, zI_div, zI_rem, lg_lt0, lg_gt0, lg_eq0, lg_le0, lg_ge0, Int.toNat_natCast, ge_iff_le, gt_iff_lt, List.length_cons, List.length_nil, bl_up2_at, bl_up2_nk, bl_up2_nx] at h76; omega
                  · try simp (disch := omega) only [e22, zI_n, zI_o, zI_lit, zI_neg, zI_add, zI_sub, zI_mul, zI_lt, zI_le, zI_eq, zI_clamp, zI_in, zI_div, zI_rem, lg_lt0, lg_gt0, lg_eq0, lg_le0, lg_ge0, Int.toNat_natCast, ge_iff_le, gt_iff_lt, List.length_cons, List.length_nil, bl_up2_at, bl_up2_nk, bl_up2_nx] at h76
                    first
                    | (exfalso; first | omega | exact h76 trivial)
                    | (refine ⟨rfl, (Nat.le_of_ble_eq_true rfl), (0, 0), Nat.le_of_ble_eq_true rfl, Nat.le_of_ble_eq_true rfl, bl_MC_mono (c_Model_cell (d := d + 1) (x := i) (y := j) hx rfl) (fun o84 σ84 q84 => ?_)⟩
                       try dsimp only [bl_pv] at q84
                       obtain ⟨rfl, rfl⟩ := q84
                       refine bl_go oX11_tucks 80 [2, 14] rfl ?_
                       refine ⟨km, rfl, (Nat.le_of_ble_eq_true rfl), (0, 0), Nat.le_of_ble_eq_true rfl, Nat.le_of_ble_eq_true rfl, bl_MC_mono (c_Model_cell (d := d + 1) (x := 2 * w - 3 * n - 1 - i) (y := j) (hB cB _ e21') rfl) (fun o100 σ100 q100 => ?_)⟩
                       try dsimp only [bl_pv] at q100
                       obtain ⟨rfl, rfl⟩ := q100
                       refine bl_go oX11_tucks 80 [2, 14] rfl ?_
                       refine ⟨rfl, rfl, km, (Nat.le_of_ble_eq_true rfl), (0, 0), Nat.le_of_ble_eq_true rfl, Nat.le_of_ble_eq_true rfl, bl_MC_mono (c_Model_lays (d := d + 1) (x := 48 * j + i) (y := 48 * j + (2 * w - 3 * n - 1 - i)) hm rfl rfl (by omega) (by omega) ((f1.step g1).O (hs3 (2 * w - 3 * n - 1 - i) j (by omega) hj)) g3) (fun o103 σ103 q103 => ?_)⟩
                       try dsimp only [bl_pv] at q103
                       obtain ⟨rfl, I3, J3, rfl, k1, k2, k3, k4⟩ := q103
                       refine bl_go oX11_tucks 80 [2, 14] rfl ?_
                       try dsimp only [bl_pv]
                       refine ih2 _ _ _ (nI_1 _) ((f1.step g1).step k1) (by rw [if_pos (Or.inr cB)]; exact (f2.same g2).one k2 k3) (fun x y hx hy => k1.2.2 _ _ _ (by omega) (g1.2.2 _ _ _ (by omega) (f3 x y hx hy))) (fun y hy => ?_)
                       by_cases ey : y = j
                       · subst ey; rw [tB, tB]; exact k4
                       · exact k1.2.2 _ _ _ (by omega) (g1.2.2 _ _ _ (by omega) (f4 y (by omega))))
                · try simp (disch := omega) only [e22, zI_n, zI_o, zI_lit, zI_neg, zI_add, zI_sub, zI_mul, zI_lt, zI_le, zI_eq, zI_clamp, zI_in, zI_div, zI_rem, lg_lt0, lg_gt0, lg_eq0, lg_le0, lg_ge0, Int.toNat_natCast, ge_iff_le, gt_iff_lt, List.length_cons, List.length_nil, bl_up2_at, bl_up2_nk, bl_up2_nx] at h42
                  exfalso; omega
            · have tC : ∀ f, tu1 n w f i = f (n + i) := fun f => (if_neg cA).trans (if_neg cB)
              have cC : ¬ (i < n ∨ w - 3 * n ≤ i) := fun h => h.elim cA cB
              rw [if_neg cC] at f2
              refine bl_go oX11_tucks 80 [2, 14] rfl ?_
              refine ⟨km, fun h19 => ?_, fun h19 => ?_⟩
              · try simp (disch := omega) only [e22, zI_n, zI_o, zI_lit, zI_neg, zI_add, zI_sub, zI_mul, zI_lt, zI_le, zI_eq, zI_clamp, zI_in, zI_div, zI_rem, lg_lt0, lg_gt0, lg_eq0, lg_le0, lg_ge0, Int.toNat_natCast, ge_iff_le, gt_iff_lt, List.length_cons, List.length_nil, bl_up2_at, bl_up2_nk, bl_up2_nx] at h19
                exfalso; omega
              · try simp (disch := omega) only [e22, zI_n, zI_o, zI_lit, zI_neg, zI_add, zI_sub, zI_mul, zI_lt, zI_le, zI_eq, zI_clamp, zI_in, zI_div, zI_rem, lg_lt0, lg_gt0, lg_eq0, lg_le0, lg_ge0, Int.toNat_natCast, ge_iff_le, gt_iff_lt, List.length_cons, List.length_nil, bl_up2_at, bl_up2_nk, bl_up2_nx] at h19
                refine ⟨rfl, (Nat.le_of_ble_eq_true rfl), (0, 0), Nat.le_of_ble_eq_true rfl, Nat.le_of_ble_eq_true rfl, bl_MC_mono (c_Model_cell (d := d + 1) (x := i) (y := j) hx rfl) (fun o27 σ27 q27 => ?_)⟩
                try dsimp only [bl_pv] at q27
                obtain ⟨rfl, rfl⟩ := q27
                refine bl_go oX11_tucks 80 [2, 14] rfl ?_
                refine ⟨rfl, (Nat.le_of_ble_eq_true rfl), (0, 0), Nat.le_of_ble_eq_true rfl, Nat.le_of_ble_eq_true rfl, bl_MC_mono (c_Model_cell (d := d + 1) (x := n + i) (y := j) rfl rfl) (fun o32 σ32 q32 => ?_)⟩
                try dsimp only [bl_pv] at q32
                obtain ⟨rfl, rfl⟩ := q32
                refine bl_go oX11_tucks 80 [2, 14] rfl ?_
                refine ⟨rfl, rfl, km, (Nat.le_of_ble_eq_true rfl), (0, 0), Nat.le_of_ble_eq_true rfl, Nat.le_of_ble_eq_true rfl, bl_MC_mono (c_Model_takes (d := d + 1) (x := 48 * j + i) (y := 48 * j + (n + i)) hm rfl rfl (by omega) (by omega) (f1.O (hs3 (n + i) j (by omega) hj))) (fun o35 σ35 q35 => ?_)⟩
                try dsimp only [bl_pv] at q35
                obtain ⟨rfl, I2, J2, rfl, g1, g2, g3⟩ := q35
                have e21' : I2 m 21 = nI w := (congrFun ((f1.step g1).1 m (by omega) (by omega)) 21).trans hs1
                refine bl_go oX11_tucks 80 [2, 14] rfl ?_
                refine ⟨fun h42 => ?_, fun h42 => ?_⟩
                · try simp (disch := omega) only [e22, zI_n, zI_o, zI_lit, zI_neg, zI_add, zI_sub, zI_mul, zI_lt, zI_le, zI_eq, zI_clamp, zI_in, zI_div, zI_rem, lg_lt0, lg_gt0, lg_eq0, lg_le0, lg_ge0, Int.toNat_natCast, ge_iff_le, gt_iff_lt, List.length_cons, List.length_nil, bl_up2_at, bl_up2_nk, bl_up2_nx] at h42
                  refine ⟨km, fun h76 => ?_, fun h76 => ?_⟩
                  · try simp (disch := omega) only [e22, zI_n, zI_o, zI_lit, zI_neg, zI_add, zI_sub, zI_mul, zI_lt, zI_le, zI_eq, zI_clamp, zI_in, zI_div, zI_rem, lg_lt0, lg_gt0, lg_eq0, lg_le0, lg_ge0, Int.toNat_natCast, ge_iff_le, gt_iff_lt, List.length_cons, List.length_nil, bl_up2_at, bl_up2_nk, bl_up2_nx] at h76
                    first
                    | (exfalso; first | omega | exact h76 trivial)
                    | (try dsimp only [bl_pv]
                       refine ih2 _ _ _ (nI_1 _) (f1.step g1) (by rw [if_neg cC]; exact f2.same g2) (fun x y hx hy => g1.2.2 _ _ _ (by omega) (f3 x y hx hy)) (fun y hy => ?_)
                       by_cases ey : y = j
                       · subst ey; rw [tC, tC]; exact g3
                       · exact g1.2.2 _ _ _ (by omega) (f4 y (by omega)))
                  · try simp (disch := omega) only [e22, zI_n, zI_o, zI_lit, zI_neg, zI_add, zI_sub, zI_mul, zI_lt, zI_le, zI_eq, zI_clamp, zI_in, zI_div, zI_rem, lg_lt0, lg_gt0, lg_eq0, lg_le0, lg_ge0, Int.toNat_natCast, ge_iff_le, gt_iff_lt, List.length_cons, List.length_nil, bl_up2_at, bl_up2_nk, bl_up2_nx] at h76
                    exfalso; simp (disch := omega) only [e21', bl_pv, zI_n, zI_o, zI_lit, zI_neg, zI_add, zI_sub, zI_mul, zI_lt, zI_le, zI_eq, zI_clamp, zI_in, zI_div, zI_rem, lg_lt0, lg_gt0, lg_eq0, lg_le0, lg_ge0, Int.toNat_natCast, ge_iff_le, gt_iff_lt, List.length_cons, List.length_nil, bl_up2_at, bl_up2_nk, bl_up2_nx] at h76; omega
                · try simp (disch := omega) only [e22, zI_n, zI_o, zI_lit, zI_neg, zI_add, zI_sub, zI_mul, zI_lt, zI_le, zI_eq, zI_clamp, zI_in, zI_div, zI_rem, lg_lt0, lg_gt0, lg_eq0, lg_le0, lg_ge0, Int.toNat_natCast, ge_iff_le, gt_iff_lt, List.length_cons, List.length_nil, bl_up2_at, bl_up2_nk, bl_up2_nx] at h42
                  exfalso; omega
      refine bl_go oX11_tucks 80 [2, 14] rfl ?_
      refine ⟨km, fun h9 => ?_, fun h9 => ?_⟩
      · try simp (disch := omega) only [e21, zI_n, zI_o, zI_lit, zI_neg, zI_add, zI_sub, zI_mul, zI_lt, zI_le, zI_eq, zI_clamp, zI_in, zI_div, zI_rem, lg_lt0, lg_gt0, lg_eq0, lg_le0, lg_ge0, Int.toNat_natCast, ge_iff_le, gt_iff_lt, List.length_cons, List.length_nil, bl_up2_at, bl_up2_nk, bl_up2_nx] at h9
        exfalso; omega
      · try simp (disch := omega) only [e21, zI_n, zI_o, zI_lit, zI_neg, zI_add, zI_sub, zI_mul, zI_lt, zI_le, zI_eq, zI_clamp, zI_in, zI_div, zI_rem, lg_lt0, lg_gt0, lg_eq0, lg_le0, lg_ge0, Int.toNat_natCast, ge_iff_le, gt_iff_lt, List.length_cons, List.length_nil, bl_up2_at, bl_up2_nk, bl_up2_nx] at h9
        try dsimp only [bl_pv]
        refine L14 0 (by omega) _ _ _ rfl f1 ?_ f3 (fun y hy => absurd hy (by omega))
        rw [show (if i < n ∨ w - 3 * n ≤ i then 0 else 0) = 0 by split <;> rfl]; exact f2
  refine bl_go oX11_tucks 80 [2, 14] rfl ?_
  try dsimp only [bl_pv]
  exact L2 0 (by omega) _ _ _ rfl lpF.refl (by rw [show tkc n w 0 = 0 by unfold tkc; omega, Nat.zero_mul]; exact jnC.zero) (fun x y hx => absurd hx (by omega))
end MODEL17
