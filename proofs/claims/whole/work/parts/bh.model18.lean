/-! ===== Model: cutting ===== -/
theorem bl_up2_tw {f : Nat → Nat → Int64} {x k : Nat} {v u : Int64} : bl_up2 (bl_up2 f x k v) x k u = bl_up2 f x k u := by
  funext y j
  unfold bl_up2
  by_cases e : y = x ∧ j = k
  · rw [if_pos e, if_pos e]
  · rw [if_neg e, if_neg e, if_neg e]
theorem bl_upJ_self {f : Nat → Nat → Int64} {x k : Nat} : bl_up2 f x k (f x k) = f := by
  funext y j
  unfold bl_up2
  by_cases e : y = x ∧ j = k
  · rw [if_pos e, e.1, e.2]
  · rw [if_neg e]
/-- sheets cut away so far -/
def ctT (n w h : Nat) (S : Nat → Nat → Nat) : Nat → Nat
  | 0 => 0
  | i + 1 => ctT n w h S i + (if i < n ∨ w - n ≤ i then smf (S i) h else 0)
theorem cN_up {I : Nat → Nat → Int32} {J : Nat → Nat → Int64} {m c b s k : Nat} {v : Int64} (h : cN I J m c b s) : cN I (bl_up2 J m k v) m c b s := by
  unfold cN
  rw [bl_up2_ne (show m + 34 ≠ m by omega), bl_up2_ne (show m + 35 ≠ m by omega), bl_up2_ne (show m + 36 ≠ m by omega)]
  exact h
theorem cO_up {I : Nat → Nat → Int32} {J : Nat → Nat → Int64} {m c b s k : Nat} {v : Int64} (h : cO I J m c b s) : cO I (bl_up2 J m k v) m c b s := by
  unfold cO
  rw [bl_up2_ne (show m + 31 ≠ m by omega), bl_up2_ne (show m + 32 ≠ m by omega), bl_up2_ne (show m + 33 ≠ m by omega)]
  exact h
theorem lpF_up {I I1 : Nat → Nat → Int32} {J J1 : Nat → Nat → Int64} {m k : Nat} {v u : Int64} (h : lpF I I1 (bl_up2 J m k u) J1 m) : lpF I I1 (bl_up2 J m k v) (bl_up2 J1 m k v) m := by
  refine ⟨h.1, fun x x1 x2 x3 x4 => ?_⟩
  by_cases e : x = m
  · subst e
    funext j
    have hx := h.2 x x1 x2 x3 x4
    unfold bl_up2 at hx ⊢
    by_cases ej : j = k
    · simp [ej]
    · have := congrFun hx j
      simp [ej] at this ⊢
      exact this
  · rw [bl_up2_ne e, bl_up2_ne e, h.2 x x1 x2 x3 x4, bl_up2_ne e]
section MODEL18
variable {G : bl_G} {l : Launch} {d m : Nat} {I : Nat → Nat → Int32} {J : Nat → Nat → Int64} {R : Nat → Nat → Option Nat} {K N : Nat → Nat} {n w h : Nat} {B S : Nat → Nat → Nat}
theorem c_Model_cuts {a : Int32} (hm : mdS R K N m) (ha : a = nI n) (hn0 : 0 < n) (hnw : 2 * n < w) (hw : w ≤ 48) (hh : h ≤ 48) (hs : msC I J m w h B S) : bl_MC G l (d + 2) mX11_cuts [.ref m, .int a] (I, J, R, K, N) (0, 0) (fun o σ' => o = .inl none ∧ ∃ I' J', σ' = (I', J', R, K, N) ∧ smF I I' J J' m ∧ J' m 29 = J m 29 ∧ J' m 30 = J m 30 + nJ (ctT n w h S w) ∧ J' (m + 41) = J (m + 41) ∧ msC I' J' m (w - 2 * n) h (fun x y => B (n + x) y) (fun x y => S (n + x) y)) := by
  have km := hm.2.1
  obtain ⟨rm_33, km33, nm33⟩ := hm.f33
  obtain ⟨hs1, hs2, hs3⟩ := hs
  subst ha
  refine bl_MC_intro (by decide +kernel) rfl (Nat.le_of_ble_eq_true rfl) ?_
  have L2 : ∀ i, i ≤ w → ∀ z I1 J1, z = nI i → lpF I I1 (bl_up2 J m 30 (J m 30 + nJ (ctT n w h S i))) J1 m → J1 (m + 41) = J (m + 41) → (∀ x y, x < w - 2 * n → n + x < i → y < h → cN I1 J1 m (48 * y + x) (B (n + x) y) (S (n + x) y)) → bl_WP G l (d + 2) mX11_cuts 2 [(2, .int z), (0, .ref m), (1, .int (nI n))] [] (I1, J1, R, K, N) (0, 0) (fun o σ' => o = .inl none ∧ ∃ I' J', σ' = (I', J', R, K, N) ∧ smF I I' J J' m ∧ J' m 29 = J m 29 ∧ J' m 30 = J m 30 + nJ (ctT n w h S w) ∧ J' (m + 41) = J (m + 41) ∧ msC I' J' m (w - 2 * n) h (fun x y => B (n + x) y) (fun x y => S (n + x) y)) := by
    refine bl_for w ?_ (fun i hi ih => ?_)
    · intro z I1 J1 hz f1 f2 f3; subst hz
      have e21 : I1 m 21 = nI w := (congrFun (f1.1 m (by omega) (by omega)) 21).trans hs1
      have e22 : I1 m 22 = nI h := (congrFun (f1.1 m (by omega) (by omega)) 22).trans hs2
      have eW : I1 m 21 - 2 * nI n = nI (w - 2 * n) := by rw [e21, show (2 : Int32) * nI n = nI (2 * n) from (Int32.ofNat_mul 2 n).symm]; exact nI_subs (by omega)
      refine bl_go oX11_cuts 80 [2, 12, 35, 57] rfl ?_
      refine ⟨km, fun h7 => ?_, fun h7 => ?_⟩
      · try simp (disch := omega) only [e21, zI_n, zI_o, zI_lit, zI_neg, zI_add, zI_sub, zI_mul, zI_lt, zI_le, zI_eq, zI_clamp, zI_in, zI_div, zI_rem, lg_lt0, lg_gt0, lg_eq0, lg_le0, lg_ge0, Int.toNat_natCast, ge_iff_le, gt_iff_lt, List.length_cons, List.length_nil, bl_up2_at, bl_up2_nk, bl_up2_nx] at h7
        refine ⟨km, km, rfl, rfl, km, (Nat.le_of_ble_eq_true rfl), (0, 0), Nat.le_of_ble_eq_true rfl, Nat.le_of_ble_eq_true rfl, bl_MC_mono (c_Model_becomes (d := d) (w := w - 2 * n) (h := h) (B := (fun x y => B (n + x) y)) (S := (fun x y => S (n + x) y)) hm eW e22 (by omega) hh (fun x y hx hy => f3 x y hx (by omega) hy)) (fun o98 σ98 q98 => ?_)⟩
        try dsimp only [bl_pv] at q98
        obtain ⟨rfl, I2, J2, rfl, g1, g2, g3, g4⟩ := q98
        refine bl_go oX11_cuts 80 [2, 12, 35, 57] rfl ?_
        try show _ ∧ _
        try dsimp only [bl_pv]
        have hF := smF_of f1 g1
        have eJ : J2 m = bl_up2 J m 30 (J m 30 + nJ (ctT n w h S w)) m := by rw [g1.2.2 m (by omega) (by omega) (by omega), f1.2 m (by omega) (by omega) (by omega) (by omega)]
        refine ⟨rfl, I2, J2, rfl, ⟨hF.1, hF.2.1, fun x x1 x2 x3 => ?_, fun j j1 j2 => ?_⟩, ?_, ?_, ?_, g2, g3, g4⟩
        · exact (hF.2.2.1 x x1 x2 x3).trans (bl_up2_ne x1)
        · rw [eJ]; exact bl_up2_nk j2
        · rw [eJ]; exact bl_up2_nk (by omega)
        · rw [eJ]; exact bl_up2_at
        · rw [g1.2.2 _ (by omega) (by omega) (by omega), f2]
      · try simp (disch := omega) only [e21, zI_n, zI_o, zI_lit, zI_neg, zI_add, zI_sub, zI_mul, zI_lt, zI_le, zI_eq, zI_clamp, zI_in, zI_div, zI_rem, lg_lt0, lg_gt0, lg_eq0, lg_le0, lg_ge0, Int.toNat_natCast, ge_iff_le, gt_iff_lt, List.length_cons, List.length_nil, bl_up2_at, bl_up2_nk, bl_up2_nx] at h7
        exfalso; omega
    · intro z I1 J1 hz f1 f2 f3; subst hz
      have e21 : I1 m 21 = nI w := (congrFun (f1.1 m (by omega) (by omega)) 21).trans hs1
      have L12 : ∀ j, j ≤ h → ∀ z I1 J1, z = nI j → lpF I I1 (bl_up2 J m 30 (J m 30 + nJ (ctT n w h S i + (if i < n ∨ w - n ≤ i then smf (S i) j else 0)))) J1 m → J1 (m + 41) = J (m + 41) → (∀ x y, x < w - 2 * n → n + x < i → y < h → cN I1 J1 m (48 * y + x) (B (n + x) y) (S (n + x) y)) → (∀ x y, x < w - 2 * n → n + x = i → y < j → cN I1 J1 m (48 * y + x) (B (n + x) y) (S (n + x) y)) → bl_WP G l (d + 2) mX11_cuts 12 [(3, .int z), (2, .int (nI i)), (0, .ref m), (1, .int (nI n))] [] (I1, J1, R, K, N) (0, 0) (fun o σ' => o = .inl none ∧ ∃ I' J', σ' = (I', J', R, K, N) ∧ smF I I' J J' m ∧ J' m 29 = J m 29 ∧ J' m 30 = J m 30 + nJ (ctT n w h S w) ∧ J' (m + 41) = J (m + 41) ∧ msC I' J' m (w - 2 * n) h (fun x y => B (n + x) y) (fun x y => S (n + x) y)) := by
        refine bl_for h ?_ (fun j hj ih2 => ?_)
        · intro z I1 J1 hz f1 f2 f3 f4; subst hz
          have e22 : I1 m 22 = nI h := (congrFun (f1.1 m (by omega) (by omega)) 22).trans hs2
          refine bl_go oX11_cuts 80 [2, 12, 35, 57] rfl ?_
          refine ⟨km, fun h17 => ?_, fun h17 => ?_⟩
          · try simp (disch := omega) only [e22, zI_n, zI_o, zI_lit, zI_neg, zI_add, zI_sub, zI_mul, zI_lt, zI_le, zI_eq, zI_clamp, zI_in, zI_div, zI_rem, lg_lt0, lg_gt0, lg_eq0, lg_le0, lg_ge0, Int.toNat_natCast, ge_iff_le, gt_iff_lt, List.length_cons, List.length_nil, bl_up2_at, bl_up2_nk, bl_up2_nx] at h17
            refine bl_lv [0, 2, 3] rfl ?_
            try dsimp only [bl_pv]
            refine ih _ _ _ (nI_1 _) f1 f2 (fun x y hx hx' hy => ?_)
            by_cases ex : n + x = i
            · exact f4 x y hx ex hy
            · exact f3 x y hx (by omega) hy
          · try simp (disch := omega) only [e22, zI_n, zI_o, zI_lit, zI_neg, zI_add, zI_sub, zI_mul, zI_lt, zI_le, zI_eq, zI_clamp, zI_in, zI_div, zI_rem, lg_lt0, lg_gt0, lg_eq0, lg_le0, lg_ge0, Int.toNat_natCast, ge_iff_le, gt_iff_lt, List.length_cons, List.length_nil, bl_up2_at, bl_up2_nk, bl_up2_nx] at h17
            exfalso; omega
        · intro z I1 J1 hz f1 f2 f3 f4; subst hz
          have e21 : I1 m 21 = nI w := (congrFun (f1.1 m (by omega) (by omega)) 21).trans hs1
          have e22 : I1 m 22 = nI h := (congrFun (f1.1 m (by omega) (by omega)) 22).trans hs2
          have ec : (nI (48 * j + i)).toNatClampNeg = 48 * j + i := nI_clamp (by omega)
          have hO := f1.O (cO_up (k := 30) (hs3 i j hi hj))
          have L35 : (i < n ∨ w - n ≤ i) → bl_WP G l (d + 2) mX11_cuts 35 [(3, .int (nI j)), (2, .int (nI i)), (0, .ref m), (1, .int (nI n))] [] (I1, J1, R, K, N) (0, 0) (fun o σ' => o = .inl none ∧ ∃ I' J', σ' = (I', J', R, K, N) ∧ smF I I' J J' m ∧ J' m 29 = J m 29 ∧ J' m 30 = J m 30 + nJ (ctT n w h S w) ∧ J' (m + 41) = J (m + 41) ∧ msC I' J' m (w - 2 * n) h (fun x y => B (n + x) y) (fun x y => S (n + x) y)) := by
            intro hc
            rw [if_pos hc] at f1
            have e30 : J1 m 30 = J m 30 + nJ (ctT n w h S i + smf (S i) j) := by
              rw [f1.2 m (by omega) (by omega) (by omega) (by omega)]; exact bl_up2_at
            refine bl_go oX11_cuts 80 [2, 12, 35, 57] rfl ?_
            refine ⟨rfl, km, km, _, bl_vs rm_33, rfl, (Nat.le_of_ble_eq_true rfl), (0, 0), Nat.le_of_ble_eq_true rfl, Nat.le_of_ble_eq_true rfl, bl_MC_mono (c_Model_cell (d := d + 1) (x := i) (y := j) rfl rfl) (fun o46 σ46 q46 => ?_)⟩
            try dsimp only [bl_pv] at q46
            obtain ⟨rfl, rfl⟩ := q46
            refine bl_go oX11_cuts 80 [2, 12, 35, 57] rfl ?_
            refine ⟨km33, (by first | exact (by rw [nm33]; exact vp_in_nI (by omega) (by omega)) | ((try dsimp only [bl_pv]); show vp_in _ (N _); rw [nm33]; simp (disch := omega) only [zI_n, zI_o, zI_lit, zI_neg, zI_add, zI_sub, zI_mul, zI_lt, zI_le, zI_eq, zI_clamp, zI_in, zI_div, zI_rem, lg_lt0, lg_gt0, lg_eq0, lg_le0, lg_ge0, Int.toNat_natCast, ge_iff_le, gt_iff_lt, List.length_cons, List.length_nil, bl_up2_at, bl_up2_nk, bl_up2_nx] <;> omega)), km, Or.inr (Or.inl ⟨rfl, rfl, _, rfl⟩), (fun h => by cases h), ?_⟩
            try dsimp only [bl_pv]
            rw [ec, hO.2.2.1, e30, Int64.add_assoc, nJ_add]
            refine ih2 _ _ _ (nI_1 _) ?_ ((bl_up2_ne (by omega)).trans f2) (fun x y hx hx' hy => cN_up (f3 x y hx hx' hy)) (fun x y hx hx' hy => absurd hc (by omega))
            rw [if_pos hc, show ctT n w h S i + smf (S i) (j + 1) = ctT n w h S i + smf (S i) j + S i j from (Nat.add_assoc _ _ _).symm]
            exact lpF_up f1
          have L57 : ¬ (i < n ∨ w - n ≤ i) → bl_WP G l (d + 2) mX11_cuts 57 [(3, .int (nI j)), (2, .int (nI i)), (0, .ref m), (1, .int (nI n))] [] (I1, J1, R, K, N) (0, 0) (fun o σ' => o = .inl none ∧ ∃ I' J', σ' = (I', J', R, K, N) ∧ smF I I' J J' m ∧ J' m 29 = J m 29 ∧ J' m 30 = J m 30 + nJ (ctT n w h S w) ∧ J' (m + 41) = J (m + 41) ∧ msC I' J' m (w - 2 * n) h (fun x y => B (n + x) y) (fun x y => S (n + x) y)) := by
            intro hc
            rw [if_neg hc] at f1
            have hx : nI i - nI n = nI (i - n) := nI_subs (by omega)
            refine bl_go oX11_cuts 80 [2, 12, 35, 57] rfl ?_
            refine ⟨rfl, (Nat.le_of_ble_eq_true rfl), (0, 0), Nat.le_of_ble_eq_true rfl, Nat.le_of_ble_eq_true rfl, bl_MC_mono (c_Model_cell (d := d + 1) (x := i - n) (y := j) hx rfl) (fun o62 σ62 q62 => ?_)⟩
            try dsimp only [bl_pv] at q62
            obtain ⟨rfl, rfl⟩ := q62
            refine bl_go oX11_cuts 80 [2, 12, 35, 57] rfl ?_
            refine ⟨rfl, (Nat.le_of_ble_eq_true rfl), (0, 0), Nat.le_of_ble_eq_true rfl, Nat.le_of_ble_eq_true rfl, bl_MC_mono (c_Model_cell (d := d + 1) (x := i) (y := j) rfl rfl) (fun o67 σ67 q67 => ?_)⟩
            try dsimp only [bl_pv] at q67
            obtain ⟨rfl, rfl⟩ := q67
            refine bl_go oX11_cuts 80 [2, 12, 35, 57] rfl ?_
            refine ⟨rfl, rfl, km, (Nat.le_of_ble_eq_true rfl), (0, 0), Nat.le_of_ble_eq_true rfl, Nat.le_of_ble_eq_true rfl, bl_MC_mono (c_Model_takes (d := d + 1) (x := 48 * j + (i - n)) (y := 48 * j + i) hm rfl rfl (by omega) (by omega) hO) (fun o70 σ70 q70 => ?_)⟩
            try dsimp only [bl_pv] at q70
            obtain ⟨rfl, I2, J2, rfl, g1, g2, g3⟩ := q70
            refine bl_go oX11_cuts 80 [2, 12, 35, 57] rfl ?_
            try dsimp only [bl_pv]
            refine ih2 _ _ _ (nI_1 _) (by rw [if_neg hc]; exact f1.step g1) (g2.trans f2) (fun x y hx hx' hy => g1.2.2 _ _ _ (by omega) (f3 x y hx hx' hy)) (fun x y hx hx' hy => ?_)
            by_cases ey : y = j
            · subst ey hx'; rw [Nat.add_sub_cancel_left] at g3; exact g3
            · exact g1.2.2 _ _ _ (by omega) (f4 x y hx hx' (by omega))
          refine bl_go oX11_cuts 80 [2, 12, 35, 57] rfl ?_
          refine ⟨km, fun h17 => ?_, fun h17 => ?_⟩
          · try simp (disch := omega) only [e22, e21, zI_n, zI_o, zI_lit, zI_neg, zI_add, zI_sub, zI_mul, zI_lt, zI_le, zI_eq, zI_clamp, zI_in, zI_div, zI_rem, lg_lt0, lg_gt0, lg_eq0, lg_le0, lg_ge0, Int.toNat_natCast, ge_iff_le, gt_iff_lt, List.length_cons, List.length_nil, bl_up2_at, bl_up2_nk, bl_up2_nx] at h17
            exfalso; omega
          · try simp (disch := omega) only [e22, e21, zI_n, zI_o, zI_lit, zI_neg, zI_add, zI_sub, zI_mul, zI_lt, zI_le, zI_eq, zI_clamp, zI_in, zI_div, zI_rem, lg_lt0, lg_gt0, lg_eq0, lg_le0, lg_ge0, Int.toNat_natCast, ge_iff_le, gt_iff_lt, List.length_cons, List.length_nil, bl_up2_at, bl_up2_nk, bl_up2_nx] at h17
            refine ⟨fun h22 => ?_, fun h22 => ?_⟩
            · try simp (disch := omega) only [e22, e21, zI_n, zI_o, zI_lit, zI_neg, zI_add, zI_sub, zI_mul, zI_lt, zI_le, zI_eq, zI_clamp, zI_in, zI_div, zI_rem, lg_lt0, lg_gt0, lg_eq0, lg_le0, lg_ge0, Int.toNat_natCast, ge_iff_le, gt_iff_lt, List.length_cons, List.length_nil, bl_up2_at, bl_up2_nk, bl_up2_nx] at h22
              first
              | (exfalso; first | omega | exact h22 trivial)
              | (try dsimp only [bl_pv]
                 exact L35 (by omega))
            · try simp (disch := omega) only [e22, e21, zI_n, zI_o, zI_lit, zI_neg, zI_add, zI_sub, zI_mul, zI_lt, zI_le, zI_eq, zI_clamp, zI_in, zI_div, zI_rem, lg_lt0, lg_gt0, lg_eq0, lg_le0, lg_ge0, Int.toNat_natCast, ge_iff_le, gt_iff_lt, List.length_cons, List.length_nil, bl_up2_at, bl_up2_nk, bl_up2_nx] at h22
              first
              | (exfalso; first | omega | exact h22 trivial)
              | (refine ⟨km, fun h32 => ?_, fun h32 => ?_⟩
                 · try simp (disch := omega) only [e22, e21, zI_n, zI_o, zI_lit, zI_neg, zI_add, zI_sub, zI_mul, zI_lt, zI_le, zI_eq, zI_clamp, zI_in, zI_div, zI_rem, lg_lt0, lg_gt0, lg_eq0, lg_le0, lg_ge0, Int.toNat_natCast, ge_iff_le, gt_iff_lt, List.length_cons, List.length_nil, bl_up2_at, bl_up2_nk, bl_up2_nx] at h32
                   first
                   | (exfalso; first | omega | exact h32 trivial)
                   | (try dsimp only [bl_pv]
                      exact L57 (by omega))
                 · try simp (disch := omega) only [e22, e21, zI_n, zI_o, zI_lit, zI_neg, zI_add, zI_sub, zI_mul, zI_lt, zI_le, zI_eq, zI_clamp, zI_in, zI_div, zI_rem, lg_lt0, lg_gt0, lg_eq0, lg_le0, lg_ge0, Int.toNat_natCast, ge_iff_le, gt_iff_lt, List.length_cons, List.length_nil, bl_up2_at, bl_up2_nk, bl_up2_nx] at h32
                   first
                   | (exfalso; first | omega | exact h32 trivial)
                   | (try dsimp only [bl_pv]
                      exact L35 (by omega)))
      refine bl_go oX11_cuts 80 [2, 12, 35, 57] rfl ?_
      refine ⟨km, fun h7 => ?_, fun h7 => ?_⟩
      · try simp (disch := omega) only [e21, zI_n, zI_o, zI_lit, zI_neg, zI_add, zI_sub, zI_mul, zI_lt, zI_le, zI_eq, zI_clamp, zI_in, zI_div, zI_rem, lg_lt0, lg_gt0, lg_eq0, lg_le0, lg_ge0, Int.toNat_natCast, ge_iff_le, gt_iff_lt, List.length_cons, List.length_nil, bl_up2_at, bl_up2_nk, bl_up2_nx] at h7
        exfalso; omega
      · try simp (disch := omega) only [e21, zI_n, zI_o, zI_lit, zI_neg, zI_add, zI_sub, zI_mul, zI_lt, zI_le, zI_eq, zI_clamp, zI_in, zI_div, zI_rem, lg_lt0, lg_gt0, lg_eq0, lg_le0, lg_ge0, Int.toNat_natCast, ge_iff_le, gt_iff_lt, List.length_cons, List.length_nil, bl_up2_at, bl_up2_nk, bl_up2_nx] at h7
        try dsimp only [bl_pv]
        refine L12 0 (by omega) _ _ _ rfl ?_ f2 f3 (fun x y _ _ hy => absurd hy (by omega))
        rw [show (if i < n ∨ w - n ≤ i then smf (S i) 0 else 0) = 0 by split <;> rfl]; exact f1
  refine bl_go oX11_cuts 80 [2, 12, 35, 57] rfl ?_
  try dsimp only [bl_pv]
  refine L2 0 (by omega) _ _ _ rfl ?_ rfl (fun x y _ hx => absurd hx (by omega))
  rw [show bl_up2 J m 30 (J m 30 + nJ (ctT n w h S 0)) = J from by rw [show J m 30 + nJ (ctT n w h S 0) = J m 30 from Int64.add_zero _]; exact bl_upJ_self]
  exact lpF.refl
end MODEL18
