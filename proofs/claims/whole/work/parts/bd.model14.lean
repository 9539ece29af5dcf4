/-! ===== Model: rolling, turning, folding ===== -/
theorem nI_div {a b : Nat} (ha : a < 2147483648) (hb : b < 2147483648) : nI a / nI b = nI (a / b) := by
  rw [zI_n, zI_n, zI_n, zI_div (by omega) (by omega) (by omega) (by omega)]; rfl
/-- the slab as the model has it -/
def msC (I : Nat → Nat → Int32) (J : Nat → Nat → Int64) (m w h : Nat) (B S : Nat → Nat → Nat) : Prop := I m 21 = nI w ∧ I m 22 = nI h ∧ ∀ x y, x < w → y < h → cO I J m (48 * y + x) (B x y) (S x y)
/-- what a step of the slab may change -/
def smF (I I' : Nat → Nat → Int32) (J J' : Nat → Nat → Int64) (m : Nat) : Prop := (∀ x, x ≠ m → x ≠ m + 37 → x ≠ m + 38 → x ≠ m + 39 → x ≠ m + 40 → I' x = I x) ∧ (∀ j, j ≠ 21 → j ≠ 22 → I' m j = I m j) ∧ (∀ x, x ≠ m → (x < m + 31 ∨ m + 36 < x) → x ≠ m + 41 → J' x = J x) ∧ ∀ j, j ≠ 29 → j ≠ 30 → J' m j = J m j
/-- what the loops change -/
def lpF (I I' : Nat → Nat → Int32) (J J' : Nat → Nat → Int64) (m : Nat) : Prop := (∀ x, x ≠ m + 39 → x ≠ m + 40 → I' x = I x) ∧ ∀ x, x ≠ m + 34 → x ≠ m + 35 → x ≠ m + 36 → x ≠ m + 41 → J' x = J x
theorem lpF.refl {I : Nat → Nat → Int32} {J : Nat → Nat → Int64} {m : Nat} : lpF I I J J m := ⟨fun _ _ _ => rfl, fun _ _ _ _ _ => rfl⟩
theorem lpF.O {I I' : Nat → Nat → Int32} {J J' : Nat → Nat → Int64} {m c b s : Nat} (h : lpF I I' J J' m) (h1 : cO I J m c b s) : cO I' J' m c b s := by
  unfold cO
  rw [h.2 _ (by omega) (by omega) (by omega) (by omega), h.2 _ (by omega) (by omega) (by omega) (by omega), h.2 _ (by omega) (by omega) (by omega) (by omega), h.1 _ (by omega) (by omega), h.1 _ (by omega) (by omega)]
  exact h1
theorem lpF.step {I I1 I2 : Nat → Nat → Int32} {J J1 J2 : Nat → Nat → Int64} {m to : Nat} (h : lpF I I1 J J1 m) (h2 : nwF I1 I2 J1 J2 m to) : lpF I I2 J J2 m := ⟨fun x x1 x2 => (h2.1 x x1 x2).trans (h.1 x x1 x2), fun x x1 x2 x3 x4 => (h2.2.1 x x1 x2 x3 x4).trans (h.2 x x1 x2 x3 x4)⟩
theorem smF_of {I I1 I2 : Nat → Nat → Int32} {J J1 J2 : Nat → Nat → Int64} {m : Nat} (h : lpF I I1 J J1 m) (h2 : bcF I1 I2 J1 J2 m) : smF I I2 J J2 m := by
  refine ⟨fun x x1 x2 x3 x4 x5 => (h2.1 x x1 x2 x3).trans (h.1 x x4 x5), fun j j1 j2 => (h2.2.1 j j1 j2).trans (congrFun (h.1 m (by omega) (by omega)) j), fun x x1 x2 x3 => (h2.2.2 x (by omega) (by omega) (by omega)).trans (h.2 x (by omega) (by omega) (by omega) (by omega)), fun j _ _ => ?_⟩
  rw [h2.2.2 m (by omega) (by omega) (by omega), h.2 m (by omega) (by omega) (by omega) (by omega)]
section MODEL14
variable {G : bl_G} {l : Launch} {d m : Nat} {I : Nat → Nat → Int32} {J : Nat → Nat → Int64} {R : Nat → Nat → Option Nat} {K N : Nat → Nat} {n w h : Nat} {B S : Nat → Nat → Nat}
theorem c_Model_turns (hm : mdS R K N m) (hw : w ≤ 48) (hh : h ≤ 48) (hs : msC I J m w h B S) : bl_MC G l (d + 2) mX11_turns [.ref m] (I, J, R, K, N) (0, 0) (fun o σ' => o = .inl none ∧ ∃ I' J', σ' = (I', J', R, K, N) ∧ smF I I' J J' m ∧ J' m = J m ∧ J' (m + 41) = J (m + 41) ∧ msC I' J' m h w (fun x y => B y x) (fun x y => S y x)) := by
  have km := hm.2.1
  obtain ⟨hs1, hs2, hs3⟩ := hs
  refine bl_MC_intro (by decide +kernel) rfl (Nat.le_of_ble_eq_true rfl) ?_
  have L2 : ∀ i, i ≤ w → ∀ z I1 J1, z = nI i → lpF I I1 J J1 m → J1 (m + 41) = J (m + 41) → (∀ x y, x < i → y < h → cN I1 J1 m (48 * x + y) (B x y) (S x y)) → bl_WP G l (d + 2) mX11_turns 2 [(1, .int z), (0, .ref m)] [] (I1, J1, R, K, N) (0, 0) (fun o σ' => o = .inl none ∧ ∃ I' J', σ' = (I', J', R, K, N) ∧ smF I I' J J' m ∧ J' m = J m ∧ J' (m + 41) = J (m + 41) ∧ msC I' J' m h w (fun x y => B y x) (fun x y => S y x)) := by
    refine bl_for w ?_ (fun i hi ih => ?_)
    · intro z I1 J1 hz f1 f2 f3; subst hz
      have e21 : I1 m 21 = nI w := (congrFun (f1.1 m (by omega) (by omega)) 21).trans hs1
      have e22 : I1 m 22 = nI h := (congrFun (f1.1 m (by omega) (by omega)) 22).trans hs2
      refine bl_go oX11_turns 80 [2, 12] rfl ?_
      refine ⟨km, fun h7 => ?_, fun h7 => ?_⟩
      · try simp (disch := omega) only [e21, zI_n, zI_o, zI_lit, zI_neg, zI_add, zI_sub, zI_mul, zI_lt, zI_le, zI_eq, zI_clamp, zI_in, zI_div, zI_rem, lg_lt0, lg_gt0, lg_eq0, lg_le0, lg_ge0, Int.toNat_natCast, ge_iff_le, gt_iff_lt, List.length_cons, List.length_nil, bl_up2_at, bl_up2_nk, bl_up2_nx] at h7
        refine ⟨km, km, rfl, rfl, km, (Nat.le_of_ble_eq_true rfl), (0, 0), Nat.le_of_ble_eq_true rfl, Nat.le_of_ble_eq_true rfl, bl_MC_mono (c_Model_becomes (d := d) (w := h) (h := w) (B := fun x y => B y x) (S := fun x y => S y x) hm e22 e21 hh hw (fun x y hx hy => f3 y x hy hx)) (fun o55 σ55 q55 => ?_)⟩
        try dsimp only [bl_pv] at q55
        obtain ⟨rfl, I2, J2, rfl, g1, g2, g3, g4⟩ := q55
        refine bl_go oX11_turns 80 [2, 12] rfl ?_
        try show _ ∧ _
        try dsimp only [bl_pv]
        refine ⟨rfl, I2, J2, rfl, smF_of f1 g1, ?_, ?_, g2, g3, g4⟩
        · rw [g1.2.2 m (by omega) (by omega) (by omega), f1.2 m (by omega) (by omega) (by omega) (by omega)]
        · rw [g1.2.2 _ (by omega) (by omega) (by omega), f2]
      · try simp (disch := omega) only [e21, zI_n, zI_o, zI_lit, zI_neg, zI_add, zI_sub, zI_mul, zI_lt, zI_le, zI_eq, zI_clamp, zI_in, zI_div, zI_rem, lg_lt0, lg_gt0, lg_eq0, lg_le0, lg_ge0, Int.toNat_natCast, ge_iff_le, gt_iff_lt, List.length_cons, List.length_nil, bl_up2_at, bl_up2_nk, bl_up2_nx] at h7
        exfalso; omega
    · intro z I1 J1 hz f1 f2 f3; subst hz
      have e21 : I1 m 21 = nI w := (congrFun (f1.1 m (by omega) (by omega)) 21).trans hs1
      have L12 : ∀ j, j ≤ h → ∀ z I1 J1, z = nI j → lpF I I1 J J1 m → J1 (m + 41) = J (m + 41) → (∀ x y, x < i → y < h → cN I1 J1 m (48 * x + y) (B x y) (S x y)) → (∀ y, y < j → cN I1 J1 m (48 * i + y) (B i y) (S i y)) → bl_WP G l (d + 2) mX11_turns 12 [(2, .int z), (1, .int (nI i)), (0, .ref m)] [] (I1, J1, R, K, N) (0, 0) (fun o σ' => o = .inl none ∧ ∃ I' J', σ' = (I', J', R, K, N) ∧ smF I I' J J' m ∧ J' m = J m ∧ J' (m + 41) = J (m + 41) ∧ msC I' J' m h w (fun x y => B y x) (fun x y => S y x)) := by
        refine bl_for h ?_ (fun j hj ih2 => ?_)
        · intro z I1 J1 hz f1 f2 f3 f4; subst hz
          have e22 : I1 m 22 = nI h := (congrFun (f1.1 m (by omega) (by omega)) 22).trans hs2
          refine bl_go oX11_turns 80 [2, 12] rfl ?_
          refine ⟨km, fun h17 => ?_, fun h17 => ?_⟩
          · try simp (disch := omega) only [e22, zI_n, zI_o, zI_lit, zI_neg, zI_add, zI_sub, zI_mul, zI_lt, zI_le, zI_eq, zI_clamp, zI_in, zI_div, zI_rem, lg_lt0, lg_gt0, lg_eq0, lg_le0, lg_ge0, Int.toNat_natCast, ge_iff_le, gt_iff_lt, List.length_cons, List.length_nil, bl_up2_at, bl_up2_nk, bl_up2_nx] at h17
            refine bl_lv [0, 2] rfl ?_
            try dsimp only [bl_pv]
            refine ih _ _ _ (nI_1 _) f1 f2 (fun x y hx hy => ?_)
            by_cases ex : x = i
            · subst ex; exact f4 y hy
            · exact f3 x y (by omega) hy
          · try simp (disch := omega) only [e22, zI_n, zI_o, zI_lit, zI_neg, zI_add, zI_sub, zI_mul, zI_lt, zI_le, zI_eq, zI_clamp, zI_in, zI_div, zI_rem, lg_lt0, lg_gt0, lg_eq0, lg_le0, lg_ge0, Int.toNat_natCast, ge_iff_le, gt_iff_lt, List.length_cons, List.length_nil, bl_up2_at, bl_up2_nk, bl_up2_nx] at h17
            exfalso; omega
        · intro z I1 J1 hz f1 f2 f3 f4; subst hz
          have e22 : I1 m 22 = nI h := (congrFun (f1.1 m (by omega) (by omega)) 22).trans hs2
          refine bl_go oX11_turns 80 [2, 12] rfl ?_
          refine ⟨km, fun h17 => ?_, fun h17 => ?_⟩
          · try simp (disch := omega) only [e22, zI_n, zI_o, zI_lit, zI_neg, zI_add, zI_sub, zI_mul, zI_lt, zI_le, zI_eq, zI_clamp, zI_in, zI_div, zI_rem, lg_lt0, lg_gt0, lg_eq0, lg_le0, lg_ge0, Int.toNat_natCast, ge_iff_le, gt_iff_lt, List.length_cons, List.length_nil, bl_up2_at, bl_up2_nk, bl_up2_nx] at h17
            exfalso; omega
          · try simp (disch := omega) only [e22, zI_n, zI_o, zI_lit, zI_neg, zI_add, zI_sub, zI_mul, zI_lt, zI_le, zI_eq, zI_clamp, zI_in, zI_div, zI_rem, lg_lt0, lg_gt0, lg_eq0, lg_le0, lg_ge0, Int.toNat_natCast, ge_iff_le, gt_iff_lt, List.length_cons, List.length_nil, bl_up2_at, bl_up2_nk, bl_up2_nx] at h17
            refine ⟨rfl, (Nat.le_of_ble_eq_true rfl), (0, 0), Nat.le_of_ble_eq_true rfl, Nat.le_of_ble_eq_true rfl, bl_MC_mono (c_Model_cell (d := d + 1) (x := j) (y := i) rfl rfl) (fun o23 σ23 q23 => ?_)⟩
            try dsimp only [bl_pv] at q23
            obtain ⟨rfl, rfl⟩ := q23
            refine bl_go oX11_turns 80 [2, 12] rfl ?_
            refine ⟨rfl, (Nat.le_of_ble_eq_true rfl), (0, 0), Nat.le_of_ble_eq_true rfl, Nat.le_of_ble_eq_true rfl, bl_MC_mono (c_Model_cell (d := d + 1) (x := i) (y := j) rfl rfl) (fun o28 σ28 q28 => ?_)⟩
            try dsimp only [bl_pv] at q28
            obtain ⟨rfl, rfl⟩ := q28
            refine bl_go oX11_turns 80 [2, 12] rfl ?_
            refine ⟨rfl, rfl, km, (Nat.le_of_ble_eq_true rfl), (0, 0), Nat.le_of_ble_eq_true rfl, Nat.le_of_ble_eq_true rfl, bl_MC_mono (c_Model_takes (d := d + 1) (x := 48 * i + j) (y := 48 * j + i) hm rfl rfl (by omega) (by omega) (f1.O (hs3 i j hi hj))) (fun o31 σ31 q31 => ?_)⟩
            try dsimp only [bl_pv] at q31
            obtain ⟨rfl, I2, J2, rfl, g1, g2, g3⟩ := q31
            refine bl_go oX11_turns 80 [2, 12] rfl ?_
            try dsimp only [bl_pv]
            refine ih2 _ _ _ (nI_1 _) (f1.step g1) (g2.trans f2) (fun x y hx hy => g1.2.2 _ _ _ (by omega) (f3 x y hx hy)) (fun y hy => ?_)
            by_cases ey : y = j
            · subst ey; exact g3
            · exact g1.2.2 _ _ _ (by omega) (f4 y (by omega))
      refine bl_go oX11_turns 80 [2, 12] rfl ?_
      refine ⟨km, fun h7 => ?_, fun h7 => ?_⟩
      · try simp (disch := omega) only [e21, zI_n, zI_o, zI_lit, zI_neg, zI_add, zI_sub, zI_mul, zI_lt, zI_le, zI_eq, zI_clamp, zI_in, zI_div, zI_rem, lg_lt0, lg_gt0, lg_eq0, lg_le0, lg_ge0, Int.toNat_natCast, ge_iff_le, gt_iff_lt, List.length_cons, List.length_nil, bl_up2_at, bl_up2_nk, bl_up2_nx] at h7
        exfalso; omega
      · try simp (disch := omega) only [e21, zI_n, zI_o, zI_lit, zI_neg, zI_add, zI_sub, zI_mul, zI_lt, zI_le, zI_eq, zI_clamp, zI_in, zI_div, zI_rem, lg_lt0, lg_gt0, lg_eq0, lg_le0, lg_ge0, Int.toNat_natCast, ge_iff_le, gt_iff_lt, List.length_cons, List.length_nil, bl_up2_at, bl_up2_nk, bl_up2_nx] at h7
        try dsimp only [bl_pv]
        exact L12 0 (by omega) _ _ _ rfl f1 f2 f3 (fun y hy => absurd hy (by omega))
  refine bl_go oX11_turns 80 [2, 12] rfl ?_
  try dsimp only [bl_pv]
  exact L2 0 (by omega) _ _ _ rfl lpF.refl rfl (fun x y hx => absurd hx (by omega))
theorem c_Model_rolls {a : Int32} (hm : mdS R K N m) (ha : a = nI n) (hn0 : 0 < n) (hwn : w * n ≤ 48) (hw0 : 0 < w) (hw : w ≤ 48) (hh : h ≤ 48) (hs : msC I J m w h B S) : bl_MC G l (d + 2) mX11_rolls [.ref m, .int a] (I, J, R, K, N) (0, 0) (fun o σ' => o = .inl none ∧ ∃ I' J', σ' = (I', J', R, K, N) ∧ smF I I' J J' m ∧ J' m 29 = J m 29 * nJ n ∧ J' m 30 = J m 30 * nJ n ∧ J' (m + 41) = J (m + 41) ∧ msC I' J' m (w * n) h (fun x y => B (x / n) y) (fun x y => S (x / n) y)) := by
  have km := hm.2.1
  obtain ⟨hs1, hs2, hs3⟩ := hs
  subst ha
  have hdv : ∀ i, i < w * n → i / n < w := fun i hi => Nat.div_lt_of_lt_mul (by rw [Nat.mul_comm]; exact hi)
  have hn48 : n ≤ 48 := Nat.le_trans (Nat.le_mul_of_pos_left n hw0) hwn
  refine bl_MC_intro (by decide +kernel) rfl (Nat.le_of_ble_eq_true rfl) ?_
  generalize hW : w * n = W at *
  have L2 : ∀ i, i ≤ W → ∀ z I1 J1, z = nI i → lpF I I1 J J1 m → J1 (m + 41) = J (m + 41) → (∀ x y, x < i → y < h → cN I1 J1 m (48 * y + x) (B (x / n) y) (S (x / n) y)) → bl_WP G l (d + 2) mX11_rolls 2 [(2, .int z), (0, .ref m), (1, .int (nI n))] [] (I1, J1, R, K, N) (0, 0) (fun o σ' => o = .inl none ∧ ∃ I' J', σ' = (I', J', R, K, N) ∧ smF I I' J J' m ∧ J' m 29 = J m 29 * nJ n ∧ J' m 30 = J m 30 * nJ n ∧ J' (m + 41) = J (m + 41) ∧ msC I' J' m W h (fun x y => B (x / n) y) (fun x y => S (x / n) y)) := by
    refine bl_for W ?_ (fun i hi ih => ?_)
    · intro z I1 J1 hz f1 f2 f3; subst hz
      have e21 : I1 m 21 * nI n = nI W := by rw [congrFun (f1.1 m (by omega) (by omega)) 21, hs1, ← hW]; exact (Int32.ofNat_mul _ _).symm
      have e22 : I1 m 22 = nI h := (congrFun (f1.1 m (by omega) (by omega)) 22).trans hs2
      refine bl_go oX11_rolls 80 [2, 14] rfl ?_
      refine ⟨km, fun h9 => ?_, fun h9 => ?_⟩
      · try simp (disch := omega) only [bl_pv, cl0, cl1, cl2, cl3, cl4, cl5, cl6, cl7, cl8, cl9, bl_up2_at, bl_up2_nk, bl_up2_nx] at h9
        first
        | (exfalso; first | omega | exact h9 trivial)
        | (refine ⟨km, km, rfl, rfl, km, (Nat.le_of_ble_eq_true rfl), (0, 0), Nat.le_of_ble_eq_true rfl, Nat.le_of_ble_eq_true rfl, bl_MC_mono (c_Model_becomes (d := d) (w := W) (h := h) (B := fun x y => B (x / n) y) (S := fun x y => S (x / n) y) hm e21 e22 hwn hh f3) (fun o61 σ61 q61 => ?_)⟩
           try dsimp only [bl_pv] at q61
           obtain ⟨rfl, I2, J2, rfl, g1, g2, g3, g4⟩ := q61
           refine bl_go oX11_rolls 80 [2, 14] rfl ?_
           refine ⟨rfl, km, km, Or.inr (Or.inl ⟨rfl, rfl, _, rfl⟩), (fun h => by cases h), rfl, km, km, Or.inr (Or.inl ⟨rfl, rfl, _, rfl⟩), (fun h => by cases h), ?_⟩
           try show _ ∧ _
           try dsimp only [bl_pv]
           have eJ : J2 m = J m := by rw [g1.2.2 m (by omega) (by omega) (by omega), f1.2 m (by omega) (by omega) (by omega) (by omega)]
           have hF := smF_of f1 g1
           have en : (nI n).toInt64 = nJ n := by rw [zI_n]; exact nJ_ofI (by omega)
           refine ⟨rfl, I2, _, rfl, ⟨hF.1, hF.2.1, fun x x1 x2 x3 => ?_, fun j j1 j2 => ?_⟩, ?_, ?_, ?_, g2, g3, fun x y hx hy => ?_⟩
           · rw [bl_up2_ne x1, bl_up2_ne x1]; exact hF.2.2.1 x x1 x2 x3
           · rw [bl_up2_nk j2, bl_up2_nk j1]; exact hF.2.2.2 j j1 j2
           · rw [bl_up2_nk (by omega), bl_up2_at, eJ, en]
           · rw [bl_up2_at, bl_up2_nk (by omega), eJ, en]
           · rw [bl_up2_ne (by omega), bl_up2_ne (by omega), g1.2.2 _ (by omega) (by omega) (by omega), f2]
           · unfold cO
             rw [bl_up2_ne (show m + 31 ≠ m by omega), bl_up2_ne (show m + 31 ≠ m by omega), bl_up2_ne (show m + 32 ≠ m by omega), bl_up2_ne (show m + 32 ≠ m by omega), bl_up2_ne (show m + 33 ≠ m by omega), bl_up2_ne (show m + 33 ≠ m by omega)]
             exact g4 x y hx hy)
      · try simp (disch := omega) only [bl_pv, cl0, cl1, cl2, cl3, cl4, cl5, cl6, cl7, cl8, cl9, bl_up2_at, bl_up2_nk, bl_up2_nx] at h9
        rw [e21] at h9; exact absurd (Int32.le_refl _) h9
    · intro z I1 J1 hz f1 f2 f3; subst hz
      have e21 : I1 m 21 * nI n = nI W := by rw [congrFun (f1.1 m (by omega) (by omega)) 21, hs1, ← hW]; exact (Int32.ofNat_mul _ _).symm
      have L14 : ∀ j, j ≤ h → ∀ z I1 J1, z = nI j → lpF I I1 J J1 m → J1 (m + 41) = J (m + 41) → (∀ x y, x < i → y < h → cN I1 J1 m (48 * y + x) (B (x / n) y) (S (x / n) y)) → (∀ y, y < j → cN I1 J1 m (48 * y + i) (B (i / n) y) (S (i / n) y)) → bl_WP G l (d + 2) mX11_rolls 14 [(3, .int z), (2, .int (nI i)), (0, .ref m), (1, .int (nI n))] [] (I1, J1, R, K, N) (0, 0) (fun o σ' => o = .inl none ∧ ∃ I' J', σ' = (I', J', R, K, N) ∧ smF I I' J J' m ∧ J' m 29 = J m 29 * nJ n ∧ J' m 30 = J m 30 * nJ n ∧ J' (m + 41) = J (m + 41) ∧ msC I' J' m W h (fun x y => B (x / n) y) (fun x y => S (x / n) y)) := by
        refine bl_for h ?_ (fun j hj ih2 => ?_)
        · intro z I1 J1 hz f1 f2 f3 f4; subst hz
          have e22 : I1 m 22 = nI h := (congrFun (f1.1 m (by omega) (by omega)) 22).trans hs2
          refine bl_go oX11_rolls 80 [2, 14] rfl ?_
          refine ⟨km, fun h19 => ?_, fun h19 => ?_⟩
          · try simp (disch := omega) only [e22, zI_n, zI_o, zI_lit, zI_neg, zI_add, zI_sub, zI_mul, zI_lt, zI_le, zI_eq, zI_clamp, zI_in, zI_div, zI_rem, lg_lt0, lg_gt0, lg_eq0, lg_le0, lg_ge0, Int.toNat_natCast, ge_iff_le, gt_iff_lt, List.length_cons, List.length_nil, bl_up2_at, bl_up2_nk, bl_up2_nx] at h19
            refine bl_lv [0, 2, 3] rfl ?_
            try dsimp only [bl_pv]
            refine ih _ _ _ (nI_1 _) f1 f2 (fun x y hx hy => ?_)
            by_cases ex : x = i
            · subst ex; exact f4 y hy
            · exact f3 x y (by omega) hy
          · try simp (disch := omega) only [e22, zI_n, zI_o, zI_lit, zI_neg, zI_add, zI_sub, zI_mul, zI_lt, zI_le, zI_eq, zI_clamp, zI_in, zI_div, zI_rem, lg_lt0, lg_gt0, lg_eq0, lg_le0, lg_ge0, Int.toNat_natCast, ge_iff_le, gt_iff_lt, List.length_cons, List.length_nil, bl_up2_at, bl_up2_nk, bl_up2_nx] at h19
            exfalso; omega
        · intro z I1 J1 hz f1 f2 f3 f4; subst hz
          have e22 : I1 m 22 = nI h := (congrFun (f1.1 m (by omega) (by omega)) 22).trans hs2
          have hin := hdv i hi
          refine bl_go oX11_rolls 80 [2, 14] rfl ?_
          refine ⟨km, fun h19 => ?_, fun h19 => ?_⟩
          · try simp (disch := omega) only [e22, zI_n, zI_o, zI_lit, zI_neg, zI_add, zI_sub, zI_mul, zI_lt, zI_le, zI_eq, zI_clamp, zI_in, zI_div, zI_rem, lg_lt0, lg_gt0, lg_eq0, lg_le0, lg_ge0, Int.toNat_natCast, ge_iff_le, gt_iff_lt, List.length_cons, List.length_nil, bl_up2_at, bl_up2_nk, bl_up2_nx] at h19
            exfalso; omega
          · try simp (disch := omega) only [e22, zI_n, zI_o, zI_lit, zI_neg, zI_add, zI_sub, zI_mul, zI_lt, zI_le, zI_eq, zI_clamp, zI_in, zI_div, zI_rem, lg_lt0, lg_gt0, lg_eq0, lg_le0, lg_ge0, Int.toNat_natCast, ge_iff_le, gt_iff_lt, List.length_cons, List.length_nil, bl_up2_at, bl_up2_nk, bl_up2_nx] at h19
            refine ⟨rfl, (Nat.le_of_ble_eq_true rfl), (0, 0), Nat.le_of_ble_eq_true rfl, Nat.le_of_ble_eq_true rfl, bl_MC_mono (c_Model_cell (d := d + 1) (x := i) (y := j) rfl rfl) (fun o25 σ25 q25 => ?_)⟩
            try dsimp only [bl_pv] at q25
            obtain ⟨rfl, rfl⟩ := q25
            refine bl_go oX11_rolls 80 [2, 14] rfl ?_
            refine ⟨(by first | decide | (simp (disch := omega) only [e22, zI_n, zI_o, zI_lit, zI_neg, zI_add, zI_sub, zI_mul, zI_lt, zI_le, zI_eq, zI_clamp, zI_in, zI_div, zI_rem, lg_lt0, lg_gt0, lg_eq0, lg_le0, lg_ge0, Int.toNat_natCast, ge_iff_le, gt_iff_lt, List.length_cons, List.length_nil, bl_up2_at, bl_up2_nk, bl_up2_nx] <;> omega)), rfl, (Nat.le_of_ble_eq_true rfl), (0, 0), Nat.le_of_ble_eq_true rfl, Nat.le_of_ble_eq_true rfl, bl_MC_mono (c_Model_cell (d := d + 1) (x := i / n) (y := j) (nI_div (by omega) (by omega)) rfl) (fun o32 σ32 q32 => ?_)⟩
            try dsimp only [bl_pv] at q32
            obtain ⟨rfl, rfl⟩ := q32
            refine bl_go oX11_rolls 80 [2, 14] rfl ?_
            refine ⟨rfl, rfl, km, (Nat.le_of_ble_eq_true rfl), (0, 0), Nat.le_of_ble_eq_true rfl, Nat.le_of_ble_eq_true rfl, bl_MC_mono (c_Model_takes (d := d + 1) (x := 48 * j + i) (y := 48 * j + i / n) hm rfl rfl (by omega) (by omega) (f1.O (hs3 (i / n) j hin hj))) (fun o35 σ35 q35 => ?_)⟩
            try dsimp only [bl_pv] at q35
            obtain ⟨rfl, I2, J2, rfl, g1, g2, g3⟩ := q35
            refine bl_go oX11_rolls 80 [2, 14] rfl ?_
            try dsimp only [bl_pv]
            refine ih2 _ _ _ (nI_1 _) (f1.step g1) (g2.trans f2) (fun x y hx hy => g1.2.2 _ _ _ (by omega) (f3 x y hx hy)) (fun y hy => ?_)
            by_cases ey : y = j
            · subst ey; exact g3
            · exact g1.2.2 _ _ _ (by omega) (f4 y (by omega))
      refine bl_go oX11_rolls 80 [2, 14] rfl ?_
      refine ⟨km, fun h9 => ?_, fun h9 => ?_⟩
      · try simp (disch := omega) only [bl_pv, cl0, cl1, cl2, cl3, cl4, cl5, cl6, cl7, cl8, cl9, bl_up2_at, bl_up2_nk, bl_up2_nx] at h9
        rw [e21] at h9; exact absurd h9 (by rw [Int32.not_le]; exact (nI_ltk (by omega) (by omega)).mpr hi)
      · try simp (disch := omega) only [bl_pv, cl0, cl1, cl2, cl3, cl4, cl5, cl6, cl7, cl8, cl9, bl_up2_at, bl_up2_nk, bl_up2_nx] at h9
        first
        | (exfalso; first | omega | exact h9 trivial)
        | (try dsimp only [bl_pv]
           exact L14 0 (by omega) _ _ _ rfl f1 f2 f3 (fun y hy => absurd hy (by omega)))
  refine bl_go oX11_rolls 80 [2, 14] rfl ?_
  try dsimp only [bl_pv]
  exact L2 0 (by omega) _ _ _ rfl lpF.refl rfl (fun x y hx => absurd hx (by omega))
end MODEL14
