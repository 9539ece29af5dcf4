/-! ===== Model: grams ===== -/
theorem nJ_div {a b : Nat} (ha : a < 9223372036854775808) (hb : b < 9223372036854775808) : nJ a / nJ b = nJ (a / b) := (Int64.ofNat_div ha hb).symm
theorem nJ_rem {a b : Nat} (ha : a < 9223372036854775808) (hb : b < 9223372036854775808) : nJ a - nJ a / nJ b * nJ b = nJ (a % b) := by
  rw [nJ_div ha hb, nJ_mul, show nJ a - nJ (a / b * b) = nJ (a - a / b * b) from (Int64.ofNat_sub _ _ (Nat.div_mul_le_self a b)).symm]
  congr 1
  have := Nat.div_add_mod' a b
  omega
theorem nJ_0 {a : Nat} (ha : a < 9223372036854775808) : nJ a = 0 ↔ a = 0 := nJ_eq (b := 0) ha (by omega)
theorem gcd_st (x y : Nat) : Nat.gcd y (x % y) = Nat.gcd x y := by
  rw [Nat.gcd_comm y (x % y), ← Nat.gcd_rec y x, Nat.gcd_comm]
section MODEL26
variable {G : bl_G} {l : Launch} {d m : Nat} {I : Nat → Nat → Int32} {J : Nat → Nat → Int64} {R : Nat → Nat → Option Nat} {K N : Nat → Nat} {A : aS} {x y w a b : Int32}
theorem c_Model_common {p q : Nat} {u v : Int64} (hu : u = nJ p) (hv : v = nJ q) (hp : p < 9223372036854775808) (hq : q < 9223372036854775808) : bl_MC G l d mX11_common [.long u, .long v] (I, J, R, K, N) (0, 0) (fun o σ' => o = .inl (some (.long (nJ (Nat.gcd p q)))) ∧ σ' = (I, J, R, K, N)) := by
  subst hu hv
  refine bl_MC_intro (by decide +kernel) rfl (Nat.le_of_ble_eq_true rfl) ?_
  have L6 : ∀ f x y, y ≤ f → x < 9223372036854775808 → y < 9223372036854775808 → Nat.gcd x y = Nat.gcd p q → bl_WP G l d mX11_common 6 [(6, .long (nJ y)), (4, .long (nJ x))] [] (I, J, R, K, N) (0, 0) (fun o σ' => o = .inl (some (.long (nJ (Nat.gcd p q)))) ∧ σ' = (I, J, R, K, N)) := by
    intro f
    induction f with
    | zero =>
      intro x y hy hx hy2 hg
      have hy0 : y = 0 := Nat.le_zero.mp hy
      subst hy0
      refine bl_go oX11_common 80 [6] rfl ?_
      refine ⟨fun h10 => ?_, fun h10 => ?_⟩
      · try simp (disch := omega) only [zI_n, zI_o, zI_lit, zI_neg, zI_add, zI_sub, zI_mul, zI_lt, zI_le, zI_eq, zI_clamp, zI_in, zI_div, zI_rem, lg_lt0, lg_gt0, lg_eq0, lg_le0, lg_ge0, Int.toNat_natCast, ge_iff_le, gt_iff_lt, List.length_cons, List.length_nil, bl_up2_at, bl_up2_nk, bl_up2_nx] at h10
        try show _ ∧ _
        try dsimp only [bl_pv]
        rw [← hg, Nat.gcd_zero_right]; exact ⟨rfl, rfl⟩
      · try simp (disch := omega) only [zI_n, zI_o, zI_lit, zI_neg, zI_add, zI_sub, zI_mul, zI_lt, zI_le, zI_eq, zI_clamp, zI_in, zI_div, zI_rem, lg_lt0, lg_gt0, lg_eq0, lg_le0, lg_ge0, Int.toNat_natCast, ge_iff_le, gt_iff_lt, List.length_cons, List.length_nil, bl_up2_at, bl_up2_nk, bl_up2_nx] at h10
        (first | exact absurd rfl h10 | exact absurd trivial h10 | exact absurd h10 (by decide))
    | succ f ih =>
      intro x y hy hx hy2 hg
      refine bl_go oX11_common 80 [6] rfl ?_
      refine ⟨fun h10 => ?_, fun h10 => ?_⟩
      · try simp (disch := omega) only [zI_n, zI_o, zI_lit, zI_neg, zI_add, zI_sub, zI_mul, zI_lt, zI_le, zI_eq, zI_clamp, zI_in, zI_div, zI_rem, lg_lt0, lg_gt0, lg_eq0, lg_le0, lg_ge0, Int.toNat_natCast, ge_iff_le, gt_iff_lt, List.length_cons, List.length_nil, bl_up2_at, bl_up2_nk, bl_up2_nx] at h10
        try show _ ∧ _
        try dsimp only [bl_pv]
        rw [nJ_0 hy2] at h10; subst h10; rw [← hg, Nat.gcd_zero_right]; exact ⟨rfl, rfl⟩
      · try simp (disch := omega) only [zI_n, zI_o, zI_lit, zI_neg, zI_add, zI_sub, zI_mul, zI_lt, zI_le, zI_eq, zI_clamp, zI_in, zI_div, zI_rem, lg_lt0, lg_gt0, lg_eq0, lg_le0, lg_ge0, Int.toNat_natCast, ge_iff_le, gt_iff_lt, List.length_cons, List.length_nil, bl_up2_at, bl_up2_nk, bl_up2_nx] at h10
        refine ⟨(by assumption), ?_⟩
        refine bl_lv [0, 1] rfl ?_
        try dsimp only [bl_pv]
        rw [nJ_rem hx hy2]
        have hy0 : 0 < y := by rw [nJ_0 hy2] at h10; omega
        have hlt := Nat.mod_lt x hy0
        exact ih y (x % y) (by omega) hy2 (by omega) ((gcd_st x y).trans hg)
  refine bl_go oX11_common 80 [6] rfl ?_
  refine bl_lv [0, 1] rfl ?_
  try dsimp only [bl_pv]
  exact L6 q p q (Nat.le_refl _) hp hq rfl
/-- grams of n sheets: above, below -/
def grV (tf : Nat → Nat) (th n : Nat) (w : Int32) : Int64 := nJ ((if w = 0 then tf 3 * n else tf 0 * tf 1 * th) / Nat.gcd (tf 3 * n) (tf 0 * tf 1 * th))
theorem grB {tf : Nat → Nat} {th n : Nat} (hO : tfO tf) (h1 : th ≤ 1099511627776) (h2 : n ≤ 158329674399744) : tf 3 * n < 9223372036854775808 ∧ tf 0 * tf 1 * th ≤ 158329674399744 := by
  have a : tf 3 * n ≤ 9999 * 158329674399744 := Nat.mul_le_mul hO.2.2.2.2 h2
  have b : tf 0 * tf 1 * th ≤ 12 * 12 * 1099511627776 := Nat.mul_le_mul (Nat.mul_le_mul hO.1.2 hO.2.1.2) h1
  omega
theorem c_Model_grams {th n v : Nat} {s : Int64} (hm : mdS R K N m) (hC : mkC I m A.1 A.2.1) (hO : tfO A.1) (hth : J m 29 = nJ th) (h1 : 0 < th ∧ th ≤ 1099511627776) (h2 : n ≤ 158329674399744) (hs : s = nJ n) (hv : v ≤ 1) (hw : w = nI v) : bl_MC G l (d + 1) mX11_grams [.ref m, .long s, .int w] (I, J, R, K, N) (0, 0) (fun o σ' => o = .inl (some (.long (grV A.1 th n w))) ∧ σ' = (I, J, R, K, N)) := by
  have km := hm.2.1
  obtain ⟨rm_10, km10, nm10⟩ := hm.f10
  have e0 := hC.1 0 (by omega)
  have e1 := hC.1 1 (by omega)
  have e3 := hC.1 3 (by omega)
  obtain ⟨b1, b2⟩ := grB hO h1.2 h2
  have hlow : 0 < A.1 0 * A.1 1 * th := Nat.mul_pos (Nat.mul_pos (by have := hO.1.1; omega) (by have := hO.2.1.1; omega)) h1.1
  have hg0 := Nat.gcd_pos_of_pos_right (A.1 3 * n) hlow
  have hg1 := Nat.gcd_le_right (A.1 3 * n) hlow
  have ho01 : A.1 0 * A.1 1 ≤ 144 := Nat.mul_le_mul hO.1.2 hO.2.1.2
  have ho3 : A.1 3 ≤ 9999 := hO.2.2.2.2
  subst hs hw
  have eu : (I (m + 10) 3).toInt64 * nJ n = nJ (A.1 3 * n) := by rw [e3, zI_n, nJ_ofI (by omega), nJ_mul]
  have el : (I (m + 10) 0 * I (m + 10) 1).toInt64 * J m 29 = nJ (A.1 0 * A.1 1 * th) := by rw [e0, e1, nI_mulc, zI_n, nJ_ofI (by omega), hth, nJ_mul]
  have hgne : ¬ nJ (Nat.gcd (A.1 3 * n) (A.1 0 * A.1 1 * th)) = 0 := by rw [nJ_0 (by omega)]; omega
  refine bl_MC_intro (by decide +kernel) rfl (Nat.le_of_ble_eq_true rfl) ?_
  refine bl_go oX11_grams 80 [] rfl ?_
  refine ⟨km, _, bl_vs rm_10, Or.inl ⟨km10, (by first | exact (by rw [nm10]; exact vp_in_nI (by omega) (by omega)) | ((try dsimp only [bl_pv]); show vp_in _ (N _); rw [nm10]; simp (disch := omega) only [zI_n, zI_o, zI_lit, zI_neg, zI_add, zI_sub, zI_mul, zI_lt, zI_le, zI_eq, zI_clamp, zI_in, zI_div, zI_rem, lg_lt0, lg_gt0, lg_eq0, lg_le0, lg_ge0, Int.toNat_natCast, ge_iff_le, gt_iff_lt, List.length_cons, List.length_nil, bl_up2_at, bl_up2_nk, bl_up2_nx] <;> omega)), km, _, bl_vs rm_10, Or.inl ⟨km10, (by first | exact (by rw [nm10]; exact vp_in_nI (by omega) (by omega)) | ((try dsimp only [bl_pv]); show vp_in _ (N _); rw [nm10]; simp (disch := omega) only [zI_n, zI_o, zI_lit, zI_neg, zI_add, zI_sub, zI_mul, zI_lt, zI_le, zI_eq, zI_clamp, zI_in, zI_div, zI_rem, lg_lt0, lg_gt0, lg_eq0, lg_le0, lg_ge0, Int.toNat_natCast, ge_iff_le, gt_iff_lt, List.length_cons, List.length_nil, bl_up2_at, bl_up2_nk, bl_up2_nx] <;> omega)), km, _, bl_vs rm_10, Or.inl ⟨km10, (by first | exact (by rw [nm10]; exact vp_in_nI (by omega) (by omega)) | ((try dsimp only [bl_pv]); show vp_in _ (N _); rw [nm10]; simp (disch := omega) only [zI_n, zI_o, zI_lit, zI_neg, zI_add, zI_sub, zI_mul, zI_lt, zI_le, zI_eq, zI_clamp, zI_in, zI_div, zI_rem, lg_lt0, lg_gt0, lg_eq0, lg_le0, lg_ge0, Int.toNat_natCast, ge_iff_le, gt_iff_lt, List.length_cons, List.length_nil, bl_up2_at, bl_up2_nk, bl_up2_nx] <;> omega)), km, rfl, (Nat.le_of_ble_eq_true rfl), (0, 0), Nat.le_of_ble_eq_true rfl, Nat.le_of_ble_eq_true rfl, bl_MC_mono (c_Model_common (d := d) (p := A.1 3 * n) (q := A.1 0 * A.1 1 * th) eu el b1 (by omega)) (fun o36 σ36 q36 => ?_)⟩⟩⟩⟩
  try dsimp only [bl_pv] at q36
  obtain ⟨rfl, rfl⟩ := q36
  rw [cl3, cl0, cl1, eu, el]
  refine bl_go oX11_grams 80 [] rfl ?_
  refine ⟨fun h42 => ?_, fun h42 => ?_⟩
  · try simp (disch := omega) only [bl_pv, cl0, cl1, cl2, cl3, cl4, cl5, cl6, cl7, cl8, cl9, bl_up2_at, bl_up2_nk, bl_up2_nx] at h42
    refine ⟨(by exact hgne), ?_⟩
    try show _ ∧ _
    try dsimp only [bl_pv]
    unfold grV
    first
    | (rw [if_pos h42, nJ_div b1 (by omega)]; exact ⟨rfl, rfl⟩)
    | (rw [if_neg h42, nJ_div (by omega) (by omega)]; exact ⟨rfl, rfl⟩)
  · try simp (disch := omega) only [bl_pv, cl0, cl1, cl2, cl3, cl4, cl5, cl6, cl7, cl8, cl9, bl_up2_at, bl_up2_nk, bl_up2_nx] at h42
    refine ⟨(by exact hgne), ?_⟩
    try show _ ∧ _
    try dsimp only [bl_pv]
    unfold grV
    first
    | (rw [if_pos h42, nJ_div b1 (by omega)]; exact ⟨rfl, rfl⟩)
    | (rw [if_neg h42, nJ_div (by omega) (by omega)]; exact ⟨rfl, rfl⟩)
theorem slB_A (hK : mdK I m A) (h : askE A x y = 0) : slB (aSl A (rn x) (rn y)) := by
  obtain ⟨r, k, hr, -, er, hk, -, ek⟩ := askE_k hK h
  rw [er, ek]
  obtain ⟨-, h20, hO, -⟩ := hK.2.2.1.2.2 r hr
  exact slB_at hK.2.1 h20 hO (dnf_is _ _) hk

theorem c_Model_trimmed (hm : mdS R K N m) (hK : mdK I m A) : bl_MC G l (d + 7) mX11_trimmed [.ref m, .int x, .int y, .int w] (I, J, R, K, N) (0, 0) (fun o σ' => ∃ I' J' v, σ' = (I', J', R, K, N) ∧ gtG I I' J J' m ∧ I' m 0 = nI (askW A x y w 1) ∧ o = .inl (some (.long v)) ∧ (askW A x y w 1 = 0 → v = grV A.1 (aSl A (rn x) (rn y)).2.2.1 (aSl A (rn x) (rn y)).2.2.2.2 w)) := by
  have km := hm.2.1
  have hK0 : mdK (bl_up2 I m 0 0) m A := hK.G (J := J) (J' := J) gtG.up
  by_cases hE : askE A x y = 0
  · by_cases hw : 0 ≤ w ∧ w ≤ 1
    · have hW := askW_t hE hw
      have hB := slB_A hK hE
      obtain ⟨v, hv, rfl⟩ := i32_nat (b := 1) (by omega) hw.1 hw.2
      refine bl_MC_intro (by decide +kernel) rfl (Nat.le_of_ble_eq_true rfl) ?_
      refine bl_go oX11_trimmed 80 [] rfl ?_
      refine ⟨km, Or.inr (Or.inr ⟨rfl, rfl, _, rfl⟩), (fun h => by cases h), rfl, rfl, km, (Nat.le_of_ble_eq_true rfl), (0, 0), Nat.le_of_ble_eq_true rfl, Nat.le_of_ble_eq_true rfl, bl_MC_mono (c_Model_asks (d := d) hm hK0 bl_up2_at) (fun o8 σ8 q8 => ?_)⟩
      try dsimp only [bl_pv] at q8
      obtain ⟨I1, J1, rfl, f1, f2, rfl, f3⟩ := q8
      have f4 := f3 hE
      have f5 := gtG.trans gtG.up f1
      rw [hE] at f2
      rw [if_pos hE]
      refine bl_go oX11_trimmed 80 [] rfl ?_
      refine ⟨fun h11 => ?_, fun h11 => ?_⟩
      · try simp (disch := omega) only [bl_pv, cl0, cl1, cl2, cl3, cl4, cl5, cl6, cl7, cl8, cl9, bl_up2_at, bl_up2_nk, bl_up2_nx] at h11
        (first | exact absurd rfl h11 | exact absurd trivial h11 | exact absurd h11 (by decide))
      · try simp (disch := omega) only [bl_pv, cl0, cl1, cl2, cl3, cl4, cl5, cl6, cl7, cl8, cl9, bl_up2_at, bl_up2_nk, bl_up2_nx] at h11
        first
        | (exfalso; first | omega | exact h11 trivial)
        | (refine ⟨rfl, (Nat.le_of_ble_eq_true rfl), (0, 0), Nat.le_of_ble_eq_true rfl, Nat.le_of_ble_eq_true rfl, bl_MC_mono (c_Model_inT (d := d + 6) hw) (fun o18 σ18 q18 => ?_)⟩
           try dsimp only [bl_pv] at q18
           obtain ⟨rfl, rfl⟩ := q18
           refine bl_go oX11_trimmed 80 [] rfl ?_
           refine ⟨fun h21 => ?_, fun h21 => ?_⟩
           · try simp (disch := omega) only [bl_pv, cl0, cl1, cl2, cl3, cl4, cl5, cl6, cl7, cl8, cl9, bl_up2_at, bl_up2_nk, bl_up2_nx] at h21
             first
             | (exfalso; first | omega | exact h21 trivial)
             | (refine ⟨rfl, rfl, km, (Nat.le_of_ble_eq_true rfl), (0, 0), Nat.le_of_ble_eq_true rfl, Nat.le_of_ble_eq_true rfl, bl_MC_mono (c_Model_badF (d := d + 6) km f2) (fun o30 σ30 q30 => ?_)⟩
                try dsimp only [bl_pv] at q30
                obtain ⟨rfl, rfl⟩ := q30
                refine bl_go oX11_trimmed 80 [] rfl ?_
                refine ⟨fun h33 => ?_, fun h33 => ?_⟩
                · try simp (disch := omega) only [bl_pv, cl0, cl1, cl2, cl3, cl4, cl5, cl6, cl7, cl8, cl9, bl_up2_at, bl_up2_nk, bl_up2_nx] at h33
                  first
                  | (exfalso; first | omega | exact h33 trivial)
                  | (refine ⟨km, rfl, rfl, km, (Nat.le_of_ble_eq_true rfl), (0, 0), Nat.le_of_ble_eq_true rfl, Nat.le_of_ble_eq_true rfl, bl_MC_mono (c_Model_grams (d := d + 5) (A := A) (th := (aSl A (rn x) (rn y)).2.2.1) (n := (aSl A (rn x) (rn y)).2.2.2.2) (v := v) hm (hK.G f5).1 hK.2.1 f4.1.2.1 hB.1 hB.2.1 f4.1.2.2.1 hv rfl) (fun o44 σ44 q44 => ?_)⟩
                     try dsimp only [bl_pv] at q44
                     obtain ⟨rfl, rfl⟩ := q44
                     refine bl_go oX11_trimmed 80 [] rfl ?_
                     try show _ ∧ _
                     try dsimp only [bl_pv]
                     exact ⟨I1, J1, _, rfl, f5, by rw [hW]; exact f2, rfl, fun _ => rfl⟩)
                · try simp (disch := omega) only [bl_pv, cl0, cl1, cl2, cl3, cl4, cl5, cl6, cl7, cl8, cl9, bl_up2_at, bl_up2_nk, bl_up2_nx] at h33
                  (first | exact absurd rfl h33 | exact absurd trivial h33 | exact absurd h33 (by decide)))
           · try simp (disch := omega) only [bl_pv, cl0, cl1, cl2, cl3, cl4, cl5, cl6, cl7, cl8, cl9, bl_up2_at, bl_up2_nk, bl_up2_nx] at h21
             (first | exact absurd rfl h21 | exact absurd trivial h21 | exact absurd h21 (by decide)))
    · have hW := askW_f hE hw
      refine bl_MC_intro (by decide +kernel) rfl (Nat.le_of_ble_eq_true rfl) ?_
      refine bl_go oX11_trimmed 80 [38] rfl ?_
      refine ⟨km, Or.inr (Or.inr ⟨rfl, rfl, _, rfl⟩), (fun h => by cases h), rfl, rfl, km, (Nat.le_of_ble_eq_true rfl), (0, 0), Nat.le_of_ble_eq_true rfl, Nat.le_of_ble_eq_true rfl, bl_MC_mono (c_Model_asks (d := d) hm hK0 bl_up2_at) (fun o8 σ8 q8 => ?_)⟩
      try dsimp only [bl_pv] at q8
      obtain ⟨I1, J1, rfl, f1, f2, rfl, f3⟩ := q8
      have f5 := gtG.trans gtG.up f1
      rw [hE] at f2
      rw [if_pos hE]
      refine bl_go oX11_trimmed 80 [38] rfl ?_
      refine ⟨fun h11 => ?_, fun h11 => ?_⟩
      · try simp (disch := omega) only [bl_pv, cl0, cl1, cl2, cl3, cl4, cl5, cl6, cl7, cl8, cl9, bl_up2_at, bl_up2_nk, bl_up2_nx] at h11
        (first | exact absurd rfl h11 | exact absurd trivial h11 | exact absurd h11 (by decide))
      · try simp (disch := omega) only [bl_pv, cl0, cl1, cl2, cl3, cl4, cl5, cl6, cl7, cl8, cl9, bl_up2_at, bl_up2_nk, bl_up2_nx] at h11
        first
        | (exfalso; first | omega | exact h11 trivial)
        | (refine ⟨rfl, (Nat.le_of_ble_eq_true rfl), (0, 0), Nat.le_of_ble_eq_true rfl, Nat.le_of_ble_eq_true rfl, bl_MC_mono (c_Model_inF (d := d + 6) hw) (fun o18 σ18 q18 => ?_)⟩
           try dsimp only [bl_pv] at q18
           obtain ⟨rfl, rfl⟩ := q18
           refine bl_go oX11_trimmed 80 [38] rfl ?_
           refine ⟨fun h21 => ?_, fun h21 => ?_⟩
           · try simp (disch := omega) only [bl_pv, cl0, cl1, cl2, cl3, cl4, cl5, cl6, cl7, cl8, cl9, bl_up2_at, bl_up2_nk, bl_up2_nx] at h21
             (first | exact absurd rfl h21 | exact absurd trivial h21 | exact absurd h21 (by decide))
           · try simp (disch := omega) only [bl_pv, cl0, cl1, cl2, cl3, cl4, cl5, cl6, cl7, cl8, cl9, bl_up2_at, bl_up2_nk, bl_up2_nx] at h21
             first
             | (exfalso; first | omega | exact h21 trivial)
             | (refine ⟨rfl, rfl, km, (Nat.le_of_ble_eq_true rfl), (0, 0), Nat.le_of_ble_eq_true rfl, Nat.le_of_ble_eq_true rfl, bl_MC_mono (c_Model_badT (d := d + 6) km f2 (by decide) (by decide)) (fun o30 σ30 q30 => ?_)⟩
                try dsimp only [bl_pv] at q30
                obtain ⟨rfl, rfl⟩ := q30
                refine bl_go oX11_trimmed 80 [38] rfl ?_
                refine ⟨fun h33 => ?_, fun h33 => ?_⟩
                · try simp (disch := omega) only [bl_pv, cl0, cl1, cl2, cl3, cl4, cl5, cl6, cl7, cl8, cl9, bl_up2_at, bl_up2_nk, bl_up2_nx] at h33
                  first
                  | (exfalso; first | omega | exact h33 trivial)
                  | (try dsimp only [bl_pv]
                     (first | exact absurd rfl h33 | exact absurd trivial h33 | exact absurd h33 (by decide)))
                · try simp (disch := omega) only [bl_pv, cl0, cl1, cl2, cl3, cl4, cl5, cl6, cl7, cl8, cl9, bl_up2_at, bl_up2_nk, bl_up2_nx] at h33
                  first
                  | (exfalso; first | omega | exact h33 trivial)
                  | (try show _ ∧ _
                     try dsimp only [bl_pv]
                     exact ⟨_, J1, _, rfl, f5.trans gtG.up, by rw [hW]; exact bl_up2_at, rfl, fun h => absurd (hW.symm.trans h) (by decide)⟩)))
  · have hW := askW_n (w := w) (hi := 1) hE
    refine bl_MC_intro (by decide +kernel) rfl (Nat.le_of_ble_eq_true rfl) ?_
    refine bl_go oX11_trimmed 80 [14] rfl ?_
    refine ⟨km, Or.inr (Or.inr ⟨rfl, rfl, _, rfl⟩), (fun h => by cases h), rfl, rfl, km, (Nat.le_of_ble_eq_true rfl), (0, 0), Nat.le_of_ble_eq_true rfl, Nat.le_of_ble_eq_true rfl, bl_MC_mono (c_Model_asks (d := d) hm hK0 bl_up2_at) (fun o8 σ8 q8 => ?_)⟩
    try dsimp only [bl_pv] at q8
    obtain ⟨I1, J1, rfl, f1, f2, rfl, f3⟩ := q8
    rw [if_neg hE]
    refine bl_go oX11_trimmed 80 [14] rfl ?_
    refine ⟨fun h11 => ?_, fun h11 => ?_⟩
    · try simp (disch := omega) only [bl_pv, cl0, cl1, cl2, cl3, cl4, cl5, cl6, cl7, cl8, cl9, bl_up2_at, bl_up2_nk, bl_up2_nx] at h11
      first
      | (exfalso; first | omega | exact h11 trivial)
      | (try show _ ∧ _
         try dsimp only [bl_pv]
         exact ⟨I1, J1, _, rfl, gtG.trans gtG.up f1, by rw [hW]; exact f2, rfl, fun h => absurd (hW.symm.trans h) hE⟩)
    · try simp (disch := omega) only [bl_pv, cl0, cl1, cl2, cl3, cl4, cl5, cl6, cl7, cl8, cl9, bl_up2_at, bl_up2_nk, bl_up2_nx] at h11
      first
      | (exfalso; first | omega | exact h11 trivial)
      | (try dsimp only [bl_pv]
         (first | exact absurd rfl h11 | exact absurd trivial h11 | exact absurd h11 (by decide)))

theorem c_Model_weight (hm : mdS R K N m) (hK : mdK I m A) : bl_MC G l (d + 7) mX11_weight [.ref m, .int x, .int y, .int a, .int b, .int w] (I, J, R, K, N) (0, 0) (fun o σ' => ∃ I' J' v, σ' = (I', J', R, K, N) ∧ gtG I I' J J' m ∧ I' m 0 = nI (askC A x y a b w 1) ∧ o = .inl (some (.long v)) ∧ (askC A x y a b w 1 = 0 → v = grV A.1 (aSl A (rn x) (rn y)).2.2.1 (slQ (aSl A (rn x) (rn y)) (rn a) (rn b)) w)) := by
  have km := hm.2.1
  obtain ⟨rm_33, km33, nm33⟩ := hm.f33
  have hK0 : mdK (bl_up2 I m 0 0) m A := hK.G (J := J) (J' := J) gtG.up
  by_cases hE : askE A x y = 0
  · by_cases hc : cb (aSl A (rn x) (rn y)) a b = true
    · by_cases hw : 0 ≤ w ∧ w ≤ 1
      · have hW := askC_t hE hc hw
        obtain ⟨v, hv, rfl⟩ := i32_nat (b := 1) (by omega) hw.1 hw.2
        have hok := askE_ok hK hE
        have hB := slB_A hK hE
        obtain ⟨p, q, hp, hq, rfl, rfl, ep, eq⟩ := cb_n hok hc
        refine bl_MC_intro (by decide +kernel) rfl (Nat.le_of_ble_eq_true rfl) ?_
        refine bl_go oX11_weight 80 [] rfl ?_
        refine ⟨km, Or.inr (Or.inr ⟨rfl, rfl, _, rfl⟩), (fun h => by cases h), rfl, rfl, km, (Nat.le_of_ble_eq_true rfl), (0, 0), Nat.le_of_ble_eq_true rfl, Nat.le_of_ble_eq_true rfl, bl_MC_mono (c_Model_asks (d := d) hm hK0 bl_up2_at) (fun o8 σ8 q8 => ?_)⟩
        try dsimp only [bl_pv] at q8
        obtain ⟨I1, J1, rfl, f1, f2, rfl, f3⟩ := q8
        have f4 := f3 hE
        have f5 := gtG.trans gtG.up f1
        rw [hE] at f2
        rw [if_pos hE]
        refine bl_go oX11_weight 80 [] rfl ?_
        refine ⟨fun h11 => ?_, fun h11 => ?_⟩
        · try simp (disch := omega) only [bl_pv, cl0, cl1, cl2, cl3, cl4, cl5, cl6, cl7, cl8, cl9, bl_up2_at, bl_up2_nk, bl_up2_nx] at h11
          (first | exact absurd rfl h11 | exact absurd trivial h11 | exact absurd h11 (by decide))
        · try simp (disch := omega) only [bl_pv, cl0, cl1, cl2, cl3, cl4, cl5, cl6, cl7, cl8, cl9, bl_up2_at, bl_up2_nk, bl_up2_nx] at h11
          first
          | (exfalso; first | omega | exact h11 trivial)
          | (refine ⟨rfl, rfl, km, (Nat.le_of_ble_eq_true rfl), (0, 0), Nat.le_of_ble_eq_true rfl, Nat.le_of_ble_eq_true rfl, bl_MC_mono (c_Model_isCell (d := d + 5) (S := aSl A (rn x) (rn y)) km f4.1.1.1 f4.1.1.2.1 hok) (fun o19 σ19 q19 => ?_)⟩
             try dsimp only [bl_pv] at q19
             obtain ⟨rfl, rfl⟩ := q19
             rw [if_pos hc]
             refine bl_go oX11_weight 80 [] rfl ?_
             refine ⟨fun h22 => ?_, fun h22 => ?_⟩
             · try simp (disch := omega) only [bl_pv, cl0, cl1, cl2, cl3, cl4, cl5, cl6, cl7, cl8, cl9, bl_up2_at, bl_up2_nk, bl_up2_nx] at h22
               first
               | (exfalso; first | omega | exact h22 trivial)
               | (refine ⟨rfl, rfl, km, (Nat.le_of_ble_eq_true rfl), (0, 0), Nat.le_of_ble_eq_true rfl, Nat.le_of_ble_eq_true rfl, bl_MC_mono (c_Model_badF (d := d + 6) km f2) (fun o31 σ31 q31 => ?_)⟩
                  try dsimp only [bl_pv] at q31
                  obtain ⟨rfl, rfl⟩ := q31
                  refine bl_go oX11_weight 80 [] rfl ?_
                  refine ⟨fun h34 => ?_, fun h34 => ?_⟩
                  · try simp (disch := omega) only [bl_pv, cl0, cl1, cl2, cl3, cl4, cl5, cl6, cl7, cl8, cl9, bl_up2_at, bl_up2_nk, bl_up2_nx] at h34
                    (first | exact absurd rfl h34 | exact absurd trivial h34 | exact absurd h34 (by decide))
                  · try simp (disch := omega) only [bl_pv, cl0, cl1, cl2, cl3, cl4, cl5, cl6, cl7, cl8, cl9, bl_up2_at, bl_up2_nk, bl_up2_nx] at h34
                    first
                    | (exfalso; first | omega | exact h34 trivial)
                    | (refine ⟨rfl, (Nat.le_of_ble_eq_true rfl), (0, 0), Nat.le_of_ble_eq_true rfl, Nat.le_of_ble_eq_true rfl, bl_MC_mono (c_Model_inT (d := d + 6) hw) (fun o42 σ42 q42 => ?_)⟩
                       try dsimp only [bl_pv] at q42
                       obtain ⟨rfl, rfl⟩ := q42
                       refine bl_go oX11_weight 80 [] rfl ?_
                       refine ⟨fun h45 => ?_, fun h45 => ?_⟩
                       · try simp (disch := omega) only [bl_pv, cl0, cl1, cl2, cl3, cl4, cl5, cl6, cl7, cl8, cl9, bl_up2_at, bl_up2_nk, bl_up2_nx] at h45
                         first
                         | (exfalso; first | omega | exact h45 trivial)
                         | (refine ⟨rfl, rfl, km, (Nat.le_of_ble_eq_true rfl), (0, 0), Nat.le_of_ble_eq_true rfl, Nat.le_of_ble_eq_true rfl, bl_MC_mono (c_Model_badF (d := d + 6) km f2) (fun o54 σ54 q54 => ?_)⟩
                            try dsimp only [bl_pv] at q54
                            obtain ⟨rfl, rfl⟩ := q54
                            refine bl_go oX11_weight 80 [] rfl ?_
                            refine ⟨fun h57 => ?_, fun h57 => ?_⟩
                            · try simp (disch := omega) only [bl_pv, cl0, cl1, cl2, cl3, cl4, cl5, cl6, cl7, cl8, cl9, bl_up2_at, bl_up2_nk, bl_up2_nx] at h57
                              first
                              | (exfalso; first | omega | exact h57 trivial)
                              | (refine ⟨km, _, bl_vs rm_33, rfl, (Nat.le_of_ble_eq_true rfl), (0, 0), Nat.le_of_ble_eq_true rfl, Nat.le_of_ble_eq_true rfl, bl_MC_mono (c_Model_cell (d := d + 6) (x := p) (y := q) rfl rfl) (fun o70 σ70 q70 => ?_)⟩
                                 try dsimp only [bl_pv] at q70
                                 obtain ⟨rfl, rfl⟩ := q70
                                 have hok' := hok
                                 obtain ⟨⟨-, o1⟩, -, o2⟩ := hok'
                                 have ec : (nI (48 * q + p)).toNatClampNeg = 48 * q + p := nI_clamp (by omega)
                                 obtain ⟨z1, z2, z3, z4, z5⟩ := f4.1.1.2.2 p q hp hq
                                 refine bl_go oX11_weight 80 [] rfl ?_
                                 refine ⟨km33, (by first | exact (by rw [nm33]; exact vp_in_nI (by omega) (by omega)) | ((try dsimp only [bl_pv]); show vp_in _ (N _); rw [nm33]; simp (disch := omega) only [zI_n, zI_o, zI_lit, zI_neg, zI_add, zI_sub, zI_mul, zI_lt, zI_le, zI_eq, zI_clamp, zI_in, zI_div, zI_rem, lg_lt0, lg_gt0, lg_eq0, lg_le0, lg_ge0, Int.toNat_natCast, ge_iff_le, gt_iff_lt, List.length_cons, List.length_nil, bl_up2_at, bl_up2_nk, bl_up2_nx] <;> omega)), rfl, rfl, km, (Nat.le_of_ble_eq_true rfl), (0, 0), Nat.le_of_ble_eq_true rfl, Nat.le_of_ble_eq_true rfl, bl_MC_mono (c_Model_grams (d := d + 5) (A := A) (th := (aSl A (rn x) (rn y)).2.2.1) (n := slQ (aSl A (rn x) (rn y)) p q) (v := v) hm (hK.G f5).1 hK.2.1 f4.1.2.1 hB.1 (hB.Q hp hq) (by dsimp only; rw [ec]; exact z3) hv rfl) (fun o76 σ76 q76 => ?_)⟩
                                 try dsimp only [bl_pv] at q76
                                 obtain ⟨rfl, rfl⟩ := q76
                                 refine bl_go oX11_weight 80 [] rfl ?_
                                 try show _ ∧ _
                                 try dsimp only [bl_pv]
                                 refine ⟨I1, J1, _, rfl, f5, by rw [hW]; exact f2, rfl, fun _ => ?_⟩
                                 rw [show rn (nI p) = p from ep, show rn (nI q) = q from eq])
                            · try simp (disch := omega) only [bl_pv, cl0, cl1, cl2, cl3, cl4, cl5, cl6, cl7, cl8, cl9, bl_up2_at, bl_up2_nk, bl_up2_nx] at h57
                              (first | exact absurd rfl h57 | exact absurd trivial h57 | exact absurd h57 (by decide)))
                       · try simp (disch := omega) only [bl_pv, cl0, cl1, cl2, cl3, cl4, cl5, cl6, cl7, cl8, cl9, bl_up2_at, bl_up2_nk, bl_up2_nx] at h45
                         (first | exact absurd rfl h45 | exact absurd trivial h45 | exact absurd h45 (by decide))))
             · try simp (disch := omega) only [bl_pv, cl0, cl1, cl2, cl3, cl4, cl5, cl6, cl7, cl8, cl9, bl_up2_at, bl_up2_nk, bl_up2_nx] at h22
               (first | exact absurd rfl h22 | exact absurd trivial h22 | exact absurd h22 (by decide)))
      · have hW := askC_w hE hc hw
        have hok := askE_ok hK hE
        refine bl_MC_intro (by decide +kernel) rfl (Nat.le_of_ble_eq_true rfl) ?_
        refine bl_go oX11_weight 80 [62] rfl ?_
        refine ⟨km, Or.inr (Or.inr ⟨rfl, rfl, _, rfl⟩), (fun h => by cases h), rfl, rfl, km, (Nat.le_of_ble_eq_true rfl), (0, 0), Nat.le_of_ble_eq_true rfl, Nat.le_of_ble_eq_true rfl, bl_MC_mono (c_Model_asks (d := d) hm hK0 bl_up2_at) (fun o8 σ8 q8 => ?_)⟩
        try dsimp only [bl_pv] at q8
        obtain ⟨I1, J1, rfl, f1, f2, rfl, f3⟩ := q8
        have f4 := f3 hE
        have f5 := gtG.trans gtG.up f1
        rw [hE] at f2
        rw [if_pos hE]
        refine bl_go oX11_weight 80 [62] rfl ?_
        refine ⟨fun h11 => ?_, fun h11 => ?_⟩
        · try simp (disch := omega) only [bl_pv, cl0, cl1, cl2, cl3, cl4, cl5, cl6, cl7, cl8, cl9, bl_up2_at, bl_up2_nk, bl_up2_nx] at h11
          (first | exact absurd rfl h11 | exact absurd trivial h11 | exact absurd h11 (by decide))
        · try simp (disch := omega) only [bl_pv, cl0, cl1, cl2, cl3, cl4, cl5, cl6, cl7, cl8, cl9, bl_up2_at, bl_up2_nk, bl_up2_nx] at h11
          first
          | (exfalso; first | omega | exact h11 trivial)
          | (refine ⟨rfl, rfl, km, (Nat.le_of_ble_eq_true rfl), (0, 0), Nat.le_of_ble_eq_true rfl, Nat.le_of_ble_eq_true rfl, bl_MC_mono (c_Model_isCell (d := d + 5) (S := aSl A (rn x) (rn y)) km f4.1.1.1 f4.1.1.2.1 hok) (fun o19 σ19 q19 => ?_)⟩
             try dsimp only [bl_pv] at q19
             obtain ⟨rfl, rfl⟩ := q19
             rw [if_pos hc]
             refine bl_go oX11_weight 80 [62] rfl ?_
             refine ⟨fun h22 => ?_, fun h22 => ?_⟩
             · try simp (disch := omega) only [bl_pv, cl0, cl1, cl2, cl3, cl4, cl5, cl6, cl7, cl8, cl9, bl_up2_at, bl_up2_nk, bl_up2_nx] at h22
               first
               | (exfalso; first | omega | exact h22 trivial)
               | (refine ⟨rfl, rfl, km, (Nat.le_of_ble_eq_true rfl), (0, 0), Nat.le_of_ble_eq_true rfl, Nat.le_of_ble_eq_true rfl, bl_MC_mono (c_Model_badF (d := d + 6) km f2) (fun o31 σ31 q31 => ?_)⟩
                  try dsimp only [bl_pv] at q31
                  obtain ⟨rfl, rfl⟩ := q31
                  refine bl_go oX11_weight 80 [62] rfl ?_
                  refine ⟨fun h34 => ?_, fun h34 => ?_⟩
                  · try simp (disch := omega) only [bl_pv, cl0, cl1, cl2, cl3, cl4, cl5, cl6, cl7, cl8, cl9, bl_up2_at, bl_up2_nk, bl_up2_nx] at h34
                    (first | exact absurd rfl h34 | exact absurd trivial h34 | exact absurd h34 (by decide))
                  · try simp (disch := omega) only [bl_pv, cl0, cl1, cl2, cl3, cl4, cl5, cl6, cl7, cl8, cl9, bl_up2_at, bl_up2_nk, bl_up2_nx] at h34
                    first
                    | (exfalso; first | omega | exact h34 trivial)
                    | (refine ⟨rfl, (Nat.le_of_ble_eq_true rfl), (0, 0), Nat.le_of_ble_eq_true rfl, Nat.le_of_ble_eq_true rfl, bl_MC_mono (c_Model_inF (d := d + 6) hw) (fun o42 σ42 q42 => ?_)⟩
                       try dsimp only [bl_pv] at q42
                       obtain ⟨rfl, rfl⟩ := q42
                       refine bl_go oX11_weight 80 [62] rfl ?_
                       refine ⟨fun h45 => ?_, fun h45 => ?_⟩
                       · try simp (disch := omega) only [bl_pv, cl0, cl1, cl2, cl3, cl4, cl5, cl6, cl7, cl8, cl9, bl_up2_at, bl_up2_nk, bl_up2_nx] at h45
                         (first | exact absurd rfl h45 | exact absurd trivial h45 | exact absurd h45 (by decide))
                       · try simp (disch := omega) only [bl_pv, cl0, cl1, cl2, cl3, cl4, cl5, cl6, cl7, cl8, cl9, bl_up2_at, bl_up2_nk, bl_up2_nx] at h45
                         first
                         | (exfalso; first | omega | exact h45 trivial)
                         | (refine ⟨rfl, rfl, km, (Nat.le_of_ble_eq_true rfl), (0, 0), Nat.le_of_ble_eq_true rfl, Nat.le_of_ble_eq_true rfl, bl_MC_mono (c_Model_badT (d := d + 6) km f2 (by decide) (by decide)) (fun o54 σ54 q54 => ?_)⟩
                            try dsimp only [bl_pv] at q54
                            obtain ⟨rfl, rfl⟩ := q54
                            refine bl_go oX11_weight 80 [62] rfl ?_
                            refine ⟨fun h57 => ?_, fun h57 => ?_⟩
                            · try simp (disch := omega) only [bl_pv, cl0, cl1, cl2, cl3, cl4, cl5, cl6, cl7, cl8, cl9, bl_up2_at, bl_up2_nk, bl_up2_nx] at h57
                              first
                              | (exfalso; first | omega | exact h57 trivial)
                              | (try dsimp only [bl_pv]
                                 (first | exact absurd rfl h57 | exact absurd trivial h57 | exact absurd h57 (by decide)))
                            · try simp (disch := omega) only [bl_pv, cl0, cl1, cl2, cl3, cl4, cl5, cl6, cl7, cl8, cl9, bl_up2_at, bl_up2_nk, bl_up2_nx] at h57
                              first
                              | (exfalso; first | omega | exact h57 trivial)
                              | (try show _ ∧ _
                                 try dsimp only [bl_pv]
                                 exact ⟨_, J1, _, rfl, f5.trans gtG.up, by rw [hW]; exact bl_up2_at, rfl, fun h => absurd (hW.symm.trans h) (by decide)⟩))))
             · try simp (disch := omega) only [bl_pv, cl0, cl1, cl2, cl3, cl4, cl5, cl6, cl7, cl8, cl9, bl_up2_at, bl_up2_nk, bl_up2_nx] at h22
               (first | exact absurd rfl h22 | exact absurd trivial h22 | exact absurd h22 (by decide)))
    · have hW := askC_c (w := w) (hi := 1) hE hc
      have hok := askE_ok hK hE
      refine bl_MC_intro (by decide +kernel) rfl (Nat.le_of_ble_eq_true rfl) ?_
      refine bl_go oX11_weight 80 [37] rfl ?_
      refine ⟨km, Or.inr (Or.inr ⟨rfl, rfl, _, rfl⟩), (fun h => by cases h), rfl, rfl, km, (Nat.le_of_ble_eq_true rfl), (0, 0), Nat.le_of_ble_eq_true rfl, Nat.le_of_ble_eq_true rfl, bl_MC_mono (c_Model_asks (d := d) hm hK0 bl_up2_at) (fun o8 σ8 q8 => ?_)⟩
      try dsimp only [bl_pv] at q8
      obtain ⟨I1, J1, rfl, f1, f2, rfl, f3⟩ := q8
      have f4 := f3 hE
      have f5 := gtG.trans gtG.up f1
      rw [hE] at f2
      rw [if_pos hE]
      refine bl_go oX11_weight 80 [37] rfl ?_
      refine ⟨fun h11 => ?_, fun h11 => ?_⟩
      · try simp (disch := omega) only [bl_pv, cl0, cl1, cl2, cl3, cl4, cl5, cl6, cl7, cl8, cl9, bl_up2_at, bl_up2_nk, bl_up2_nx] at h11
        (first | exact absurd rfl h11 | exact absurd trivial h11 | exact absurd h11 (by decide))
      · try simp (disch := omega) only [bl_pv, cl0, cl1, cl2, cl3, cl4, cl5, cl6, cl7, cl8, cl9, bl_up2_at, bl_up2_nk, bl_up2_nx] at h11
        first
        | (exfalso; first | omega | exact h11 trivial)
        | (refine ⟨rfl, rfl, km, (Nat.le_of_ble_eq_true rfl), (0, 0), Nat.le_of_ble_eq_true rfl, Nat.le_of_ble_eq_true rfl, bl_MC_mono (c_Model_isCell (d := d + 5) (S := aSl A (rn x) (rn y)) km f4.1.1.1 f4.1.1.2.1 hok) (fun o19 σ19 q19 => ?_)⟩
           try dsimp only [bl_pv] at q19
           obtain ⟨rfl, rfl⟩ := q19
           rw [if_neg hc]
           refine bl_go oX11_weight 80 [37] rfl ?_
           refine ⟨fun h22 => ?_, fun h22 => ?_⟩
           · try simp (disch := omega) only [bl_pv, cl0, cl1, cl2, cl3, cl4, cl5, cl6, cl7, cl8, cl9, bl_up2_at, bl_up2_nk, bl_up2_nx] at h22
             (first | exact absurd rfl h22 | exact absurd trivial h22 | exact absurd h22 (by decide))
           · try simp (disch := omega) only [bl_pv, cl0, cl1, cl2, cl3, cl4, cl5, cl6, cl7, cl8, cl9, bl_up2_at, bl_up2_nk, bl_up2_nx] at h22
             first
             | (exfalso; first | omega | exact h22 trivial)
             | (refine ⟨rfl, rfl, km, (Nat.le_of_ble_eq_true rfl), (0, 0), Nat.le_of_ble_eq_true rfl, Nat.le_of_ble_eq_true rfl, bl_MC_mono (c_Model_badT (d := d + 6) km f2 (by decide) (by decide)) (fun o31 σ31 q31 => ?_)⟩
                try dsimp only [bl_pv] at q31
                obtain ⟨rfl, rfl⟩ := q31
                refine bl_go oX11_weight 80 [37] rfl ?_
                refine ⟨fun h34 => ?_, fun h34 => ?_⟩
                · try simp (disch := omega) only [bl_pv, cl0, cl1, cl2, cl3, cl4, cl5, cl6, cl7, cl8, cl9, bl_up2_at, bl_up2_nk, bl_up2_nx] at h34
                  first
                  | (exfalso; first | omega | exact h34 trivial)
                  | (try show _ ∧ _
                     try dsimp only [bl_pv]
                     exact ⟨_, J1, _, rfl, f5.trans gtG.up, by rw [hW]; exact bl_up2_at, rfl, fun h => absurd (hW.symm.trans h) (by decide)⟩)
                · try simp (disch := omega) only [bl_pv, cl0, cl1, cl2, cl3, cl4, cl5, cl6, cl7, cl8, cl9, bl_up2_at, bl_up2_nk, bl_up2_nx] at h34
                  first
                  | (exfalso; first | omega | exact h34 trivial)
                  | (try dsimp only [bl_pv]
                     (first | exact absurd rfl h34 | exact absurd trivial h34 | exact absurd h34 (by decide)))))
  · have hW := askC_n (a := a) (b := b) (w := w) (hi := 1) hE
    refine bl_MC_intro (by decide +kernel) rfl (Nat.le_of_ble_eq_true rfl) ?_
    refine bl_go oX11_weight 80 [14] rfl ?_
    refine ⟨km, Or.inr (Or.inr ⟨rfl, rfl, _, rfl⟩), (fun h => by cases h), rfl, rfl, km, (Nat.le_of_ble_eq_true rfl), (0, 0), Nat.le_of_ble_eq_true rfl, Nat.le_of_ble_eq_true rfl, bl_MC_mono (c_Model_asks (d := d) hm hK0 bl_up2_at) (fun o8 σ8 q8 => ?_)⟩
    try dsimp only [bl_pv] at q8
    obtain ⟨I1, J1, rfl, f1, f2, rfl, f3⟩ := q8
    rw [if_neg hE]
    refine bl_go oX11_weight 80 [14] rfl ?_
    refine ⟨fun h11 => ?_, fun h11 => ?_⟩
    · try simp (disch := omega) only [bl_pv, cl0, cl1, cl2, cl3, cl4, cl5, cl6, cl7, cl8, cl9, bl_up2_at, bl_up2_nk, bl_up2_nx] at h11
      first
      | (exfalso; first | omega | exact h11 trivial)
      | (try show _ ∧ _
         try dsimp only [bl_pv]
         exact ⟨I1, J1, _, rfl, gtG.trans gtG.up f1, by rw [hW]; exact f2, rfl, fun h => absurd (hW.symm.trans h) hE⟩)
    · try simp (disch := omega) only [bl_pv, cl0, cl1, cl2, cl3, cl4, cl5, cl6, cl7, cl8, cl9, bl_up2_at, bl_up2_nk, bl_up2_nx] at h11
      first
      | (exfalso; first | omega | exact h11 trivial)
      | (try dsimp only [bl_pv]
         (first | exact absurd rfl h11 | exact absurd trivial h11 | exact absurd h11 (by decide)))

end MODEL26
