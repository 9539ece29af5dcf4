/-! ===== Model: told, room, step ===== -/
section MODEL12
variable {G : bl_G} {l : Launch} {d m : Nat} {I : Nat → Nat → Int32} {J : Nat → Nat → Int64} {R : Nat → Nat → Option Nat} {K N : Nat → Nat} {fa : Int32} {n r t : Nat}
theorem i32_nat {x : Int32} {b : Nat} (hb : b < 2147483648) (h0 : 0 ≤ x) (h1 : x ≤ nI b) : ∃ k, k ≤ b ∧ x = nI k := by
  have a0 : (0 : Int) ≤ x.toInt := Int32.le_iff_toInt_le.mp h0
  have a1 : x.toInt ≤ (nI b).toInt := Int32.le_iff_toInt_le.mp h1
  rw [nI_toInt hb] at a1
  refine ⟨x.toInt.toNat, by omega, ?_⟩
  rw [zI_n, Int.toNat_of_nonneg a0]
  exact (Int32.ofInt_toInt x).symm
theorem nI_eqk {a b : Nat} (ha : a < 2147483648) (hb : b < 2147483648) : nI a = nI b ↔ a = b := ⟨fun h => by
  have h' := congrArg Int32.toNatClampNeg h
  rwa [nI_clamp ha, nI_clamp hb] at h', fun h => by rw [h]⟩
theorem nI_ltk {a b : Nat} (ha : a < 2147483648) (hb : b < 2147483648) : nI a < nI b ↔ a < b := by
  rw [Int32.lt_iff_toInt_lt, nI_toInt ha, nI_toInt hb]; omega
theorem c_Model_inT {x y z : Int32} (h : y ≤ x ∧ x ≤ z) : bl_MC G l d mX11_in [.int x, .int y, .int z] (I, J, R, K, N) (0, 0) (fun o σ' => o = .inl (some (.int 1)) ∧ σ' = (I, J, R, K, N)) := by
  refine bl_MC_mono c_Model_in (fun o σ' hh => ⟨?_, hh.2⟩)
  rcases hh.1 with ⟨_, _, e⟩ | ⟨e, _⟩
  · exact e
  · exact absurd h e
theorem c_Model_inF {x y z : Int32} (h : ¬ (y ≤ x ∧ x ≤ z)) : bl_MC G l d mX11_in [.int x, .int y, .int z] (I, J, R, K, N) (0, 0) (fun o σ' => o = .inl (some (.int 0)) ∧ σ' = (I, J, R, K, N)) := by
  refine bl_MC_mono c_Model_in (fun o σ' hh => ⟨?_, hh.2⟩)
  rcases hh.1 with ⟨e1, e2, _⟩ | ⟨_, e⟩
  · exact absurd ⟨e1, e2⟩ h
  · exact e
theorem c_Model_told {x : Int32} (hm : mdS R K N m) : bl_MC G l (d + 1) mX11_told [.ref m, .int x] (I, J, R, K, N) (0, 0) (fun o σ' => (¬ (0 ≤ x ∧ x ≤ 9) ∧ o = .inl (some (.int 0)) ∧ σ' = (bl_up2 I m 0 1, J, R, K, N)) ∨ ((0 ≤ x ∧ x ≤ 9) ∧ o = .inl (some (.int (if x = 9 then I m 13 else if x = 8 then I m 14 else I (m + 10) x.toNatClampNeg))) ∧ σ' = (bl_up2 I m 0 0, J, R, K, N))) := by
  have km := hm.2.1
  obtain ⟨rm_10, km10, nm10⟩ := hm.f10
  by_cases hz : 0 ≤ x ∧ x ≤ 9
  · obtain ⟨k, hk, rfl⟩ := i32_nat (b := 9) (by omega) hz.1 hz.2
    have ec : (nI k).toNatClampNeg = k := nI_clamp (by omega)
    refine bl_MC_intro (by decide +kernel) rfl (Nat.le_of_ble_eq_true rfl) ?_
    refine bl_go oX11_told 80 [] rfl ?_
    refine ⟨km, Or.inr (Or.inr ⟨rfl, rfl, _, rfl⟩), (fun h => by cases h), rfl, (Nat.le_of_ble_eq_true rfl), (0, 0), Nat.le_of_ble_eq_true rfl, Nat.le_of_ble_eq_true rfl, bl_MC_mono (c_Model_inT (d := d) hz) (fun o10 σ10 q10 => ?_)⟩
    try dsimp only [bl_pv] at q10
    obtain ⟨rfl, rfl⟩ := q10
    refine bl_go oX11_told 80 [] rfl ?_
    refine ⟨fun h13 => ?_, fun h13 => ?_⟩
    · try simp (disch := omega) only [bl_pv, cl0, cl1, cl2, cl3, cl4, cl5, cl6, cl7, cl8, cl9, bl_up2_at, bl_up2_nk, bl_up2_nx] at h13
      first
      | (exfalso; first | omega | exact h13 trivial)
      | (refine ⟨rfl, rfl, km, (Nat.le_of_ble_eq_true rfl), (0, 0), Nat.le_of_ble_eq_true rfl, Nat.le_of_ble_eq_true rfl, bl_MC_mono (c_Model_badF (d := d) km bl_up2_at) (fun o22 σ22 q22 => ?_)⟩
         try dsimp only [bl_pv] at q22
         obtain ⟨rfl, rfl⟩ := q22
         refine bl_go oX11_told 80 [] rfl ?_
         refine ⟨fun h25 => ?_, fun h25 => ?_⟩
         · try simp (disch := omega) only [bl_pv, cl0, cl1, cl2, cl3, cl4, cl5, cl6, cl7, cl8, cl9, bl_up2_at, bl_up2_nk, bl_up2_nx] at h25
           first
           | (exfalso; first | omega | exact h25 trivial)
           | (refine ⟨fun h33 => ?_, fun h33 => ?_⟩
              · try simp (disch := omega) only [bl_pv, cl0, cl1, cl2, cl3, cl4, cl5, cl6, cl7, cl8, cl9, bl_up2_at, bl_up2_nk, bl_up2_nx] at h33
                first
                | (exfalso; first | omega | exact h33 trivial)
                | (refine ⟨fun h46 => ?_, fun h46 => ?_⟩
                   · try simp (disch := omega) only [bl_pv, cl0, cl1, cl2, cl3, cl4, cl5, cl6, cl7, cl8, cl9, bl_up2_at, bl_up2_nk, bl_up2_nx] at h46
                     first
                     | (exfalso; first | omega | exact h46 trivial)
                     | (refine ⟨km, _, bl_vs rm_10, Or.inl ⟨km10, (by (try dsimp only [bl_pv]); rw [nm10]; have h8 : k ≠ 9 ∧ k ≠ 8 := ⟨fun e => h33 (by rw [e]; rfl), fun e => h46 (by rw [e]; rfl)⟩; exact vp_in_nI (by omega) (by omega)), (fun h => by cases h), ?_⟩⟩
                        try show _ ∧ _
                        try dsimp only [bl_pv]
                        refine Or.inr ⟨hz, ?_, rfl⟩
                        first
                        | (have hq := h46; rw [if_neg h33, if_neg hq, bl_up2_ne (by omega)])
                        | (have hq := h46; rw [if_neg h33, if_pos hq, bl_up2_nk (by omega)])
                        | rw [if_pos h33, bl_up2_nk (by omega)])
                   · try simp (disch := omega) only [bl_pv, cl0, cl1, cl2, cl3, cl4, cl5, cl6, cl7, cl8, cl9, bl_up2_at, bl_up2_nk, bl_up2_nx] at h46
                     first
                     | (exfalso; first | omega | exact h46 trivial)
                     | (refine ⟨km, (fun h => by cases h), ?_⟩
                        try show _ ∧ _
                        try dsimp only [bl_pv]
                        refine Or.inr ⟨hz, ?_, rfl⟩
                        first
                        | (have hq := h46; rw [if_neg h33, if_neg hq, bl_up2_ne (by omega)])
                        | (have hq := h46; rw [if_neg h33, if_pos hq, bl_up2_nk (by omega)])
                        | rw [if_pos h33, bl_up2_nk (by omega)]))
              · try simp (disch := omega) only [bl_pv, cl0, cl1, cl2, cl3, cl4, cl5, cl6, cl7, cl8, cl9, bl_up2_at, bl_up2_nk, bl_up2_nx] at h33
                first
                | (exfalso; first | omega | exact h33 trivial)
                | (refine ⟨km, (fun h => by cases h), ?_⟩
                   try show _ ∧ _
                   try dsimp only [bl_pv]
                   refine Or.inr ⟨hz, ?_, rfl⟩
                   first
                   | (have hq := h46; rw [if_neg h33, if_neg hq, bl_up2_ne (by omega)])
                   | (have hq := h46; rw [if_neg h33, if_pos hq, bl_up2_nk (by omega)])
                   | rw [if_pos h33, bl_up2_nk (by omega)]))
         · try simp (disch := omega) only [bl_pv, cl0, cl1, cl2, cl3, cl4, cl5, cl6, cl7, cl8, cl9, bl_up2_at, bl_up2_nk, bl_up2_nx] at h25
           exact absurd trivial h25)
    · try simp (disch := omega) only [bl_pv, cl0, cl1, cl2, cl3, cl4, cl5, cl6, cl7, cl8, cl9, bl_up2_at, bl_up2_nk, bl_up2_nx] at h13
      exact absurd h13 (by decide)
  · skip
    refine bl_MC_intro (by decide +kernel) rfl (Nat.le_of_ble_eq_true rfl) ?_
    refine bl_go oX11_told 80 [30] rfl ?_
    refine ⟨km, Or.inr (Or.inr ⟨rfl, rfl, _, rfl⟩), (fun h => by cases h), rfl, (Nat.le_of_ble_eq_true rfl), (0, 0), Nat.le_of_ble_eq_true rfl, Nat.le_of_ble_eq_true rfl, bl_MC_mono (c_Model_inF (d := d) hz) (fun o10 σ10 q10 => ?_)⟩
    try dsimp only [bl_pv] at q10
    obtain ⟨rfl, rfl⟩ := q10
    refine bl_go oX11_told 80 [30] rfl ?_
    refine ⟨fun h13 => ?_, fun h13 => ?_⟩
    · try simp (disch := omega) only [bl_pv, cl0, cl1, cl2, cl3, cl4, cl5, cl6, cl7, cl8, cl9, bl_up2_at, bl_up2_nk, bl_up2_nx] at h13
      exact absurd trivial h13
    · try simp (disch := omega) only [bl_pv, cl0, cl1, cl2, cl3, cl4, cl5, cl6, cl7, cl8, cl9, bl_up2_at, bl_up2_nk, bl_up2_nx] at h13
      first
      | (exfalso; first | omega | exact h13 trivial)
      | (refine ⟨rfl, rfl, km, (Nat.le_of_ble_eq_true rfl), (0, 0), Nat.le_of_ble_eq_true rfl, Nat.le_of_ble_eq_true rfl, bl_MC_mono (c_Model_badT (d := d) km bl_up2_at (by decide) (by decide)) (fun o22 σ22 q22 => ?_)⟩
         try dsimp only [bl_pv] at q22
         obtain ⟨rfl, rfl⟩ := q22
         refine bl_go oX11_told 80 [30] rfl ?_
         refine ⟨fun h25 => ?_, fun h25 => ?_⟩
         · try simp (disch := omega) only [bl_pv, cl0, cl1, cl2, cl3, cl4, cl5, cl6, cl7, cl8, cl9, bl_up2_at, bl_up2_nk, bl_up2_nx] at h25
           first
           | (exfalso; first | omega | exact h25 trivial)
           | (try dsimp only [bl_pv]
              exact absurd h25 (by decide))
         · try simp (disch := omega) only [bl_pv, cl0, cl1, cl2, cl3, cl4, cl5, cl6, cl7, cl8, cl9, bl_up2_at, bl_up2_nk, bl_up2_nx] at h25
           first
           | (exfalso; first | omega | exact h25 trivial)
           | (refine ⟨(fun h => by cases h), ?_⟩
              try show _ ∧ _
              try dsimp only [bl_pv]
              rw [bl_up2_up2]; exact Or.inl ⟨hz, rfl, rfl⟩))
theorem c_Model_room {x : Int32} (hm : mdS R K N m) : bl_MC G l (d + 1) mX11_room [.ref m, .int x] (I, J, R, K, N) (0, 0) (fun o σ' => (¬ (0 ≤ x ∧ x ≤ 23) ∧ o = .inl (some (.int 0)) ∧ σ' = (bl_up2 I m 0 1, J, R, K, N)) ∨ ((0 ≤ x ∧ x ≤ 23) ∧ o = .inl (some (.int (rm_deg (I (m + 12)) x.toNatClampNeg))) ∧ σ' = (bl_up2 I m 0 0, J, R, K, N))) := by
  have km := hm.2.1
  by_cases hz : 0 ≤ x ∧ x ≤ 23
  · obtain ⟨k, hk, rfl⟩ := i32_nat (b := 23) (by omega) hz.1 hz.2
    have ec : (nI k).toNatClampNeg = k := nI_clamp (by omega)
    refine bl_MC_intro (by decide +kernel) rfl (Nat.le_of_ble_eq_true rfl) ?_
    refine bl_go oX11_room 80 [] rfl ?_
    refine ⟨km, Or.inr (Or.inr ⟨rfl, rfl, _, rfl⟩), (fun h => by cases h), rfl, (Nat.le_of_ble_eq_true rfl), (0, 0), Nat.le_of_ble_eq_true rfl, Nat.le_of_ble_eq_true rfl, bl_MC_mono (c_Model_inT (d := d) hz) (fun o10 σ10 q10 => ?_)⟩
    try dsimp only [bl_pv] at q10
    obtain ⟨rfl, rfl⟩ := q10
    refine bl_go oX11_room 80 [] rfl ?_
    refine ⟨fun h13 => ?_, fun h13 => ?_⟩
    · try simp (disch := omega) only [bl_pv, cl0, cl1, cl2, cl3, cl4, cl5, cl6, cl7, cl8, cl9, bl_up2_at, bl_up2_nk, bl_up2_nx] at h13
      first
      | (exfalso; first | omega | exact h13 trivial)
      | (refine ⟨rfl, rfl, km, (Nat.le_of_ble_eq_true rfl), (0, 0), Nat.le_of_ble_eq_true rfl, Nat.le_of_ble_eq_true rfl, bl_MC_mono (c_Model_badF (d := d) km bl_up2_at) (fun o22 σ22 q22 => ?_)⟩
         try dsimp only [bl_pv] at q22
         obtain ⟨rfl, rfl⟩ := q22
         refine bl_go oX11_room 80 [] rfl ?_
         refine ⟨fun h25 => ?_, fun h25 => ?_⟩
         · try simp (disch := omega) only [bl_pv, cl0, cl1, cl2, cl3, cl4, cl5, cl6, cl7, cl8, cl9, bl_up2_at, bl_up2_nk, bl_up2_nx] at h25
           first
           | (exfalso; first | omega | exact h25 trivial)
           | (refine ⟨rfl, rfl, km, (Nat.le_of_ble_eq_true rfl), (0, 0), Nat.le_of_ble_eq_true rfl, Nat.le_of_ble_eq_true rfl, bl_MC_mono (c_Model_roomOf (d := d) (h := k) hm rfl (by omega)) (fun o32 σ32 q32 => ?_)⟩
              try dsimp only [bl_pv] at q32
              obtain ⟨rfl, rfl⟩ := q32
              refine bl_go oX11_room 80 [] rfl ?_
              refine ⟨(fun h => by cases h), ?_⟩
              try show _ ∧ _
              try dsimp only [bl_pv]
              refine Or.inr ⟨hz, ?_, rfl⟩
              rw [bl_up2_ne (by omega), ec])
         · try simp (disch := omega) only [bl_pv, cl0, cl1, cl2, cl3, cl4, cl5, cl6, cl7, cl8, cl9, bl_up2_at, bl_up2_nk, bl_up2_nx] at h25
           exact absurd trivial h25)
    · try simp (disch := omega) only [bl_pv, cl0, cl1, cl2, cl3, cl4, cl5, cl6, cl7, cl8, cl9, bl_up2_at, bl_up2_nk, bl_up2_nx] at h13
      exact absurd h13 (by decide)
  · skip
    refine bl_MC_intro (by decide +kernel) rfl (Nat.le_of_ble_eq_true rfl) ?_
    refine bl_go oX11_room 80 [30] rfl ?_
    refine ⟨km, Or.inr (Or.inr ⟨rfl, rfl, _, rfl⟩), (fun h => by cases h), rfl, (Nat.le_of_ble_eq_true rfl), (0, 0), Nat.le_of_ble_eq_true rfl, Nat.le_of_ble_eq_true rfl, bl_MC_mono (c_Model_inF (d := d) hz) (fun o10 σ10 q10 => ?_)⟩
    try dsimp only [bl_pv] at q10
    obtain ⟨rfl, rfl⟩ := q10
    refine bl_go oX11_room 80 [30] rfl ?_
    refine ⟨fun h13 => ?_, fun h13 => ?_⟩
    · try simp (disch := omega) only [bl_pv, cl0, cl1, cl2, cl3, cl4, cl5, cl6, cl7, cl8, cl9, bl_up2_at, bl_up2_nk, bl_up2_nx] at h13
      exact absurd trivial h13
    · try simp (disch := omega) only [bl_pv, cl0, cl1, cl2, cl3, cl4, cl5, cl6, cl7, cl8, cl9, bl_up2_at, bl_up2_nk, bl_up2_nx] at h13
      first
      | (exfalso; first | omega | exact h13 trivial)
      | (refine ⟨rfl, rfl, km, (Nat.le_of_ble_eq_true rfl), (0, 0), Nat.le_of_ble_eq_true rfl, Nat.le_of_ble_eq_true rfl, bl_MC_mono (c_Model_badT (d := d) km bl_up2_at (by decide) (by decide)) (fun o22 σ22 q22 => ?_)⟩
         try dsimp only [bl_pv] at q22
         obtain ⟨rfl, rfl⟩ := q22
         refine bl_go oX11_room 80 [30] rfl ?_
         refine ⟨fun h25 => ?_, fun h25 => ?_⟩
         · try simp (disch := omega) only [bl_pv, cl0, cl1, cl2, cl3, cl4, cl5, cl6, cl7, cl8, cl9, bl_up2_at, bl_up2_nk, bl_up2_nx] at h25
           first
           | (exfalso; first | omega | exact h25 trivial)
           | (try dsimp only [bl_pv]
              exact absurd h25 (by decide))
         · try simp (disch := omega) only [bl_pv, cl0, cl1, cl2, cl3, cl4, cl5, cl6, cl7, cl8, cl9, bl_up2_at, bl_up2_nk, bl_up2_nx] at h25
           first
           | (exfalso; first | omega | exact h25 trivial)
           | (refine ⟨(fun h => by cases h), ?_⟩
              try show _ ∧ _
              try dsimp only [bl_pv]
              rw [bl_up2_up2]; exact Or.inl ⟨hz, rfl, rfl⟩))
/-- r is one of the recipes -/
def isR (c : Nat) (x : Int32) : Prop := 0 ≤ x ∧ x ≤ zI ((c : Int) - 1)
theorem isR_nat {c : Nat} {x : Int32} (hc : c ≤ 1000) (h : isR c x) : ∃ k, k < c ∧ x = nI k := by
  have a0 : (0 : Int) ≤ x.toInt := Int32.le_iff_toInt_le.mp h.1
  have a1 : x.toInt ≤ (zI ((c : Int) - 1)).toInt := Int32.le_iff_toInt_le.mp h.2
  rw [show (zI ((c : Int) - 1)).toInt = (c : Int) - 1 from Int32.toInt_ofInt_of_le (by omega) (by omega)] at a1
  refine ⟨x.toInt.toNat, by omega, ?_⟩
  rw [zI_n, Int.toNat_of_nonneg a0]
  exact (Int32.ofInt_toInt x).symm
theorem c_Model_isRecipe {c : Nat} {x : Int32} (km : K m = 12) (hc : I m 13 = nI c) : bl_MC G l (d + 1) mX11_isRecipe [.ref m, .int x] (I, J, R, K, N) (0, 0) (fun o σ' => ((isR c x ∧ o = .inl (some (.int 1))) ∨ (¬ isR c x ∧ o = .inl (some (.int 0)))) ∧ σ' = (I, J, R, K, N)) := by
  have e : I m 13 - 1 = zI ((c : Int) - 1) := by rw [hc, zI_n, show (1 : Int32) = zI 1 from rfl, zI_sub]
  by_cases hz : isR c x
  · have hz' : 0 ≤ x ∧ x ≤ I m 13 - 1 := by rw [e]; exact hz
    refine bl_MC_intro (by decide +kernel) rfl (Nat.le_of_ble_eq_true rfl) ?_
    refine bl_go oX11_isRecipe 80 [] rfl ?_
    refine ⟨km, rfl, (Nat.le_of_ble_eq_true rfl), (0, 0), Nat.le_of_ble_eq_true rfl, Nat.le_of_ble_eq_true rfl, bl_MC_mono (c_Model_inT (d := d) hz') (fun o8 σ8 q8 => ?_)⟩
    try dsimp only [bl_pv] at q8
    obtain ⟨rfl, rfl⟩ := q8
    refine bl_go oX11_isRecipe 80 [] rfl ?_
    refine ⟨(fun _ => by first | exact Or.inl rfl | exact Or.inr rfl), ?_⟩
    try show _ ∧ _
    try dsimp only [bl_pv]
    exact ⟨Or.inl ⟨hz, rfl⟩, rfl⟩
  · have hz' : ¬ (0 ≤ x ∧ x ≤ I m 13 - 1) := by rw [e]; exact hz
    refine bl_MC_intro (by decide +kernel) rfl (Nat.le_of_ble_eq_true rfl) ?_
    refine bl_go oX11_isRecipe 80 [] rfl ?_
    refine ⟨km, rfl, (Nat.le_of_ble_eq_true rfl), (0, 0), Nat.le_of_ble_eq_true rfl, Nat.le_of_ble_eq_true rfl, bl_MC_mono (c_Model_inF (d := d) hz') (fun o8 σ8 q8 => ?_)⟩
    try dsimp only [bl_pv] at q8
    obtain ⟨rfl, rfl⟩ := q8
    refine bl_go oX11_isRecipe 80 [] rfl ?_
    refine ⟨(fun _ => by first | exact Or.inl rfl | exact Or.inr rfl), ?_⟩
    try show _ ∧ _
    try dsimp only [bl_pv]
    exact ⟨Or.inr ⟨hz, rfl⟩, rfl⟩
/-- the recipes that the model holds -/
def mdR (I : Nat → Nat → Int32) (m c : Nat) (RS : Nat → sq) : Prop := I m 13 = nI c ∧ c ≤ 4 ∧ ∀ r, r < c → I (m + 16) r = nI (RS r).1 ∧ (RS r).1 ≤ 20 ∧ sqO (RS r) ∧ ∀ j, j < (RS r).1 → I (m + 100 + r) (2 * j) = nI ((RS r).2.1 j) ∧ I (m + 100 + r) (2 * j + 1) = nI ((RS r).2.2 j)
theorem c_Model_isRT {c : Nat} {x : Int32} (km : K m = 12) (hc : I m 13 = nI c) (h : isR c x) : bl_MC G l (d + 1) mX11_isRecipe [.ref m, .int x] (I, J, R, K, N) (0, 0) (fun o σ' => o = .inl (some (.int 1)) ∧ σ' = (I, J, R, K, N)) := by
  refine bl_MC_mono (c_Model_isRecipe km hc) (fun o σ' hh => ⟨?_, hh.2⟩)
  rcases hh.1 with ⟨_, e⟩ | ⟨e, _⟩
  · exact e
  · exact absurd h e
theorem c_Model_isRF {c : Nat} {x : Int32} (km : K m = 12) (hc : I m 13 = nI c) (h : ¬ isR c x) : bl_MC G l (d + 1) mX11_isRecipe [.ref m, .int x] (I, J, R, K, N) (0, 0) (fun o σ' => o = .inl (some (.int 0)) ∧ σ' = (I, J, R, K, N)) := by
  refine bl_MC_mono (c_Model_isRecipe km hc) (fun o σ' hh => ⟨?_, hh.2⟩)
  rcases hh.1 with ⟨e, _⟩ | ⟨_, e⟩
  · exact absurd e h
  · exact e
/-- what a step answers -/
def stv (S : sq) (k w : Nat) : Int32 := if w = 2 then (if S.2.1 k = 0 then 2 else if S.2.1 k < 5 then 1 else if S.2.1 k = 5 then 0 else nI (S.2.2 k)) else if w = 0 then nI (S.2.1 k) else nI (S.2.2 k)
theorem c_Model_step {c : Nat} {RS : Nat → sq} {x y w : Int32} (hm : mdS R K N m) (hR : mdR I m c RS) : bl_MC G l (d + 2) mX11_step [.ref m, .int x, .int y, .int w] (I, J, R, K, N) (0, 0) (fun o σ' => (¬ isR c x ∧ o = .inl (some (.int 0)) ∧ σ' = (bl_up2 I m 0 1, J, R, K, N)) ∨ (∃ r, r < c ∧ x = nI r ∧ ((¬ isR (RS r).1 y ∧ o = .inl (some (.int 0)) ∧ σ' = (bl_up2 I m 0 2, J, R, K, N)) ∨ (∃ k, k < (RS r).1 ∧ y = nI k ∧ ((¬ (0 ≤ w ∧ w ≤ 2) ∧ o = .inl (some (.int 0)) ∧ σ' = (bl_up2 I m 0 3, J, R, K, N)) ∨ (∃ v, v ≤ 2 ∧ w = nI v ∧ o = .inl (some (.int (stv (RS r) k v))) ∧ σ' = (bl_up2 I m 0 0, J, R, K, N))))))) := by
  have km := hm.2.1
  obtain ⟨rm_16, km16, nm16⟩ := hm.f16
  obtain ⟨rm_18, km18, nm18⟩ := hm.f18
  obtain ⟨hc, hc4, hR⟩ := hR
  have hc' : bl_up2 I m 0 0 m 13 = nI c := (bl_up2_nk (by omega)).trans hc
  by_cases hz : isR c x
  · obtain ⟨r, hr, rfl⟩ := isR_nat (by omega) hz
    obtain ⟨h16, hS20, hO, hS⟩ := hR r hr
    obtain ⟨rms, kms, nms⟩ := hm.g18 r (by omega)
    have ecr : (nI r).toNatClampNeg = r := nI_clamp (by omega)
    have e16 : bl_up2 I m 0 0 (m + 16) (nI r).toNatClampNeg - 1 = zI (((RS r).1 : Int) - 1) := by rw [ecr, bl_up2_ne (by omega), h16, zI_n, show (1 : Int32) = zI 1 from rfl, zI_sub]
    by_cases hy : isR (RS r).1 y
    · obtain ⟨k, hk, rfl⟩ := isR_nat (by omega) hy
      have hy' : 0 ≤ nI k ∧ nI k ≤ bl_up2 I m 0 0 (m + 16) (nI r).toNatClampNeg - 1 := by rw [e16]; exact hy
      obtain ⟨hs1, hs2⟩ := hS k hk
      obtain ⟨ho1, ho2, -⟩ := hO k hk
      have i1 : bl_up2 I m 0 0 (m + 100 + r) (2 * nI k).toNatClampNeg = nI ((RS r).2.1 k) := by rw [cl2_ (by omega), bl_up2_ne (by omega)]; exact hs1
      have i2 : bl_up2 I m 0 0 (m + 100 + r) (2 * nI k + 1).toNatClampNeg = nI ((RS r).2.2 k) := by rw [cl2_1 (by omega), bl_up2_ne (by omega)]; exact hs2
      by_cases hw : 0 ≤ w ∧ w ≤ 2
      · obtain ⟨v, hv, rfl⟩ := i32_nat (b := 2) (by omega) hw.1 hw.2
        refine bl_MC_intro (by decide +kernel) rfl (Nat.le_of_ble_eq_true rfl) ?_
        refine bl_go oX11_step 80 [] rfl ?_
        refine ⟨km, Or.inr (Or.inr ⟨rfl, rfl, _, rfl⟩), (fun h => by cases h), rfl, rfl, km, (Nat.le_of_ble_eq_true rfl), (0, 0), Nat.le_of_ble_eq_true rfl, Nat.le_of_ble_eq_true rfl, bl_MC_mono (c_Model_isRT (d := d) km hc' hz) (fun o8 σ8 q8 => ?_)⟩
        try dsimp only [bl_pv] at q8
        obtain ⟨rfl, rfl⟩ := q8
        refine bl_go oX11_step 80 [] rfl ?_
        refine ⟨fun h11 => ?_, fun h11 => ?_⟩
        · try simp (disch := omega) only [bl_pv, cl0, cl1, cl2, cl3, cl4, cl5, cl6, cl7, cl8, cl9, bl_up2_at, bl_up2_nk, bl_up2_nx] at h11
          first
          | (exfalso; first | omega | exact h11 trivial)
          | (refine ⟨rfl, rfl, km, (Nat.le_of_ble_eq_true rfl), (0, 0), Nat.le_of_ble_eq_true rfl, Nat.le_of_ble_eq_true rfl, bl_MC_mono (c_Model_badF (d := d + 1) km bl_up2_at) (fun o20 σ20 q20 => ?_)⟩
             try dsimp only [bl_pv] at q20
             obtain ⟨rfl, rfl⟩ := q20
             refine bl_go oX11_step 80 [] rfl ?_
             refine ⟨fun h23 => ?_, fun h23 => ?_⟩
             · try simp (disch := omega) only [bl_pv, cl0, cl1, cl2, cl3, cl4, cl5, cl6, cl7, cl8, cl9, bl_up2_at, bl_up2_nk, bl_up2_nx] at h23
               exact absurd trivial h23
             · try simp (disch := omega) only [bl_pv, cl0, cl1, cl2, cl3, cl4, cl5, cl6, cl7, cl8, cl9, bl_up2_at, bl_up2_nk, bl_up2_nx] at h23
               first
               | (exfalso; first | omega | exact h23 trivial)
               | (refine ⟨km, _, bl_vs rm_16, Or.inl ⟨km16, (by first | exact (by rw [nm16]; exact vp_in_nI (by omega) (by omega)) | ((try dsimp only [bl_pv]); show vp_in _ (N _); rw [nm16]; simp (disch := omega) only [zI_n, zI_o, zI_lit, zI_neg, zI_add, zI_sub, zI_mul, zI_lt, zI_le, zI_eq, zI_clamp, zI_in, zI_div, zI_rem, lg_lt0, lg_gt0, lg_eq0, lg_le0, lg_ge0, Int.toNat_natCast, ge_iff_le, gt_iff_lt, List.length_cons, List.length_nil, bl_up2_at, bl_up2_nk, bl_up2_nx] <;> omega)), rfl, (Nat.le_of_ble_eq_true rfl), (0, 0), Nat.le_of_ble_eq_true rfl, Nat.le_of_ble_eq_true rfl, bl_MC_mono (c_Model_inT (d := d + 1) hy') (fun o37 σ37 q37 => ?_)⟩⟩
                  try dsimp only [bl_pv] at q37
                  obtain ⟨rfl, rfl⟩ := q37
                  refine bl_go oX11_step 80 [] rfl ?_
                  refine ⟨fun h40 => ?_, fun h40 => ?_⟩
                  · try simp (disch := omega) only [bl_pv, cl0, cl1, cl2, cl3, cl4, cl5, cl6, cl7, cl8, cl9, bl_up2_at, bl_up2_nk, bl_up2_nx] at h40
                    first
                    | (exfalso; first | omega | exact h40 trivial)
                    | (refine ⟨rfl, rfl, km, (Nat.le_of_ble_eq_true rfl), (0, 0), Nat.le_of_ble_eq_true rfl, Nat.le_of_ble_eq_true rfl, bl_MC_mono (c_Model_badF (d := d + 1) km bl_up2_at) (fun o49 σ49 q49 => ?_)⟩
                       try dsimp only [bl_pv] at q49
                       obtain ⟨rfl, rfl⟩ := q49
                       refine bl_go oX11_step 80 [] rfl ?_
                       refine ⟨fun h52 => ?_, fun h52 => ?_⟩
                       · try simp (disch := omega) only [bl_pv, cl0, cl1, cl2, cl3, cl4, cl5, cl6, cl7, cl8, cl9, bl_up2_at, bl_up2_nk, bl_up2_nx] at h52
                         exact absurd trivial h52
                       · try simp (disch := omega) only [bl_pv, cl0, cl1, cl2, cl3, cl4, cl5, cl6, cl7, cl8, cl9, bl_up2_at, bl_up2_nk, bl_up2_nx] at h52
                         first
                         | (exfalso; first | omega | exact h52 trivial)
                         | (refine ⟨rfl, (Nat.le_of_ble_eq_true rfl), (0, 0), Nat.le_of_ble_eq_true rfl, Nat.le_of_ble_eq_true rfl, bl_MC_mono (c_Model_inT (d := d + 1) hw) (fun o59 σ59 q59 => ?_)⟩
                            try dsimp only [bl_pv] at q59
                            obtain ⟨rfl, rfl⟩ := q59
                            refine bl_go oX11_step 80 [] rfl ?_
                            refine ⟨fun h62 => ?_, fun h62 => ?_⟩
                            · try simp (disch := omega) only [bl_pv, cl0, cl1, cl2, cl3, cl4, cl5, cl6, cl7, cl8, cl9, bl_up2_at, bl_up2_nk, bl_up2_nx] at h62
                              first
                              | (exfalso; first | omega | exact h62 trivial)
                              | (refine ⟨rfl, rfl, km, (Nat.le_of_ble_eq_true rfl), (0, 0), Nat.le_of_ble_eq_true rfl, Nat.le_of_ble_eq_true rfl, bl_MC_mono (c_Model_badF (d := d + 1) km bl_up2_at) (fun o71 σ71 q71 => ?_)⟩
                                 try dsimp only [bl_pv] at q71
                                 obtain ⟨rfl, rfl⟩ := q71
                                 refine bl_go oX11_step 80 [] rfl ?_
                                 refine ⟨fun h74 => ?_, fun h74 => ?_⟩
                                 · try simp (disch := omega) only [bl_pv, cl0, cl1, cl2, cl3, cl4, cl5, cl6, cl7, cl8, cl9, bl_up2_at, bl_up2_nk, bl_up2_nx] at h74
                                   first
                                   | (exfalso; first | omega | exact h74 trivial)
                                   | (refine ⟨fun h81 => ?_, fun h81 => ?_⟩
                                      · try simp (disch := omega) only [zI_n, zI_o, zI_lit, zI_neg, zI_add, zI_sub, zI_mul, zI_lt, zI_le, zI_eq, zI_clamp, zI_in, zI_div, zI_rem, lg_lt0, lg_gt0, lg_eq0, lg_le0, lg_ge0, Int.toNat_natCast, ge_iff_le, gt_iff_lt, List.length_cons, List.length_nil, bl_up2_at, bl_up2_nk, bl_up2_nx] at h81
                                        first
                                        | (exfalso; first | omega | exact h81 trivial)
                                        | (refine ⟨km, _, bl_vs rm_18, bl_ka km18, (by first | exact (by rw [nm18]; exact vp_in_nI (by omega) (by omega)) | ((try dsimp only [bl_pv]); show vp_in _ (N _); rw [nm18]; simp (disch := omega) only [zI_n, zI_o, zI_lit, zI_neg, zI_add, zI_sub, zI_mul, zI_lt, zI_le, zI_eq, zI_clamp, zI_in, zI_div, zI_rem, lg_lt0, lg_gt0, lg_eq0, lg_le0, lg_ge0, Int.toNat_natCast, ge_iff_le, gt_iff_lt, List.length_cons, List.length_nil, bl_up2_at, bl_up2_nk, bl_up2_nx] <;> omega)), _, bl_vs (by dsimp only; rw [ecr]; exact rms), Or.inl ⟨kms, (by first | exact (by rw [nms]; exact vp_in_nI (by omega) (by omega)) | ((try dsimp only [bl_pv]); show vp_in _ (N _); rw [nms]; simp (disch := omega) only [zI_n, zI_o, zI_lit, zI_neg, zI_add, zI_sub, zI_mul, zI_lt, zI_le, zI_eq, zI_clamp, zI_in, zI_div, zI_rem, lg_lt0, lg_gt0, lg_eq0, lg_le0, lg_ge0, Int.toNat_natCast, ge_iff_le, gt_iff_lt, List.length_cons, List.length_nil, bl_up2_at, bl_up2_nk, bl_up2_nx] <;> omega)), (fun h => by cases h), ?_⟩⟩
                                           try show _ ∧ _
                                           try dsimp only [bl_pv]
                                           refine Or.inr ⟨r, hr, rfl, Or.inr ⟨k, hk, rfl, Or.inr ⟨v, hv, rfl, ?_, rfl⟩⟩⟩
                                           by_cases hv2 : v = 2
                                           · first
                                             | (exfalso; omega)
                                             | (unfold stv
                                                rw [if_pos hv2]
                                                have eq0 : (nI ((RS r).2.1 k) = 0) ↔ (RS r).2.1 k = 0 := nI_eqk (b := 0) (by omega) (by omega)
                                                have eq5 : (nI ((RS r).2.1 k) = 5) ↔ (RS r).2.1 k = 5 := nI_eqk (b := 5) (by omega) (by omega)
                                                have lt5 : (nI ((RS r).2.1 k) < 5) ↔ (RS r).2.1 k < 5 := nI_ltk (b := 5) (by omega) (by omega)
                                                simp only [i1, i2, eq0, eq5, lt5])
                                           · first
                                             | (exfalso; omega)
                                             | (unfold stv
                                                rw [if_neg hv2]
                                                have hv' : v = 0 ∨ v = 1 := by omega
                                                rcases hv' with rfl | rfl
                                                · rw [if_pos rfl, ← i1, show 2 * nI k + nI 0 = 2 * nI k from Int32.add_zero _]
                                                · rw [if_neg (by omega), ← i2]; rfl))
                                      · try simp (disch := omega) only [zI_n, zI_o, zI_lit, zI_neg, zI_add, zI_sub, zI_mul, zI_lt, zI_le, zI_eq, zI_clamp, zI_in, zI_div, zI_rem, lg_lt0, lg_gt0, lg_eq0, lg_le0, lg_ge0, Int.toNat_natCast, ge_iff_le, gt_iff_lt, List.length_cons, List.length_nil, bl_up2_at, bl_up2_nk, bl_up2_nx] at h81
                                        first
                                        | (exfalso; first | omega | exact h81 trivial)
                                        | (refine ⟨km, _, bl_vs rm_18, bl_ka km18, (by first | exact (by rw [nm18]; exact vp_in_nI (by omega) (by omega)) | ((try dsimp only [bl_pv]); show vp_in _ (N _); rw [nm18]; simp (disch := omega) only [zI_n, zI_o, zI_lit, zI_neg, zI_add, zI_sub, zI_mul, zI_lt, zI_le, zI_eq, zI_clamp, zI_in, zI_div, zI_rem, lg_lt0, lg_gt0, lg_eq0, lg_le0, lg_ge0, Int.toNat_natCast, ge_iff_le, gt_iff_lt, List.length_cons, List.length_nil, bl_up2_at, bl_up2_nk, bl_up2_nx] <;> omega)), _, bl_vs (by dsimp only; rw [ecr]; exact rms), Or.inl ⟨kms, (by first | exact (by rw [nms]; exact vp_in_nI (by omega) (by omega)) | ((try dsimp only [bl_pv]); show vp_in _ (N _); rw [nms]; simp (disch := omega) only [zI_n, zI_o, zI_lit, zI_neg, zI_add, zI_sub, zI_mul, zI_lt, zI_le, zI_eq, zI_clamp, zI_in, zI_div, zI_rem, lg_lt0, lg_gt0, lg_eq0, lg_le0, lg_ge0, Int.toNat_natCast, ge_iff_le, gt_iff_lt, List.length_cons, List.length_nil, bl_up2_at, bl_up2_nk, bl_up2_nx] <;> omega)), km, _, bl_vs rm_18, bl_ka km18, (by first | exact (by rw [nm18]; exact vp_in_nI (by omega) (by omega)) | ((try dsimp only [bl_pv]); show vp_in _ (N _); rw [nm18]; simp (disch := omega) only [zI_n, zI_o, zI_lit, zI_neg, zI_add, zI_sub, zI_mul, zI_lt, zI_le, zI_eq, zI_clamp, zI_in, zI_div, zI_rem, lg_lt0, lg_gt0, lg_eq0, lg_le0, lg_ge0, Int.toNat_natCast, ge_iff_le, gt_iff_lt, List.length_cons, List.length_nil, bl_up2_at, bl_up2_nk, bl_up2_nx] <;> omega)), _, bl_vs (by dsimp only; rw [ecr]; exact rms), Or.inl ⟨kms, (by first | exact (by rw [nms]; exact vp_in_nI (by omega) (by omega)) | ((try dsimp only [bl_pv]); show vp_in _ (N _); rw [nms]; simp (disch := omega) only [zI_n, zI_o, zI_lit, zI_neg, zI_add, zI_sub, zI_mul, zI_lt, zI_le, zI_eq, zI_clamp, zI_in, zI_div, zI_rem, lg_lt0, lg_gt0, lg_eq0, lg_le0, lg_ge0, Int.toNat_natCast, ge_iff_le, gt_iff_lt, List.length_cons, List.length_nil, bl_up2_at, bl_up2_nk, bl_up2_nx] <;> omega)), rfl, (Nat.le_of_ble_eq_true rfl), (0, 0), Nat.le_of_ble_eq_true rfl, Nat.le_of_ble_eq_true rfl, bl_MC_mono (c_Model_unitsOf (d := d + 1)) (fun o106 σ106 q106 => ?_)⟩⟩⟩
                                           try dsimp only [bl_pv] at q106
                                           obtain ⟨rfl, rfl⟩ := q106
                                           refine bl_go oX11_step 80 [] rfl ?_
                                           refine ⟨(fun h => by cases h), ?_⟩
                                           try show _ ∧ _
                                           try dsimp only [bl_pv]
                                           refine Or.inr ⟨r, hr, rfl, Or.inr ⟨k, hk, rfl, Or.inr ⟨v, hv, rfl, ?_, rfl⟩⟩⟩
                                           by_cases hv2 : v = 2
                                           · first
                                             | (exfalso; omega)
                                             | (unfold stv
                                                rw [if_pos hv2]
                                                have eq0 : (nI ((RS r).2.1 k) = 0) ↔ (RS r).2.1 k = 0 := nI_eqk (b := 0) (by omega) (by omega)
                                                have eq5 : (nI ((RS r).2.1 k) = 5) ↔ (RS r).2.1 k = 5 := nI_eqk (b := 5) (by omega) (by omega)
                                                have lt5 : (nI ((RS r).2.1 k) < 5) ↔ (RS r).2.1 k < 5 := nI_ltk (b := 5) (by omega) (by omega)
                                                simp only [i1, i2, eq0, eq5, lt5])
                                           · first
                                             | (exfalso; omega)
                                             | (unfold stv
                                                rw [if_neg hv2]
                                                have hv' : v = 0 ∨ v = 1 := by omega
                                                rcases hv' with rfl | rfl
                                                · rw [if_pos rfl, ← i1, show 2 * nI k + nI 0 = 2 * nI k from Int32.add_zero _]
                                                · rw [if_neg (by omega), ← i2]; rfl)))
                                 · try simp (disch := omega) only [bl_pv, cl0, cl1, cl2, cl3, cl4, cl5, cl6, cl7, cl8, cl9, bl_up2_at, bl_up2_nk, bl_up2_nx] at h74
                                   exact absurd trivial h74)
                            · try simp (disch := omega) only [bl_pv, cl0, cl1, cl2, cl3, cl4, cl5, cl6, cl7, cl8, cl9, bl_up2_at, bl_up2_nk, bl_up2_nx] at h62
                              exact absurd h62 (by decide)))
                  · try simp (disch := omega) only [bl_pv, cl0, cl1, cl2, cl3, cl4, cl5, cl6, cl7, cl8, cl9, bl_up2_at, bl_up2_nk, bl_up2_nx] at h40
                    exact absurd h40 (by decide)))
        · try simp (disch := omega) only [bl_pv, cl0, cl1, cl2, cl3, cl4, cl5, cl6, cl7, cl8, cl9, bl_up2_at, bl_up2_nk, bl_up2_nx] at h11
          exact absurd h11 (by decide)
      · skip
        refine bl_MC_intro (by decide +kernel) rfl (Nat.le_of_ble_eq_true rfl) ?_
        refine bl_go oX11_step 80 [79] rfl ?_
        refine ⟨km, Or.inr (Or.inr ⟨rfl, rfl, _, rfl⟩), (fun h => by cases h), rfl, rfl, km, (Nat.le_of_ble_eq_true rfl), (0, 0), Nat.le_of_ble_eq_true rfl, Nat.le_of_ble_eq_true rfl, bl_MC_mono (c_Model_isRT (d := d) km hc' hz) (fun o8 σ8 q8 => ?_)⟩
        try dsimp only [bl_pv] at q8
        obtain ⟨rfl, rfl⟩ := q8
        refine bl_go oX11_step 80 [79] rfl ?_
        refine ⟨fun h11 => ?_, fun h11 => ?_⟩
        · try simp (disch := omega) only [bl_pv, cl0, cl1, cl2, cl3, cl4, cl5, cl6, cl7, cl8, cl9, bl_up2_at, bl_up2_nk, bl_up2_nx] at h11
          first
          | (exfalso; first | omega | exact h11 trivial)
          | (refine ⟨rfl, rfl, km, (Nat.le_of_ble_eq_true rfl), (0, 0), Nat.le_of_ble_eq_true rfl, Nat.le_of_ble_eq_true rfl, bl_MC_mono (c_Model_badF (d := d + 1) km bl_up2_at) (fun o20 σ20 q20 => ?_)⟩
             try dsimp only [bl_pv] at q20
             obtain ⟨rfl, rfl⟩ := q20
             refine bl_go oX11_step 80 [79] rfl ?_
             refine ⟨fun h23 => ?_, fun h23 => ?_⟩
             · try simp (disch := omega) only [bl_pv, cl0, cl1, cl2, cl3, cl4, cl5, cl6, cl7, cl8, cl9, bl_up2_at, bl_up2_nk, bl_up2_nx] at h23
               exact absurd trivial h23
             · try simp (disch := omega) only [bl_pv, cl0, cl1, cl2, cl3, cl4, cl5, cl6, cl7, cl8, cl9, bl_up2_at, bl_up2_nk, bl_up2_nx] at h23
               first
               | (exfalso; first | omega | exact h23 trivial)
               | (refine ⟨km, _, bl_vs rm_16, Or.inl ⟨km16, (by first | exact (by rw [nm16]; exact vp_in_nI (by omega) (by omega)) | ((try dsimp only [bl_pv]); show vp_in _ (N _); rw [nm16]; simp (disch := omega) only [zI_n, zI_o, zI_lit, zI_neg, zI_add, zI_sub, zI_mul, zI_lt, zI_le, zI_eq, zI_clamp, zI_in, zI_div, zI_rem, lg_lt0, lg_gt0, lg_eq0, lg_le0, lg_ge0, Int.toNat_natCast, ge_iff_le, gt_iff_lt, List.length_cons, List.length_nil, bl_up2_at, bl_up2_nk, bl_up2_nx] <;> omega)), rfl, (Nat.le_of_ble_eq_true rfl), (0, 0), Nat.le_of_ble_eq_true rfl, Nat.le_of_ble_eq_true rfl, bl_MC_mono (c_Model_inT (d := d + 1) hy') (fun o37 σ37 q37 => ?_)⟩⟩
                  try dsimp only [bl_pv] at q37
                  obtain ⟨rfl, rfl⟩ := q37
                  refine bl_go oX11_step 80 [79] rfl ?_
                  refine ⟨fun h40 => ?_, fun h40 => ?_⟩
                  · try simp (disch := omega) only [bl_pv, cl0, cl1, cl2, cl3, cl4, cl5, cl6, cl7, cl8, cl9, bl_up2_at, bl_up2_nk, bl_up2_nx] at h40
                    first
                    | (exfalso; first | omega | exact h40 trivial)
                    | (refine ⟨rfl, rfl, km, (Nat.le_of_ble_eq_true rfl), (0, 0), Nat.le_of_ble_eq_true rfl, Nat.le_of_ble_eq_true rfl, bl_MC_mono (c_Model_badF (d := d + 1) km bl_up2_at) (fun o49 σ49 q49 => ?_)⟩
                       try dsimp only [bl_pv] at q49
                       obtain ⟨rfl, rfl⟩ := q49
                       refine bl_go oX11_step 80 [79] rfl ?_
                       refine ⟨fun h52 => ?_, fun h52 => ?_⟩
                       · try simp (disch := omega) only [bl_pv, cl0, cl1, cl2, cl3, cl4, cl5, cl6, cl7, cl8, cl9, bl_up2_at, bl_up2_nk, bl_up2_nx] at h52
                         exact absurd trivial h52
                       · try simp (disch := omega) only [bl_pv, cl0, cl1, cl2, cl3, cl4, cl5, cl6, cl7, cl8, cl9, bl_up2_at, bl_up2_nk, bl_up2_nx] at h52
                         first
                         | (exfalso; first | omega | exact h52 trivial)
                         | (refine ⟨rfl, (Nat.le_of_ble_eq_true rfl), (0, 0), Nat.le_of_ble_eq_true rfl, Nat.le_of_ble_eq_true rfl, bl_MC_mono (c_Model_inF (d := d + 1) hw) (fun o59 σ59 q59 => ?_)⟩
                            try dsimp only [bl_pv] at q59
                            obtain ⟨rfl, rfl⟩ := q59
                            refine bl_go oX11_step 80 [79] rfl ?_
                            refine ⟨fun h62 => ?_, fun h62 => ?_⟩
                            · try simp (disch := omega) only [bl_pv, cl0, cl1, cl2, cl3, cl4, cl5, cl6, cl7, cl8, cl9, bl_up2_at, bl_up2_nk, bl_up2_nx] at h62
                              exact absurd trivial h62
                            · try simp (disch := omega) only [bl_pv, cl0, cl1, cl2, cl3, cl4, cl5, cl6, cl7, cl8, cl9, bl_up2_at, bl_up2_nk, bl_up2_nx] at h62
                              first
                              | (exfalso; first | omega | exact h62 trivial)
                              | (refine ⟨rfl, rfl, km, (Nat.le_of_ble_eq_true rfl), (0, 0), Nat.le_of_ble_eq_true rfl, Nat.le_of_ble_eq_true rfl, bl_MC_mono (c_Model_badT (d := d + 1) km bl_up2_at (by decide) (by decide)) (fun o71 σ71 q71 => ?_)⟩
                                 try dsimp only [bl_pv] at q71
                                 obtain ⟨rfl, rfl⟩ := q71
                                 refine bl_go oX11_step 80 [79] rfl ?_
                                 refine ⟨fun h74 => ?_, fun h74 => ?_⟩
                                 · try simp (disch := omega) only [bl_pv, cl0, cl1, cl2, cl3, cl4, cl5, cl6, cl7, cl8, cl9, bl_up2_at, bl_up2_nk, bl_up2_nx] at h74
                                   first
                                   | (exfalso; first | omega | exact h74 trivial)
                                   | (try dsimp only [bl_pv]
                                      exact absurd h74 (by decide))
                                 · try simp (disch := omega) only [bl_pv, cl0, cl1, cl2, cl3, cl4, cl5, cl6, cl7, cl8, cl9, bl_up2_at, bl_up2_nk, bl_up2_nx] at h74
                                   first
                                   | (exfalso; first | omega | exact h74 trivial)
                                   | (refine ⟨(fun h => by cases h), ?_⟩
                                      try show _ ∧ _
                                      try dsimp only [bl_pv]
                                      rw [bl_up2_up2]; exact Or.inr ⟨r, hr, rfl, Or.inr ⟨k, hk, rfl, Or.inl ⟨hw, rfl, rfl⟩⟩⟩))))
                  · try simp (disch := omega) only [bl_pv, cl0, cl1, cl2, cl3, cl4, cl5, cl6, cl7, cl8, cl9, bl_up2_at, bl_up2_nk, bl_up2_nx] at h40
                    exact absurd h40 (by decide)))
        · try simp (disch := omega) only [bl_pv, cl0, cl1, cl2, cl3, cl4, cl5, cl6, cl7, cl8, cl9, bl_up2_at, bl_up2_nk, bl_up2_nx] at h11
          exact absurd h11 (by decide)
    · have hy' : ¬ (0 ≤ y ∧ y ≤ bl_up2 I m 0 0 (m + 16) (nI r).toNatClampNeg - 1) := by rw [e16]; exact hy
      refine bl_MC_intro (by decide +kernel) rfl (Nat.le_of_ble_eq_true rfl) ?_
      refine bl_go oX11_step 80 [55] rfl ?_
      refine ⟨km, Or.inr (Or.inr ⟨rfl, rfl, _, rfl⟩), (fun h => by cases h), rfl, rfl, km, (Nat.le_of_ble_eq_true rfl), (0, 0), Nat.le_of_ble_eq_true rfl, Nat.le_of_ble_eq_true rfl, bl_MC_mono (c_Model_isRT (d := d) km hc' hz) (fun o8 σ8 q8 => ?_)⟩
      try dsimp only [bl_pv] at q8
      obtain ⟨rfl, rfl⟩ := q8
      refine bl_go oX11_step 80 [55] rfl ?_
      refine ⟨fun h11 => ?_, fun h11 => ?_⟩
      · try simp (disch := omega) only [bl_pv, cl0, cl1, cl2, cl3, cl4, cl5, cl6, cl7, cl8, cl9, bl_up2_at, bl_up2_nk, bl_up2_nx] at h11
        first
        | (exfalso; first | omega | exact h11 trivial)
        | (refine ⟨rfl, rfl, km, (Nat.le_of_ble_eq_true rfl), (0, 0), Nat.le_of_ble_eq_true rfl, Nat.le_of_ble_eq_true rfl, bl_MC_mono (c_Model_badF (d := d + 1) km bl_up2_at) (fun o20 σ20 q20 => ?_)⟩
           try dsimp only [bl_pv] at q20
           obtain ⟨rfl, rfl⟩ := q20
           refine bl_go oX11_step 80 [55] rfl ?_
           refine ⟨fun h23 => ?_, fun h23 => ?_⟩
           · try simp (disch := omega) only [bl_pv, cl0, cl1, cl2, cl3, cl4, cl5, cl6, cl7, cl8, cl9, bl_up2_at, bl_up2_nk, bl_up2_nx] at h23
             exact absurd trivial h23
           · try simp (disch := omega) only [bl_pv, cl0, cl1, cl2, cl3, cl4, cl5, cl6, cl7, cl8, cl9, bl_up2_at, bl_up2_nk, bl_up2_nx] at h23
             first
             | (exfalso; first | omega | exact h23 trivial)
             | (refine ⟨km, _, bl_vs rm_16, Or.inl ⟨km16, (by first | exact (by rw [nm16]; exact vp_in_nI (by omega) (by omega)) | ((try dsimp only [bl_pv]); show vp_in _ (N _); rw [nm16]; simp (disch := omega) only [zI_n, zI_o, zI_lit, zI_neg, zI_add, zI_sub, zI_mul, zI_lt, zI_le, zI_eq, zI_clamp, zI_in, zI_div, zI_rem, lg_lt0, lg_gt0, lg_eq0, lg_le0, lg_ge0, Int.toNat_natCast, ge_iff_le, gt_iff_lt, List.length_cons, List.length_nil, bl_up2_at, bl_up2_nk, bl_up2_nx] <;> omega)), rfl, (Nat.le_of_ble_eq_true rfl), (0, 0), Nat.le_of_ble_eq_true rfl, Nat.le_of_ble_eq_true rfl, bl_MC_mono (c_Model_inF (d := d + 1) hy') (fun o37 σ37 q37 => ?_)⟩⟩
                try dsimp only [bl_pv] at q37
                obtain ⟨rfl, rfl⟩ := q37
                refine bl_go oX11_step 80 [55] rfl ?_
                refine ⟨fun h40 => ?_, fun h40 => ?_⟩
                · try simp (disch := omega) only [bl_pv, cl0, cl1, cl2, cl3, cl4, cl5, cl6, cl7, cl8, cl9, bl_up2_at, bl_up2_nk, bl_up2_nx] at h40
                  exact absurd trivial h40
                · try simp (disch := omega) only [bl_pv, cl0, cl1, cl2, cl3, cl4, cl5, cl6, cl7, cl8, cl9, bl_up2_at, bl_up2_nk, bl_up2_nx] at h40
                  first
                  | (exfalso; first | omega | exact h40 trivial)
                  | (refine ⟨rfl, rfl, km, (Nat.le_of_ble_eq_true rfl), (0, 0), Nat.le_of_ble_eq_true rfl, Nat.le_of_ble_eq_true rfl, bl_MC_mono (c_Model_badT (d := d + 1) km bl_up2_at (by decide) (by decide)) (fun o49 σ49 q49 => ?_)⟩
                     try dsimp only [bl_pv] at q49
                     obtain ⟨rfl, rfl⟩ := q49
                     refine bl_go oX11_step 80 [55] rfl ?_
                     refine ⟨fun h52 => ?_, fun h52 => ?_⟩
                     · try simp (disch := omega) only [bl_pv, cl0, cl1, cl2, cl3, cl4, cl5, cl6, cl7, cl8, cl9, bl_up2_at, bl_up2_nk, bl_up2_nx] at h52
                       first
                       | (exfalso; first | omega | exact h52 trivial)
                       | (refine ⟨(fun h => by cases h), ?_⟩
                          try show _ ∧ _
                          try dsimp only [bl_pv]
                          rw [bl_up2_up2]; exact Or.inr ⟨r, hr, rfl, Or.inl ⟨hy, rfl, rfl⟩⟩)
                     · try simp (disch := omega) only [bl_pv, cl0, cl1, cl2, cl3, cl4, cl5, cl6, cl7, cl8, cl9, bl_up2_at, bl_up2_nk, bl_up2_nx] at h52
                       first
                       | (exfalso; first | omega | exact h52 trivial)
                       | (try dsimp only [bl_pv]
                          exact absurd h52 (by decide)))))
      · try simp (disch := omega) only [bl_pv, cl0, cl1, cl2, cl3, cl4, cl5, cl6, cl7, cl8, cl9, bl_up2_at, bl_up2_nk, bl_up2_nx] at h11
        exact absurd h11 (by decide)
  · skip
    refine bl_MC_intro (by decide +kernel) rfl (Nat.le_of_ble_eq_true rfl) ?_
    refine bl_go oX11_step 80 [26] rfl ?_
    refine ⟨km, Or.inr (Or.inr ⟨rfl, rfl, _, rfl⟩), (fun h => by cases h), rfl, rfl, km, (Nat.le_of_ble_eq_true rfl), (0, 0), Nat.le_of_ble_eq_true rfl, Nat.le_of_ble_eq_true rfl, bl_MC_mono (c_Model_isRF (d := d) km hc' hz) (fun o8 σ8 q8 => ?_)⟩
    try dsimp only [bl_pv] at q8
    obtain ⟨rfl, rfl⟩ := q8
    refine bl_go oX11_step 80 [26] rfl ?_
    refine ⟨fun h11 => ?_, fun h11 => ?_⟩
    · try simp (disch := omega) only [bl_pv, cl0, cl1, cl2, cl3, cl4, cl5, cl6, cl7, cl8, cl9, bl_up2_at, bl_up2_nk, bl_up2_nx] at h11
      exact absurd trivial h11
    · try simp (disch := omega) only [bl_pv, cl0, cl1, cl2, cl3, cl4, cl5, cl6, cl7, cl8, cl9, bl_up2_at, bl_up2_nk, bl_up2_nx] at h11
      first
      | (exfalso; first | omega | exact h11 trivial)
      | (refine ⟨rfl, rfl, km, (Nat.le_of_ble_eq_true rfl), (0, 0), Nat.le_of_ble_eq_true rfl, Nat.le_of_ble_eq_true rfl, bl_MC_mono (c_Model_badT (d := d + 1) km bl_up2_at (by decide) (by decide)) (fun o20 σ20 q20 => ?_)⟩
         try dsimp only [bl_pv] at q20
         obtain ⟨rfl, rfl⟩ := q20
         refine bl_go oX11_step 80 [26] rfl ?_
         refine ⟨fun h23 => ?_, fun h23 => ?_⟩
         · try simp (disch := omega) only [bl_pv, cl0, cl1, cl2, cl3, cl4, cl5, cl6, cl7, cl8, cl9, bl_up2_at, bl_up2_nk, bl_up2_nx] at h23
           first
           | (exfalso; first | omega | exact h23 trivial)
           | (refine ⟨(fun h => by cases h), ?_⟩
              try show _ ∧ _
              try dsimp only [bl_pv]
              rw [bl_up2_up2]; exact Or.inl ⟨hz, rfl, rfl⟩)
         · try simp (disch := omega) only [bl_pv, cl0, cl1, cl2, cl3, cl4, cl5, cl6, cl7, cl8, cl9, bl_up2_at, bl_up2_nk, bl_up2_nx] at h23
           first
           | (exfalso; first | omega | exact h23 trivial)
           | (try dsimp only [bl_pv]
              exact absurd h23 (by decide)))
end MODEL12
