/-! ===== Butter ===== -/
/-- one unit -/
def wu (tf : Nat → Nat) (dg : Nat → Int32) (k : Nat) (w : Int32) (u : Nat) : Int32 := if k = 6 then w + (10 * nI (tf 4) - w) / 5 else w + (10 * dg (u / 12 % 24) - w) / 10
/-- n units, and whether it ran -/
def wl (tf : Nat → Nat) (dg : Nat → Int32) (k : Nat) (w : Int32) (u : Nat) : Nat → Int32 × Bool
  | 0 => (w, false)
  | n + 1 => (wu tf dg k (wl tf dg k w u n).1 (u + n), (wl tf dg k w u n).2 || decide (10 * nI (tf 6) < wu tf dg k (wl tf dg k w u n).1 (u + n)))
def tkw (tf : Nat → Nat) (dg : Nat → Int32) (k : Nat) (w : Int32) (u n : Nat) : Int32 := if k = 0 then (wl tf dg k w u n).1 + nI (tf 7) else (wl tf dg k w u n).1
def tkr (tf : Nat → Nat) (dg : Nat → Int32) (k : Nat) (w : Int32) (u n : Nat) : Bool := (wl tf dg k w u n).2 || decide (10 * nI (tf 6) < tkw tf dg k w u n)
def tkb (tf : Nat → Nat) (k : Nat) (w : Int32) : Bool := decide (k = 0 ∧ w < 10 * nI (tf 5))
/-- a kitchen's object, its rows and what they hold -/
def kiS (R : Nat → Nat → Option Nat) (K N : Nat → Nat) (a : Nat) : Prop := a < 900 ∧ K a = 3 ∧ R a 0 = some (a + 1) ∧ R a 1 = some (a + 2) ∧ R a 2 = some (a + 3) ∧ (K (a + 1) = 20 ∧ N (a + 1) = 9) ∧ (K (a + 2) = 20 ∧ N (a + 2) = 24) ∧ (K (a + 3) = 20 ∧ N (a + 3) = 24)
def kiC (I : Nat → Nat → Int32) (a : Nat) (tf : Nat → Nat) (dg : Nat → Int32) : Prop := (∀ k, k < 9 → I (a + 1) k = nI (tf k)) ∧ ∀ h, h < 24 → I (a + 3) h = dg h
section BUTTER
variable {G : bl_G} {l : Launch} {d q a p r β : Nat} {I : Nat → Nat → Int32} {J : Nat → Nat → Int64} {R : Nat → Nat → Option Nat} {K N : Nat → Nat} {tf : Nat → Nat} {dg : Nat → Int32}
theorem c_Kitchen_roomTenths' {u : Nat} {x : Int32} (hx : x = nI u) (hu : u < 2147483648) (ha : kiS R K N a) (hC : kiC I a tf dg) : bl_MC G l d mX2_roomTenths [.ref a, .int x] (I, J, R, K, N) (0, 0) (fun o σ' => o = .inl (some (.int (10 * dg (u / 12 % 24)))) ∧ σ' = (I, J, R, K, N)) := by
  subst hx
  obtain ⟨-, ka, -, -, ra_2, -, -, ⟨kg, ng⟩⟩ := ha
  rw [← hC.2 (u / 12 % 24) (by omega)]
  exact c_Kitchen_roomTenths hu ka ra_2 kg ng
theorem c_Butter_start {u : Nat} {x : Int32} (kq : K q = 2) (ha : kiS R K N a) (hC : kiC I a tf dg) (hqa : q ≠ a ∧ q ≠ a + 1 ∧ q ≠ a + 3) (hx : x = nI u) : bl_MC G l d mX1_start [.ref q, .ref a, .int x] (I, J, R, K, N) (0, 0) (fun o σ' => o = .inl none ∧ ∃ I', σ' = (I', J, bl_up2 R q 0 (some a), K, N) ∧ (∀ y, y ≠ q → I' y = I y) ∧ I' q 1 = nI u ∧ I' q 2 = 10 * nI (tf 4)) := by
  obtain ⟨-, ka, ra_0, -, ra_2, ⟨kav, nav⟩, -, -⟩ := ha
  have e4 := hC.1 4 (by omega)
  subst hx
  refine bl_MC_intro (by decide +kernel) rfl (Nat.le_of_ble_eq_true rfl) ?_
  refine bl_go oX1_start 80 [] rfl ?_
  refine ⟨kq, Or.inl ⟨rfl, Or.inl ⟨_, rfl⟩⟩, (fun h => by cases h), kq, Or.inr (Or.inr ⟨rfl, rfl, _, rfl⟩), (fun h => by cases h), ?_⟩
  refine ⟨ka, _, bl_vs ((bl_up2_nx (fun e => hqa.1 e.symm)).trans ra_0), Or.inl ⟨kav, (by show vp_in _ (N _); rw [nav]; exact vp_in_nI (n := 4) (by omega) (by omega)), kq, Or.inr (Or.inr ⟨rfl, rfl, _, rfl⟩), (fun h => by cases h), ?_⟩⟩
  show _ ∧ _
  dsimp only [bl_pv]
  refine ⟨rfl, _, rfl, fun y hy => ?_, ?_, ?_⟩
  · rw [bl_up2_ne hy, bl_up2_ne hy]
  · rw [bl_up2_nk (by omega), bl_up2_at]
  · rw [bl_up2_at, bl_up2_ne (by omega)]
    show 10 * I (a + 1) 4 = _
    rw [e4]
theorem c_Butter_take {k n u : Nat} {w x y : Int32} (kq : K q = 2) (rq_0 : R q 0 = some a) (ha : kiS R K N a) (hC : kiC I a tf dg) (hqa : q ≠ a ∧ q ≠ a + 1 ∧ q ≠ a + 3) (hx : x = nI k) (hy : y = nI n) (hk : k ≤ 7) (hn : n ≤ 36) (hu : u < 2000) (hIu : I q 1 = nI u) (hIw : I q 2 = w) : bl_MC G l (d + 1) mX1_take [.ref q, .int x, .int y] (I, J, R, K, N) (0, 0) (fun o σ' => o = .inl none ∧ ∃ I', σ' = (I', J, R, K, N) ∧ (∀ y, y ≠ q → I' y = I y) ∧ I' q 1 = nI (u + n) ∧ I' q 2 = tkw tf dg k w u n ∧ I' q 3 = bI (tkb tf k w) ∧ I' q 4 = bI (tkr tf dg k w u n)) := by
  have ha' := ha
  obtain ⟨han, ka, ra_0, -, ra_2, ⟨kav, nav⟩, -, ⟨kag, nag⟩⟩ := ha
  have e4 := hC.1 4 (by omega)
  have e5 := hC.1 5 (by omega)
  have e6 := hC.1 6 (by omega)
  have e7 := hC.1 7 (by omega)
  subst hx hy
  refine bl_MC_intro (by decide +kernel) rfl (Nat.le_of_ble_eq_true rfl) ?_
  have L : ∀ i, i ≤ n → ∀ x z I1, x = nI i → z = 10 * nI (tf 6) → (∀ y, y ≠ q → I1 y = I y) → I1 q 1 = nI (u + i) → I1 q 2 = (wl tf dg k w u i).1 → I1 q 3 = bI (tkb tf k w) → I1 q 4 = bI (wl tf dg k w u i).2 → bl_WP G l (d + 1) mX1_take 51 [(5, .int x), (4, .int z), (3, .ref (a + 1)), (0, .ref q), (1, .int (nI k)), (2, .int (nI n))] [] (I1, J, R, K, N) (0, 0) (fun o σ' => o = .inl none ∧ ∃ I', σ' = (I', J, R, K, N) ∧ (∀ y, y ≠ q → I' y = I y) ∧ I' q 1 = nI (u + n) ∧ I' q 2 = tkw tf dg k w u n ∧ I' q 3 = bI (tkb tf k w) ∧ I' q 4 = bI (tkr tf dg k w u n)) := by
    refine bl_for n ?_ (fun i hi ih => ?_)
    · intro x z I1 hx hz fr q1 q2 q3 q4; subst hx
      refine bl_go oX1_take 80 [51] rfl ?_
      refine ⟨fun h54 => ?_, fun h54 => ?_⟩
      · try simp (disch := omega) only [zI_n, zI_o, zI_lit, zI_neg, zI_add, zI_sub, zI_mul, zI_lt, zI_le, zI_eq, zI_clamp, zI_in, zI_div, zI_rem, lg_lt0, lg_gt0, lg_eq0, lg_le0, lg_ge0, Int.toNat_natCast, ge_iff_le, gt_iff_lt, List.length_cons, List.length_nil, bl_up2_at, bl_up2_nk, bl_up2_nx] at h54
        refine ⟨fun h147 => ?_, fun h147 => ?_⟩
        · try simp (disch := omega) only [zI_n, zI_o, zI_lit, zI_neg, zI_add, zI_sub, zI_mul, zI_lt, zI_le, zI_eq, zI_clamp, zI_in, zI_div, zI_rem, lg_lt0, lg_gt0, lg_eq0, lg_le0, lg_ge0, Int.toNat_natCast, ge_iff_le, gt_iff_lt, List.length_cons, List.length_nil, bl_up2_at, bl_up2_nk, bl_up2_nx] at h147
          refine ⟨rfl, kq, kq, fun h174 => ?_, fun h174 => ?_⟩
          · try simp (disch := omega) only [bl_pv, cl0, cl1, cl2, cl3, cl4, cl5, cl6, cl7, cl8, cl9, bl_up2_at, bl_up2_nk, bl_up2_nx] at h174
            refine ⟨kq, Or.inr (Or.inr ⟨rfl, rfl, _, rfl⟩), (by intro _; refine bl_b01 ?_; simp (disch := omega) only [bl_pv, cl0, cl1, cl2, cl3, cl4, cl5, cl6, cl7, cl8, cl9, bl_up2_at, bl_up2_nk, bl_up2_nx]; rw [q4]; first | (rw [bI_or1]; exact bI_01 _) | (rw [bI_or0]; exact bI_01 _)), ?_⟩
            try show _ ∧ _
            try dsimp only [bl_pv]
            have hkw : tkw tf dg k w u n = bl_up2 I1 q 2 (tkw tf dg k w u n) q 2 := bl_up2_at.symm
            have e7' : I1 (a + 1) 7 = nI (tf 7) := by rw [fr _ (by omega)]; exact e7
            refine ⟨rfl, _, rfl, fun y hy => ?_, ?_, ?_, ?_, ?_⟩
            · simp only [bl_up2_ne hy]; exact fr y hy
            · simp (disch := omega) only [bl_pv, cl0, cl1, cl2, cl3, cl4, cl5, cl6, cl7, cl8, cl9, bl_up2_at, bl_up2_nk, bl_up2_nx]; exact q1
            · simp (disch := omega) only [bl_pv, cl0, cl1, cl2, cl3, cl4, cl5, cl6, cl7, cl8, cl9, bl_up2_at, bl_up2_nk, bl_up2_nx]
              unfold tkw
              first
              | (rw [if_pos (by omega), q2, e7'])
              | (rw [if_neg (by omega), q2])
            · simp (disch := omega) only [bl_pv, cl0, cl1, cl2, cl3, cl4, cl5, cl6, cl7, cl8, cl9, bl_up2_at, bl_up2_nk, bl_up2_nx]; exact q3
            · simp (disch := omega) only [bl_pv, cl0, cl1, cl2, cl3, cl4, cl5, cl6, cl7, cl8, cl9, bl_up2_at, bl_up2_nk, bl_up2_nx]
              unfold tkr tkw
              first
              | (rw [q2, e7', hz] at h174
                 rw [if_pos (by omega), q4]
                 first
                 | rw [bI_or0, decide_eq_false (Int32.not_lt.mpr h174), Bool.or_false]
                 | rw [bI_or1, decide_eq_true (Int32.not_le.mp h174), Bool.or_true])
              | (rw [q2, hz] at h174
                 rw [if_neg (by omega), q4]
                 first
                 | rw [bI_or0, decide_eq_false (Int32.not_lt.mpr h174), Bool.or_false]
                 | rw [bI_or1, decide_eq_true (Int32.not_le.mp h174), Bool.or_true])
          · try simp (disch := omega) only [bl_pv, cl0, cl1, cl2, cl3, cl4, cl5, cl6, cl7, cl8, cl9, bl_up2_at, bl_up2_nk, bl_up2_nx] at h174
            refine ⟨kq, Or.inr (Or.inr ⟨rfl, rfl, _, rfl⟩), (by intro _; refine bl_b01 ?_; simp (disch := omega) only [bl_pv, cl0, cl1, cl2, cl3, cl4, cl5, cl6, cl7, cl8, cl9, bl_up2_at, bl_up2_nk, bl_up2_nx]; rw [q4]; first | (rw [bI_or1]; exact bI_01 _) | (rw [bI_or0]; exact bI_01 _)), ?_⟩
            try show _ ∧ _
            try dsimp only [bl_pv]
            have hkw : tkw tf dg k w u n = bl_up2 I1 q 2 (tkw tf dg k w u n) q 2 := bl_up2_at.symm
            have e7' : I1 (a + 1) 7 = nI (tf 7) := by rw [fr _ (by omega)]; exact e7
            refine ⟨rfl, _, rfl, fun y hy => ?_, ?_, ?_, ?_, ?_⟩
            · simp only [bl_up2_ne hy]; exact fr y hy
            · simp (disch := omega) only [bl_pv, cl0, cl1, cl2, cl3, cl4, cl5, cl6, cl7, cl8, cl9, bl_up2_at, bl_up2_nk, bl_up2_nx]; exact q1
            · simp (disch := omega) only [bl_pv, cl0, cl1, cl2, cl3, cl4, cl5, cl6, cl7, cl8, cl9, bl_up2_at, bl_up2_nk, bl_up2_nx]
              unfold tkw
              first
              | (rw [if_pos (by omega), q2, e7'])
              | (rw [if_neg (by omega), q2])
            · simp (disch := omega) only [bl_pv, cl0, cl1, cl2, cl3, cl4, cl5, cl6, cl7, cl8, cl9, bl_up2_at, bl_up2_nk, bl_up2_nx]; exact q3
            · simp (disch := omega) only [bl_pv, cl0, cl1, cl2, cl3, cl4, cl5, cl6, cl7, cl8, cl9, bl_up2_at, bl_up2_nk, bl_up2_nx]
              unfold tkr tkw
              first
              | (rw [q2, e7', hz] at h174
                 rw [if_pos (by omega), q4]
                 first
                 | rw [bI_or0, decide_eq_false (Int32.not_lt.mpr h174), Bool.or_false]
                 | rw [bI_or1, decide_eq_true (Int32.not_le.mp h174), Bool.or_true])
              | (rw [q2, hz] at h174
                 rw [if_neg (by omega), q4]
                 first
                 | rw [bI_or0, decide_eq_false (Int32.not_lt.mpr h174), Bool.or_false]
                 | rw [bI_or1, decide_eq_true (Int32.not_le.mp h174), Bool.or_true])
        · try simp (disch := omega) only [zI_n, zI_o, zI_lit, zI_neg, zI_add, zI_sub, zI_mul, zI_lt, zI_le, zI_eq, zI_clamp, zI_in, zI_div, zI_rem, lg_lt0, lg_gt0, lg_eq0, lg_le0, lg_ge0, Int.toNat_natCast, ge_iff_le, gt_iff_lt, List.length_cons, List.length_nil, bl_up2_at, bl_up2_nk, bl_up2_nx] at h147
          refine ⟨rfl, kq, Or.inl ⟨kav, (by first | exact (by rw [nav]; exact vp_in_nI (by omega) (by omega)) | ((try dsimp only [bl_pv]); show vp_in _ (N _); rw [nav]; simp (disch := omega) only [zI_n, zI_o, zI_lit, zI_neg, zI_add, zI_sub, zI_mul, zI_lt, zI_le, zI_eq, zI_clamp, zI_in, zI_div, zI_rem, lg_lt0, lg_gt0, lg_eq0, lg_le0, lg_ge0, Int.toNat_natCast, ge_iff_le, gt_iff_lt, List.length_cons, List.length_nil, bl_up2_at, bl_up2_nk, bl_up2_nx] <;> omega)), kq, Or.inr (Or.inr ⟨rfl, rfl, _, rfl⟩), (fun h => by cases h), rfl, kq, kq, fun h174 => ?_, fun h174 => ?_⟩⟩
          · try simp (disch := omega) only [bl_pv, cl0, cl1, cl2, cl3, cl4, cl5, cl6, cl7, cl8, cl9, bl_up2_at, bl_up2_nk, bl_up2_nx] at h174
            refine ⟨kq, Or.inr (Or.inr ⟨rfl, rfl, _, rfl⟩), (by intro _; refine bl_b01 ?_; simp (disch := omega) only [bl_pv, cl0, cl1, cl2, cl3, cl4, cl5, cl6, cl7, cl8, cl9, bl_up2_at, bl_up2_nk, bl_up2_nx]; rw [q4]; first | (rw [bI_or1]; exact bI_01 _) | (rw [bI_or0]; exact bI_01 _)), ?_⟩
            try show _ ∧ _
            try dsimp only [bl_pv]
            have hkw : tkw tf dg k w u n = bl_up2 I1 q 2 (tkw tf dg k w u n) q 2 := bl_up2_at.symm
            have e7' : I1 (a + 1) 7 = nI (tf 7) := by rw [fr _ (by omega)]; exact e7
            refine ⟨rfl, _, rfl, fun y hy => ?_, ?_, ?_, ?_, ?_⟩
            · simp only [bl_up2_ne hy]; exact fr y hy
            · simp (disch := omega) only [bl_pv, cl0, cl1, cl2, cl3, cl4, cl5, cl6, cl7, cl8, cl9, bl_up2_at, bl_up2_nk, bl_up2_nx]; exact q1
            · simp (disch := omega) only [bl_pv, cl0, cl1, cl2, cl3, cl4, cl5, cl6, cl7, cl8, cl9, bl_up2_at, bl_up2_nk, bl_up2_nx]
              unfold tkw
              first
              | (rw [if_pos (by omega), q2, e7'])
              | (rw [if_neg (by omega), q2])
            · simp (disch := omega) only [bl_pv, cl0, cl1, cl2, cl3, cl4, cl5, cl6, cl7, cl8, cl9, bl_up2_at, bl_up2_nk, bl_up2_nx]; exact q3
            · simp (disch := omega) only [bl_pv, cl0, cl1, cl2, cl3, cl4, cl5, cl6, cl7, cl8, cl9, bl_up2_at, bl_up2_nk, bl_up2_nx]
              unfold tkr tkw
              first
              | (rw [q2, e7', hz] at h174
                 rw [if_pos (by omega), q4]
                 first
                 | rw [bI_or0, decide_eq_false (Int32.not_lt.mpr h174), Bool.or_false]
                 | rw [bI_or1, decide_eq_true (Int32.not_le.mp h174), Bool.or_true])
              | (rw [q2, hz] at h174
                 rw [if_neg (by omega), q4]
                 first
                 | rw [bI_or0, decide_eq_false (Int32.not_lt.mpr h174), Bool.or_false]
                 | rw [bI_or1, decide_eq_true (Int32.not_le.mp h174), Bool.or_true])
          · try simp (disch := omega) only [bl_pv, cl0, cl1, cl2, cl3, cl4, cl5, cl6, cl7, cl8, cl9, bl_up2_at, bl_up2_nk, bl_up2_nx] at h174
            refine ⟨kq, Or.inr (Or.inr ⟨rfl, rfl, _, rfl⟩), (by intro _; refine bl_b01 ?_; simp (disch := omega) only [bl_pv, cl0, cl1, cl2, cl3, cl4, cl5, cl6, cl7, cl8, cl9, bl_up2_at, bl_up2_nk, bl_up2_nx]; rw [q4]; first | (rw [bI_or1]; exact bI_01 _) | (rw [bI_or0]; exact bI_01 _)), ?_⟩
            try show _ ∧ _
            try dsimp only [bl_pv]
            have hkw : tkw tf dg k w u n = bl_up2 I1 q 2 (tkw tf dg k w u n) q 2 := bl_up2_at.symm
            have e7' : I1 (a + 1) 7 = nI (tf 7) := by rw [fr _ (by omega)]; exact e7
            refine ⟨rfl, _, rfl, fun y hy => ?_, ?_, ?_, ?_, ?_⟩
            · simp only [bl_up2_ne hy]; exact fr y hy
            · simp (disch := omega) only [bl_pv, cl0, cl1, cl2, cl3, cl4, cl5, cl6, cl7, cl8, cl9, bl_up2_at, bl_up2_nk, bl_up2_nx]; exact q1
            · simp (disch := omega) only [bl_pv, cl0, cl1, cl2, cl3, cl4, cl5, cl6, cl7, cl8, cl9, bl_up2_at, bl_up2_nk, bl_up2_nx]
              unfold tkw
              first
              | (rw [if_pos (by omega), q2, e7'])
              | (rw [if_neg (by omega), q2])
            · simp (disch := omega) only [bl_pv, cl0, cl1, cl2, cl3, cl4, cl5, cl6, cl7, cl8, cl9, bl_up2_at, bl_up2_nk, bl_up2_nx]; exact q3
            · simp (disch := omega) only [bl_pv, cl0, cl1, cl2, cl3, cl4, cl5, cl6, cl7, cl8, cl9, bl_up2_at, bl_up2_nk, bl_up2_nx]
              unfold tkr tkw
              first
              | (rw [q2, e7', hz] at h174
                 rw [if_pos (by omega), q4]
                 first
                 | rw [bI_or0, decide_eq_false (Int32.not_lt.mpr h174), Bool.or_false]
                 | rw [bI_or1, decide_eq_true (Int32.not_le.mp h174), Bool.or_true])
              | (rw [q2, hz] at h174
                 rw [if_neg (by omega), q4]
                 first
                 | rw [bI_or0, decide_eq_false (Int32.not_lt.mpr h174), Bool.or_false]
                 | rw [bI_or1, decide_eq_true (Int32.not_le.mp h174), Bool.or_true])
      · try simp (disch := omega) only [zI_n, zI_o, zI_lit, zI_neg, zI_add, zI_sub, zI_mul, zI_lt, zI_le, zI_eq, zI_clamp, zI_in, zI_div, zI_rem, lg_lt0, lg_gt0, lg_eq0, lg_le0, lg_ge0, Int.toNat_natCast, ge_iff_le, gt_iff_lt, List.length_cons, List.length_nil, bl_up2_at, bl_up2_nk, bl_up2_nx] at h54
        exfalso; omega
    · intro x z I1 hx hz fr q1 q2 q3 q4; subst hx
      have hC1 : kiC I1 a tf dg := ⟨fun j hj => by rw [fr _ (by omega)]; exact hC.1 j hj, fun j hj => by rw [fr _ (by omega)]; exact hC.2 j hj⟩
      have e4' := hC1.1 4 (by omega)
      refine bl_go oX1_take 80 [51] rfl ?_
      refine ⟨fun h54 => ?_, fun h54 => ?_⟩
      · try simp (disch := omega) only [zI_n, zI_o, zI_lit, zI_neg, zI_add, zI_sub, zI_mul, zI_lt, zI_le, zI_eq, zI_clamp, zI_in, zI_div, zI_rem, lg_lt0, lg_gt0, lg_eq0, lg_le0, lg_ge0, Int.toNat_natCast, ge_iff_le, gt_iff_lt, List.length_cons, List.length_nil, bl_up2_at, bl_up2_nk, bl_up2_nx] at h54
        exfalso; omega
      · try simp (disch := omega) only [zI_n, zI_o, zI_lit, zI_neg, zI_add, zI_sub, zI_mul, zI_lt, zI_le, zI_eq, zI_clamp, zI_in, zI_div, zI_rem, lg_lt0, lg_gt0, lg_eq0, lg_le0, lg_ge0, Int.toNat_natCast, ge_iff_le, gt_iff_lt, List.length_cons, List.length_nil, bl_up2_at, bl_up2_nk, bl_up2_nx] at h54
        refine ⟨rfl, kq, fun h65 => ?_, fun h65 => ?_⟩
        · try simp (disch := omega) only [zI_n, zI_o, zI_lit, zI_neg, zI_add, zI_sub, zI_mul, zI_lt, zI_le, zI_eq, zI_clamp, zI_in, zI_div, zI_rem, lg_lt0, lg_gt0, lg_eq0, lg_le0, lg_ge0, Int.toNat_natCast, ge_iff_le, gt_iff_lt, List.length_cons, List.length_nil, bl_up2_at, bl_up2_nk, bl_up2_nx] at h65
          refine ⟨kq, _, bl_vs rq_0, kq, rfl, rfl, ka, (Nat.le_of_ble_eq_true rfl), (0, 0), Nat.le_refl _, Nat.le_refl _, bl_MC_mono (c_Kitchen_roomTenths' (u := u + i) q1 (by omega) ha' hC1) (fun o92 σ92 q92 => ?_)⟩
          try dsimp only [bl_pv] at q92
          obtain ⟨rfl, rfl⟩ := q92
          refine bl_go oX1_take 80 [51] rfl ?_
          refine ⟨kq, (by first | decide | (simp (disch := omega) only [zI_n, zI_o, zI_lit, zI_neg, zI_add, zI_sub, zI_mul, zI_lt, zI_le, zI_eq, zI_clamp, zI_in, zI_div, zI_rem, lg_lt0, lg_gt0, lg_eq0, lg_le0, lg_ge0, Int.toNat_natCast, ge_iff_le, gt_iff_lt, List.length_cons, List.length_nil, bl_up2_at, bl_up2_nk, bl_up2_nx] <;> omega)), kq, Or.inr (Or.inr ⟨rfl, rfl, _, rfl⟩), (fun h => by cases h), rfl, kq, kq, Or.inr (Or.inr ⟨rfl, rfl, _, rfl⟩), (fun h => by cases h), rfl, kq, kq, fun h128 => ?_, fun h128 => ?_⟩
          · try simp (disch := omega) only [bl_pv, cl0, cl1, cl2, cl3, cl4, cl5, cl6, cl7, cl8, cl9, bl_up2_at, bl_up2_nk, bl_up2_nx] at h128
            refine ⟨kq, Or.inr (Or.inr ⟨rfl, rfl, _, rfl⟩), (by intro _; refine bl_b01 ?_; simp (disch := omega) only [bl_pv, cl0, cl1, cl2, cl3, cl4, cl5, cl6, cl7, cl8, cl9, bl_up2_at, bl_up2_nk, bl_up2_nx]; rw [q4]; first | (rw [bI_or1]; exact bI_01 _) | (rw [bI_or0]; exact bI_01 _)), ?_⟩
            try dsimp only [bl_pv]
            have ew : wu tf dg k (wl tf dg k w u i).1 (u + i) = (if k = 6 then (wl tf dg k w u i).1 + (10 * nI (tf 4) - (wl tf dg k w u i).1) / 5 else (wl tf dg k w u i).1 + (10 * dg ((u + i) / 12 % 24) - (wl tf dg k w u i).1) / 10) := rfl
            refine ih _ _ _ (nI_1 _) hz (fun y hy => ?_) ?_ ?_ ?_ ?_
            · simp only [bl_up2_ne hy]; exact fr y hy
            · simp (disch := omega) only [bl_pv, cl0, cl1, cl2, cl3, cl4, cl5, cl6, cl7, cl8, cl9, bl_up2_at, bl_up2_nk, bl_up2_nx]; rw [q1, nI_1, Nat.add_assoc]
            · simp (disch := omega) only [bl_pv, cl0, cl1, cl2, cl3, cl4, cl5, cl6, cl7, cl8, cl9, bl_up2_at, bl_up2_nk, bl_up2_nx]
              show _ = wu tf dg k (wl tf dg k w u i).1 (u + i)
              rw [ew]
              first
              | (rw [if_pos (by omega), q2, e4'])
              | (rw [if_neg (by omega), q2])
            · simp (disch := omega) only [bl_pv, cl0, cl1, cl2, cl3, cl4, cl5, cl6, cl7, cl8, cl9, bl_up2_at, bl_up2_nk, bl_up2_nx]; exact q3
            · simp (disch := omega) only [bl_pv, cl0, cl1, cl2, cl3, cl4, cl5, cl6, cl7, cl8, cl9, bl_up2_at, bl_up2_nk, bl_up2_nx]
              show _ = bI ((wl tf dg k w u i).2 || decide (10 * nI (tf 6) < wu tf dg k (wl tf dg k w u i).1 (u + i)))
              first
              | (rw [q2, e4', hz] at h128
                 rw [ew, if_pos (by omega), q4]
                 first
                 | rw [bI_or0, decide_eq_false (Int32.not_lt.mpr h128), Bool.or_false]
                 | rw [bI_or1, decide_eq_true (Int32.not_le.mp h128), Bool.or_true])
              | (rw [q2, hz] at h128
                 rw [ew, if_neg (by omega), q4]
                 first
                 | rw [bI_or0, decide_eq_false (Int32.not_lt.mpr h128), Bool.or_false]
                 | rw [bI_or1, decide_eq_true (Int32.not_le.mp h128), Bool.or_true])
          · try simp (disch := omega) only [bl_pv, cl0, cl1, cl2, cl3, cl4, cl5, cl6, cl7, cl8, cl9, bl_up2_at, bl_up2_nk, bl_up2_nx] at h128
            refine ⟨kq, Or.inr (Or.inr ⟨rfl, rfl, _, rfl⟩), (by intro _; refine bl_b01 ?_; simp (disch := omega) only [bl_pv, cl0, cl1, cl2, cl3, cl4, cl5, cl6, cl7, cl8, cl9, bl_up2_at, bl_up2_nk, bl_up2_nx]; rw [q4]; first | (rw [bI_or1]; exact bI_01 _) | (rw [bI_or0]; exact bI_01 _)), ?_⟩
            try dsimp only [bl_pv]
            have ew : wu tf dg k (wl tf dg k w u i).1 (u + i) = (if k = 6 then (wl tf dg k w u i).1 + (10 * nI (tf 4) - (wl tf dg k w u i).1) / 5 else (wl tf dg k w u i).1 + (10 * dg ((u + i) / 12 % 24) - (wl tf dg k w u i).1) / 10) := rfl
            refine ih _ _ _ (nI_1 _) hz (fun y hy => ?_) ?_ ?_ ?_ ?_
            · simp only [bl_up2_ne hy]; exact fr y hy
            · simp (disch := omega) only [bl_pv, cl0, cl1, cl2, cl3, cl4, cl5, cl6, cl7, cl8, cl9, bl_up2_at, bl_up2_nk, bl_up2_nx]; rw [q1, nI_1, Nat.add_assoc]
            · simp (disch := omega) only [bl_pv, cl0, cl1, cl2, cl3, cl4, cl5, cl6, cl7, cl8, cl9, bl_up2_at, bl_up2_nk, bl_up2_nx]
              show _ = wu tf dg k (wl tf dg k w u i).1 (u + i)
              rw [ew]
              first
              | (rw [if_pos (by omega), q2, e4'])
              | (rw [if_neg (by omega), q2])
            · simp (disch := omega) only [bl_pv, cl0, cl1, cl2, cl3, cl4, cl5, cl6, cl7, cl8, cl9, bl_up2_at, bl_up2_nk, bl_up2_nx]; exact q3
            · simp (disch := omega) only [bl_pv, cl0, cl1, cl2, cl3, cl4, cl5, cl6, cl7, cl8, cl9, bl_up2_at, bl_up2_nk, bl_up2_nx]
              show _ = bI ((wl tf dg k w u i).2 || decide (10 * nI (tf 6) < wu tf dg k (wl tf dg k w u i).1 (u + i)))
              first
              | (rw [q2, e4', hz] at h128
                 rw [ew, if_pos (by omega), q4]
                 first
                 | rw [bI_or0, decide_eq_false (Int32.not_lt.mpr h128), Bool.or_false]
                 | rw [bI_or1, decide_eq_true (Int32.not_le.mp h128), Bool.or_true])
              | (rw [q2, hz] at h128
                 rw [ew, if_neg (by omega), q4]
                 first
                 | rw [bI_or0, decide_eq_false (Int32.not_lt.mpr h128), Bool.or_false]
                 | rw [bI_or1, decide_eq_true (Int32.not_le.mp h128), Bool.or_true])
        · try simp (disch := omega) only [zI_n, zI_o, zI_lit, zI_neg, zI_add, zI_sub, zI_mul, zI_lt, zI_le, zI_eq, zI_clamp, zI_in, zI_div, zI_rem, lg_lt0, lg_gt0, lg_eq0, lg_le0, lg_ge0, Int.toNat_natCast, ge_iff_le, gt_iff_lt, List.length_cons, List.length_nil, bl_up2_at, bl_up2_nk, bl_up2_nx] at h65
          refine Or.inl ⟨kav, (by first | exact (by rw [nav]; exact vp_in_nI (by omega) (by omega)) | ((try dsimp only [bl_pv]); show vp_in _ (N _); rw [nav]; simp (disch := omega) only [zI_n, zI_o, zI_lit, zI_neg, zI_add, zI_sub, zI_mul, zI_lt, zI_le, zI_eq, zI_clamp, zI_in, zI_div, zI_rem, lg_lt0, lg_gt0, lg_eq0, lg_le0, lg_ge0, Int.toNat_natCast, ge_iff_le, gt_iff_lt, List.length_cons, List.length_nil, bl_up2_at, bl_up2_nk, bl_up2_nx] <;> omega)), kq, (by first | decide | (simp (disch := omega) only [zI_n, zI_o, zI_lit, zI_neg, zI_add, zI_sub, zI_mul, zI_lt, zI_le, zI_eq, zI_clamp, zI_in, zI_div, zI_rem, lg_lt0, lg_gt0, lg_eq0, lg_le0, lg_ge0, Int.toNat_natCast, ge_iff_le, gt_iff_lt, List.length_cons, List.length_nil, bl_up2_at, bl_up2_nk, bl_up2_nx] <;> omega)), kq, Or.inr (Or.inr ⟨rfl, rfl, _, rfl⟩), (fun h => by cases h), rfl, kq, kq, Or.inr (Or.inr ⟨rfl, rfl, _, rfl⟩), (fun h => by cases h), rfl, kq, kq, fun h128 => ?_, fun h128 => ?_⟩
          · try simp (disch := omega) only [bl_pv, cl0, cl1, cl2, cl3, cl4, cl5, cl6, cl7, cl8, cl9, bl_up2_at, bl_up2_nk, bl_up2_nx] at h128
            refine ⟨kq, Or.inr (Or.inr ⟨rfl, rfl, _, rfl⟩), (by intro _; refine bl_b01 ?_; simp (disch := omega) only [bl_pv, cl0, cl1, cl2, cl3, cl4, cl5, cl6, cl7, cl8, cl9, bl_up2_at, bl_up2_nk, bl_up2_nx]; rw [q4]; first | (rw [bI_or1]; exact bI_01 _) | (rw [bI_or0]; exact bI_01 _)), ?_⟩
            try dsimp only [bl_pv]
            have ew : wu tf dg k (wl tf dg k w u i).1 (u + i) = (if k = 6 then (wl tf dg k w u i).1 + (10 * nI (tf 4) - (wl tf dg k w u i).1) / 5 else (wl tf dg k w u i).1 + (10 * dg ((u + i) / 12 % 24) - (wl tf dg k w u i).1) / 10) := rfl
            refine ih _ _ _ (nI_1 _) hz (fun y hy => ?_) ?_ ?_ ?_ ?_
            · simp only [bl_up2_ne hy]; exact fr y hy
            · simp (disch := omega) only [bl_pv, cl0, cl1, cl2, cl3, cl4, cl5, cl6, cl7, cl8, cl9, bl_up2_at, bl_up2_nk, bl_up2_nx]; rw [q1, nI_1, Nat.add_assoc]
            · simp (disch := omega) only [bl_pv, cl0, cl1, cl2, cl3, cl4, cl5, cl6, cl7, cl8, cl9, bl_up2_at, bl_up2_nk, bl_up2_nx]
              show _ = wu tf dg k (wl tf dg k w u i).1 (u + i)
              rw [ew]
              first
              | (rw [if_pos (by omega), q2, e4'])
              | (rw [if_neg (by omega), q2])
            · simp (disch := omega) only [bl_pv, cl0, cl1, cl2, cl3, cl4, cl5, cl6, cl7, cl8, cl9, bl_up2_at, bl_up2_nk, bl_up2_nx]; exact q3
            · simp (disch := omega) only [bl_pv, cl0, cl1, cl2, cl3, cl4, cl5, cl6, cl7, cl8, cl9, bl_up2_at, bl_up2_nk, bl_up2_nx]
              show _ = bI ((wl tf dg k w u i).2 || decide (10 * nI (tf 6) < wu tf dg k (wl tf dg k w u i).1 (u + i)))
              first
              | (rw [q2, e4', hz] at h128
                 rw [ew, if_pos (by omega), q4]
                 first
                 | rw [bI_or0, decide_eq_false (Int32.not_lt.mpr h128), Bool.or_false]
                 | rw [bI_or1, decide_eq_true (Int32.not_le.mp h128), Bool.or_true])
              | (rw [q2, hz] at h128
                 rw [ew, if_neg (by omega), q4]
                 first
                 | rw [bI_or0, decide_eq_false (Int32.not_lt.mpr h128), Bool.or_false]
                 | rw [bI_or1, decide_eq_true (Int32.not_le.mp h128), Bool.or_true])
          · try simp (disch := omega) only [bl_pv, cl0, cl1, cl2, cl3, cl4, cl5, cl6, cl7, cl8, cl9, bl_up2_at, bl_up2_nk, bl_up2_nx] at h128
            refine ⟨kq, Or.inr (Or.inr ⟨rfl, rfl, _, rfl⟩), (by intro _; refine bl_b01 ?_; simp (disch := omega) only [bl_pv, cl0, cl1, cl2, cl3, cl4, cl5, cl6, cl7, cl8, cl9, bl_up2_at, bl_up2_nk, bl_up2_nx]; rw [q4]; first | (rw [bI_or1]; exact bI_01 _) | (rw [bI_or0]; exact bI_01 _)), ?_⟩
            try dsimp only [bl_pv]
            have ew : wu tf dg k (wl tf dg k w u i).1 (u + i) = (if k = 6 then (wl tf dg k w u i).1 + (10 * nI (tf 4) - (wl tf dg k w u i).1) / 5 else (wl tf dg k w u i).1 + (10 * dg ((u + i) / 12 % 24) - (wl tf dg k w u i).1) / 10) := rfl
            refine ih _ _ _ (nI_1 _) hz (fun y hy => ?_) ?_ ?_ ?_ ?_
            · simp only [bl_up2_ne hy]; exact fr y hy
            · simp (disch := omega) only [bl_pv, cl0, cl1, cl2, cl3, cl4, cl5, cl6, cl7, cl8, cl9, bl_up2_at, bl_up2_nk, bl_up2_nx]; rw [q1, nI_1, Nat.add_assoc]
            · simp (disch := omega) only [bl_pv, cl0, cl1, cl2, cl3, cl4, cl5, cl6, cl7, cl8, cl9, bl_up2_at, bl_up2_nk, bl_up2_nx]
              show _ = wu tf dg k (wl tf dg k w u i).1 (u + i)
              rw [ew]
              first
              | (rw [if_pos (by omega), q2, e4'])
              | (rw [if_neg (by omega), q2])
            · simp (disch := omega) only [bl_pv, cl0, cl1, cl2, cl3, cl4, cl5, cl6, cl7, cl8, cl9, bl_up2_at, bl_up2_nk, bl_up2_nx]; exact q3
            · simp (disch := omega) only [bl_pv, cl0, cl1, cl2, cl3, cl4, cl5, cl6, cl7, cl8, cl9, bl_up2_at, bl_up2_nk, bl_up2_nx]
              show _ = bI ((wl tf dg k w u i).2 || decide (10 * nI (tf 6) < wu tf dg k (wl tf dg k w u i).1 (u + i)))
              first
              | (rw [q2, e4', hz] at h128
                 rw [ew, if_pos (by omega), q4]
                 first
                 | rw [bI_or0, decide_eq_false (Int32.not_lt.mpr h128), Bool.or_false]
                 | rw [bI_or1, decide_eq_true (Int32.not_le.mp h128), Bool.or_true])
              | (rw [q2, hz] at h128
                 rw [ew, if_neg (by omega), q4]
                 first
                 | rw [bI_or0, decide_eq_false (Int32.not_lt.mpr h128), Bool.or_false]
                 | rw [bI_or1, decide_eq_true (Int32.not_le.mp h128), Bool.or_true])
  refine bl_go oX1_take 80 [51] rfl ?_
  refine ⟨kq, _, bl_vs rq_0, ka, _, bl_vs ra_0, Or.inl ⟨kav, (by first | exact (by rw [nav]; exact vp_in_nI (by omega) (by omega)) | ((try dsimp only [bl_pv]); show vp_in _ (N _); rw [nav]; simp (disch := omega) only [zI_n, zI_o, zI_lit, zI_neg, zI_add, zI_sub, zI_mul, zI_lt, zI_le, zI_eq, zI_clamp, zI_in, zI_div, zI_rem, lg_lt0, lg_gt0, lg_eq0, lg_le0, lg_ge0, Int.toNat_natCast, ge_iff_le, gt_iff_lt, List.length_cons, List.length_nil, bl_up2_at, bl_up2_nk, bl_up2_nx] <;> omega)), fun h19 => ?_, fun h19 => ?_⟩⟩
  · try simp (disch := omega) only [zI_n, zI_o, zI_lit, zI_neg, zI_add, zI_sub, zI_mul, zI_lt, zI_le, zI_eq, zI_clamp, zI_in, zI_div, zI_rem, lg_lt0, lg_gt0, lg_eq0, lg_le0, lg_ge0, Int.toNat_natCast, ge_iff_le, gt_iff_lt, List.length_cons, List.length_nil, bl_up2_at, bl_up2_nk, bl_up2_nx] at h19
    refine ⟨kq, Or.inr (Or.inr ⟨rfl, rfl, _, rfl⟩), (fun _ => by first | exact Or.inl rfl | exact Or.inr rfl), kq, Or.inr (Or.inr ⟨rfl, rfl, _, rfl⟩), (fun _ => by first | exact Or.inl rfl | exact Or.inr rfl), ?_⟩
    try dsimp only [bl_pv]
    refine L 0 (by omega) _ _ _ rfl (by rw [← e6]; rfl) (fun y hy => ?_) ?_ ?_ ?_ ?_
    · simp only [bl_up2_ne hy]
    · simp (disch := omega) only [bl_pv, cl0, cl1, cl2, cl3, cl4, cl5, cl6, cl7, cl8, cl9, bl_up2_at, bl_up2_nk, bl_up2_nx]; exact hIu
    · simp (disch := omega) only [bl_pv, cl0, cl1, cl2, cl3, cl4, cl5, cl6, cl7, cl8, cl9, bl_up2_at, bl_up2_nk, bl_up2_nx]; exact hIw
    · simp (disch := omega) only [bl_pv, cl0, cl1, cl2, cl3, cl4, cl5, cl6, cl7, cl8, cl9, bl_up2_at, bl_up2_nk, bl_up2_nx]
      unfold tkb
      first
      | (rw [decide_eq_false (by omega)]; rfl)
      | (have h32' : 10 * I (a + 1) 5 ≤ I q 2 := h32
         rw [hIw, e5] at h32'
         rw [decide_eq_false (fun h => Int32.not_lt.mpr h32' h.2)]; rfl)
      | (have h32' : ¬ 10 * I (a + 1) 5 ≤ I q 2 := h32
         rw [hIw, e5] at h32'
         rw [decide_eq_true ⟨by omega, Int32.not_le.mp h32'⟩]; rfl)
    · exact bl_up2_at
  · try simp (disch := omega) only [zI_n, zI_o, zI_lit, zI_neg, zI_add, zI_sub, zI_mul, zI_lt, zI_le, zI_eq, zI_clamp, zI_in, zI_div, zI_rem, lg_lt0, lg_gt0, lg_eq0, lg_le0, lg_ge0, Int.toNat_natCast, ge_iff_le, gt_iff_lt, List.length_cons, List.length_nil, bl_up2_at, bl_up2_nk, bl_up2_nx] at h19
    refine ⟨kq, Or.inl ⟨kav, (by first | exact (by rw [nav]; exact vp_in_nI (by omega) (by omega)) | ((try dsimp only [bl_pv]); show vp_in _ (N _); rw [nav]; simp (disch := omega) only [zI_n, zI_o, zI_lit, zI_neg, zI_add, zI_sub, zI_mul, zI_lt, zI_le, zI_eq, zI_clamp, zI_in, zI_div, zI_rem, lg_lt0, lg_gt0, lg_eq0, lg_le0, lg_ge0, Int.toNat_natCast, ge_iff_le, gt_iff_lt, List.length_cons, List.length_nil, bl_up2_at, bl_up2_nk, bl_up2_nx] <;> omega)), fun h32 => ?_, fun h32 => ?_⟩⟩
    · try simp (disch := omega) only [bl_pv, cl0, cl1, cl2, cl3, cl4, cl5, cl6, cl7, cl8, cl9, bl_up2_at, bl_up2_nk, bl_up2_nx] at h32
      refine ⟨kq, Or.inr (Or.inr ⟨rfl, rfl, _, rfl⟩), (fun _ => by first | exact Or.inl rfl | exact Or.inr rfl), kq, Or.inr (Or.inr ⟨rfl, rfl, _, rfl⟩), (fun _ => by first | exact Or.inl rfl | exact Or.inr rfl), ?_⟩
      try dsimp only [bl_pv]
      refine L 0 (by omega) _ _ _ rfl (by rw [← e6]; rfl) (fun y hy => ?_) ?_ ?_ ?_ ?_
      · simp only [bl_up2_ne hy]
      · simp (disch := omega) only [bl_pv, cl0, cl1, cl2, cl3, cl4, cl5, cl6, cl7, cl8, cl9, bl_up2_at, bl_up2_nk, bl_up2_nx]; exact hIu
      · simp (disch := omega) only [bl_pv, cl0, cl1, cl2, cl3, cl4, cl5, cl6, cl7, cl8, cl9, bl_up2_at, bl_up2_nk, bl_up2_nx]; exact hIw
      · simp (disch := omega) only [bl_pv, cl0, cl1, cl2, cl3, cl4, cl5, cl6, cl7, cl8, cl9, bl_up2_at, bl_up2_nk, bl_up2_nx]
        unfold tkb
        first
        | (rw [decide_eq_false (by omega)]; rfl)
        | (have h32' : 10 * I (a + 1) 5 ≤ I q 2 := h32
           rw [hIw, e5] at h32'
           rw [decide_eq_false (fun h => Int32.not_lt.mpr h32' h.2)]; rfl)
        | (have h32' : ¬ 10 * I (a + 1) 5 ≤ I q 2 := h32
           rw [hIw, e5] at h32'
           rw [decide_eq_true ⟨by omega, Int32.not_le.mp h32'⟩]; rfl)
      · exact bl_up2_at
    · try simp (disch := omega) only [bl_pv, cl0, cl1, cl2, cl3, cl4, cl5, cl6, cl7, cl8, cl9, bl_up2_at, bl_up2_nk, bl_up2_nx] at h32
      refine ⟨kq, Or.inr (Or.inr ⟨rfl, rfl, _, rfl⟩), (fun _ => by first | exact Or.inl rfl | exact Or.inr rfl), kq, Or.inr (Or.inr ⟨rfl, rfl, _, rfl⟩), (fun _ => by first | exact Or.inl rfl | exact Or.inr rfl), ?_⟩
      try dsimp only [bl_pv]
      refine L 0 (by omega) _ _ _ rfl (by rw [← e6]; rfl) (fun y hy => ?_) ?_ ?_ ?_ ?_
      · simp only [bl_up2_ne hy]
      · simp (disch := omega) only [bl_pv, cl0, cl1, cl2, cl3, cl4, cl5, cl6, cl7, cl8, cl9, bl_up2_at, bl_up2_nk, bl_up2_nx]; exact hIu
      · simp (disch := omega) only [bl_pv, cl0, cl1, cl2, cl3, cl4, cl5, cl6, cl7, cl8, cl9, bl_up2_at, bl_up2_nk, bl_up2_nx]; exact hIw
      · simp (disch := omega) only [bl_pv, cl0, cl1, cl2, cl3, cl4, cl5, cl6, cl7, cl8, cl9, bl_up2_at, bl_up2_nk, bl_up2_nx]
        unfold tkb
        first
        | (rw [decide_eq_false (by omega)]; rfl)
        | (have h32' : 10 * I (a + 1) 5 ≤ I q 2 := h32
           rw [hIw, e5] at h32'
           rw [decide_eq_false (fun h => Int32.not_lt.mpr h32' h.2)]; rfl)
        | (have h32' : ¬ 10 * I (a + 1) 5 ≤ I q 2 := h32
           rw [hIw, e5] at h32'
           rw [decide_eq_true ⟨by omega, Int32.not_le.mp h32'⟩]; rfl)
      · exact bl_up2_at
end BUTTER
