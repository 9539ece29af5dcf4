/-! ===== ButterLeaves: slabs ===== -/
/-- answers v, or throws the E-th of L -/
def xO (L : List String) (E : Nat) (v : Value) (o : bl_Out) : Prop := (E = 0 ∧ o = .inl (some v)) ∨ ∃ e c, E = e + 1 ∧ L[e]? = some c ∧ o = .inr c
abbrev xL3 : List String := [bl_NSE, bl_IOE, bl_IAE]
section CLS3
variable {G : bl_G} {l : Launch} {d : Nat} {I I' : Nat → Nat → Int32} {J J' : Nat → Nat → Int64} {R : Nat → Nat → Option Nat} {K N : Nat → Nat} {S : cS} {h : Nat} {x y w a b : Int32}
theorem askE_kO (hO : csO S) (hE : askE S.1 x y = 0) : ∃ r k, r < S.1.2.2.1 ∧ x = nI r ∧ rn x = r ∧ k ≤ aD S.1 r ∧ y = nI k ∧ rn y = k := by
  have hc4 := hO.2.2.1
  unfold askE at hE
  by_cases hz : rb S.1.2.2.1 x = true
  · obtain ⟨r, hr, e, er⟩ := rb_n (by omega) hz
    have hle := aD_20 hO r
    rw [if_pos hz, er] at hE
    by_cases hy : rb (aD S.1 r + 1) y = true
    · obtain ⟨k, hk, e', ek⟩ := rb_n (by omega) hy
      exact ⟨r, k, hr, e, er, by omega, e', ek⟩
    · rw [if_neg hy] at hE; exact absurd hE (by decide)
  · rw [if_neg hz] at hE; exact absurd hE (by decide)
theorem askE_okO (hO : csO S) (hE : askE S.1 x y = 0) : slOk (aSl S.1 (rn x) (rn y)) ∧ slB (aSl S.1 (rn x) (rn y)) := by
  obtain ⟨r, k, hr, -, er, hk, -, ek⟩ := askE_kO hO hE
  rw [er, ek]
  exact ⟨slOk_at (slOk_first hO.1) (hO.2.2.2.1 r).2 (dnf_is _ _) k hk, slB_at hO.1 (hO.2.2.2.1 r).1 (hO.2.2.2.1 r).2 (dnf_is _ _) hk⟩
theorem c_BL_runOfF (hlt : l.stackTraces = false) (hI : clI (I, J, R, K, N) S h) (hO : csO S) (hx : ¬ rb S.1.2.2.1 x = true) : bl_MC G l (d + 4) mX10_runOf [.ref 100, .int x] (I, J, R, K, N) (1, 6) (fun o s' => o = .inr bl_NSE ∧ s' = (I, J, R, K, N)) := by
  obtain ⟨⟨kx, ⟨rx_0, rx_1, rx_2, rx_3, rx_4, rx_5, rx_6, rx_7⟩, ⟨kxr, nxr⟩, ⟨kxn, nxn⟩, kxb, ⟨kxi, nxi⟩, ⟨kxj, nxj⟩⟩, hTp, hUn, hBn, hK1, hK2, hSt, hStr⟩ := hI.1
  dsimp only at kx
  refine bl_MC_intro (by decide +kernel) rfl (Nat.le_of_ble_eq_true rfl) ?_
  refine bl_go oX10_runOf 80 [] rfl ?_
  refine ⟨rfl, rfl, kx, (Nat.le_of_ble_eq_true rfl), (1, 6), Nat.le_of_ble_eq_true rfl, Nat.le_of_ble_eq_true rfl, ?_⟩
  refine bl_MC_mono (c_BL_recipeOfF (d := d + 3) hlt hI hO.2.2.1 hx) (fun o s' q => ?_)
  obtain ⟨rfl, rfl⟩ := q
  exact Or.inl ⟨rfl, rfl, rfl⟩
theorem c_BL_slabOfT {r k : Nat} (hI : clI (I, J, R, K, N) S h) (hO : csO S) (hr : r < S.1.2.2.1) (hx : x = nI r) (hk : k ≤ aD S.1 r) (hy : y = nI k) : bl_MC G l (d + 5) mX10_slabOf [.ref 100, .int x, .int y] (I, J, R, K, N) (2, 12) (fun o s' => ∃ I' J', s' = (I', J', R, K, N) ∧ clI s' S h ∧ cfF (I, J, R, K, N) s' ∧ o = .inl (some (.ref (1000 + 21 * r + k))) ∧ slC I' J' (1000 + 21 * r + k) (aSl S.1 r k)) := by
  obtain ⟨⟨kx, ⟨rx_0, rx_1, rx_2, rx_3, rx_4, rx_5, rx_6, rx_7⟩, ⟨kxr, nxr⟩, ⟨kxn, nxn⟩, kxb, ⟨kxi, nxi⟩, ⟨kxj, nxj⟩⟩, hTp, hUn, hBn, hK1, hK2, hSt, hStr⟩ := hI.1
  have hc := hO.2.2.1
  obtain ⟨⟨m1, m2, m3, m4⟩, hrc, hro⟩ := hI.2.2.2.2.2.2.2.1 r hr
  have hD := aD_20 hO r
  have eck : (nI k).toNatClampNeg = k := nI_clamp (by omega)
  have krq := m2.2.1
  have rrq_0 := m2.2.2.1
  obtain ⟨krqs, nrqs⟩ := m2.2.2.2.2.2.1
  have hsk := (m2.2.2.2.2.2.2.2.2 k (by omega)).1
  subst hx hy
  dsimp only at kx krq rrq_0 krqs nrqs hsk
  refine bl_MC_intro (by decide +kernel) rfl (Nat.le_of_ble_eq_true rfl) ?_
  refine bl_go oX10_slabOf 80 [] rfl ?_
  refine ⟨rfl, rfl, kx, (Nat.le_of_ble_eq_true rfl), (1, 6), Nat.le_of_ble_eq_true rfl, Nat.le_of_ble_eq_true rfl, bl_MC_mono (c_BL_runOfT (d := d) (r := r) hI hO hr rfl) (fun o2 σ2 q2 => ?_)⟩
  try dsimp only [bl_pv] at q2
  obtain ⟨rfl, I1, J1, rfl, f1, f2, f3⟩ := q2
  have hro1 := (f1.2.2.2.2.2.2.2.1 r hr).2.2
  dsimp only at hro1
  obtain ⟨-, g1, g2⟩ := hro1.1.resolve_left (fun e => by rw [f3] at e; exact absurd e (by decide))
  refine bl_go oX10_slabOf 80 [] rfl ?_
  refine ⟨fun h7 => ?_, fun h7 => ?_⟩
  · try simp (disch := omega) only [bl_pv, cl0, cl1, cl2, cl3, cl4, cl5, cl6, cl7, cl8, cl9, bl_up2_at, bl_up2_nk, bl_up2_nx] at h7
    exact absurd h7 (Int32.not_lt.mpr ((nI_lek (a := 0) (by omega) (by omega)).mpr (by omega)))
  · try simp (disch := omega) only [bl_pv, cl0, cl1, cl2, cl3, cl4, cl5, cl6, cl7, cl8, cl9, bl_up2_at, bl_up2_nk, bl_up2_nx] at h7
    first
    | (exfalso; first | omega | exact h7 trivial)
    | (refine ⟨krq, fun h15 => ?_, fun h15 => ?_⟩
       · try simp (disch := omega) only [bl_pv, cl0, cl1, cl2, cl3, cl4, cl5, cl6, cl7, cl8, cl9, bl_up2_at, bl_up2_nk, bl_up2_nx] at h15
         first
         | (exfalso; first | omega | exact h15 trivial)
         | (refine ⟨krq, _, bl_vs rrq_0, bl_ka krqs, (by (try dsimp only [bl_pv]); rw [nrqs]; exact vp_in_nI (by omega) (by omega)), _, bl_vs (by dsimp only; rw [eck]; exact hsk), ?_⟩
            try show _ ∧ _
            try dsimp only [bl_pv]
            exact ⟨I1, J1, rfl, f1, f2, rfl, g2 k hk⟩)
       · try simp (disch := omega) only [bl_pv, cl0, cl1, cl2, cl3, cl4, cl5, cl6, cl7, cl8, cl9, bl_up2_at, bl_up2_nk, bl_up2_nx] at h15
         rw [g1] at h15; exact absurd ((nI_lek (by omega) (by omega)).mpr hk) h15)
theorem c_BL_slabOfF (hlt : l.stackTraces = false) (hI : clI (I, J, R, K, N) S h) (hO : csO S) (hE : ¬ askE S.1 x y = 0) : bl_MC G l (d + 5) mX10_slabOf [.ref 100, .int x, .int y] (I, J, R, K, N) (2, 12) (fun o s' => ∃ I' J', s' = (I', J', R, K, N) ∧ clI s' S h ∧ cfF (I, J, R, K, N) s' ∧ ∀ v, xO xL3 (askE S.1 x y) v o) := by
  obtain ⟨⟨kx, ⟨rx_0, rx_1, rx_2, rx_3, rx_4, rx_5, rx_6, rx_7⟩, ⟨kxr, nxr⟩, ⟨kxn, nxn⟩, kxb, ⟨kxi, nxi⟩, ⟨kxj, nxj⟩⟩, hTp, hUn, hBn, hK1, hK2, hSt, hStr⟩ := hI.1
  have hc := hO.2.2.1
  dsimp only at kx
  by_cases hz : rb S.1.2.2.1 x = true
  · obtain ⟨r, hr, rfl, er⟩ := rb_n (by omega) hz
    have hD := aD_20 hO r
    obtain ⟨⟨m1, m2, m3, m4⟩, hrc, hro⟩ := hI.2.2.2.2.2.2.2.1 r hr
    have krq := m2.2.1
    dsimp only at krq
    have hy : ¬ rb (aD S.1 r + 1) y = true := fun hy => hE (by unfold askE; rw [if_pos hz, er, if_pos hy])
    have hE2 : askE S.1 (nI r) y = 2 := by unfold askE; rw [if_pos hz, er, if_neg hy]
    have hy' : ¬ (0 ≤ y ∧ y ≤ nI (aD S.1 r)) := fun hq => hy (rb_t.mpr (by unfold isR; rw [show zI (((aD S.1 r + 1 : Nat) : Int) - 1) = nI (aD S.1 r) by rw [zI_n]; congr 1; omega]; exact hq))
    refine bl_MC_intro (by decide +kernel) rfl (Nat.le_of_ble_eq_true rfl) ?_
    refine bl_go oX10_slabOf 80 [29] rfl ?_
    refine ⟨rfl, rfl, kx, (Nat.le_of_ble_eq_true rfl), (1, 6), Nat.le_of_ble_eq_true rfl, Nat.le_of_ble_eq_true rfl, bl_MC_mono (c_BL_runOfT (d := d) (r := r) hI hO hr rfl) (fun o2 σ2 q2 => ?_)⟩
    try dsimp only [bl_pv] at q2
    obtain ⟨rfl, I1, J1, rfl, f1, f2, f3⟩ := q2
    have hro1 := (f1.2.2.2.2.2.2.2.1 r hr).2.2
    dsimp only at hro1
    obtain ⟨-, g1, g2⟩ := hro1.1.resolve_left (fun e => by rw [f3] at e; exact absurd e (by decide))
    refine bl_go oX10_slabOf 80 [29] rfl ?_
    refine ⟨fun h7 => ?_, fun h7 => ?_⟩
    · try simp (disch := omega) only [bl_pv, cl0, cl1, cl2, cl3, cl4, cl5, cl6, cl7, cl8, cl9, bl_up2_at, bl_up2_nk, bl_up2_nx] at h7
      refine ⟨hlt, (Nat.le_of_ble_eq_true rfl), (Nat.le_of_ble_eq_true rfl), (Nat.le_of_ble_eq_true rfl), ?_⟩
      try show _ ∧ _
      try dsimp only [bl_pv]
      refine ⟨I1, J1, rfl, f1, f2, fun v => Or.inr ⟨1, bl_IOE, hE2, rfl, rfl⟩⟩
    · try simp (disch := omega) only [bl_pv, cl0, cl1, cl2, cl3, cl4, cl5, cl6, cl7, cl8, cl9, bl_up2_at, bl_up2_nk, bl_up2_nx] at h7
      refine ⟨krq, fun h15 => ?_, fun h15 => ?_⟩
      · try simp (disch := omega) only [bl_pv, cl0, cl1, cl2, cl3, cl4, cl5, cl6, cl7, cl8, cl9, bl_up2_at, bl_up2_nk, bl_up2_nx] at h15
        try dsimp only [bl_pv]
        rw [g1] at h15; exact absurd ⟨Int32.not_lt.mp h7, h15⟩ hy'
      · try simp (disch := omega) only [bl_pv, cl0, cl1, cl2, cl3, cl4, cl5, cl6, cl7, cl8, cl9, bl_up2_at, bl_up2_nk, bl_up2_nx] at h15
        refine ⟨hlt, (Nat.le_of_ble_eq_true rfl), (Nat.le_of_ble_eq_true rfl), (Nat.le_of_ble_eq_true rfl), ?_⟩
        try show _ ∧ _
        try dsimp only [bl_pv]
        refine ⟨I1, J1, rfl, f1, f2, fun v => Or.inr ⟨1, bl_IOE, hE2, rfl, rfl⟩⟩
  · have hE1 : askE S.1 x y = 1 := by unfold askE; rw [if_neg hz]
    refine bl_MC_intro (by decide +kernel) rfl (Nat.le_of_ble_eq_true rfl) ?_
    refine bl_go oX10_slabOf 80 [] rfl ?_
    refine ⟨rfl, rfl, kx, (Nat.le_of_ble_eq_true rfl), (1, 6), Nat.le_of_ble_eq_true rfl, Nat.le_of_ble_eq_true rfl, ?_⟩
    refine bl_MC_mono (c_BL_runOfF (d := d) hlt hI hO hz) (fun o s' q => ?_)
    obtain ⟨rfl, rfl⟩ := q
    exact Or.inl ⟨rfl, I, J, rfl, hI, cfF.refl, fun v => Or.inr ⟨0, bl_NSE, hE1, rfl, rfl⟩⟩
theorem c_BL_warmRunOf {r : Nat} (hI : clI (I, J, R, K, N) S h) (hO : csO S) (hr : r < S.1.2.2.1) (hx : x = nI r) : bl_MC G l (d + 5) mX10_warmRunOf [.ref 100, .int x] (I, J, R, K, N) (2, 12) (fun o s' => ∃ I' J' R', s' = (I', J', R', K, N) ∧ clI s' S h ∧ cfF (I, J, R, K, N) s' ∧ o = .inl (some (.ref (400 + 10 * r))) ∧ I' (400 + 10 * r) 3 = nI (aD S.1 r) ∧ I' (400 + 10 * r) 4 = fst1 (fwB S.1.1 S.1.2.1 (S.1.2.2.2.1 r) S.1.2.2.2.2) (aD S.1 r) ∧ I' (400 + 10 * r) 5 = fst1 (fwR S.1.1 S.1.2.1 (S.1.2.2.2.1 r) S.1.2.2.2.2) (aD S.1 r) ∧ (∀ k, k ≤ aD S.1 r → I' (400 + 10 * r + 2) k = nI (fwU (S.1.2.2.2.1 r) S.1.2.2.2.2 k - S.1.2.2.2.2) ∧ I' (400 + 10 * r + 3) k = fwW S.1.1 S.1.2.1 (S.1.2.2.2.1 r) S.1.2.2.2.2 k) ∧ ∀ y, y ≠ 130 → R' y = R y) := by
  obtain ⟨⟨kx, ⟨rx_0, rx_1, rx_2, rx_3, rx_4, rx_5, rx_6, rx_7⟩, ⟨kxr, nxr⟩, ⟨kxn, nxn⟩, kxb, ⟨kxi, nxi⟩, ⟨kxj, nxj⟩⟩, hTp, hUn, hBn, hK1, hK2, hSt, hStr⟩ := hI.1
  have hc := hO.2.2.1
  obtain ⟨⟨m1, m2, m3, m4⟩, hrc0, hro0⟩ := hI.2.2.2.2.2.2.2.1 r hr
  have hD := aD_20 hO r
  have krq := m2.2.1
  obtain ⟨hhs, hh⟩ := hI.house
  have kxh := hhs.2.1
  have rx_8 := hI.2.1.2.1
  subst hx
  dsimp only at kx krq rx_3 kxb rx_8
  refine bl_MC_intro (by decide +kernel) rfl (Nat.le_of_ble_eq_true rfl) ?_
  have L34 : ∀ I1 J1 R1, clI (I1, J1, R1, K, N) S h → cfF (I, J, R, K, N) (I1, J1, R1, K, N) → I1 (400 + 10 * r) 7 = 1 → I1 (400 + 10 * r) 8 = 1 → (∀ y, y ≠ 130 → R1 y = R y) → bl_WP G l (d + 5) mX10_warmRunOf 34 [(2, .ref (400 + 10 * r)), (0, .ref 100), (1, .int (nI r))] [] (I1, J1, R1, K, N) (0, 0) (fun o s' => ∃ I' J' R', s' = (I', J', R', K, N) ∧ clI s' S h ∧ cfF (I, J, R, K, N) s' ∧ o = .inl (some (.ref (400 + 10 * r))) ∧ I' (400 + 10 * r) 3 = nI (aD S.1 r) ∧ I' (400 + 10 * r) 4 = fst1 (fwB S.1.1 S.1.2.1 (S.1.2.2.2.1 r) S.1.2.2.2.2) (aD S.1 r) ∧ I' (400 + 10 * r) 5 = fst1 (fwR S.1.1 S.1.2.1 (S.1.2.2.2.1 r) S.1.2.2.2.2) (aD S.1 r) ∧ (∀ k, k ≤ aD S.1 r → I' (400 + 10 * r + 2) k = nI (fwU (S.1.2.2.2.1 r) S.1.2.2.2.2 k - S.1.2.2.2.2) ∧ I' (400 + 10 * r + 3) k = fwW S.1.1 S.1.2.1 (S.1.2.2.2.1 r) S.1.2.2.2.2 k) ∧ ∀ y, y ≠ 130 → R' y = R y) := by
    intro I1 J1 R1 f1 f2 f3 f4 f5
    have hro1 := (f1.2.2.2.2.2.2.2.1 r hr).2.2
    dsimp only at hro1
    obtain ⟨-, g1, g2⟩ := hro1.1.resolve_left (fun e => by rw [f3] at e; exact absurd e (by decide))
    obtain ⟨-, -, g3, g4, g5⟩ := hro1.2.1.resolve_left (fun e => by rw [f4] at e; exact absurd e (by decide))
    refine bl_go oX10_warmRunOf 80 [13, 34] rfl ?_
    try show _ ∧ _
    try dsimp only [bl_pv]
    exact ⟨I1, J1, R1, rfl, f1, f2, rfl, g1, g3, g4, g5, f5⟩
  have L13 : ∀ I1 J1, clI (I1, J1, R, K, N) S h → cfF (I, J, R, K, N) (I1, J1, R, K, N) → I1 (400 + 10 * r) 7 = 1 → bl_WP G l (d + 5) mX10_warmRunOf 13 [(2, .ref (400 + 10 * r)), (0, .ref 100), (1, .int (nI r))] [] (I1, J1, R, K, N) (1, 6) (fun o s' => ∃ I' J' R', s' = (I', J', R', K, N) ∧ clI s' S h ∧ cfF (I, J, R, K, N) s' ∧ o = .inl (some (.ref (400 + 10 * r))) ∧ I' (400 + 10 * r) 3 = nI (aD S.1 r) ∧ I' (400 + 10 * r) 4 = fst1 (fwB S.1.1 S.1.2.1 (S.1.2.2.2.1 r) S.1.2.2.2.2) (aD S.1 r) ∧ I' (400 + 10 * r) 5 = fst1 (fwR S.1.1 S.1.2.1 (S.1.2.2.2.1 r) S.1.2.2.2.2) (aD S.1 r) ∧ (∀ k, k ≤ aD S.1 r → I' (400 + 10 * r + 2) k = nI (fwU (S.1.2.2.2.1 r) S.1.2.2.2.2 k - S.1.2.2.2.2) ∧ I' (400 + 10 * r + 3) k = fwW S.1.1 S.1.2.1 (S.1.2.2.2.1 r) S.1.2.2.2.2 k) ∧ ∀ y, y ≠ 130 → R' y = R y) := by
    intro I1 J1 f1 f2 f3
    obtain ⟨-, hrc1, hro1⟩ := f1.2.2.2.2.2.2.2.1 r hr
    dsimp only at hro1 hrc1
    obtain ⟨-, g1, g2⟩ := hro1.1.resolve_left (fun e => by rw [f3] at e; exact absurd e (by decide))
    have hkc := f1.2.2.2.2.2.1
    have h13 := f1.2.2.2.2.2.2.1.2.2.1
    dsimp only at hkc h13
    have hu := hO.2.2.2.2.1
    refine bl_go oX10_warmRunOf 80 [13, 34] rfl ?_
    refine ⟨kx, _, bl_vs rx_3, kx, _, bl_vs rx_8, rfl, rfl, kx, (Nat.le_of_ble_eq_true rfl), (1, 6), Nat.le_of_ble_eq_true rfl, Nat.le_of_ble_eq_true rfl, bl_MC_mono (c_BL_recipeOfT (d := d + 4) (r := r) f1 hr hc rfl) (fun o23 σ23 q23 => ?_)⟩
    try dsimp only [bl_pv] at q23
    obtain ⟨rfl, rfl⟩ := q23
    refine bl_go oX10_warmRunOf 80 [13, 34] rfl ?_
    refine ⟨kx, rfl, rfl, kxb, (Nat.le_of_ble_eq_true rfl), (0, 0), Nat.le_of_ble_eq_true rfl, Nat.le_of_ble_eq_true rfl, bl_MC_mono (c_Butter_follow (d := d + 2) (n := aD S.1 r) (rc := S.1.2.2.2.1 r) (u0 := S.1.2.2.2.2) kxb (by omega) hhs hkc m1 hrc1 m2 g1 hD.1 h13 hu (by omega) (by omega) (by omega) (by omega) (by omega)) (fun o31 σ31 q31 => ?_)⟩
    try dsimp only [bl_pv] at q31
    obtain ⟨rfl, I2, rfl, b1, b2, b3, b4, b5, b6⟩ := q31
    try dsimp only [bl_pv]
    have h3 : ∀ y, ¬ rnN (400 + 10 * r) (1000 + 21 * r) y → (fun z => if z = 130 then I1 130 else I2 z) y = I1 y ∧ J1 y = J1 y := fun y hy => by
      refine ⟨?_, rfl⟩
      show (if y = 130 then I1 130 else I2 y) = I1 y
      by_cases e : y = 130
      · rw [if_pos e, e]
      · rw [if_neg e]
        exact b1 y e (fun q => hy (Or.inl q)) (fun q => hy (Or.inr (Or.inr (Or.inl q)))) (fun q => hy (Or.inr (Or.inr (Or.inr (Or.inl q)))))
    have e1 : (fun z => if z = 130 then I1 130 else I2 z) (400 + 10 * r) = I2 (400 + 10 * r) := if_neg (by omega)
    have e2 : (fun z => if z = 130 then I1 130 else I2 z) (400 + 10 * r + 2) = I2 (400 + 10 * r + 2) := if_neg (by omega)
    have e3 : (fun z => if z = 130 then I1 130 else I2 z) (400 + 10 * r + 3) = I2 (400 + 10 * r + 3) := if_neg (by omega)
    have hc1 : clI ((fun z => if z = 130 then I1 130 else I2 z), J1, R, K, N) S h := by
      refine f1.run hO (by omega) h3 (fun _ => ?_)
      unfold rnO
      rw [e1, e2, e3]
      refine ⟨Or.inr ⟨?_, ?_, fun k hk => (g2 k hk).nm (fun y hy => ⟨?_, rfl⟩)⟩, Or.inr ⟨b5, ?_, b3, b4, b6⟩, ?_⟩
      · rw [b2 7 (by omega) (by omega) (by omega)]; exact f3
      · rw [b2 3 (by omega) (by omega) (by omega)]; exact g1
      · have hr1 := slN_rng hy (by omega) (by omega)
        show (if y = 130 then I1 130 else I2 y) = I1 y
        rw [if_neg (by omega)]
        exact b1 y (by omega) (by omega) (by omega) (by omega)
      · rw [b2 7 (by omega) (by omega) (by omega)]; exact f3
      · rw [b2 9 (by omega) (by omega) (by omega), b2 6 (by omega) (by omega) (by omega)]; exact hro1.2.2
    have hc2 : clI (I2, J1, bl_up2 R 130 0 (some h), K, N) S h := hc1.butter (fun y hy => (show I2 y = if y = 130 then I1 130 else I2 y by rw [if_neg hy]))
    refine L34 I2 J1 _ hc2 (f2.trans (fun y y1 y2 => ⟨b1 y (by omega) (by omega) (by omega) (by omega), rfl, up130 (by omega), rfl, rfl⟩)) ?_ b5 (fun y hy => up130 hy)
    rw [b2 7 (by omega) (by omega) (by omega)]; exact f3
  refine bl_go oX10_warmRunOf 80 [13, 34] rfl ?_
  refine ⟨rfl, rfl, kx, (Nat.le_of_ble_eq_true rfl), (1, 6), Nat.le_of_ble_eq_true rfl, Nat.le_of_ble_eq_true rfl, bl_MC_mono (c_BL_runOfT (d := d) (r := r) hI hO hr rfl) (fun o2 σ2 q2 => ?_)⟩
  try dsimp only [bl_pv] at q2
  obtain ⟨rfl, I1, J1, rfl, f1, f2, f3⟩ := q2
  refine bl_go oX10_warmRunOf 80 [13, 34] rfl ?_
  refine ⟨krq, fun h10 => ?_, fun h10 => ?_⟩
  · try simp (disch := omega) only [bl_pv, cl0, cl1, cl2, cl3, cl4, cl5, cl6, cl7, cl8, cl9, bl_up2_at, bl_up2_nk, bl_up2_nx] at h10
    first
    | (exfalso; first | omega | exact h10 trivial)
    | (try dsimp only [bl_pv]
       have hro1 := (f1.2.2.2.2.2.2.2.1 r hr).2.2
       dsimp only at hro1
       refine bl_WP_bud (b' := (0, 0)) (by decide) (by decide) (L34 I1 J1 R f1 f2 f3 ?_ (fun _ _ => rfl))
       rcases hro1.2.1 with e | ⟨e, -⟩
       · exact absurd e h10
       · exact e)
  · try simp (disch := omega) only [bl_pv, cl0, cl1, cl2, cl3, cl4, cl5, cl6, cl7, cl8, cl9, bl_up2_at, bl_up2_nk, bl_up2_nx] at h10
    first
    | (exfalso; first | omega | exact h10 trivial)
    | (try dsimp only [bl_pv]
       exact L13 I1 J1 f1 f2 f3)
end CLS3
