/-! ===== ButterLeaves: its state ===== -/
def unX (s : bl_Mem) : Prop := s.2.2.2.1 140 = 10 ∧ (s.2.2.1 140 0 = some 141 ∧ s.2.2.1 140 1 = some 142 ∧ s.2.2.1 140 2 = some 143) ∧ (s.2.2.2.1 141 = 21 ∧ s.2.2.2.2 141 = 48) ∧ (s.2.2.2.1 142 = 21 ∧ s.2.2.2.2 142 = 48) ∧ (s.2.2.2.1 143 = 21 ∧ s.2.2.2.2 143 = 2304)
def clA (s : bl_Mem) : Prop := s.2.2.2.1 100 = 11 ∧ (s.2.2.1 100 0 = some 110 ∧ s.2.2.1 100 1 = some 120 ∧ s.2.2.1 100 2 = some 121 ∧ s.2.2.1 100 3 = some 130 ∧ s.2.2.1 100 4 = some 140 ∧ s.2.2.1 100 5 = some 150 ∧ s.2.2.1 100 6 = some 170 ∧ s.2.2.1 100 7 = some 171) ∧ (s.2.2.2.1 120 = 22 ∧ s.2.2.2.2 120 = 4) ∧ (s.2.2.2.1 121 = 23 ∧ s.2.2.2.2 121 = 4) ∧ s.2.2.2.1 130 = 2 ∧ (s.2.2.2.1 170 = 20 ∧ s.2.2.2.2 170 = 3) ∧ (s.2.2.2.1 171 = 20 ∧ s.2.2.2.2 171 = 3)
/-- what is made once for all -/
def clS (s : bl_Mem) : Prop := clA s ∧ tpX s 110 ∧ unX s ∧ bnX s 150 ∧ kiX s 180 ∧ kiX s 190 ∧ (∀ j, j < 5 → s.2.2.2.1 (940 + j) = 100 + j) ∧ ∀ j, j < 17 → s.2.2.2.1 (950 + j) = 110 + j
def clH (s : bl_Mem) (h : Nat) : Prop := (h = 180 ∨ h = 190) ∧ s.2.2.1 100 8 = some h ∧ s.2.2.1 100 9 = some (370 - h)
def mkR (s : bl_Mem) (r : Nat) : Prop := rcX s (300 + 10 * r) ∧ rnX s (400 + 10 * r) (1000 + 21 * r) ∧ s.2.2.1 120 r = some (300 + 10 * r) ∧ s.2.2.1 121 r = some (400 + 10 * r)
def rrN (r y : Nat) : Prop := (300 + 10 * r ≤ y ∧ y ≤ 300 + 10 * r + 2) ∨ rnN (400 + 10 * r) (1000 + 21 * r) y
def frR (s : bl_Mem) (r : Nat) : Prop := s.2.2.1 120 r = none ∧ s.2.2.1 121 r = none ∧ ∀ y, rrN r y → s.2.2.2.1 y = 0
def clR (s : bl_Mem) : Prop := ∀ r, r < 4 → mkR s r ∨ frR s r
def clW (s : bl_Mem) : Prop := (s.2.2.1 100 10 = none ∧ ∀ y, 200 ≤ y → y < 207 → s.2.2.2.1 y = 0) ∨ (s.2.2.1 100 10 = some 200 ∧ psX s 200)
/-- the abstract state, bytes of the tape, the fault's place, images -/
abbrev cS : Type := aS × (Nat → Nat) × Nat × (Nat → Int32) × Int32 × Nat × (Nat → Nat × Nat)
def csO (S : cS) : Prop := tfO S.1.1 ∧ ((∀ h, h < 24 → S.1.2.1 h = nI (S.2.1 h)) ∧ kiO S.1.1 S.2.1) ∧ S.1.2.2.1 ≤ 4 ∧ (∀ r, sqV (S.1.2.2.2.1 r)) ∧ S.1.2.2.2.2 < 288 ∧ S.2.2.1 ≤ 400 ∧ S.2.2.2.2.2.1 ≤ 3 ∧ (∀ i, i < S.2.2.2.2.2.1 → (S.2.2.2.2.2.2 i).1 ≤ S.1.2.2.1 ∧ (S.2.2.2.2.2.2 i).2 < 288) ∧ ∀ i j, i ≤ j → j < S.2.2.2.2.2.1 → (S.2.2.2.2.2.2 i).1 ≤ (S.2.2.2.2.2.2 j).1
def rnO (I : Nat → Nat → Int32) (J : Nat → Nat → Int64) (A : aS) (r : Nat) : Prop :=
  (I (400 + 10 * r) 7 = 0 ∨ (I (400 + 10 * r) 7 = 1 ∧ I (400 + 10 * r) 3 = nI (aD A r) ∧ ∀ k, k ≤ aD A r → slC I J (1000 + 21 * r + k) (aSl A r k))) ∧
  (I (400 + 10 * r) 8 = 0 ∨ (I (400 + 10 * r) 8 = 1 ∧ I (400 + 10 * r) 7 = 1 ∧ I (400 + 10 * r) 4 = fst1 (fwB A.1 A.2.1 (A.2.2.2.1 r) A.2.2.2.2) (aD A r) ∧ I (400 + 10 * r) 5 = fst1 (fwR A.1 A.2.1 (A.2.2.2.1 r) A.2.2.2.2) (aD A r) ∧ ∀ k, k ≤ aD A r → I (400 + 10 * r + 2) k = nI (fwU (A.2.2.2.1 r) A.2.2.2.2 k - A.2.2.2.2) ∧ I (400 + 10 * r + 3) k = fwW A.1 A.2.1 (A.2.2.2.1 r) A.2.2.2.2 k)) ∧
  (I (400 + 10 * r) 9 = 0 ∨ (I (400 + 10 * r) 9 = 1 ∧ ltP A r (I (400 + 10 * r) 6)))
def clT (I : Nat → Nat → Int32) (S : cS) : Prop := I 110 1 = nI S.2.2.1 ∧ I 110 3 = S.2.2.2.2.1 ∧ I 111 = S.2.2.2.1
def clN (I : Nat → Nat → Int32) (S : cS) : Prop := I 100 11 = nI S.1.2.2.1 ∧ I 100 12 = nI S.2.2.2.2.2.1 ∧ I 100 13 = nI S.1.2.2.2.2 ∧ ∀ i, i < S.2.2.2.2.2.1 → I 170 i = nI (S.2.2.2.2.2.2 i).1 ∧ I 171 i = nI (S.2.2.2.2.2.2 i).2
def clB (I : Nat → Nat → Int32) (A : aS) : Prop := I 150 18 = 0 ∨ (I 150 18 = 1 ∧ bnR I 150 A.2.2.1 A.2.2.2.1)
/-- all of it -/
def clI (s : bl_Mem) (S : cS) (h : Nat) : Prop := clS s ∧ clH s h ∧ clR s ∧ clW s ∧ clT s.1 S ∧ kiC s.1 h S.1.1 S.1.2.1 ∧ clN s.1 S ∧ (∀ r, r < S.1.2.2.1 → mkR s r ∧ rcC s.1 (300 + 10 * r) (S.1.2.2.2.1 r) ∧ rnO s.1 s.2.1 S.1 r) ∧ clB s.1 S.1 ∧ (s.2.2.1 100 10 = some 200 → wsI s.1 200 (pPk S.1.1 S.2.1 S.1.2.2.2.2))
def clJ (s : bl_Mem) (S : cS) : Prop := ∃ h, clI s S h
/-- only what is the class's own may have changed -/
def cfF (s s' : bl_Mem) : Prop := ∀ y, 900 ≤ y → (y < 1000 ∨ 5000 ≤ y) → s'.1 y = s.1 y ∧ s'.2.1 y = s.2.1 y ∧ s'.2.2.1 y = s.2.2.1 y ∧ s'.2.2.2.1 y = s.2.2.2.1 y ∧ s'.2.2.2.2 y = s.2.2.2.2 y
theorem cfF.trans {s s1 s2 : bl_Mem} (h : cfF s s1) (h2 : cfF s1 s2) : cfF s s2 := fun y a b => by
  obtain ⟨a1, b1, c1, d1, e1⟩ := h y a b
  obtain ⟨a', b', c', d', e'⟩ := h2 y a b
  exact ⟨a'.trans a1, b'.trans b1, c'.trans c1, d'.trans d1, e'.trans e1⟩
theorem cfF.refl {s : bl_Mem} : cfF s s := fun _ _ _ => ⟨rfl, rfl, rfl, rfl, rfl⟩
section CLS
variable {G : bl_G} {l : Launch} {d : Nat} {I : Nat → Nat → Int32} {J : Nat → Nat → Int64} {R : Nat → Nat → Option Nat} {K N : Nat → Nat} {S : cS} {h : Nat} {x y w : Int32}
theorem c_BL_needWhatT {a : Int32} (hw : 0 ≤ w ∧ w ≤ a) : bl_MC G l d mX10_needWhat [.int w, .int a] (I, J, R, K, N) (1, 6) (fun o s' => o = .inl none ∧ s' = (I, J, R, K, N)) := by
  refine bl_MC_intro (by decide +kernel) rfl (Nat.le_of_ble_eq_true rfl) ?_
  refine bl_go oX10_needWhat 80 [] rfl ?_
  refine ⟨fun h1 => ?_, fun h1 => ?_⟩
  · try simp (disch := omega) only [bl_pv, cl0, cl1, cl2, cl3, cl4, cl5, cl6, cl7, cl8, cl9, bl_up2_at, bl_up2_nk, bl_up2_nx] at h1
    exact absurd h1 (Int32.not_lt.mpr hw.1)
  · try simp (disch := omega) only [bl_pv, cl0, cl1, cl2, cl3, cl4, cl5, cl6, cl7, cl8, cl9, bl_up2_at, bl_up2_nk, bl_up2_nx] at h1
    first
    | (exfalso; first | omega | exact h1 trivial)
    | (refine ⟨fun h6 => ?_, fun h6 => ?_⟩
       · try simp (disch := omega) only [bl_pv, cl0, cl1, cl2, cl3, cl4, cl5, cl6, cl7, cl8, cl9, bl_up2_at, bl_up2_nk, bl_up2_nx] at h6
         first
         | (exfalso; first | omega | exact h6 trivial)
         | (try show _ ∧ _
            try dsimp only [bl_pv]
            exact ⟨rfl, rfl⟩)
       · try simp (disch := omega) only [bl_pv, cl0, cl1, cl2, cl3, cl4, cl5, cl6, cl7, cl8, cl9, bl_up2_at, bl_up2_nk, bl_up2_nx] at h6
         exact absurd hw.2 h6)
theorem c_BL_needWhatF {a : Int32} (hlt : l.stackTraces = false) (hw : ¬ (0 ≤ w ∧ w ≤ a)) : bl_MC G l d mX10_needWhat [.int w, .int a] (I, J, R, K, N) (1, 6) (fun o s' => o = .inr bl_IAE ∧ s' = (I, J, R, K, N)) := by
  refine bl_MC_intro (by decide +kernel) rfl (Nat.le_of_ble_eq_true rfl) ?_
  refine bl_go oX10_needWhat 80 [20] rfl ?_
  refine ⟨fun h1 => ?_, fun h1 => ?_⟩
  · try simp (disch := omega) only [bl_pv, cl0, cl1, cl2, cl3, cl4, cl5, cl6, cl7, cl8, cl9, bl_up2_at, bl_up2_nk, bl_up2_nx] at h1
    refine ⟨hlt, (Nat.le_of_ble_eq_true rfl), (Nat.le_of_ble_eq_true rfl), (Nat.le_of_ble_eq_true rfl), ?_⟩
    try show _ ∧ _
    try dsimp only [bl_pv]
    exact ⟨rfl, rfl⟩
  · try simp (disch := omega) only [bl_pv, cl0, cl1, cl2, cl3, cl4, cl5, cl6, cl7, cl8, cl9, bl_up2_at, bl_up2_nk, bl_up2_nx] at h1
    refine ⟨fun h6 => ?_, fun h6 => ?_⟩
    · try simp (disch := omega) only [bl_pv, cl0, cl1, cl2, cl3, cl4, cl5, cl6, cl7, cl8, cl9, bl_up2_at, bl_up2_nk, bl_up2_nx] at h6
      try dsimp only [bl_pv]
      exact absurd ⟨Int32.not_lt.mp h1, h6⟩ hw
    · try simp (disch := omega) only [bl_pv, cl0, cl1, cl2, cl3, cl4, cl5, cl6, cl7, cl8, cl9, bl_up2_at, bl_up2_nk, bl_up2_nx] at h6
      refine ⟨hlt, (Nat.le_of_ble_eq_true rfl), (Nat.le_of_ble_eq_true rfl), (Nat.le_of_ble_eq_true rfl), ?_⟩
      try show _ ∧ _
      try dsimp only [bl_pv]
      exact ⟨rfl, rfl⟩
theorem c_BL_needLeavesT (hw : 1 ≤ w ∧ w ≤ 1024) : bl_MC G l d mX10_needLeaves [.int w] (I, J, R, K, N) (1, 6) (fun o s' => o = .inl none ∧ s' = (I, J, R, K, N)) := by
  refine bl_MC_intro (by decide +kernel) rfl (Nat.le_of_ble_eq_true rfl) ?_
  refine bl_go oX10_needLeaves 80 [] rfl ?_
  refine ⟨fun h2 => ?_, fun h2 => ?_⟩
  · try simp (disch := omega) only [bl_pv, cl0, cl1, cl2, cl3, cl4, cl5, cl6, cl7, cl8, cl9, bl_up2_at, bl_up2_nk, bl_up2_nx] at h2
    exact absurd h2 (Int32.not_lt.mpr hw.1)
  · try simp (disch := omega) only [bl_pv, cl0, cl1, cl2, cl3, cl4, cl5, cl6, cl7, cl8, cl9, bl_up2_at, bl_up2_nk, bl_up2_nx] at h2
    first
    | (exfalso; first | omega | exact h2 trivial)
    | (refine ⟨fun h9 => ?_, fun h9 => ?_⟩
       · try simp (disch := omega) only [bl_pv, cl0, cl1, cl2, cl3, cl4, cl5, cl6, cl7, cl8, cl9, bl_up2_at, bl_up2_nk, bl_up2_nx] at h9
         first
         | (exfalso; first | omega | exact h9 trivial)
         | (try show _ ∧ _
            try dsimp only [bl_pv]
            exact ⟨rfl, rfl⟩)
       · try simp (disch := omega) only [bl_pv, cl0, cl1, cl2, cl3, cl4, cl5, cl6, cl7, cl8, cl9, bl_up2_at, bl_up2_nk, bl_up2_nx] at h9
         exact absurd hw.2 h9)
theorem c_BL_needLeavesF (hlt : l.stackTraces = false) (hw : ¬ (1 ≤ w ∧ w ≤ 1024)) : bl_MC G l d mX10_needLeaves [.int w] (I, J, R, K, N) (1, 6) (fun o s' => o = .inr bl_IAE ∧ s' = (I, J, R, K, N)) := by
  refine bl_MC_intro (by decide +kernel) rfl (Nat.le_of_ble_eq_true rfl) ?_
  refine bl_go oX10_needLeaves 80 [23] rfl ?_
  refine ⟨fun h2 => ?_, fun h2 => ?_⟩
  · try simp (disch := omega) only [bl_pv, cl0, cl1, cl2, cl3, cl4, cl5, cl6, cl7, cl8, cl9, bl_up2_at, bl_up2_nk, bl_up2_nx] at h2
    refine ⟨hlt, (Nat.le_of_ble_eq_true rfl), (Nat.le_of_ble_eq_true rfl), (Nat.le_of_ble_eq_true rfl), ?_⟩
    try show _ ∧ _
    try dsimp only [bl_pv]
    exact ⟨rfl, rfl⟩
  · try simp (disch := omega) only [bl_pv, cl0, cl1, cl2, cl3, cl4, cl5, cl6, cl7, cl8, cl9, bl_up2_at, bl_up2_nk, bl_up2_nx] at h2
    refine ⟨fun h9 => ?_, fun h9 => ?_⟩
    · try simp (disch := omega) only [bl_pv, cl0, cl1, cl2, cl3, cl4, cl5, cl6, cl7, cl8, cl9, bl_up2_at, bl_up2_nk, bl_up2_nx] at h9
      try dsimp only [bl_pv]
      exact absurd ⟨Int32.not_lt.mp h2, h9⟩ hw
    · try simp (disch := omega) only [bl_pv, cl0, cl1, cl2, cl3, cl4, cl5, cl6, cl7, cl8, cl9, bl_up2_at, bl_up2_nk, bl_up2_nx] at h9
      refine ⟨hlt, (Nat.le_of_ble_eq_true rfl), (Nat.le_of_ble_eq_true rfl), (Nat.le_of_ble_eq_true rfl), ?_⟩
      try show _ ∧ _
      try dsimp only [bl_pv]
      exact ⟨rfl, rfl⟩
theorem c_BL_recipeOfT {r : Nat} (hI : clI (I, J, R, K, N) S h) (hr : r < S.1.2.2.1) (hc : S.1.2.2.1 ≤ 4) (hx : x = nI r) : bl_MC G l d mX10_recipeOf [.ref 100, .int x] (I, J, R, K, N) (1, 6) (fun o s' => o = .inl (some (.ref (300 + 10 * r))) ∧ s' = (I, J, R, K, N)) := by
  obtain ⟨⟨kx, ⟨rx_0, rx_1, rx_2, rx_3, rx_4, rx_5, rx_6, rx_7⟩, ⟨kxr, nxr⟩, ⟨kxn, nxn⟩, kxb, ⟨kxi, nxi⟩, ⟨kxj, nxj⟩⟩, hTp, hUn, hBn, hK1, hK2, hSt, hStr⟩ := hI.1
  have hn := hI.2.2.2.2.2.2.1.1
  obtain ⟨m1, m2, m3, m4⟩ := (hI.2.2.2.2.2.2.2.1 r hr).1
  have ecr : (nI r).toNatClampNeg = r := nI_clamp (by omega)
  dsimp only at kx rx_1 kxr nxr hn m3
  subst hx
  refine bl_MC_intro (by decide +kernel) rfl (Nat.le_of_ble_eq_true rfl) ?_
  refine bl_go oX10_recipeOf 80 [] rfl ?_
  refine ⟨fun h1 => ?_, fun h1 => ?_⟩
  · try simp (disch := omega) only [hn, zI_n, zI_o, zI_lit, zI_neg, zI_add, zI_sub, zI_mul, zI_lt, zI_le, zI_eq, zI_clamp, zI_in, zI_div, zI_rem, lg_lt0, lg_gt0, lg_eq0, lg_le0, lg_ge0, Int.toNat_natCast, ge_iff_le, gt_iff_lt, List.length_cons, List.length_nil, bl_up2_at, bl_up2_nk, bl_up2_nx] at h1
    first
    | (exfalso; first | omega | exact h1 trivial)
    | (refine ⟨hlt, (Nat.le_of_ble_eq_true rfl), (Nat.le_of_ble_eq_true rfl), (Nat.le_of_ble_eq_true rfl), ?_⟩
       try show _ ∧ _
       try dsimp only [bl_pv]
       fail /- ret21 -/)
  · try simp (disch := omega) only [hn, zI_n, zI_o, zI_lit, zI_neg, zI_add, zI_sub, zI_mul, zI_lt, zI_le, zI_eq, zI_clamp, zI_in, zI_div, zI_rem, lg_lt0, lg_gt0, lg_eq0, lg_le0, lg_ge0, Int.toNat_natCast, ge_iff_le, gt_iff_lt, List.length_cons, List.length_nil, bl_up2_at, bl_up2_nk, bl_up2_nx] at h1
    first
    | (exfalso; first | omega | exact h1 trivial)
    | (refine ⟨kx, fun h9 => ?_, fun h9 => ?_⟩
       · try simp (disch := omega) only [hn, zI_n, zI_o, zI_lit, zI_neg, zI_add, zI_sub, zI_mul, zI_lt, zI_le, zI_eq, zI_clamp, zI_in, zI_div, zI_rem, lg_lt0, lg_gt0, lg_eq0, lg_le0, lg_ge0, Int.toNat_natCast, ge_iff_le, gt_iff_lt, List.length_cons, List.length_nil, bl_up2_at, bl_up2_nk, bl_up2_nx] at h9
         first
         | (exfalso; first | omega | exact h9 trivial)
         | (refine ⟨hlt, (Nat.le_of_ble_eq_true rfl), (Nat.le_of_ble_eq_true rfl), (Nat.le_of_ble_eq_true rfl), ?_⟩
            try show _ ∧ _
            try dsimp only [bl_pv]
            fail /- ret21 -/)
       · try simp (disch := omega) only [hn, zI_n, zI_o, zI_lit, zI_neg, zI_add, zI_sub, zI_mul, zI_lt, zI_le, zI_eq, zI_clamp, zI_in, zI_div, zI_rem, lg_lt0, lg_gt0, lg_eq0, lg_le0, lg_ge0, Int.toNat_natCast, ge_iff_le, gt_iff_lt, List.length_cons, List.length_nil, bl_up2_at, bl_up2_nk, bl_up2_nx] at h9
         first
         | (exfalso; first | omega | exact h9 trivial)
         | (refine ⟨kx, _, bl_vs rx_1, bl_ka kxr, (by first | exact (by rw [nxr]; exact vp_in_nI (by omega) (by omega)) | ((try dsimp only [bl_pv]); show vp_in _ (N _); rw [nxr]; simp (disch := omega) only [hn, zI_n, zI_o, zI_lit, zI_neg, zI_add, zI_sub, zI_mul, zI_lt, zI_le, zI_eq, zI_clamp, zI_in, zI_div, zI_rem, lg_lt0, lg_gt0, lg_eq0, lg_le0, lg_ge0, Int.toNat_natCast, ge_iff_le, gt_iff_lt, List.length_cons, List.length_nil, bl_up2_at, bl_up2_nk, bl_up2_nx] <;> omega)), _, bl_vs (by dsimp only; rw [ecr]; exact m3), kx, _, bl_vs rx_1, bl_ka kxr, (by first | exact (by rw [nxr]; exact vp_in_nI (by omega) (by omega)) | ((try dsimp only [bl_pv]); show vp_in _ (N _); rw [nxr]; simp (disch := omega) only [hn, zI_n, zI_o, zI_lit, zI_neg, zI_add, zI_sub, zI_mul, zI_lt, zI_le, zI_eq, zI_clamp, zI_in, zI_div, zI_rem, lg_lt0, lg_gt0, lg_eq0, lg_le0, lg_ge0, Int.toNat_natCast, ge_iff_le, gt_iff_lt, List.length_cons, List.length_nil, bl_up2_at, bl_up2_nk, bl_up2_nx] <;> omega)), _, bl_vs (by dsimp only; rw [ecr]; exact m3), ?_⟩
            try show _ ∧ _
            try dsimp only [bl_pv]
            exact ⟨rfl, rfl⟩))
theorem rb_lt {c : Nat} (hc : c ≤ 1000) : rb c x = true ↔ (0 ≤ x ∧ x < nI c) := by
  rw [rb_t]; unfold isR
  constructor
  · rintro ⟨h1, h2⟩
    obtain ⟨k, hk, rfl⟩ := isR_nat hc ⟨h1, h2⟩
    exact ⟨h1, (nI_ltk (by omega) (by omega)).mpr hk⟩
  · rintro ⟨h1, h2⟩
    refine ⟨h1, ?_⟩
    obtain ⟨k, hk, rfl⟩ := i32_nat (b := c) (by omega) h1 (Int32.le_of_lt h2)
    have hk2 := (nI_ltk (by omega) (by omega)).mp h2
    rw [zI_n, zI_le (by omega) (by omega) (by omega) (by omega)]; omega
theorem c_BL_recipeOfF (hlt : l.stackTraces = false) (hI : clI (I, J, R, K, N) S h) (hc : S.1.2.2.1 ≤ 4) (hx : ¬ rb S.1.2.2.1 x = true) : bl_MC G l d mX10_recipeOf [.ref 100, .int x] (I, J, R, K, N) (1, 6) (fun o s' => o = .inr bl_NSE ∧ s' = (I, J, R, K, N)) := by
  obtain ⟨⟨kx, ⟨rx_0, rx_1, rx_2, rx_3, rx_4, rx_5, rx_6, rx_7⟩, ⟨kxr, nxr⟩, ⟨kxn, nxn⟩, kxb, ⟨kxi, nxi⟩, ⟨kxj, nxj⟩⟩, hTp, hUn, hBn, hK1, hK2, hSt, hStr⟩ := hI.1
  have hn := hI.2.2.2.2.2.2.1.1
  rw [rb_lt (by omega)] at hx
  dsimp only at kx rx_1 kxr nxr hn
  refine bl_MC_intro (by decide +kernel) rfl (Nat.le_of_ble_eq_true rfl) ?_
  refine bl_go oX10_recipeOf 80 [12] rfl ?_
  refine ⟨fun h1 => ?_, fun h1 => ?_⟩
  · try simp (disch := omega) only [bl_pv, cl0, cl1, cl2, cl3, cl4, cl5, cl6, cl7, cl8, cl9, bl_up2_at, bl_up2_nk, bl_up2_nx] at h1
    refine ⟨hlt, (Nat.le_of_ble_eq_true rfl), (Nat.le_of_ble_eq_true rfl), (Nat.le_of_ble_eq_true rfl), ?_⟩
    try show _ ∧ _
    try dsimp only [bl_pv]
    exact ⟨rfl, rfl⟩
  · try simp (disch := omega) only [bl_pv, cl0, cl1, cl2, cl3, cl4, cl5, cl6, cl7, cl8, cl9, bl_up2_at, bl_up2_nk, bl_up2_nx] at h1
    refine ⟨kx, fun h9 => ?_, fun h9 => ?_⟩
    · try simp (disch := omega) only [bl_pv, cl0, cl1, cl2, cl3, cl4, cl5, cl6, cl7, cl8, cl9, bl_up2_at, bl_up2_nk, bl_up2_nx] at h9
      refine ⟨hlt, (Nat.le_of_ble_eq_true rfl), (Nat.le_of_ble_eq_true rfl), (Nat.le_of_ble_eq_true rfl), ?_⟩
      try show _ ∧ _
      try dsimp only [bl_pv]
      exact ⟨rfl, rfl⟩
    · try simp (disch := omega) only [bl_pv, cl0, cl1, cl2, cl3, cl4, cl5, cl6, cl7, cl8, cl9, bl_up2_at, bl_up2_nk, bl_up2_nx] at h9
      try dsimp only [bl_pv]
      rw [hn] at h9; exact absurd ⟨Int32.not_lt.mp h1, Int32.not_le.mp h9⟩ hx
end CLS
