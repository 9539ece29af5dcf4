/-! ===== ButterLeaves: runs ===== -/
theorem slC.nm {I I' : Nat → Nat → Int32} {J J' : Nat → Nat → Int64} {b : Nat} {S : sl} (h : slC I J b S) (hF : ∀ y, slN b y → I' y = I y ∧ J' y = J y) : slC I' J' b S := by
  unfold slN at hF
  obtain ⟨h1, h2, h3, h4, h5⟩ := h
  refine ⟨h1.same (hF _ (by omega)).1 (hF _ (by omega)).2 (hF _ (by omega)).2, h2.same (hF _ (by omega)).1 (hF _ (by omega)).2 (hF _ (by omega)).2, ?_⟩
  rw [(hF b (by omega)).2]; exact ⟨h3, h4, h5⟩
theorem rnO.nm {I I' : Nat → Nat → Int32} {J J' : Nat → Nat → Int64} {A : aS} {r : Nat} (h : rnO I J A r) (hF : ∀ y, rnN (400 + 10 * r) (1000 + 21 * r) y → I' y = I y ∧ J' y = J y) (hD : aD A r ≤ 20) : rnO I' J' A r := by
  unfold rnN at hF
  unfold rnO
  rw [(hF (400 + 10 * r) (Or.inl rfl)).1, (hF (400 + 10 * r + 2) (Or.inr (Or.inr (Or.inl rfl)))).1, (hF (400 + 10 * r + 3) (Or.inr (Or.inr (Or.inr (Or.inl rfl))))).1]
  refine ⟨?_, h.2⟩
  rcases h.1 with a | ⟨a, b, c⟩
  · exact Or.inl a
  · exact Or.inr ⟨a, b, fun k hk => (c k hk).nm (fun y hy => hF y (Or.inr (Or.inr (Or.inr (Or.inr ⟨k, by omega, hy⟩)))))⟩
theorem slN_rng {b y : Nat} (h : slN b y) (h1 : 1000 ≤ b) (h2 : b < 1500) : 1000 ≤ y ∧ y < 5000 := by unfold slN at h; omega
theorem rnN_rng {r y : Nat} (h : rnN (400 + 10 * r) (1000 + 21 * r) y) (hr : r < 4) : (400 + 10 * r ≤ y ∧ y ≤ 403 + 10 * r) ∨ (1000 ≤ y ∧ y < 5000) := by
  rcases h with h | h | h | h | ⟨k, hk, h⟩
  · omega
  · omega
  · omega
  · omega
  · exact Or.inr (slN_rng h (by omega) (by omega))
theorem rnN_dj {r r' y : Nat} (h : rnN (400 + 10 * r) (1000 + 21 * r) y) (h' : rnN (400 + 10 * r') (1000 + 21 * r') y) (hr : r < 4) (hr' : r' < 4) : r = r' := by
  rcases h with h | h | h | h | ⟨k, hk, h⟩ <;> rcases h' with h' | h' | h' | h' | ⟨k', hk', h'⟩ <;> first | omega | (have := slN_rng h (by omega) (by omega); omega) | (have := slN_rng h' (by omega) (by omega); omega) | (unfold slN at h h'; omega)
theorem aD_20 {S : cS} (hO : csO S) (r : Nat) : aD S.1 r ≤ (S.1.2.2.2.1 r).1 ∧ (S.1.2.2.2.1 r).1 ≤ 20 := ⟨(dnf_is _ _).1, (hO.2.2.2.1 r).1⟩
theorem rcC.nm {I I' : Nat → Nat → Int32} {q : Nat} {S : sq} (h : rcC I q S) (h0 : I' q = I q) (h1 : I' (q + 1) = I (q + 1)) (h2 : I' (q + 2) = I (q + 2)) : rcC I' q S := by
  unfold rcC; rw [h0, h1, h2]; exact h
theorem kiC.nm {I I' : Nat → Nat → Int32} {a : Nat} {tf : Nat → Nat} {dg : Nat → Int32} (h : kiC I a tf dg) (h1 : I' (a + 1) = I (a + 1)) (h3 : I' (a + 3) = I (a + 3)) : kiC I' a tf dg := by
  unfold kiC; rw [h1, h3]; exact h
theorem bnR.nm {I I' : Nat → Nat → Int32} {q n : Nat} {rcs : Nat → sq} (h : bnR I q n rcs) (hF : ∀ y, q ≤ y → y ≤ q + 12 → I' y = I y) : bnR I' q n rcs := by
  unfold bnR bnB
  rw [hF q (by omega) (by omega), hF (q + 11) (by omega) (by omega), hF (q + 12) (by omega) (by omega)]; exact h
theorem wsI.nm {I I' : Nat → Nat → Int32} {q : Nat} {P : pP} (h : wsI I q P) (hF : ∀ y, q ≤ y → y ≤ q + 6 → I' y = I y) : wsI I' q P := by
  unfold wsI pI pIB pIC pIR psD
  simp only [hF q (by omega) (by omega), hF (q + 1) (by omega) (by omega), hF (q + 2) (by omega) (by omega), hF (q + 3) (by omega) (by omega), hF (q + 4) (by omega) (by omega), hF (q + 5) (by omega) (by omega), hF (q + 6) (by omega) (by omega)]
  exact h
section CLS2
variable {G : bl_G} {l : Launch} {d : Nat} {I I' : Nat → Nat → Int32} {J J' : Nat → Nat → Int64} {R : Nat → Nat → Option Nat} {K N : Nat → Nat} {S : cS} {h : Nat} {x y w : Int32}
/-- a run alone has changed -/
theorem clI.run {r : Nat} (hI : clI (I, J, R, K, N) S h) (hO : csO S) (hr : r < 4) (hF : ∀ y, ¬ rnN (400 + 10 * r) (1000 + 21 * r) y → I' y = I y ∧ J' y = J y) (ho : r < S.1.2.2.1 → rnO I' J' S.1 r) : clI (I', J', R, K, N) S h := by
  obtain ⟨a1, a2, a3, a4, a5, a6, a7, a8, a9, a10⟩ := hI
  have hs : ∀ y, y < 1000 → ¬ (400 + 10 * r ≤ y ∧ y ≤ 403 + 10 * r) → I' y = I y := fun y h1 h2 => (hF y (fun hn => by have := rnN_rng hn hr; omega)).1
  have hh := a2.1
  refine ⟨a1, a2, a3, a4, ?_, ?_, ?_, fun r' hr' => ?_, ?_, fun hw => ?_⟩
  · unfold clT; dsimp only; rw [hs 110 (by omega) (by omega), hs 111 (by omega) (by omega)]; exact a5
  · exact kiC.nm a6 (hs _ (by omega) (by omega)) (hs _ (by omega) (by omega))
  · unfold clN; dsimp only; rw [hs 100 (by omega) (by omega), hs 170 (by omega) (by omega), hs 171 (by omega) (by omega)]; exact a7
  · have hc := hO.2.2.1
    obtain ⟨b1, b2, b3⟩ := a8 r' hr'
    refine ⟨b1, b2.nm (hs _ (by omega) (by omega)) (hs _ (by omega) (by omega)) (hs _ (by omega) (by omega)), ?_⟩
    by_cases e : r' = r
    · subst e; exact ho hr'
    · have := aD_20 hO r'
      exact b3.nm (fun y hy => hF y (fun hn => e (rnN_dj hy hn (by omega) hr))) (by omega)
  · unfold clB; dsimp only; rw [hs 150 (by omega) (by omega)]
    rcases a9 with a | ⟨a, b⟩
    · exact Or.inl a
    · exact Or.inr ⟨a, b.nm (fun y h1 h2 => hs y (by omega) (by omega))⟩
  · exact (a10 hw).nm (fun y h1 h2 => hs y (by omega) (by omega))
theorem up130 {R : Nat → Nat → Option Nat} {y : Nat} {v : Option Nat} (h : y ≠ 130) : bl_up2 R 130 0 v y = R y := bl_up2_ne h
/-- butter's own have changed -/
theorem clI.butter {v : Option Nat} (hI : clI (I, J, R, K, N) S h) (hF : ∀ y, y ≠ 130 → I' y = I y) : clI (I', J, bl_up2 R 130 0 v, K, N) S h := by
  obtain ⟨a1, a2, a3, a4, a5, a6, a7, a8, a9, a10⟩ := hI
  have hh := a2.1
  have hrc : ∀ q, q ≠ 130 → rcX (I, J, R, K, N) q → rcX (I', J, bl_up2 R 130 0 v, K, N) q := fun q hq h => h.up (fun e => hq e.symm)
  have hmk : ∀ r, mkR (I, J, R, K, N) r → mkR (I', J, bl_up2 R 130 0 v, K, N) r := fun r ⟨b1, b2, b3, b4⟩ => by
    refine ⟨hrc _ (by omega) b1, b2.up (by omega) (by omega), ?_, ?_⟩
    · show bl_up2 R 130 0 v 120 r = _; rw [up130 (by omega)]; exact b3
    · show bl_up2 R 130 0 v 121 r = _; rw [up130 (by omega)]; exact b4
  refine ⟨?_, ?_, fun r hr => ?_, ?_, ?_, ?_, ?_, fun r hr => ?_, ?_, fun hw => ?_⟩
  · obtain ⟨b1, b2, b3, b4, b5, b6, b7, b8⟩ := a1
    refine ⟨?_, ?_, ?_, ?_, b5.up (by omega), b6.up (by omega), b7, b8⟩
    · unfold clA; dsimp only; rw [up130 (show 100 ≠ 130 by omega)]; exact b1
    · show tpS (bl_up2 R 130 0 v) K N 110
      unfold tpS; rw [up130 (by omega)]; exact b2
    · unfold unX; dsimp only; rw [up130 (show 140 ≠ 130 by omega)]; exact b3
    · show bnS (bl_up2 R 130 0 v) K N 150
      unfold bnS; rw [up130 (by omega)]; exact b4
  · unfold clH; dsimp only; rw [up130 (show 100 ≠ 130 by omega)]; exact a2
  · rcases a3 r hr with b | ⟨b1, b2, b3⟩
    · exact Or.inl (hmk r b)
    · refine Or.inr ⟨?_, ?_, b3⟩
      · show bl_up2 R 130 0 v 120 r = _; rw [up130 (by omega)]; exact b1
      · show bl_up2 R 130 0 v 121 r = _; rw [up130 (by omega)]; exact b2
  · unfold clW; dsimp only; rw [up130 (show 100 ≠ 130 by omega)]
    rcases a4 with b | ⟨b1, b2⟩
    · exact Or.inl b
    · refine Or.inr ⟨b1, ?_⟩
      show psS (bl_up2 R 130 0 v) K N 200
      unfold psS; rw [up130 (by omega)]; exact b2
  · unfold clT; dsimp only; rw [hF 110 (by omega), hF 111 (by omega)]; exact a5
  · exact kiC.nm a6 (hF _ (by omega)) (hF _ (by omega))
  · unfold clN; dsimp only; rw [hF 100 (by omega), hF 170 (by omega), hF 171 (by omega)]; exact a7
  · obtain ⟨b1, b2, b3⟩ := a8 r hr
    refine ⟨hmk r b1, b2.nm (hF _ (by omega)) (hF _ (by omega)) (hF _ (by omega)), ?_⟩
    unfold rnO at b3 ⊢
    dsimp only at b3 ⊢
    rw [hF (400 + 10 * r) (by omega), hF (400 + 10 * r + 2) (by omega), hF (400 + 10 * r + 3) (by omega)]
    refine ⟨?_, b3.2⟩
    rcases b3.1 with c | ⟨c1, c2, c3⟩
    · exact Or.inl c
    · exact Or.inr ⟨c1, c2, fun k hk => (c3 k hk).nm (fun y hy => ⟨hF y (by unfold slN at hy; omega), rfl⟩)⟩
  · unfold clB; dsimp only; rw [hF 150 (by omega)]
    rcases a9 with a | ⟨a, b⟩
    · exact Or.inl a
    · exact Or.inr ⟨a, b.nm (fun y h1 h2 => hF y (by omega))⟩
  · have hw' : R 100 10 = some 200 := by rw [← up130 (R := R) (v := v) (show 100 ≠ 130 by omega)]; exact hw
    exact (a10 hw').nm (fun y h1 h2 => hF y (by omega))
theorem clI.house (hI : clI (I, J, R, K, N) S h) : kiS R K N h ∧ (h = 180 ∨ h = 190) := by
  refine ⟨?_, hI.2.1.1⟩
  rcases hI.2.1.1 with rfl | rfl
  · exact hI.1.2.2.2.2.1
  · exact hI.1.2.2.2.2.2.1
theorem c_BL_runOfT {r : Nat} (hI : clI (I, J, R, K, N) S h) (hO : csO S) (hr : r < S.1.2.2.1) (hx : x = nI r) : bl_MC G l (d + 4) mX10_runOf [.ref 100, .int x] (I, J, R, K, N) (1, 6) (fun o s' => o = .inl (some (.ref (400 + 10 * r))) ∧ ∃ I' J', s' = (I', J', R, K, N) ∧ clI s' S h ∧ cfF (I, J, R, K, N) s' ∧ I' (400 + 10 * r) 7 = 1) := by
  obtain ⟨⟨kx, ⟨rx_0, rx_1, rx_2, rx_3, rx_4, rx_5, rx_6, rx_7⟩, ⟨kxr, nxr⟩, ⟨kxn, nxn⟩, kxb, ⟨kxi, nxi⟩, ⟨kxj, nxj⟩⟩, hTp, hUn, hBn, hK1, hK2, hSt, hStr⟩ := hI.1
  have hc := hO.2.2.1
  have hn := hI.2.2.2.2.2.2.1.1
  obtain ⟨⟨m1, m2, m3, m4⟩, hrc, hro⟩ := hI.2.2.2.2.2.2.2.1 r hr
  obtain ⟨hhs, hh⟩ := hI.house
  obtain ⟨hh0, kxh, rxh_0, rxh_1, rxh_2, ⟨kv, nv⟩, -, -⟩ := hhs
  have rx_8 := hI.2.1.2.1
  have ecr : (nI r).toNatClampNeg = r := nI_clamp (by omega)
  have krq := m2.2.1
  have hD := aD_20 hO r
  have hkc := hI.2.2.2.2.2.1
  dsimp only at kx rx_1 kxr nxr hn m3 m4 rx_8 rx_2 kxn nxn krq hrc hro hkc
  subst hx
  have hfl : I (400 + 10 * r) 7 = 0 ∨ I (400 + 10 * r) 7 = 1 := hro.1.imp id (fun h => h.1)
  rcases hfl with h7 | h7
  · have h8 : I (400 + 10 * r) 8 = 0 := by
      rcases hro.2.1 with a | ⟨_, b, _⟩
      · exact a
      · rw [h7] at b; exact absurd b (by decide)
    refine bl_MC_intro (by decide +kernel) rfl (Nat.le_of_ble_eq_true rfl) ?_
    refine bl_go oX10_runOf 80 [] rfl ?_
    refine ⟨rfl, rfl, kx, (Nat.le_of_ble_eq_true rfl), (1, 6), Nat.le_of_ble_eq_true rfl, Nat.le_of_ble_eq_true rfl, bl_MC_mono (c_BL_recipeOfT (d := d + 3) (r := r) hI hr hc rfl) (fun o2 σ2 q2 => ?_)⟩
    try dsimp only [bl_pv] at q2
    obtain ⟨rfl, rfl⟩ := q2
    refine bl_go oX10_runOf 80 [] rfl ?_
    refine ⟨kx, _, bl_vs rx_2, bl_ka kxn, (by first | exact (by rw [nxn]; exact vp_in_nI (by omega) (by omega)) | ((try dsimp only [bl_pv]); show vp_in _ (N _); rw [nxn]; simp (disch := omega) only [zI_n, zI_o, zI_lit, zI_neg, zI_add, zI_sub, zI_mul, zI_lt, zI_le, zI_eq, zI_clamp, zI_in, zI_div, zI_rem, lg_lt0, lg_gt0, lg_eq0, lg_le0, lg_ge0, Int.toNat_natCast, ge_iff_le, gt_iff_lt, List.length_cons, List.length_nil, bl_up2_at, bl_up2_nk, bl_up2_nx] <;> omega)), _, bl_vs (by dsimp only; rw [ecr]; exact m4), krq, fun h32 => ?_, fun h32 => ?_⟩
    · try simp (disch := omega) only [bl_pv, cl0, cl1, cl2, cl3, cl4, cl5, cl6, cl7, cl8, cl9, bl_up2_at, bl_up2_nk, bl_up2_nx] at h32
      exact absurd h7 h32
    · try simp (disch := omega) only [bl_pv, cl0, cl1, cl2, cl3, cl4, cl5, cl6, cl7, cl8, cl9, bl_up2_at, bl_up2_nk, bl_up2_nx] at h32
      first
      | (exfalso; first | omega | exact h32 trivial)
      | (refine ⟨kx, _, bl_vs rx_8, rfl, rfl, krq, (Nat.le_of_ble_eq_true rfl), (0, 0), Nat.le_of_ble_eq_true rfl, Nat.le_of_ble_eq_true rfl, bl_MC_mono (c_Run_layOut (d := d) (tf := S.1.1) (rc := S.1.2.2.2.1 r) m2 kxh rxh_0 kv nv hkc.1 ⟨hO.1.1.2, hO.1.2.1.2, by have := hO.1.2.2.1; omega, by have := hO.1.2.2.2.1; omega⟩ (by omega) m1 (by omega) (by omega) hrc (hO.2.2.2.1 r).2) (fun o41 σ41 q41 => ?_)⟩
         try dsimp only [bl_pv] at q41
         obtain ⟨rfl, I1, J1, n, rfl, f1, f2, f3, f4, f5⟩ := q41
         have hnD : n = aD S.1 r := isDone_eq f2 (dnf_is _ _)
         subst hnD
         refine bl_go oX10_runOf 80 [] rfl ?_
         try show _ ∧ _
         try dsimp only [bl_pv]
         have hFr : ∀ y, ¬ rnN (400 + 10 * r) (1000 + 21 * r) y → I1 y = I y ∧ J1 y = J y := fun y hy => f1.1 y (fun e => hy (Or.inl e)) (fun k hk hs => hy (Or.inr (Or.inr (Or.inr (Or.inr ⟨k, hk, hs⟩)))))
         refine ⟨rfl, I1, J1, rfl, hI.run hO (by omega) hFr (fun _ => ⟨Or.inr ⟨f4, f3, f5⟩, Or.inl ?_, ?_⟩), fun y h1 h2 => ?_, f4⟩
         · rw [f1.2 8 (by omega) (by omega)]; exact h8
         · rw [f1.2 9 (by omega) (by omega), f1.2 6 (by omega) (by omega)]; exact hro.2.2
         · have := hFr y (fun hn => by have := rnN_rng hn (show r < 4 by omega); omega)
           exact ⟨this.1, this.2, rfl, rfl, rfl⟩)
  · skip
    refine bl_MC_intro (by decide +kernel) rfl (Nat.le_of_ble_eq_true rfl) ?_
    refine bl_go oX10_runOf 80 [35] rfl ?_
    refine ⟨rfl, rfl, kx, (Nat.le_of_ble_eq_true rfl), (1, 6), Nat.le_of_ble_eq_true rfl, Nat.le_of_ble_eq_true rfl, bl_MC_mono (c_BL_recipeOfT (d := d + 3) (r := r) hI hr hc rfl) (fun o2 σ2 q2 => ?_)⟩
    try dsimp only [bl_pv] at q2
    obtain ⟨rfl, rfl⟩ := q2
    refine bl_go oX10_runOf 80 [35] rfl ?_
    refine ⟨kx, _, bl_vs rx_2, bl_ka kxn, (by first | exact (by rw [nxn]; exact vp_in_nI (by omega) (by omega)) | ((try dsimp only [bl_pv]); show vp_in _ (N _); rw [nxn]; simp (disch := omega) only [zI_n, zI_o, zI_lit, zI_neg, zI_add, zI_sub, zI_mul, zI_lt, zI_le, zI_eq, zI_clamp, zI_in, zI_div, zI_rem, lg_lt0, lg_gt0, lg_eq0, lg_le0, lg_ge0, Int.toNat_natCast, ge_iff_le, gt_iff_lt, List.length_cons, List.length_nil, bl_up2_at, bl_up2_nk, bl_up2_nx] <;> omega)), _, bl_vs (by dsimp only; rw [ecr]; exact m4), krq, fun h32 => ?_, fun h32 => ?_⟩
    · try simp (disch := omega) only [bl_pv, cl0, cl1, cl2, cl3, cl4, cl5, cl6, cl7, cl8, cl9, bl_up2_at, bl_up2_nk, bl_up2_nx] at h32
      first
      | (exfalso; first | omega | exact h32 trivial)
      | (try show _ ∧ _
         try dsimp only [bl_pv]
         exact ⟨rfl, I, J, rfl, hI, cfF.refl, h7⟩)
    · try simp (disch := omega) only [bl_pv, cl0, cl1, cl2, cl3, cl4, cl5, cl6, cl7, cl8, cl9, bl_up2_at, bl_up2_nk, bl_up2_nx] at h32
      first
      | (exfalso; first | omega | exact h32 trivial)
      | (try dsimp only [bl_pv]
         exact absurd (h7.symm.trans h32) (by decide))
end CLS2
