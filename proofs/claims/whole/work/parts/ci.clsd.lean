/-! ===== ButterLeaves: ways ===== -/
section CLSD
variable {G : bl_G} {l : Launch} {d : Nat} {I I' : Nat → Nat → Int32} {J J' : Nat → Nat → Int64} {R : Nat → Nat → Option Nat} {K N : Nat → Nat} {S : cS} {h c : Nat} {x y w a b e : Int32}
theorem clI.ways (hI : clI (I, J, R, K, N) S h) (hO : csO S) (hF : ∀ y, (y < 200 ∨ 206 < y) → I' y = I y) (hw : wsI I' 200 (pPk S.1.1 S.2.1 S.1.2.2.2.2)) : clI (I', J, R, K, N) S h := by
  obtain ⟨a1, a2, a3, a4, a5, a6, a7, a8, a9, a10⟩ := hI
  have hh := a2.1
  have hs := hF
  refine ⟨a1, a2, a3, a4, ?_, kiC.nm a6 (hs _ (by omega)) (hs _ (by omega)), ?_, fun r hr => ?_, ?_, fun _ => hw⟩
  · unfold clT; dsimp only; rw [hs 110 (by omega), hs 111 (by omega)]; exact a5
  · unfold clN; dsimp only; rw [hs 100 (by omega), hs 170 (by omega), hs 171 (by omega)]; exact a7
  · obtain ⟨c1, c2, c3⟩ := a8 r hr
    have hc4 := hO.2.2.1
    have hD := aD_20 hO r
    exact ⟨c1, c2.nm (hs _ (by omega)) (hs _ (by omega)) (hs _ (by omega)), c3.nm (fun y hy => ⟨hs y (by have := rnN_rng hy (by omega); omega), rfl⟩) (by omega)⟩
  · unfold clB; dsimp only; rw [hs 150 (by omega)]
    rcases a9 with a | ⟨a, b⟩
    · exact Or.inl a
    · exact Or.inr ⟨a, b.nm (fun y h1 h2 => hs y (by omega))⟩
/-- the ways are made -/
theorem clI.wmade {s s' : bl_Mem} (hI : clI s S h) (hO : csO S) (hF : eqF s s' (fun y => y = 100 ∨ (200 ≤ y ∧ y ≤ 206))) (h100 : s'.1 100 = s.1 100 ∧ (∀ j, j ≠ 10 → s'.2.2.1 100 j = s.2.2.1 100 j) ∧ s'.2.2.2.1 100 = s.2.2.2.1 100) (h10 : s'.2.2.1 100 10 = some 200) (hp : psX s' 200) (hw : wsI s'.1 200 (pPk S.1.1 S.2.1 S.1.2.2.2.2)) : clI s' S h := by
  obtain ⟨a1, a2, a3, a4, a5, a6, a7, a8, a9, a10⟩ := hI
  have hh := a2.1
  have hc4 := hO.2.2.1
  have hn : ∀ y, y ≠ 100 → (y < 200 ∨ 206 < y) → ¬ (y = 100 ∨ (200 ≤ y ∧ y ≤ 206)) := fun y h1 h2 => by omega
  have hI' : ∀ y, y ≠ 100 → (y < 200 ∨ 206 < y) → s'.1 y = s.1 y := fun y h1 h2 => (hF y (hn y h1 h2)).1
  have hR' : ∀ y, y ≠ 100 → (y < 200 ∨ 206 < y) → s'.2.2.1 y = s.2.2.1 y := fun y h1 h2 => (hF y (hn y h1 h2)).2.2.1
  have hK' : ∀ y, y ≠ 100 → (y < 200 ∨ 206 < y) → s'.2.2.2.1 y = s.2.2.2.1 y := fun y h1 h2 => (hF y (hn y h1 h2)).2.2.2.1
  have hN' : ∀ y, y ≠ 100 → (y < 200 ∨ 206 < y) → s'.2.2.2.2 y = s.2.2.2.2 y := fun y h1 h2 => (hF y (hn y h1 h2)).2.2.2.2
  have hki : ∀ a, a = 180 ∨ a = 190 → kiX s a → kiX s' a := fun a ha hk => kiX.eq hk hF (hn _ (by omega) (by omega)) (hn _ (by omega) (by omega)) (hn _ (by omega) (by omega)) (hn _ (by omega) (by omega))
  have hmk : ∀ r, r < 4 → mkR s r → mkR s' r := fun r hr ⟨b1, b2, b3, b4⟩ => by
    refine ⟨rcX.eq b1 hF (hn _ (by omega) (by omega)) (hn _ (by omega) (by omega)) (hn _ (by omega) (by omega)), rnX.eq b2 hF (fun y hy => by have := rnN_rng hy hr; omega), ?_, ?_⟩
    · rw [hR' 120 (by omega) (by omega)]; exact b3
    · rw [hR' 121 (by omega) (by omega)]; exact b4
  refine ⟨?_, ?_, fun r hr => ?_, Or.inr ⟨h10, hp⟩, ?_, ?_, ?_, fun r hr => ?_, ?_, fun _ => hw⟩
  · obtain ⟨b1, b2, b3, b4, b5, b6, b7, b8⟩ := a1
    refine ⟨?_, ?_, ?_, ?_, hki 180 (by omega) b5, hki 190 (by omega) b6, fun j hj => ?_, fun j hj => ?_⟩
    · unfold clA at b1 ⊢
      rw [h100.2.2, h100.2.1 0 (by omega), h100.2.1 1 (by omega), h100.2.1 2 (by omega), h100.2.1 3 (by omega), h100.2.1 4 (by omega), h100.2.1 5 (by omega), h100.2.1 6 (by omega), h100.2.1 7 (by omega), hK' 120 (by omega) (by omega), hN' 120 (by omega) (by omega), hK' 121 (by omega) (by omega), hN' 121 (by omega) (by omega), hK' 130 (by omega) (by omega), hK' 170 (by omega) (by omega), hN' 170 (by omega) (by omega), hK' 171 (by omega) (by omega), hN' 171 (by omega) (by omega)]; exact b1
    · unfold tpX tpS at b2 ⊢
      rw [hK' 110 (by omega) (by omega), hR' 110 (by omega) (by omega), hK' (110 + 1) (by omega) (by omega), hN' (110 + 1) (by omega) (by omega)]; exact b2
    · unfold unX at b3 ⊢
      rw [hK' 140 (by omega) (by omega), hR' 140 (by omega) (by omega), hK' 141 (by omega) (by omega), hN' 141 (by omega) (by omega), hK' 142 (by omega) (by omega), hN' 142 (by omega) (by omega), hK' 143 (by omega) (by omega), hN' 143 (by omega) (by omega)]; exact b3
    · unfold bnX bnS at b4 ⊢
      simp (disch := omega) only [hK', hR', hN']; exact b4
    · rw [hK' (940 + j) (by omega) (by omega)]; exact b7 j hj
    · rw [hK' (950 + j) (by omega) (by omega)]; exact b8 j hj
  · unfold clH; rw [h100.2.1 8 (by omega), h100.2.1 9 (by omega)]; exact a2
  · rcases a3 r hr with b | ⟨b1, b2, b3⟩
    · exact Or.inl (hmk r hr b)
    · refine Or.inr ⟨?_, ?_, fun y hy => ?_⟩
      · rw [hR' 120 (by omega) (by omega)]; exact b1
      · rw [hR' 121 (by omega) (by omega)]; exact b2
      · have hy2 : 206 < y ∧ y ≠ 100 := by
          rcases hy with q | q
          · omega
          · have := rnN_rng q hr; omega
        rw [hK' y hy2.2 (Or.inr hy2.1)]; exact b3 y hy
  · unfold clT; rw [hI' 110 (by omega) (by omega), hI' 111 (by omega) (by omega)]; exact a5
  · exact kiC.nm a6 (hI' _ (by omega) (by omega)) (hI' _ (by omega) (by omega))
  · unfold clN; rw [h100.1, hI' 170 (by omega) (by omega), hI' 171 (by omega) (by omega)]; exact a7
  · obtain ⟨c1, c2, c3⟩ := a8 r hr
    have hD := aD_20 hO r
    refine ⟨hmk r (by omega) c1, c2.nm (hI' _ (by omega) (by omega)) (hI' _ (by omega) (by omega)) (hI' _ (by omega) (by omega)), c3.nm (fun y hy => ?_) (by omega)⟩
    have := rnN_rng hy (by omega)
    have q := hF y (hn y (by omega) (by omega))
    exact ⟨q.1, q.2.1⟩
  · unfold clB; rw [hI' 150 (by omega) (by omega)]
    rcases a9 with a | ⟨a, b⟩
    · exact Or.inl a
    · exact Or.inr ⟨a, b.nm (fun y h1 h2 => hI' y (by omega) (by omega))⟩
theorem c_BL_searchedT (hI : clI (I, J, R, K, N) S h) (rx_10 : R 100 10 = some 200) : bl_MC G l d mX10_searchedWays [.ref 100] (I, J, R, K, N) (0, 0) (fun o s' => o = .inl (some (.ref 200)) ∧ s' = (I, J, R, K, N)) := by
  obtain ⟨⟨kx, ⟨rx_0, rx_1, rx_2, rx_3, rx_4, rx_5, rx_6, rx_7⟩, ⟨kxr, nxr⟩, ⟨kxn, nxn⟩, kxb, ⟨kxi, nxi⟩, ⟨kxj, nxj⟩⟩, hTp, hUn, hBn, hK1, hK2, hSt, hStr⟩ := hI.1
  dsimp only at kx
  refine bl_MC_intro (by decide +kernel) rfl (Nat.le_of_ble_eq_true rfl) ?_
  refine bl_go oX10_searchedWays 80 [] rfl ?_
  refine ⟨kx, _, bl_vs rx_10, kx, _, bl_vs rx_10, ?_⟩
  try show _ ∧ _
  try dsimp only [bl_pv]
  exact ⟨rfl, rfl⟩
theorem c_BL_searchedN (hI : clI (I, J, R, K, N) S h) (hO : csO S) (hr : R 100 10 = none) : bl_MC G l (d + 1) mX10_searchedWays [.ref 100] (I, J, R, K, N) (7, 38835) (fun o s' => o = .inl (some (.ref 200)) ∧ clI s' S h ∧ cfF (I, J, R, K, N) s' ∧ s'.2.2.1 100 10 = some 200) := by
  have hI0 := hI
  obtain ⟨⟨kx, ⟨rx_0, rx_1, rx_2, rx_3, rx_4, rx_5, rx_6, rx_7⟩, ⟨kxr, nxr⟩, ⟨kxn, nxn⟩, kxb, ⟨kxi, nxi⟩, ⟨kxj, nxj⟩⟩, hTp, hUn, hBn, hK1, hK2, hSt, hStr⟩ := hI.1
  have hW := hI.2.2.2.1
  dsimp only at kx
  have hfr : ∀ y, 200 ≤ y → y < 207 → K y = 0 := by
    rcases hW with ⟨_, q⟩ | ⟨q, _⟩
    · exact q
    · rw [show R 100 10 = some 200 from q] at hr; cases hr
  refine bl_MC_intro (by decide +kernel) rfl (Nat.le_of_ble_eq_true rfl) ?_
  have L18 : ∀ s5 : bl_Mem, clI s5 S h → cfF (I, J, R, K, N) s5 → s5.2.2.1 100 10 = some 200 → bl_WP G l (d + 1) mX10_searchedWays 18 [(0, .ref 100)] [] s5 (0, 0) (fun o s' => o = .inl (some (.ref 200)) ∧ clI s' S h ∧ cfF (I, J, R, K, N) s' ∧ s'.2.2.1 100 10 = some 200) := by
    intro s5 f1 f2 f3
    obtain ⟨I5, J5, R5, K5, N5⟩ := s5
    have kx := f1.1.1.1
    have rx_10 := f3
    dsimp only at kx rx_10
    refine bl_go oX10_searchedWays 80 [18] rfl ?_
    refine ⟨kx, _, bl_vs rx_10, ?_⟩
    try show _ ∧ _
    try dsimp only [bl_pv]
    exact ⟨rfl, f1, f2, f3⟩
  refine bl_go oX10_searchedWays 80 [18] rfl ?_
  refine ⟨kx, _, bl_v0 hr, 200, hfr _ (by omega) (by omega), (by decide), (by decide +kernel), rfl, (Nat.le_of_ble_eq_true rfl), (6, 38823), _, (by decide), (by decide +kernel), bl_MC_ini (c_Passes_init (d := d) (o := 200) bl_mk_Keq ⟨(bl_mk_Kne (by omega)).trans (hfr _ (by omega) (by omega)), (bl_mk_Kne (by omega)).trans (hfr _ (by omega) (by omega)), (bl_mk_Kne (by omega)).trans (hfr _ (by omega) (by omega)), (bl_mk_Kne (by omega)).trans (hfr _ (by omega) (by omega)), (bl_mk_Kne (by omega)).trans (hfr _ (by omega) (by omega)), (bl_mk_Kne (by omega)).trans (hfr _ (by omega) (by omega))⟩), fun s2 q2 => ?_⟩
  have hF2 : eqF (I, J, R, K, N) s2 (fun y => 200 ≤ y ∧ y ≤ 206) := (eqF_mk.mono (fun y hy => by omega)).trans (eqF_inF q2 (by omega) (by intro p hp; simp at hp; rcases hp with rfl | rfl | rfl | rfl | rfl | rfl <;> simp))
  have h2 := hF2 100 (by omega)
  have kx2 : s2.2.2.2.1 100 = 11 := h2.2.2.2.1.trans kx
  refine ⟨kx2, Or.inl ⟨rfl, Or.inl ⟨_, rfl⟩⟩, (fun h => by cases h), ?_⟩
  have hpv := @eqF_pv s2 100 10 (.ref 200)
  have hall : eqF (I, J, R, K, N) (bl_pv s2 100 10 (.ref 200)) (fun y => y = 100 ∨ (200 ≤ y ∧ y ≤ 206)) := (hF2.mono (fun y hy => Or.inr hy)).trans (hpv.mono (fun y hy => Or.inl hy))
  have hps : psX (bl_pv s2 100 10 (.ref 200)) 200 := by
    obtain ⟨a1, a2, a3, -⟩ := q2.2.2.2 (5, 200 + 6, 20, 121) (by simp)
    obtain ⟨b1, b2, b3, -⟩ := q2.2.2.2 (4, 200 + 5, 20, 7) (by simp)
    obtain ⟨c1, c2, c3, -⟩ := q2.2.2.2 (3, 200 + 4, 20, 7) (by simp)
    obtain ⟨d1, d2, d3, -⟩ := q2.2.2.2 (2, 200 + 3, 20, 96) (by simp)
    obtain ⟨e1, e2, e3, -⟩ := q2.2.2.2 (1, 200 + 2, 20, 96) (by simp)
    obtain ⟨f1, f2, f3, -⟩ := q2.2.2.2 (0, 200 + 1, 20, 38496) (by simp)
    have ko : s2.2.2.2.1 200 = 4 := ((q2.1 200 (by simp)).2.2.1).trans bl_mk_Keq
    show psS (bl_up2 s2.2.2.1 100 10 (some 200)) s2.2.2.2.1 s2.2.2.2.2 200
    unfold psS
    rw [bl_up2_ne (by omega)]
    exact ⟨by omega, ko, ⟨f1, e1, d1, c1, b1, a1⟩, ⟨f2, e2, d2, c2, b2, a2⟩, ⟨f3, e3, d3, c3, b3, a3⟩⟩
  have hws : wsI s2.1 200 (pPk S.1.1 S.2.1 S.1.2.2.2.2) := by
    obtain ⟨-, -, -, d4, -⟩ := q2.2.2.2 (2, 200 + 3, 20, 96) (by simp)
    obtain ⟨-, -, -, e4, -⟩ := q2.2.2.2 (1, 200 + 2, 20, 96) (by simp)
    obtain ⟨-, -, -, f4, -⟩ := q2.2.2.2 (0, 200 + 1, 20, 38496) (by simp)
    refine ⟨fun t ht => ⟨0, 1, by omega, by omega, e4 t, d4 t, fun w hw hne => absurd (f4 _) hne⟩, Or.inl ?_⟩
    rw [(q2.1 200 (by simp)).1]
    show bl_row0 I 200 0 200 11 = 0
    rw [bl_row0_eq]
  refine bl_WP_bud (b' := (0, 0)) (by decide) (by decide +kernel) (L18 _ (hI0.wmade hO hall ⟨h2.1, fun j hj => ?_, ?_⟩ ?_ hps hws) (fun y y1 y2 => hall y (by omega)) ?_)
  · show bl_up2 s2.2.2.1 100 10 (some 200) 100 j = _
    rw [bl_up2_nk hj, h2.2.2.1]
  · rw [pv_K]; exact h2.2.2.2.1
  · show bl_up2 s2.2.2.1 100 10 (some 200) 100 10 = _
    rw [bl_up2_at]
  · show bl_up2 s2.2.2.1 100 10 (some 200) 100 10 = _
    rw [bl_up2_at]
end CLSD
