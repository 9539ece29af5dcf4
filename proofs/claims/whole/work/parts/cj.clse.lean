/-! ===== ButterLeaves: soonest, fewest, pass ===== -/
/-- what wayTo answers, and what it leaves for pass -/
def wyO (P : pP) (s : bl_Mem) (n : Nat) (w v : Int32) : Prop := (made n ∧ ∃ u c, bestW P (pm n) u c ∧ c < 244140625 ∧ s.2.2.1 100 10 = some 200 ∧ s.1 205 (pm n) = nI (c + 1) ∧ (u ≤ 120 ∧ v = if w = 0 then nI u else nI (pm n))) ∨ ((¬ made n ∨ ((∀ u', ¬ Ws P 0 P.1 (pm n) u') ∧ s.2.2.1 100 10 = some 200)) ∧ v = zI (-1))
theorem wyO.sw {P : pP} {s : bl_Mem} {n : Nat} {w v : Int32} (h : wyO P s n w v) : swP P n w v := by
  rcases h with ⟨h1, u, c, ⟨⟨w', h2⟩, h3⟩, -, -, -, -, h4⟩ | h
  · refine Or.inl ⟨h1, u, ⟨w', c, h2⟩, fun u' ⟨w1, c1, q⟩ => ?_, h4⟩
    rcases h3 u' w1 c1 q with e | ⟨e, -⟩ <;> omega
  · exact Or.inr ⟨h.1.imp id And.left, h.2⟩
theorem wyO.mk {P : pP} {s : bl_Mem} {n : Nat} {w v : Int32} (h : wyO P s n w v) (hm : made n) : s.2.2.1 100 10 = some 200 := by
  rcases h with ⟨h1, u, c, h2, h3, h4, -⟩ | ⟨h1 | h1, -⟩
  · exact h4
  · exact absurd hm h1
  · exact h1.2
theorem nI_ma (a b : Nat) : 10 * nI a + nI b = nI (10 * a + b) := by
  rw [show (10 : Int32) = nI 10 from rfl]; exact ((Int32.ofNat_add _ _).trans (by rw [Int32.ofNat_mul]; rfl)).symm
section CLSE
variable {G : bl_G} {l : Launch} {d : Nat} {I I' : Nat → Nat → Int32} {J J' : Nat → Nat → Int64} {R : Nat → Nat → Option Nat} {K N : Nat → Nat} {S : cS} {h c : Nat} {x y w a b e : Int32}

theorem c_BL_wayToT (hlt : l.stackTraces = false) (hI : clI (I, J, R, K, N) S h) (hO : csO S) (rx10 : R 100 10 = some 200) : bl_MC G l (d + 5) mX10_wayTo [.ref 100, .int x, .int w] (I, J, R, K, N) (2, 12) (fun o s' => clI s' S h ∧ cfF (I, J, R, K, N) s' ∧ ((swE x w = 1 ∧ o = .inr bl_IAE ∧ s' = (I, J, R, K, N)) ∨ (swE x w = 0 ∧ ∃ v, o = .inl (some (.int v)) ∧ wyO (pPk S.1.1 S.2.1 S.1.2.2.2.2) s' (rn x) w v))) := by
  obtain ⟨⟨kx, ⟨rx_0, rx_1, rx_2, rx_3, rx_4, rx_5, rx_6, rx_7⟩, ⟨kxr, nxr⟩, ⟨kxn, nxn⟩, kxb, ⟨kxi, nxi⟩, ⟨kxj, nxj⟩⟩, hTp, hUn, hBn, hK1, hK2, hSt, hStr⟩ := hI.1
  dsimp only at kx
  by_cases hx : 1 ≤ x ∧ x ≤ 1024
  · obtain ⟨n, hn2, rfl⟩ := i32_nat (b := 1024) (by omega) (Int32.le_trans (show (0 : Int32) ≤ 1 by decide) hx.1) hx.2
    have hn1 : 1 ≤ n := (nI_lek (a := 1) (by omega) (by omega)).mp hx.1
    have en : rn (nI n) = n := nI_clamp (by omega)
    by_cases hw : 0 ≤ w ∧ w ≤ 1
    · have hW : swE (nI n) w = 0 := by unfold swE; rw [inb_t hx, wb_t hw]; rfl
      obtain ⟨v, hv, rfl⟩ := i32_nat (b := 1) (by omega) hw.1 hw.2
      by_cases hm : made n
      · have hfw : fwf n = nI (pm n) := if_pos hm
        have hp6 := (made_pm hn1 hn2 hm).1
        refine bl_MC_intro (by decide +kernel) rfl (Nat.le_of_ble_eq_true rfl) ?_
        have L39 : ∀ s5 z, clI s5 S h → cfF (I, J, R, K, N) s5 → ((∃ u c, bestW (pPk S.1.1 S.2.1 S.1.2.2.2.2) (pm n) u c ∧ u ≤ 120 ∧ c < 244140625 ∧ s5.2.2.1 100 10 = some 200 ∧ s5.1 205 (pm n) = nI (c + 1) ∧ z = nI u) ∨ ((∀ u', ¬ Ws (pPk S.1.1 S.2.1 S.1.2.2.2.2) 0 (pPk S.1.1 S.2.1 S.1.2.2.2.2).1 (pm n) u') ∧ s5.2.2.1 100 10 = some 200 ∧ z = zI (-1))) → bl_WP G l (d + 5) mX10_wayTo 39 [(4, .int z), (3, .int (nI (pm n))), (0, .ref 100), (1, .int (nI n)), (2, .int (nI v))] [] s5 (0, 0) (fun o s' => clI s' S h ∧ cfF (I, J, R, K, N) s' ∧ ((swE (nI n) (nI v) = 1 ∧ o = .inr bl_IAE ∧ s' = (I, J, R, K, N)) ∨ (swE (nI n) (nI v) = 0 ∧ ∃ v', o = .inl (some (.int v')) ∧ wyO (pPk S.1.1 S.2.1 S.1.2.2.2.2) s' (rn (nI n)) (nI v) v'))) := by
          intro s5 z f1 f2 f3
          rcases f3 with ⟨u, c, g1, g2, g3, g4, g5, rfl⟩ | ⟨g1, g4, rfl⟩
          · skip
            refine bl_go oX10_wayTo 80 [39] rfl ?_
            refine ⟨fun h40 => ?_, fun h40 => ?_⟩
            · try simp (disch := omega) only [zI_n, zI_o, zI_lit, zI_neg, zI_add, zI_sub, zI_mul, zI_lt, zI_le, zI_eq, zI_clamp, zI_in, zI_div, zI_rem, lg_lt0, lg_gt0, lg_eq0, lg_le0, lg_ge0, Int.toNat_natCast, ge_iff_le, gt_iff_lt, List.length_cons, List.length_nil, bl_up2_at, bl_up2_nk, bl_up2_nx] at h40
              first
              | (exfalso; first | omega | exact h40 trivial)
              | (refine ⟨(fun h => by cases h), ?_⟩
                 try show _ ∧ _
                 try dsimp only [bl_pv]
                 refine ⟨f1, f2, Or.inr ⟨hW, _, rfl, Or.inl ⟨by rw [en]; exact hm, u, c, by rw [en]; exact g1, g3, g4, by rw [en]; exact g5, g2, ?_⟩⟩⟩
                 rw [en]
                 first
                 | (have e0 : v = 0 := by omega
                    subst e0; rw [if_pos (show nI 0 = 0 from rfl)])
                 | (have e0 : v = 1 := by omega
                    subst e0; rw [if_neg (by decide)]))
            · try simp (disch := omega) only [zI_n, zI_o, zI_lit, zI_neg, zI_add, zI_sub, zI_mul, zI_lt, zI_le, zI_eq, zI_clamp, zI_in, zI_div, zI_rem, lg_lt0, lg_gt0, lg_eq0, lg_le0, lg_ge0, Int.toNat_natCast, ge_iff_le, gt_iff_lt, List.length_cons, List.length_nil, bl_up2_at, bl_up2_nk, bl_up2_nx] at h40
              first
              | (exfalso; first | omega | exact h40 trivial)
              | (refine ⟨fun h46 => ?_, fun h46 => ?_⟩
                 · try simp (disch := omega) only [zI_n, zI_o, zI_lit, zI_neg, zI_add, zI_sub, zI_mul, zI_lt, zI_le, zI_eq, zI_clamp, zI_in, zI_div, zI_rem, lg_lt0, lg_gt0, lg_eq0, lg_le0, lg_ge0, Int.toNat_natCast, ge_iff_le, gt_iff_lt, List.length_cons, List.length_nil, bl_up2_at, bl_up2_nk, bl_up2_nx] at h46
                   first
                   | (exfalso; first | omega | exact h46 trivial)
                   | (refine ⟨(fun h => by cases h), ?_⟩
                      try show _ ∧ _
                      try dsimp only [bl_pv]
                      refine ⟨f1, f2, Or.inr ⟨hW, _, rfl, Or.inl ⟨by rw [en]; exact hm, u, c, by rw [en]; exact g1, g3, g4, by rw [en]; exact g5, g2, ?_⟩⟩⟩
                      rw [en]
                      first
                      | (have e0 : v = 0 := by omega
                         subst e0; rw [if_pos (show nI 0 = 0 from rfl)])
                      | (have e0 : v = 1 := by omega
                         subst e0; rw [if_neg (by decide)]))
                 · try simp (disch := omega) only [zI_n, zI_o, zI_lit, zI_neg, zI_add, zI_sub, zI_mul, zI_lt, zI_le, zI_eq, zI_clamp, zI_in, zI_div, zI_rem, lg_lt0, lg_gt0, lg_eq0, lg_le0, lg_ge0, Int.toNat_natCast, ge_iff_le, gt_iff_lt, List.length_cons, List.length_nil, bl_up2_at, bl_up2_nk, bl_up2_nx] at h46
                   first
                   | (exfalso; first | omega | exact h46 trivial)
                   | (refine ⟨(fun h => by cases h), ?_⟩
                      try show _ ∧ _
                      try dsimp only [bl_pv]
                      refine ⟨f1, f2, Or.inr ⟨hW, _, rfl, Or.inl ⟨by rw [en]; exact hm, u, c, by rw [en]; exact g1, g3, g4, by rw [en]; exact g5, g2, ?_⟩⟩⟩
                      rw [en]
                      first
                      | (have e0 : v = 0 := by omega
                         subst e0; rw [if_pos (show nI 0 = 0 from rfl)])
                      | (have e0 : v = 1 := by omega
                         subst e0; rw [if_neg (by decide)])))
          · skip
            refine bl_go oX10_wayTo 80 [39] rfl ?_
            refine ⟨fun h40 => ?_, fun h40 => ?_⟩
            · try simp (disch := omega) only [zI_n, zI_o, zI_lit, zI_neg, zI_add, zI_sub, zI_mul, zI_lt, zI_le, zI_eq, zI_clamp, zI_in, zI_div, zI_rem, lg_lt0, lg_gt0, lg_eq0, lg_le0, lg_ge0, Int.toNat_natCast, ge_iff_le, gt_iff_lt, List.length_cons, List.length_nil, bl_up2_at, bl_up2_nk, bl_up2_nx] at h40
              first
              | (exfalso; first | omega | exact h40 trivial)
              | (refine ⟨(fun h => by cases h), ?_⟩
                 try show _ ∧ _
                 try dsimp only [bl_pv]
                 refine ⟨f1, f2, Or.inr ⟨hW, _, rfl, Or.inr ⟨Or.inr ⟨by rw [en]; exact g1, g4⟩, ?_⟩⟩⟩
                 rfl)
            · try simp (disch := omega) only [zI_n, zI_o, zI_lit, zI_neg, zI_add, zI_sub, zI_mul, zI_lt, zI_le, zI_eq, zI_clamp, zI_in, zI_div, zI_rem, lg_lt0, lg_gt0, lg_eq0, lg_le0, lg_ge0, Int.toNat_natCast, ge_iff_le, gt_iff_lt, List.length_cons, List.length_nil, bl_up2_at, bl_up2_nk, bl_up2_nx] at h40
              first
              | (exfalso; first | omega | exact h40 trivial)
              | (refine ⟨fun h46 => ?_, fun h46 => ?_⟩
                 · try simp (disch := omega) only [zI_n, zI_o, zI_lit, zI_neg, zI_add, zI_sub, zI_mul, zI_lt, zI_le, zI_eq, zI_clamp, zI_in, zI_div, zI_rem, lg_lt0, lg_gt0, lg_eq0, lg_le0, lg_ge0, Int.toNat_natCast, ge_iff_le, gt_iff_lt, List.length_cons, List.length_nil, bl_up2_at, bl_up2_nk, bl_up2_nx] at h46
                   first
                   | (exfalso; first | omega | exact h46 trivial)
                   | (refine ⟨(fun h => by cases h), ?_⟩
                      try show _ ∧ _
                      try dsimp only [bl_pv]
                      refine ⟨f1, f2, Or.inr ⟨hW, _, rfl, Or.inr ⟨Or.inr ⟨by rw [en]; exact g1, g4⟩, ?_⟩⟩⟩
                      rfl)
                 · try simp (disch := omega) only [zI_n, zI_o, zI_lit, zI_neg, zI_add, zI_sub, zI_mul, zI_lt, zI_le, zI_eq, zI_clamp, zI_in, zI_div, zI_rem, lg_lt0, lg_gt0, lg_eq0, lg_le0, lg_ge0, Int.toNat_natCast, ge_iff_le, gt_iff_lt, List.length_cons, List.length_nil, bl_up2_at, bl_up2_nk, bl_up2_nx] at h46
                   first
                   | (exfalso; first | omega | exact h46 trivial)
                   | (refine ⟨(fun h => by cases h), ?_⟩
                      try show _ ∧ _
                      try dsimp only [bl_pv]
                      refine ⟨f1, f2, Or.inr ⟨hW, _, rfl, Or.inr ⟨Or.inr ⟨by rw [en]; exact g1, g4⟩, ?_⟩⟩⟩
                      rfl))
        refine bl_go oX10_wayTo 80 [39] rfl ?_
        refine ⟨rfl, (Nat.le_of_ble_eq_true rfl), (1, 6), Nat.le_of_ble_eq_true rfl, Nat.le_of_ble_eq_true rfl, bl_MC_mono (c_BL_needLeavesT (d := d + 4) hx) (fun o1 σ1 q1 => ?_)⟩
        try dsimp only [bl_pv] at q1
        obtain ⟨rfl, rfl⟩ := q1
        refine bl_go oX10_wayTo 80 [39] rfl ?_
        refine ⟨rfl, (Nat.le_of_ble_eq_true rfl), (1, 6), Nat.le_of_ble_eq_true rfl, Nat.le_of_ble_eq_true rfl, bl_MC_mono (c_BL_needWhatT (d := d + 4) hw) (fun o6 σ6 q6 => ?_)⟩
        try dsimp only [bl_pv] at q6
        obtain ⟨rfl, rfl⟩ := q6
        refine bl_go oX10_wayTo 80 [39] rfl ?_
        refine ⟨rfl, (Nat.le_of_ble_eq_true rfl), (0, 0), Nat.le_of_ble_eq_true rfl, Nat.le_of_ble_eq_true rfl, bl_MC_mono (c_Passes_fewestFor (d := d + 3) (n := n) rfl hn1 hn2) (fun o10 σ10 q10 => ?_)⟩
        try dsimp only [bl_pv] at q10
        obtain ⟨rfl, rfl⟩ := q10
        rw [hfw]
        refine bl_go oX10_wayTo 80 [39] rfl ?_
        refine ⟨fun h16 => ?_, fun h16 => ?_⟩
        · try simp (disch := omega) only [zI_n, zI_o, zI_lit, zI_neg, zI_add, zI_sub, zI_mul, zI_lt, zI_le, zI_eq, zI_clamp, zI_in, zI_div, zI_rem, lg_lt0, lg_gt0, lg_eq0, lg_le0, lg_ge0, Int.toNat_natCast, ge_iff_le, gt_iff_lt, List.length_cons, List.length_nil, bl_up2_at, bl_up2_nk, bl_up2_nx] at h16
          first
          | (exfalso; first | omega | exact h16 trivial)
          | (refine ⟨rfl, rfl, kx, (Nat.le_of_ble_eq_true rfl), (0, 0), Nat.le_of_ble_eq_true rfl, Nat.le_of_ble_eq_true rfl, bl_MC_mono (c_BL_searchedT (d := d + 4) hI rx10) (fun o22 σ22 q22 => ?_)⟩
             try dsimp only [bl_pv] at q22
             obtain ⟨I5, J5, R5, K5, N5⟩ := σ22
             obtain ⟨rfl, eq5⟩ := q22
             have f1 : clI (I5, J5, R5, K5, N5) S h := eq5 ▸ hI
             have f2 : cfF (I, J, R, K, N) (I5, J5, R5, K5, N5) := eq5 ▸ cfF.refl
             have f3 : R5 100 10 = some 200 := by have q := congrArg (fun s : bl_Mem => s.2.2.1) eq5; dsimp only at q; rw [q]; exact rx10
             have kx5 := f1.1.1.1
             obtain ⟨hhs, hh⟩ := f1.house
             have kx := kx5
             have rx_8 := f1.2.1.2.1
             have kxh := hhs.2.1
             have hkc := f1.2.2.2.2.2.1
             have hnn := f1.2.2.2.2.2.2.1
             have hps : psS R5 K5 N5 200 := by
               rcases f1.2.2.2.1 with ⟨q, _⟩ | ⟨_, q⟩
               · exact absurd (f3.symm.trans q) (by simp)
               · exact q
             have kxw := hps.2.1
             have hws := f1.2.2.2.2.2.2.2.2.2 f3
             dsimp only at kx rx_8 kxh hkc hnn f3 hws
             refine bl_go oX10_wayTo 80 [39] rfl ?_
             refine ⟨kx, _, bl_vs rx_8, kx, rfl, rfl, kxw, (Nat.le_of_ble_eq_true rfl), (0, 0), Nat.le_of_ble_eq_true rfl, Nat.le_of_ble_eq_true rfl, bl_MC_mono (c_Passes_fewestUnits (d := d) (u0 := S.1.2.2.2.2) (p := pm n) (tf := S.1.1) (g := S.2.1) (dg := S.1.2.1) hps hws hhs hkc hO.2.1.1 hO.2.1.2 (by omega) hnn.2.2.1 hO.2.2.2.2.1 rfl hp6) (fun o34 σ34 q34 => ?_)⟩
             try dsimp only [bl_pv] at q34
             obtain ⟨I6, rfl, g1, g2, g3, g4⟩ := q34
             have hI6 : clI (I6, J5, R5, K5, N5) S h := f1.ways hO g1 g3
             have hcf6 : cfF (I, J, R, K, N) (I6, J5, R5, K5, N5) := f2.trans (fun y y1 y2 => ⟨g1 y (by omega), rfl, rfl, rfl, rfl⟩)
             rcases g4 with ⟨u, c, e1, e2, e3, rfl, e4⟩ | ⟨e1, rfl⟩
             · refine bl_go oX10_wayTo 80 [39] rfl ?_
               try dsimp only [bl_pv]
               first
               | exact L39 _ _ hI6 hcf6 (Or.inl ⟨u, c, e1, e2, e3, f3, e4, rfl⟩)
               | exact L39 _ _ hI6 hcf6 (Or.inr ⟨fun u' ⟨w', c', q⟩ => e1 u' w' c' q, f3, rfl⟩)
             · refine bl_go oX10_wayTo 80 [39] rfl ?_
               try dsimp only [bl_pv]
               first
               | exact L39 _ _ hI6 hcf6 (Or.inl ⟨u, c, e1, e2, e3, f3, e4, rfl⟩)
               | exact L39 _ _ hI6 hcf6 (Or.inr ⟨fun u' ⟨w', c', q⟩ => e1 u' w' c' q, f3, rfl⟩))
        · try simp (disch := omega) only [zI_n, zI_o, zI_lit, zI_neg, zI_add, zI_sub, zI_mul, zI_lt, zI_le, zI_eq, zI_clamp, zI_in, zI_div, zI_rem, lg_lt0, lg_gt0, lg_eq0, lg_le0, lg_ge0, Int.toNat_natCast, ge_iff_le, gt_iff_lt, List.length_cons, List.length_nil, bl_up2_at, bl_up2_nk, bl_up2_nx] at h16
          first
          | (exfalso; first | omega | exact h16 trivial)
          | (refine ⟨(fun h => by cases h), ?_⟩
             try show _ ∧ _
             try dsimp only [bl_pv]
             fail /- ret20 -/)
      · have hfw : fwf n = zI (-1) := if_neg hm
        refine bl_MC_intro (by decide +kernel) rfl (Nat.le_of_ble_eq_true rfl) ?_
        refine bl_go oX10_wayTo 80 [21] rfl ?_
        refine ⟨rfl, (Nat.le_of_ble_eq_true rfl), (1, 6), Nat.le_of_ble_eq_true rfl, Nat.le_of_ble_eq_true rfl, bl_MC_mono (c_BL_needLeavesT (d := d + 4) hx) (fun o1 σ1 q1 => ?_)⟩
        try dsimp only [bl_pv] at q1
        obtain ⟨rfl, rfl⟩ := q1
        refine bl_go oX10_wayTo 80 [21] rfl ?_
        refine ⟨rfl, (Nat.le_of_ble_eq_true rfl), (1, 6), Nat.le_of_ble_eq_true rfl, Nat.le_of_ble_eq_true rfl, bl_MC_mono (c_BL_needWhatT (d := d + 4) hw) (fun o6 σ6 q6 => ?_)⟩
        try dsimp only [bl_pv] at q6
        obtain ⟨rfl, rfl⟩ := q6
        refine bl_go oX10_wayTo 80 [21] rfl ?_
        refine ⟨rfl, (Nat.le_of_ble_eq_true rfl), (0, 0), Nat.le_of_ble_eq_true rfl, Nat.le_of_ble_eq_true rfl, bl_MC_mono (c_Passes_fewestFor (d := d + 3) (n := n) rfl hn1 hn2) (fun o10 σ10 q10 => ?_)⟩
        try dsimp only [bl_pv] at q10
        obtain ⟨rfl, rfl⟩ := q10
        rw [hfw]
        refine bl_go oX10_wayTo 80 [21] rfl ?_
        refine ⟨fun h16 => ?_, fun h16 => ?_⟩
        · try simp (disch := omega) only [zI_n, zI_o, zI_lit, zI_neg, zI_add, zI_sub, zI_mul, zI_lt, zI_le, zI_eq, zI_clamp, zI_in, zI_div, zI_rem, lg_lt0, lg_gt0, lg_eq0, lg_le0, lg_ge0, Int.toNat_natCast, ge_iff_le, gt_iff_lt, List.length_cons, List.length_nil, bl_up2_at, bl_up2_nk, bl_up2_nx] at h16
          first
          | (exfalso; first | omega | exact h16 trivial)
          | (try dsimp only [bl_pv]
             exact absurd trivial (by omega))
        · try simp (disch := omega) only [zI_n, zI_o, zI_lit, zI_neg, zI_add, zI_sub, zI_mul, zI_lt, zI_le, zI_eq, zI_clamp, zI_in, zI_div, zI_rem, lg_lt0, lg_gt0, lg_eq0, lg_le0, lg_ge0, Int.toNat_natCast, ge_iff_le, gt_iff_lt, List.length_cons, List.length_nil, bl_up2_at, bl_up2_nk, bl_up2_nx] at h16
          first
          | (exfalso; first | omega | exact h16 trivial)
          | (refine ⟨(fun h => by cases h), ?_⟩
             try show _ ∧ _
             try dsimp only [bl_pv]
             exact ⟨hI, cfF.refl, Or.inr ⟨hW, _, rfl, Or.inr ⟨Or.inl (by rw [en]; exact hm), rfl⟩⟩⟩)
    · have hW : swE (nI n) w = 1 := by unfold swE; rw [Bool.eq_false_iff.mpr (wb_f hw), Bool.and_false]; rfl
      refine bl_MC_intro (by decide +kernel) rfl (Nat.le_of_ble_eq_true rfl) ?_
      refine bl_go oX10_wayTo 80 [] rfl ?_
      refine ⟨rfl, (Nat.le_of_ble_eq_true rfl), (1, 6), Nat.le_of_ble_eq_true rfl, Nat.le_of_ble_eq_true rfl, bl_MC_mono (c_BL_needLeavesT (d := d + 4) hx) (fun o1 σ1 q1 => ?_)⟩
      try dsimp only [bl_pv] at q1
      obtain ⟨rfl, rfl⟩ := q1
      refine bl_go oX10_wayTo 80 [] rfl ?_
      refine ⟨rfl, (Nat.le_of_ble_eq_true rfl), (1, 6), Nat.le_of_ble_eq_true rfl, Nat.le_of_ble_eq_true rfl, ?_⟩
      refine bl_MC_mono (c_BL_needWhatF (d := d + 4) hlt hw) (fun o s' q => ?_)
      obtain ⟨rfl, rfl⟩ := q
      exact Or.inl ⟨rfl, hI, cfF.refl, Or.inl ⟨hW, rfl, rfl⟩⟩
  · have hW : swE x w = 1 := by unfold swE; rw [Bool.eq_false_iff.mpr (inb_f hx), Bool.false_and]; rfl
    refine bl_MC_intro (by decide +kernel) rfl (Nat.le_of_ble_eq_true rfl) ?_
    refine bl_go oX10_wayTo 80 [] rfl ?_
    refine ⟨rfl, (Nat.le_of_ble_eq_true rfl), (1, 6), Nat.le_of_ble_eq_true rfl, Nat.le_of_ble_eq_true rfl, ?_⟩
    refine bl_MC_mono (c_BL_needLeavesF (d := d + 4) hlt hx) (fun o s' q => ?_)
    obtain ⟨rfl, rfl⟩ := q
    exact Or.inl ⟨rfl, hI, cfF.refl, Or.inl ⟨hW, rfl, rfl⟩⟩
theorem c_BL_wayToN (hlt : l.stackTraces = false) (hI : clI (I, J, R, K, N) S h) (hO : csO S) (rx10 : R 100 10 = none) : bl_MC G l (d + 5) mX10_wayTo [.ref 100, .int x, .int w] (I, J, R, K, N) (9, 38847) (fun o s' => clI s' S h ∧ cfF (I, J, R, K, N) s' ∧ ((swE x w = 1 ∧ o = .inr bl_IAE ∧ s' = (I, J, R, K, N)) ∨ (swE x w = 0 ∧ ∃ v, o = .inl (some (.int v)) ∧ wyO (pPk S.1.1 S.2.1 S.1.2.2.2.2) s' (rn x) w v))) := by
  obtain ⟨⟨kx, ⟨rx_0, rx_1, rx_2, rx_3, rx_4, rx_5, rx_6, rx_7⟩, ⟨kxr, nxr⟩, ⟨kxn, nxn⟩, kxb, ⟨kxi, nxi⟩, ⟨kxj, nxj⟩⟩, hTp, hUn, hBn, hK1, hK2, hSt, hStr⟩ := hI.1
  dsimp only at kx
  by_cases hx : 1 ≤ x ∧ x ≤ 1024
  · obtain ⟨n, hn2, rfl⟩ := i32_nat (b := 1024) (by omega) (Int32.le_trans (show (0 : Int32) ≤ 1 by decide) hx.1) hx.2
    have hn1 : 1 ≤ n := (nI_lek (a := 1) (by omega) (by omega)).mp hx.1
    have en : rn (nI n) = n := nI_clamp (by omega)
    by_cases hw : 0 ≤ w ∧ w ≤ 1
    · have hW : swE (nI n) w = 0 := by unfold swE; rw [inb_t hx, wb_t hw]; rfl
      obtain ⟨v, hv, rfl⟩ := i32_nat (b := 1) (by omega) hw.1 hw.2
      by_cases hm : made n
      · have hfw : fwf n = nI (pm n) := if_pos hm
        have hp6 := (made_pm hn1 hn2 hm).1
        refine bl_MC_intro (by decide +kernel) rfl (Nat.le_of_ble_eq_true rfl) ?_
        have L39 : ∀ s5 z, clI s5 S h → cfF (I, J, R, K, N) s5 → ((∃ u c, bestW (pPk S.1.1 S.2.1 S.1.2.2.2.2) (pm n) u c ∧ u ≤ 120 ∧ c < 244140625 ∧ s5.2.2.1 100 10 = some 200 ∧ s5.1 205 (pm n) = nI (c + 1) ∧ z = nI u) ∨ ((∀ u', ¬ Ws (pPk S.1.1 S.2.1 S.1.2.2.2.2) 0 (pPk S.1.1 S.2.1 S.1.2.2.2.2).1 (pm n) u') ∧ s5.2.2.1 100 10 = some 200 ∧ z = zI (-1))) → bl_WP G l (d + 5) mX10_wayTo 39 [(4, .int z), (3, .int (nI (pm n))), (0, .ref 100), (1, .int (nI n)), (2, .int (nI v))] [] s5 (0, 0) (fun o s' => clI s' S h ∧ cfF (I, J, R, K, N) s' ∧ ((swE (nI n) (nI v) = 1 ∧ o = .inr bl_IAE ∧ s' = (I, J, R, K, N)) ∨ (swE (nI n) (nI v) = 0 ∧ ∃ v', o = .inl (some (.int v')) ∧ wyO (pPk S.1.1 S.2.1 S.1.2.2.2.2) s' (rn (nI n)) (nI v) v'))) := by
          intro s5 z f1 f2 f3
          rcases f3 with ⟨u, c, g1, g2, g3, g4, g5, rfl⟩ | ⟨g1, g4, rfl⟩
          · skip
            refine bl_go oX10_wayTo 80 [39] rfl ?_
            refine ⟨fun h40 => ?_, fun h40 => ?_⟩
            · try simp (disch := omega) only [zI_n, zI_o, zI_lit, zI_neg, zI_add, zI_sub, zI_mul, zI_lt, zI_le, zI_eq, zI_clamp, zI_in, zI_div, zI_rem, lg_lt0, lg_gt0, lg_eq0, lg_le0, lg_ge0, Int.toNat_natCast, ge_iff_le, gt_iff_lt, List.length_cons, List.length_nil, bl_up2_at, bl_up2_nk, bl_up2_nx] at h40
              first
              | (exfalso; first | omega | exact h40 trivial)
              | (refine ⟨(fun h => by cases h), ?_⟩
                 try show _ ∧ _
                 try dsimp only [bl_pv]
                 refine ⟨f1, f2, Or.inr ⟨hW, _, rfl, Or.inl ⟨by rw [en]; exact hm, u, c, by rw [en]; exact g1, g3, g4, by rw [en]; exact g5, g2, ?_⟩⟩⟩
                 rw [en]
                 first
                 | (have e0 : v = 0 := by omega
                    subst e0; rw [if_pos (show nI 0 = 0 from rfl)])
                 | (have e0 : v = 1 := by omega
                    subst e0; rw [if_neg (by decide)]))
            · try simp (disch := omega) only [zI_n, zI_o, zI_lit, zI_neg, zI_add, zI_sub, zI_mul, zI_lt, zI_le, zI_eq, zI_clamp, zI_in, zI_div, zI_rem, lg_lt0, lg_gt0, lg_eq0, lg_le0, lg_ge0, Int.toNat_natCast, ge_iff_le, gt_iff_lt, List.length_cons, List.length_nil, bl_up2_at, bl_up2_nk, bl_up2_nx] at h40
              first
              | (exfalso; first | omega | exact h40 trivial)
              | (refine ⟨fun h46 => ?_, fun h46 => ?_⟩
                 · try simp (disch := omega) only [zI_n, zI_o, zI_lit, zI_neg, zI_add, zI_sub, zI_mul, zI_lt, zI_le, zI_eq, zI_clamp, zI_in, zI_div, zI_rem, lg_lt0, lg_gt0, lg_eq0, lg_le0, lg_ge0, Int.toNat_natCast, ge_iff_le, gt_iff_lt, List.length_cons, List.length_nil, bl_up2_at, bl_up2_nk, bl_up2_nx] at h46
                   first
                   | (exfalso; first | omega | exact h46 trivial)
                   | (refine ⟨(fun h => by cases h), ?_⟩
                      try show _ ∧ _
                      try dsimp only [bl_pv]
                      refine ⟨f1, f2, Or.inr ⟨hW, _, rfl, Or.inl ⟨by rw [en]; exact hm, u, c, by rw [en]; exact g1, g3, g4, by rw [en]; exact g5, g2, ?_⟩⟩⟩
                      rw [en]
                      first
                      | (have e0 : v = 0 := by omega
                         subst e0; rw [if_pos (show nI 0 = 0 from rfl)])
                      | (have e0 : v = 1 := by omega
                         subst e0; rw [if_neg (by decide)]))
                 · try simp (disch := omega) only [zI_n, zI_o, zI_lit, zI_neg, zI_add, zI_sub, zI_mul, zI_lt, zI_le, zI_eq, zI_clamp, zI_in, zI_div, zI_rem, lg_lt0, lg_gt0, lg_eq0, lg_le0, lg_ge0, Int.toNat_natCast, ge_iff_le, gt_iff_lt, List.length_cons, List.length_nil, bl_up2_at, bl_up2_nk, bl_up2_nx] at h46
                   first
                   | (exfalso; first | omega | exact h46 trivial)
                   | (refine ⟨(fun h => by cases h), ?_⟩
                      try show _ ∧ _
                      try dsimp only [bl_pv]
                      refine ⟨f1, f2, Or.inr ⟨hW, _, rfl, Or.inl ⟨by rw [en]; exact hm, u, c, by rw [en]; exact g1, g3, g4, by rw [en]; exact g5, g2, ?_⟩⟩⟩
                      rw [en]
                      first
                      | (have e0 : v = 0 := by omega
                         subst e0; rw [if_pos (show nI 0 = 0 from rfl)])
                      | (have e0 : v = 1 := by omega
                         subst e0; rw [if_neg (by decide)])))
          · skip
            refine bl_go oX10_wayTo 80 [39] rfl ?_
            refine ⟨fun h40 => ?_, fun h40 => ?_⟩
            · try simp (disch := omega) only [zI_n, zI_o, zI_lit, zI_neg, zI_add, zI_sub, zI_mul, zI_lt, zI_le, zI_eq, zI_clamp, zI_in, zI_div, zI_rem, lg_lt0, lg_gt0, lg_eq0, lg_le0, lg_ge0, Int.toNat_natCast, ge_iff_le, gt_iff_lt, List.length_cons, List.length_nil, bl_up2_at, bl_up2_nk, bl_up2_nx] at h40
              first
              | (exfalso; first | omega | exact h40 trivial)
              | (refine ⟨(fun h => by cases h), ?_⟩
                 try show _ ∧ _
                 try dsimp only [bl_pv]
                 refine ⟨f1, f2, Or.inr ⟨hW, _, rfl, Or.inr ⟨Or.inr ⟨by rw [en]; exact g1, g4⟩, ?_⟩⟩⟩
                 rfl)
            · try simp (disch := omega) only [zI_n, zI_o, zI_lit, zI_neg, zI_add, zI_sub, zI_mul, zI_lt, zI_le, zI_eq, zI_clamp, zI_in, zI_div, zI_rem, lg_lt0, lg_gt0, lg_eq0, lg_le0, lg_ge0, Int.toNat_natCast, ge_iff_le, gt_iff_lt, List.length_cons, List.length_nil, bl_up2_at, bl_up2_nk, bl_up2_nx] at h40
              first
              | (exfalso; first | omega | exact h40 trivial)
              | (refine ⟨fun h46 => ?_, fun h46 => ?_⟩
                 · try simp (disch := omega) only [zI_n, zI_o, zI_lit, zI_neg, zI_add, zI_sub, zI_mul, zI_lt, zI_le, zI_eq, zI_clamp, zI_in, zI_div, zI_rem, lg_lt0, lg_gt0, lg_eq0, lg_le0, lg_ge0, Int.toNat_natCast, ge_iff_le, gt_iff_lt, List.length_cons, List.length_nil, bl_up2_at, bl_up2_nk, bl_up2_nx] at h46
                   first
                   | (exfalso; first | omega | exact h46 trivial)
                   | (refine ⟨(fun h => by cases h), ?_⟩
                      try show _ ∧ _
                      try dsimp only [bl_pv]
                      refine ⟨f1, f2, Or.inr ⟨hW, _, rfl, Or.inr ⟨Or.inr ⟨by rw [en]; exact g1, g4⟩, ?_⟩⟩⟩
                      rfl)
                 · try simp (disch := omega) only [zI_n, zI_o, zI_lit, zI_neg, zI_add, zI_sub, zI_mul, zI_lt, zI_le, zI_eq, zI_clamp, zI_in, zI_div, zI_rem, lg_lt0, lg_gt0, lg_eq0, lg_le0, lg_ge0, Int.toNat_natCast, ge_iff_le, gt_iff_lt, List.length_cons, List.length_nil, bl_up2_at, bl_up2_nk, bl_up2_nx] at h46
                   first
                   | (exfalso; first | omega | exact h46 trivial)
                   | (refine ⟨(fun h => by cases h), ?_⟩
                      try show _ ∧ _
                      try dsimp only [bl_pv]
                      refine ⟨f1, f2, Or.inr ⟨hW, _, rfl, Or.inr ⟨Or.inr ⟨by rw [en]; exact g1, g4⟩, ?_⟩⟩⟩
                      rfl))
        refine bl_go oX10_wayTo 80 [39] rfl ?_
        refine ⟨rfl, (Nat.le_of_ble_eq_true rfl), (1, 6), Nat.le_of_ble_eq_true rfl, Nat.le_of_ble_eq_true rfl, bl_MC_mono (c_BL_needLeavesT (d := d + 4) hx) (fun o1 σ1 q1 => ?_)⟩
        try dsimp only [bl_pv] at q1
        obtain ⟨rfl, rfl⟩ := q1
        refine bl_go oX10_wayTo 80 [39] rfl ?_
        refine ⟨rfl, (Nat.le_of_ble_eq_true rfl), (1, 6), Nat.le_of_ble_eq_true rfl, Nat.le_of_ble_eq_true rfl, bl_MC_mono (c_BL_needWhatT (d := d + 4) hw) (fun o6 σ6 q6 => ?_)⟩
        try dsimp only [bl_pv] at q6
        obtain ⟨rfl, rfl⟩ := q6
        refine bl_go oX10_wayTo 80 [39] rfl ?_
        refine ⟨rfl, (Nat.le_of_ble_eq_true rfl), (0, 0), Nat.le_of_ble_eq_true rfl, Nat.le_of_ble_eq_true rfl, bl_MC_mono (c_Passes_fewestFor (d := d + 3) (n := n) rfl hn1 hn2) (fun o10 σ10 q10 => ?_)⟩
        try dsimp only [bl_pv] at q10
        obtain ⟨rfl, rfl⟩ := q10
        rw [hfw]
        refine bl_go oX10_wayTo 80 [39] rfl ?_
        refine ⟨fun h16 => ?_, fun h16 => ?_⟩
        · try simp (disch := omega) only [zI_n, zI_o, zI_lit, zI_neg, zI_add, zI_sub, zI_mul, zI_lt, zI_le, zI_eq, zI_clamp, zI_in, zI_div, zI_rem, lg_lt0, lg_gt0, lg_eq0, lg_le0, lg_ge0, Int.toNat_natCast, ge_iff_le, gt_iff_lt, List.length_cons, List.length_nil, bl_up2_at, bl_up2_nk, bl_up2_nx] at h16
          first
          | (exfalso; first | omega | exact h16 trivial)
          | (refine ⟨rfl, rfl, kx, (Nat.le_of_ble_eq_true rfl), (7, 38835), Nat.le_of_ble_eq_true rfl, Nat.le_of_ble_eq_true rfl, bl_MC_mono (c_BL_searchedN (d := d + 3) hI hO rx10) (fun o22 σ22 q22 => ?_)⟩
             try dsimp only [bl_pv] at q22
             obtain ⟨I5, J5, R5, K5, N5⟩ := σ22
             obtain ⟨rfl, f1, f2, f3⟩ := q22
             have kx5 := f1.1.1.1
             obtain ⟨hhs, hh⟩ := f1.house
             have kx := kx5
             have rx_8 := f1.2.1.2.1
             have kxh := hhs.2.1
             have hkc := f1.2.2.2.2.2.1
             have hnn := f1.2.2.2.2.2.2.1
             have hps : psS R5 K5 N5 200 := by
               rcases f1.2.2.2.1 with ⟨q, _⟩ | ⟨_, q⟩
               · exact absurd (f3.symm.trans q) (by simp)
               · exact q
             have kxw := hps.2.1
             have hws := f1.2.2.2.2.2.2.2.2.2 f3
             dsimp only at kx rx_8 kxh hkc hnn f3 hws
             refine bl_go oX10_wayTo 80 [39] rfl ?_
             refine ⟨kx, _, bl_vs rx_8, kx, rfl, rfl, kxw, (Nat.le_of_ble_eq_true rfl), (0, 0), Nat.le_of_ble_eq_true rfl, Nat.le_of_ble_eq_true rfl, bl_MC_mono (c_Passes_fewestUnits (d := d) (u0 := S.1.2.2.2.2) (p := pm n) (tf := S.1.1) (g := S.2.1) (dg := S.1.2.1) hps hws hhs hkc hO.2.1.1 hO.2.1.2 (by omega) hnn.2.2.1 hO.2.2.2.2.1 rfl hp6) (fun o34 σ34 q34 => ?_)⟩
             try dsimp only [bl_pv] at q34
             obtain ⟨I6, rfl, g1, g2, g3, g4⟩ := q34
             have hI6 : clI (I6, J5, R5, K5, N5) S h := f1.ways hO g1 g3
             have hcf6 : cfF (I, J, R, K, N) (I6, J5, R5, K5, N5) := f2.trans (fun y y1 y2 => ⟨g1 y (by omega), rfl, rfl, rfl, rfl⟩)
             rcases g4 with ⟨u, c, e1, e2, e3, rfl, e4⟩ | ⟨e1, rfl⟩
             · refine bl_go oX10_wayTo 80 [39] rfl ?_
               try dsimp only [bl_pv]
               first
               | exact L39 _ _ hI6 hcf6 (Or.inl ⟨u, c, e1, e2, e3, f3, e4, rfl⟩)
               | exact L39 _ _ hI6 hcf6 (Or.inr ⟨fun u' ⟨w', c', q⟩ => e1 u' w' c' q, f3, rfl⟩)
             · refine bl_go oX10_wayTo 80 [39] rfl ?_
               try dsimp only [bl_pv]
               first
               | exact L39 _ _ hI6 hcf6 (Or.inl ⟨u, c, e1, e2, e3, f3, e4, rfl⟩)
               | exact L39 _ _ hI6 hcf6 (Or.inr ⟨fun u' ⟨w', c', q⟩ => e1 u' w' c' q, f3, rfl⟩))
        · try simp (disch := omega) only [zI_n, zI_o, zI_lit, zI_neg, zI_add, zI_sub, zI_mul, zI_lt, zI_le, zI_eq, zI_clamp, zI_in, zI_div, zI_rem, lg_lt0, lg_gt0, lg_eq0, lg_le0, lg_ge0, Int.toNat_natCast, ge_iff_le, gt_iff_lt, List.length_cons, List.length_nil, bl_up2_at, bl_up2_nk, bl_up2_nx] at h16
          first
          | (exfalso; first | omega | exact h16 trivial)
          | (refine ⟨(fun h => by cases h), ?_⟩
             try show _ ∧ _
             try dsimp only [bl_pv]
             fail /- ret20 -/)
      · have hfw : fwf n = zI (-1) := if_neg hm
        refine bl_MC_intro (by decide +kernel) rfl (Nat.le_of_ble_eq_true rfl) ?_
        refine bl_go oX10_wayTo 80 [21] rfl ?_
        refine ⟨rfl, (Nat.le_of_ble_eq_true rfl), (1, 6), Nat.le_of_ble_eq_true rfl, Nat.le_of_ble_eq_true rfl, bl_MC_mono (c_BL_needLeavesT (d := d + 4) hx) (fun o1 σ1 q1 => ?_)⟩
        try dsimp only [bl_pv] at q1
        obtain ⟨rfl, rfl⟩ := q1
        refine bl_go oX10_wayTo 80 [21] rfl ?_
        refine ⟨rfl, (Nat.le_of_ble_eq_true rfl), (1, 6), Nat.le_of_ble_eq_true rfl, Nat.le_of_ble_eq_true rfl, bl_MC_mono (c_BL_needWhatT (d := d + 4) hw) (fun o6 σ6 q6 => ?_)⟩
        try dsimp only [bl_pv] at q6
        obtain ⟨rfl, rfl⟩ := q6
        refine bl_go oX10_wayTo 80 [21] rfl ?_
        refine ⟨rfl, (Nat.le_of_ble_eq_true rfl), (0, 0), Nat.le_of_ble_eq_true rfl, Nat.le_of_ble_eq_true rfl, bl_MC_mono (c_Passes_fewestFor (d := d + 3) (n := n) rfl hn1 hn2) (fun o10 σ10 q10 => ?_)⟩
        try dsimp only [bl_pv] at q10
        obtain ⟨rfl, rfl⟩ := q10
        rw [hfw]
        refine bl_go oX10_wayTo 80 [21] rfl ?_
        refine ⟨fun h16 => ?_, fun h16 => ?_⟩
        · try simp (disch := omega) only [zI_n, zI_o, zI_lit, zI_neg, zI_add, zI_sub, zI_mul, zI_lt, zI_le, zI_eq, zI_clamp, zI_in, zI_div, zI_rem, lg_lt0, lg_gt0, lg_eq0, lg_le0, lg_ge0, Int.toNat_natCast, ge_iff_le, gt_iff_lt, List.length_cons, List.length_nil, bl_up2_at, bl_up2_nk, bl_up2_nx] at h16
          first
          | (exfalso; first | omega | exact h16 trivial)
          | (try dsimp only [bl_pv]
             exact absurd trivial (by omega))
        · try simp (disch := omega) only [zI_n, zI_o, zI_lit, zI_neg, zI_add, zI_sub, zI_mul, zI_lt, zI_le, zI_eq, zI_clamp, zI_in, zI_div, zI_rem, lg_lt0, lg_gt0, lg_eq0, lg_le0, lg_ge0, Int.toNat_natCast, ge_iff_le, gt_iff_lt, List.length_cons, List.length_nil, bl_up2_at, bl_up2_nk, bl_up2_nx] at h16
          first
          | (exfalso; first | omega | exact h16 trivial)
          | (refine ⟨(fun h => by cases h), ?_⟩
             try show _ ∧ _
             try dsimp only [bl_pv]
             exact ⟨hI, cfF.refl, Or.inr ⟨hW, _, rfl, Or.inr ⟨Or.inl (by rw [en]; exact hm), rfl⟩⟩⟩)
    · have hW : swE (nI n) w = 1 := by unfold swE; rw [Bool.eq_false_iff.mpr (wb_f hw), Bool.and_false]; rfl
      refine bl_MC_intro (by decide +kernel) rfl (Nat.le_of_ble_eq_true rfl) ?_
      refine bl_go oX10_wayTo 80 [] rfl ?_
      refine ⟨rfl, (Nat.le_of_ble_eq_true rfl), (1, 6), Nat.le_of_ble_eq_true rfl, Nat.le_of_ble_eq_true rfl, bl_MC_mono (c_BL_needLeavesT (d := d + 4) hx) (fun o1 σ1 q1 => ?_)⟩
      try dsimp only [bl_pv] at q1
      obtain ⟨rfl, rfl⟩ := q1
      refine bl_go oX10_wayTo 80 [] rfl ?_
      refine ⟨rfl, (Nat.le_of_ble_eq_true rfl), (1, 6), Nat.le_of_ble_eq_true rfl, Nat.le_of_ble_eq_true rfl, ?_⟩
      refine bl_MC_mono (c_BL_needWhatF (d := d + 4) hlt hw) (fun o s' q => ?_)
      obtain ⟨rfl, rfl⟩ := q
      exact Or.inl ⟨rfl, hI, cfF.refl, Or.inl ⟨hW, rfl, rfl⟩⟩
  · have hW : swE x w = 1 := by unfold swE; rw [Bool.eq_false_iff.mpr (inb_f hx), Bool.false_and]; rfl
    refine bl_MC_intro (by decide +kernel) rfl (Nat.le_of_ble_eq_true rfl) ?_
    refine bl_go oX10_wayTo 80 [] rfl ?_
    refine ⟨rfl, (Nat.le_of_ble_eq_true rfl), (1, 6), Nat.le_of_ble_eq_true rfl, Nat.le_of_ble_eq_true rfl, ?_⟩
    refine bl_MC_mono (c_BL_needLeavesF (d := d + 4) hlt hx) (fun o s' q => ?_)
    obtain ⟨rfl, rfl⟩ := q
    exact Or.inl ⟨rfl, hI, cfF.refl, Or.inl ⟨hW, rfl, rfl⟩⟩

theorem c_BL_passT (hlt : l.stackTraces = false) (hI : clI (I, J, R, K, N) S h) (hO : csO S) (rx10 : R 100 10 = some 200) : bl_MC G l (d + 6) mX10_pass [.ref 100, .int x, .int y] (I, J, R, K, N) (2, 12) (fun o s' => clI s' S h ∧ cfF (I, J, R, K, N) s' ∧ ((psE' x = 1 ∧ o = .inr bl_IAE) ∨ (psE' x = 0 ∧ (made (rn x) → s'.2.2.1 100 10 = some 200) ∧ ∃ v, o = .inl (some (.int v)) ∧ psP (pPk S.1.1 S.2.1 S.1.2.2.2.2) (rn x) y v))) := by
  obtain ⟨⟨kx, ⟨rx_0, rx_1, rx_2, rx_3, rx_4, rx_5, rx_6, rx_7⟩, ⟨kxr, nxr⟩, ⟨kxn, nxn⟩, kxb, ⟨kxi, nxi⟩, ⟨kxj, nxj⟩⟩, hTp, hUn, hBn, hK1, hK2, hSt, hStr⟩ := hI.1
  dsimp only at kx
  have hwb : wb 1 0 = true := by decide
  by_cases hx : 1 ≤ x ∧ x ≤ 1024
  · have hW : swE x 0 = 0 := by unfold swE; rw [inb_t hx, hwb]; rfl
    have hE : psE' x = 0 := by unfold psE'; rw [if_pos (inb_t hx)]
    obtain ⟨n, hn2, rfl⟩ := i32_nat (b := 1024) (by omega) (Int32.le_trans (show (0 : Int32) ≤ 1 by decide) hx.1) hx.2
    have hn1 : 1 ≤ n := (nI_lek (a := 1) (by omega) (by omega)).mp hx.1
    have en : rn (nI n) = n := nI_clamp (by omega)
    refine bl_MC_intro (by decide +kernel) rfl (Nat.le_of_ble_eq_true rfl) ?_
    refine bl_go oX10_pass 80 [] rfl ?_
    refine ⟨rfl, rfl, kx, (Nat.le_of_ble_eq_true rfl), (2, 12), Nat.le_of_ble_eq_true rfl, Nat.le_of_ble_eq_true rfl, bl_MC_mono (c_BL_wayToT (d := d) (w := 0) hlt hI hO rx10) (fun o3 σ3 q3 => ?_)⟩
    try dsimp only [bl_pv] at q3
    obtain ⟨I5, J5, R5, K5, N5⟩ := σ3
    obtain ⟨f1, f2, f3⟩ := q3
    obtain ⟨-, v, rfl, f4⟩ := f3.resolve_left (fun q => by rw [hW] at q; exact absurd q.1 (by decide))
    rw [en] at f4
    have hmk : made (rn (nI n)) → R5 100 10 = some 200 := fun q => f4.mk (by rw [en] at q; exact q)
    have kx := f1.1.1.1
    dsimp only at kx
    rcases f4 with ⟨hm, u, c, g1, g3, g4, g5, g2, hv⟩ | ⟨g1, rfl⟩
    · rw [if_pos rfl] at hv
      subst hv
      have hfw : fwf n = nI (pm n) := if_pos hm
      have hp6 := (made_pm hn1 hn2 hm).1
      have rx_10 := g4
      have hps : psS R5 K5 N5 200 := by
        rcases f1.2.2.2.1 with ⟨q, _⟩ | ⟨_, q⟩
        · exact absurd (g4.symm.trans q) (by simp)
        · exact q
      have kxw := hps.2.1
      dsimp only at rx_10 g5
      refine bl_go oX10_pass 80 [] rfl ?_
      refine ⟨fun h7 => ?_, fun h7 => ?_⟩
      · try simp (disch := omega) only [zI_n, zI_o, zI_lit, zI_neg, zI_add, zI_sub, zI_mul, zI_lt, zI_le, zI_eq, zI_clamp, zI_in, zI_div, zI_rem, lg_lt0, lg_gt0, lg_eq0, lg_le0, lg_ge0, Int.toNat_natCast, ge_iff_le, gt_iff_lt, List.length_cons, List.length_nil, bl_up2_at, bl_up2_nk, bl_up2_nx] at h7
        first
        | (exfalso; first | omega | exact h7 trivial)
        | (refine ⟨rfl, (Nat.le_of_ble_eq_true rfl), (0, 0), Nat.le_of_ble_eq_true rfl, Nat.le_of_ble_eq_true rfl, bl_MC_mono (c_Passes_fewestFor (d := d + 4) (n := n) rfl hn1 hn2) (fun o13 σ13 q13 => ?_)⟩
           try dsimp only [bl_pv] at q13
           obtain ⟨rfl, rfl⟩ := q13
           rw [hfw]
           refine bl_go oX10_pass 80 [] rfl ?_
           refine ⟨fun h18 => ?_, fun h18 => ?_⟩
           · try simp (disch := omega) only [bl_pv, cl0, cl1, cl2, cl3, cl4, cl5, cl6, cl7, cl8, cl9, bl_up2_at, bl_up2_nk, bl_up2_nx] at h18
             first
             | (exfalso; first | omega | exact h18 trivial)
             | (refine ⟨(fun h => by cases h), ?_⟩
                try show _ ∧ _
                try dsimp only [bl_pv]
                refine ⟨f1, f2, Or.inr ⟨hE, hmk, _, rfl, Or.inl ⟨by rw [en]; exact hm, u, c, by rw [en]; exact g1, Or.inr ⟨fun k hk e => ?_, rfl⟩⟩⟩⟩
                rw [en] at hk
                first
                | (rw [e] at h18; exact absurd h18 (Int32.not_lt.mpr ((nI_lek (a := 0) (by omega) (by omega)).mpr (by omega))))
                | (rw [e] at h23; exact h23 ((nI_ltk (by omega) (by omega)).mpr hk)))
           · try simp (disch := omega) only [bl_pv, cl0, cl1, cl2, cl3, cl4, cl5, cl6, cl7, cl8, cl9, bl_up2_at, bl_up2_nk, bl_up2_nx] at h18
             first
             | (exfalso; first | omega | exact h18 trivial)
             | (refine ⟨fun h23 => ?_, fun h23 => ?_⟩
                · try simp (disch := omega) only [bl_pv, cl0, cl1, cl2, cl3, cl4, cl5, cl6, cl7, cl8, cl9, bl_up2_at, bl_up2_nk, bl_up2_nx] at h23
                  first
                  | (exfalso; first | omega | exact h23 trivial)
                  | (obtain ⟨k, hk, rfl, ek⟩ := rb_n (c := pm n) (by omega) ((rb_lt (by omega)).mpr ⟨Int32.not_lt.mp h18, h23⟩)
                     refine ⟨rfl, rfl, kx, (Nat.le_of_ble_eq_true rfl), (0, 0), Nat.le_of_ble_eq_true rfl, Nat.le_of_ble_eq_true rfl, bl_MC_mono (c_BL_searchedT (d := d + 5) f1 g4) (fun o31 σ31 q31 => ?_)⟩
                     try dsimp only [bl_pv] at q31
                     obtain ⟨rfl, rfl⟩ := q31
                     refine bl_go oX10_pass 80 [] rfl ?_
                     refine ⟨rfl, rfl, kxw, (Nat.le_of_ble_eq_true rfl), (0, 0), Nat.le_of_ble_eq_true rfl, Nat.le_of_ble_eq_true rfl, bl_MC_mono (c_Passes_waitOf (d := d + 5) (p := pm n) (i := k) (c := c) hps rfl ⟨by omega, hp6⟩ rfl hk g5 g3) (fun o36 σ36 q36 => ?_)⟩
                     try dsimp only [bl_pv] at q36
                     obtain ⟨rfl, rfl⟩ := q36
                     refine bl_go oX10_pass 80 [] rfl ?_
                     refine ⟨rfl, (Nat.le_of_ble_eq_true rfl), (0, 0), Nat.le_of_ble_eq_true rfl, Nat.le_of_ble_eq_true rfl, bl_MC_mono (c_Passes_factorAt (d := d + 4) (n := n) (i := k) rfl hn1 hn2 rfl (by omega)) (fun o42 σ42 q42 => ?_)⟩
                     try dsimp only [bl_pv] at q42
                     obtain ⟨rfl, rfl⟩ := q42
                     refine bl_go oX10_pass 80 [] rfl ?_
                     refine ⟨(fun h => by cases h), ?_⟩
                     try show _ ∧ _
                     try dsimp only [bl_pv]
                     refine ⟨f1, f2, Or.inr ⟨hE, hmk, _, rfl, Or.inl ⟨by rw [en]; exact hm, u, c, by rw [en]; exact g1, Or.inl ⟨k, by rw [en]; exact hk, rfl, ?_⟩⟩⟩⟩
                     rw [en]
                     exact nI_ma _ _)
                · try simp (disch := omega) only [bl_pv, cl0, cl1, cl2, cl3, cl4, cl5, cl6, cl7, cl8, cl9, bl_up2_at, bl_up2_nk, bl_up2_nx] at h23
                  first
                  | (exfalso; first | omega | exact h23 trivial)
                  | (refine ⟨(fun h => by cases h), ?_⟩
                     try show _ ∧ _
                     try dsimp only [bl_pv]
                     refine ⟨f1, f2, Or.inr ⟨hE, hmk, _, rfl, Or.inl ⟨by rw [en]; exact hm, u, c, by rw [en]; exact g1, Or.inr ⟨fun k hk e => ?_, rfl⟩⟩⟩⟩
                     rw [en] at hk
                     first
                     | (rw [e] at h18; exact absurd h18 (Int32.not_lt.mpr ((nI_lek (a := 0) (by omega) (by omega)).mpr (by omega))))
                     | (rw [e] at h23; exact h23 ((nI_ltk (by omega) (by omega)).mpr hk)))))
      · try simp (disch := omega) only [zI_n, zI_o, zI_lit, zI_neg, zI_add, zI_sub, zI_mul, zI_lt, zI_le, zI_eq, zI_clamp, zI_in, zI_div, zI_rem, lg_lt0, lg_gt0, lg_eq0, lg_le0, lg_ge0, Int.toNat_natCast, ge_iff_le, gt_iff_lt, List.length_cons, List.length_nil, bl_up2_at, bl_up2_nk, bl_up2_nx] at h7
        first
        | (exfalso; first | omega | exact h7 trivial)
        | (refine ⟨(fun h => by cases h), ?_⟩
           try show _ ∧ _
           try dsimp only [bl_pv]
           first
           | (refine ⟨f1, f2, Or.inr ⟨hE, hmk, _, rfl, Or.inr ⟨by rw [en]; exact g1.imp id And.left, rfl⟩⟩⟩))
    · refine bl_go oX10_pass 80 [] rfl ?_
      refine ⟨fun h7 => ?_, fun h7 => ?_⟩
      · try simp (disch := omega) only [zI_n, zI_o, zI_lit, zI_neg, zI_add, zI_sub, zI_mul, zI_lt, zI_le, zI_eq, zI_clamp, zI_in, zI_div, zI_rem, lg_lt0, lg_gt0, lg_eq0, lg_le0, lg_ge0, Int.toNat_natCast, ge_iff_le, gt_iff_lt, List.length_cons, List.length_nil, bl_up2_at, bl_up2_nk, bl_up2_nx] at h7
        first
        | (exfalso; first | omega | exact h7 trivial)
        | (refine ⟨rfl, (Nat.le_of_ble_eq_true rfl), (0, 0), Nat.le_of_ble_eq_true rfl, Nat.le_of_ble_eq_true rfl, bl_MC_mono (c_Passes_fewestFor (d := d + 4) (n := n) rfl hn1 hn2) (fun o13 σ13 q13 => ?_)⟩
           try dsimp only [bl_pv] at q13
           obtain ⟨rfl, rfl⟩ := q13
           rw [hfw]
           refine bl_go oX10_pass 80 [] rfl ?_
           refine ⟨fun h18 => ?_, fun h18 => ?_⟩
           · try simp (disch := omega) only [bl_pv, cl0, cl1, cl2, cl3, cl4, cl5, cl6, cl7, cl8, cl9, bl_up2_at, bl_up2_nk, bl_up2_nx] at h18
             first
             | (exfalso; first | omega | exact h18 trivial)
             | (refine ⟨(fun h => by cases h), ?_⟩
                try show _ ∧ _
                try dsimp only [bl_pv]
                refine ⟨f1, f2, Or.inr ⟨hE, hmk, _, rfl, Or.inl ⟨by rw [en]; exact hm, u, c, by rw [en]; exact g1, Or.inr ⟨fun k hk e => ?_, rfl⟩⟩⟩⟩
                rw [en] at hk
                first
                | (rw [e] at h18; exact absurd h18 (Int32.not_lt.mpr ((nI_lek (a := 0) (by omega) (by omega)).mpr (by omega))))
                | (rw [e] at h23; exact h23 ((nI_ltk (by omega) (by omega)).mpr hk)))
           · try simp (disch := omega) only [bl_pv, cl0, cl1, cl2, cl3, cl4, cl5, cl6, cl7, cl8, cl9, bl_up2_at, bl_up2_nk, bl_up2_nx] at h18
             first
             | (exfalso; first | omega | exact h18 trivial)
             | (refine ⟨fun h23 => ?_, fun h23 => ?_⟩
                · try simp (disch := omega) only [bl_pv, cl0, cl1, cl2, cl3, cl4, cl5, cl6, cl7, cl8, cl9, bl_up2_at, bl_up2_nk, bl_up2_nx] at h23
                  first
                  | (exfalso; first | omega | exact h23 trivial)
                  | (obtain ⟨k, hk, rfl, ek⟩ := rb_n (c := pm n) (by omega) ((rb_lt (by omega)).mpr ⟨Int32.not_lt.mp h18, h23⟩)
                     refine ⟨rfl, rfl, kx, (Nat.le_of_ble_eq_true rfl), (0, 0), Nat.le_of_ble_eq_true rfl, Nat.le_of_ble_eq_true rfl, bl_MC_mono (c_BL_searchedT (d := d + 5) f1 g4) (fun o31 σ31 q31 => ?_)⟩
                     try dsimp only [bl_pv] at q31
                     obtain ⟨rfl, rfl⟩ := q31
                     refine bl_go oX10_pass 80 [] rfl ?_
                     refine ⟨rfl, rfl, kxw, (Nat.le_of_ble_eq_true rfl), (0, 0), Nat.le_of_ble_eq_true rfl, Nat.le_of_ble_eq_true rfl, bl_MC_mono (c_Passes_waitOf (d := d + 5) (p := pm n) (i := k) (c := c) hps rfl ⟨by omega, hp6⟩ rfl hk g5 g3) (fun o36 σ36 q36 => ?_)⟩
                     try dsimp only [bl_pv] at q36
                     obtain ⟨rfl, rfl⟩ := q36
                     refine bl_go oX10_pass 80 [] rfl ?_
                     refine ⟨rfl, (Nat.le_of_ble_eq_true rfl), (0, 0), Nat.le_of_ble_eq_true rfl, Nat.le_of_ble_eq_true rfl, bl_MC_mono (c_Passes_factorAt (d := d + 4) (n := n) (i := k) rfl hn1 hn2 rfl (by omega)) (fun o42 σ42 q42 => ?_)⟩
                     try dsimp only [bl_pv] at q42
                     obtain ⟨rfl, rfl⟩ := q42
                     refine bl_go oX10_pass 80 [] rfl ?_
                     refine ⟨(fun h => by cases h), ?_⟩
                     try show _ ∧ _
                     try dsimp only [bl_pv]
                     refine ⟨f1, f2, Or.inr ⟨hE, hmk, _, rfl, Or.inl ⟨by rw [en]; exact hm, u, c, by rw [en]; exact g1, Or.inl ⟨k, by rw [en]; exact hk, rfl, ?_⟩⟩⟩⟩
                     rw [en]
                     exact nI_ma _ _)
                · try simp (disch := omega) only [bl_pv, cl0, cl1, cl2, cl3, cl4, cl5, cl6, cl7, cl8, cl9, bl_up2_at, bl_up2_nk, bl_up2_nx] at h23
                  first
                  | (exfalso; first | omega | exact h23 trivial)
                  | (refine ⟨(fun h => by cases h), ?_⟩
                     try show _ ∧ _
                     try dsimp only [bl_pv]
                     refine ⟨f1, f2, Or.inr ⟨hE, hmk, _, rfl, Or.inl ⟨by rw [en]; exact hm, u, c, by rw [en]; exact g1, Or.inr ⟨fun k hk e => ?_, rfl⟩⟩⟩⟩
                     rw [en] at hk
                     first
                     | (rw [e] at h18; exact absurd h18 (Int32.not_lt.mpr ((nI_lek (a := 0) (by omega) (by omega)).mpr (by omega))))
                     | (rw [e] at h23; exact h23 ((nI_ltk (by omega) (by omega)).mpr hk)))))
      · try simp (disch := omega) only [zI_n, zI_o, zI_lit, zI_neg, zI_add, zI_sub, zI_mul, zI_lt, zI_le, zI_eq, zI_clamp, zI_in, zI_div, zI_rem, lg_lt0, lg_gt0, lg_eq0, lg_le0, lg_ge0, Int.toNat_natCast, ge_iff_le, gt_iff_lt, List.length_cons, List.length_nil, bl_up2_at, bl_up2_nk, bl_up2_nx] at h7
        first
        | (exfalso; first | omega | exact h7 trivial)
        | (refine ⟨(fun h => by cases h), ?_⟩
           try show _ ∧ _
           try dsimp only [bl_pv]
           first
           | (refine ⟨f1, f2, Or.inr ⟨hE, hmk, _, rfl, Or.inr ⟨by rw [en]; exact g1.imp id And.left, rfl⟩⟩⟩))
  · have hW : swE x 0 = 1 := by unfold swE; rw [Bool.eq_false_iff.mpr (inb_f hx), Bool.false_and]; rfl
    have hE : psE' x = 1 := by unfold psE'; rw [if_neg (inb_f hx)]
    refine bl_MC_intro (by decide +kernel) rfl (Nat.le_of_ble_eq_true rfl) ?_
    refine bl_go oX10_pass 80 [] rfl ?_
    refine ⟨rfl, rfl, kx, (Nat.le_of_ble_eq_true rfl), (2, 12), Nat.le_of_ble_eq_true rfl, Nat.le_of_ble_eq_true rfl, ?_⟩
    refine bl_MC_mono (c_BL_wayToT (d := d) (w := 0) hlt hI hO rx10) (fun o s' q => ?_)
    obtain ⟨f1, f2, f3⟩ := q
    obtain ⟨-, rfl, rfl⟩ := f3.resolve_right (fun q => by rw [hW] at q; exact absurd q.1 (by decide))
    exact Or.inl ⟨rfl, f1, f2, Or.inl ⟨hE, rfl⟩⟩
theorem c_BL_soonestT (hlt : l.stackTraces = false) (hI : clI (I, J, R, K, N) S h) (hO : csO S) (rx10 : R 100 10 = some 200) : bl_MC G l (d + 6) mX10_soonest [.ref 100, .int x, .int w] (I, J, R, K, N) (2, 12) (fun o s' => clI s' S h ∧ cfF (I, J, R, K, N) s' ∧ ((swE x w = 1 ∧ o = .inr bl_IAE) ∨ (swE x w = 0 ∧ (made (rn x) → s'.2.2.1 100 10 = some 200) ∧ ∃ v, o = .inl (some (.int v)) ∧ swP (pPk S.1.1 S.2.1 S.1.2.2.2.2) (rn x) w v))) := by
  obtain ⟨⟨kx, ⟨rx_0, rx_1, rx_2, rx_3, rx_4, rx_5, rx_6, rx_7⟩, ⟨kxr, nxr⟩, ⟨kxn, nxn⟩, kxb, ⟨kxi, nxi⟩, ⟨kxj, nxj⟩⟩, hTp, hUn, hBn, hK1, hK2, hSt, hStr⟩ := hI.1
  dsimp only at kx
  by_cases hW : swE x w = 0
  · skip
    refine bl_MC_intro (by decide +kernel) rfl (Nat.le_of_ble_eq_true rfl) ?_
    refine bl_go oX10_soonest 80 [] rfl ?_
    refine ⟨rfl, rfl, kx, (Nat.le_of_ble_eq_true rfl), (2, 12), Nat.le_of_ble_eq_true rfl, Nat.le_of_ble_eq_true rfl, bl_MC_mono (c_BL_wayToT (d := d) hlt hI hO rx10) (fun o3 σ3 q3 => ?_)⟩
    try dsimp only [bl_pv] at q3
    obtain ⟨f1, f2, f3⟩ := q3
    obtain ⟨-, v, rfl, f4⟩ := f3.resolve_left (fun q => by rw [hW] at q; exact absurd q.1 (by decide))
    refine bl_go oX10_soonest 80 [] rfl ?_
    refine ⟨(fun h => by cases h), ?_⟩
    try show _ ∧ _
    try dsimp only [bl_pv]
    exact ⟨f1, f2, Or.inr ⟨hW, f4.mk, v, rfl, f4.sw⟩⟩
  · skip
    refine bl_MC_intro (by decide +kernel) rfl (Nat.le_of_ble_eq_true rfl) ?_
    refine bl_go oX10_soonest 80 [] rfl ?_
    refine ⟨rfl, rfl, kx, (Nat.le_of_ble_eq_true rfl), (2, 12), Nat.le_of_ble_eq_true rfl, Nat.le_of_ble_eq_true rfl, ?_⟩
    refine bl_MC_mono (c_BL_wayToT (d := d) hlt hI hO rx10) (fun o s' q => ?_)
    obtain ⟨f1, f2, f3⟩ := q
    obtain ⟨e, rfl, rfl⟩ := f3.resolve_right (fun q => hW q.1)
    exact Or.inl ⟨rfl, f1, f2, Or.inl ⟨e, rfl⟩⟩
theorem c_BL_fewestT (hlt : l.stackTraces = false) (hI : clI (I, J, R, K, N) S h) (hO : csO S) (rx10 : R 100 10 = some 200) : bl_MC G l (d + 6) mX10_fewest [.ref 100, .int x, .int w] (I, J, R, K, N) (2, 12) (fun o s' => clI s' S h ∧ cfF (I, J, R, K, N) s' ∧ ((swE x w = 1 ∧ o = .inr bl_IAE) ∨ (swE x w = 0 ∧ (made (rn x) → s'.2.2.1 100 10 = some 200) ∧ ∃ v, o = .inl (some (.int v)) ∧ swP (pPk S.1.1 S.2.1 S.1.2.2.2.2) (rn x) w v))) := by
  obtain ⟨⟨kx, ⟨rx_0, rx_1, rx_2, rx_3, rx_4, rx_5, rx_6, rx_7⟩, ⟨kxr, nxr⟩, ⟨kxn, nxn⟩, kxb, ⟨kxi, nxi⟩, ⟨kxj, nxj⟩⟩, hTp, hUn, hBn, hK1, hK2, hSt, hStr⟩ := hI.1
  dsimp only at kx
  by_cases hW : swE x w = 0
  · skip
    refine bl_MC_intro (by decide +kernel) rfl (Nat.le_of_ble_eq_true rfl) ?_
    refine bl_go oX10_fewest 80 [] rfl ?_
    refine ⟨rfl, rfl, kx, (Nat.le_of_ble_eq_true rfl), (2, 12), Nat.le_of_ble_eq_true rfl, Nat.le_of_ble_eq_true rfl, bl_MC_mono (c_BL_wayToT (d := d) hlt hI hO rx10) (fun o3 σ3 q3 => ?_)⟩
    try dsimp only [bl_pv] at q3
    obtain ⟨f1, f2, f3⟩ := q3
    obtain ⟨-, v, rfl, f4⟩ := f3.resolve_left (fun q => by rw [hW] at q; exact absurd q.1 (by decide))
    refine bl_go oX10_fewest 80 [] rfl ?_
    refine ⟨(fun h => by cases h), ?_⟩
    try show _ ∧ _
    try dsimp only [bl_pv]
    exact ⟨f1, f2, Or.inr ⟨hW, f4.mk, v, rfl, f4.sw⟩⟩
  · skip
    refine bl_MC_intro (by decide +kernel) rfl (Nat.le_of_ble_eq_true rfl) ?_
    refine bl_go oX10_fewest 80 [] rfl ?_
    refine ⟨rfl, rfl, kx, (Nat.le_of_ble_eq_true rfl), (2, 12), Nat.le_of_ble_eq_true rfl, Nat.le_of_ble_eq_true rfl, ?_⟩
    refine bl_MC_mono (c_BL_wayToT (d := d) hlt hI hO rx10) (fun o s' q => ?_)
    obtain ⟨f1, f2, f3⟩ := q
    obtain ⟨e, rfl, rfl⟩ := f3.resolve_right (fun q => hW q.1)
    exact Or.inl ⟨rfl, f1, f2, Or.inl ⟨e, rfl⟩⟩
theorem c_BL_passN (hlt : l.stackTraces = false) (hI : clI (I, J, R, K, N) S h) (hO : csO S) (rx10 : R 100 10 = none) : bl_MC G l (d + 6) mX10_pass [.ref 100, .int x, .int y] (I, J, R, K, N) (9, 38847) (fun o s' => clI s' S h ∧ cfF (I, J, R, K, N) s' ∧ ((psE' x = 1 ∧ o = .inr bl_IAE) ∨ (psE' x = 0 ∧ (made (rn x) → s'.2.2.1 100 10 = some 200) ∧ ∃ v, o = .inl (some (.int v)) ∧ psP (pPk S.1.1 S.2.1 S.1.2.2.2.2) (rn x) y v))) := by
  obtain ⟨⟨kx, ⟨rx_0, rx_1, rx_2, rx_3, rx_4, rx_5, rx_6, rx_7⟩, ⟨kxr, nxr⟩, ⟨kxn, nxn⟩, kxb, ⟨kxi, nxi⟩, ⟨kxj, nxj⟩⟩, hTp, hUn, hBn, hK1, hK2, hSt, hStr⟩ := hI.1
  dsimp only at kx
  have hwb : wb 1 0 = true := by decide
  by_cases hx : 1 ≤ x ∧ x ≤ 1024
  · have hW : swE x 0 = 0 := by unfold swE; rw [inb_t hx, hwb]; rfl
    have hE : psE' x = 0 := by unfold psE'; rw [if_pos (inb_t hx)]
    obtain ⟨n, hn2, rfl⟩ := i32_nat (b := 1024) (by omega) (Int32.le_trans (show (0 : Int32) ≤ 1 by decide) hx.1) hx.2
    have hn1 : 1 ≤ n := (nI_lek (a := 1) (by omega) (by omega)).mp hx.1
    have en : rn (nI n) = n := nI_clamp (by omega)
    refine bl_MC_intro (by decide +kernel) rfl (Nat.le_of_ble_eq_true rfl) ?_
    refine bl_go oX10_pass 80 [] rfl ?_
    refine ⟨rfl, rfl, kx, (Nat.le_of_ble_eq_true rfl), (9, 38847), Nat.le_of_ble_eq_true rfl, Nat.le_of_ble_eq_true rfl, bl_MC_mono (c_BL_wayToN (d := d) (w := 0) hlt hI hO rx10) (fun o3 σ3 q3 => ?_)⟩
    try dsimp only [bl_pv] at q3
    obtain ⟨I5, J5, R5, K5, N5⟩ := σ3
    obtain ⟨f1, f2, f3⟩ := q3
    obtain ⟨-, v, rfl, f4⟩ := f3.resolve_left (fun q => by rw [hW] at q; exact absurd q.1 (by decide))
    rw [en] at f4
    have hmk : made (rn (nI n)) → R5 100 10 = some 200 := fun q => f4.mk (by rw [en] at q; exact q)
    have kx := f1.1.1.1
    dsimp only at kx
    rcases f4 with ⟨hm, u, c, g1, g3, g4, g5, g2, hv⟩ | ⟨g1, rfl⟩
    · rw [if_pos rfl] at hv
      subst hv
      have hfw : fwf n = nI (pm n) := if_pos hm
      have hp6 := (made_pm hn1 hn2 hm).1
      have rx_10 := g4
      have hps : psS R5 K5 N5 200 := by
        rcases f1.2.2.2.1 with ⟨q, _⟩ | ⟨_, q⟩
        · exact absurd (g4.symm.trans q) (by simp)
        · exact q
      have kxw := hps.2.1
      dsimp only at rx_10 g5
      refine bl_go oX10_pass 80 [] rfl ?_
      refine ⟨fun h7 => ?_, fun h7 => ?_⟩
      · try simp (disch := omega) only [zI_n, zI_o, zI_lit, zI_neg, zI_add, zI_sub, zI_mul, zI_lt, zI_le, zI_eq, zI_clamp, zI_in, zI_div, zI_rem, lg_lt0, lg_gt0, lg_eq0, lg_le0, lg_ge0, Int.toNat_natCast, ge_iff_le, gt_iff_lt, List.length_cons, List.length_nil, bl_up2_at, bl_up2_nk, bl_up2_nx] at h7
        first
        | (exfalso; first | omega | exact h7 trivial)
        | (refine ⟨rfl, (Nat.le_of_ble_eq_true rfl), (0, 0), Nat.le_of_ble_eq_true rfl, Nat.le_of_ble_eq_true rfl, bl_MC_mono (c_Passes_fewestFor (d := d + 4) (n := n) rfl hn1 hn2) (fun o13 σ13 q13 => ?_)⟩
           try dsimp only [bl_pv] at q13
           obtain ⟨rfl, rfl⟩ := q13
           rw [hfw]
           refine bl_go oX10_pass 80 [] rfl ?_
           refine ⟨fun h18 => ?_, fun h18 => ?_⟩
           · try simp (disch := omega) only [bl_pv, cl0, cl1, cl2, cl3, cl4, cl5, cl6, cl7, cl8, cl9, bl_up2_at, bl_up2_nk, bl_up2_nx] at h18
             first
             | (exfalso; first | omega | exact h18 trivial)
             | (refine ⟨(fun h => by cases h), ?_⟩
                try show _ ∧ _
                try dsimp only [bl_pv]
                refine ⟨f1, f2, Or.inr ⟨hE, hmk, _, rfl, Or.inl ⟨by rw [en]; exact hm, u, c, by rw [en]; exact g1, Or.inr ⟨fun k hk e => ?_, rfl⟩⟩⟩⟩
                rw [en] at hk
                first
                | (rw [e] at h18; exact absurd h18 (Int32.not_lt.mpr ((nI_lek (a := 0) (by omega) (by omega)).mpr (by omega))))
                | (rw [e] at h23; exact h23 ((nI_ltk (by omega) (by omega)).mpr hk)))
           · try simp (disch := omega) only [bl_pv, cl0, cl1, cl2, cl3, cl4, cl5, cl6, cl7, cl8, cl9, bl_up2_at, bl_up2_nk, bl_up2_nx] at h18
             first
             | (exfalso; first | omega | exact h18 trivial)
             | (refine ⟨fun h23 => ?_, fun h23 => ?_⟩
                · try simp (disch := omega) only [bl_pv, cl0, cl1, cl2, cl3, cl4, cl5, cl6, cl7, cl8, cl9, bl_up2_at, bl_up2_nk, bl_up2_nx] at h23
                  first
                  | (exfalso; first | omega | exact h23 trivial)
                  | (obtain ⟨k, hk, rfl, ek⟩ := rb_n (c := pm n) (by omega) ((rb_lt (by omega)).mpr ⟨Int32.not_lt.mp h18, h23⟩)
                     refine ⟨rfl, rfl, kx, (Nat.le_of_ble_eq_true rfl), (0, 0), Nat.le_of_ble_eq_true rfl, Nat.le_of_ble_eq_true rfl, bl_MC_mono (c_BL_searchedT (d := d + 5) f1 g4) (fun o31 σ31 q31 => ?_)⟩
                     try dsimp only [bl_pv] at q31
                     obtain ⟨rfl, rfl⟩ := q31
                     refine bl_go oX10_pass 80 [] rfl ?_
                     refine ⟨rfl, rfl, kxw, (Nat.le_of_ble_eq_true rfl), (0, 0), Nat.le_of_ble_eq_true rfl, Nat.le_of_ble_eq_true rfl, bl_MC_mono (c_Passes_waitOf (d := d + 5) (p := pm n) (i := k) (c := c) hps rfl ⟨by omega, hp6⟩ rfl hk g5 g3) (fun o36 σ36 q36 => ?_)⟩
                     try dsimp only [bl_pv] at q36
                     obtain ⟨rfl, rfl⟩ := q36
                     refine bl_go oX10_pass 80 [] rfl ?_
                     refine ⟨rfl, (Nat.le_of_ble_eq_true rfl), (0, 0), Nat.le_of_ble_eq_true rfl, Nat.le_of_ble_eq_true rfl, bl_MC_mono (c_Passes_factorAt (d := d + 4) (n := n) (i := k) rfl hn1 hn2 rfl (by omega)) (fun o42 σ42 q42 => ?_)⟩
                     try dsimp only [bl_pv] at q42
                     obtain ⟨rfl, rfl⟩ := q42
                     refine bl_go oX10_pass 80 [] rfl ?_
                     refine ⟨(fun h => by cases h), ?_⟩
                     try show _ ∧ _
                     try dsimp only [bl_pv]
                     refine ⟨f1, f2, Or.inr ⟨hE, hmk, _, rfl, Or.inl ⟨by rw [en]; exact hm, u, c, by rw [en]; exact g1, Or.inl ⟨k, by rw [en]; exact hk, rfl, ?_⟩⟩⟩⟩
                     rw [en]
                     exact nI_ma _ _)
                · try simp (disch := omega) only [bl_pv, cl0, cl1, cl2, cl3, cl4, cl5, cl6, cl7, cl8, cl9, bl_up2_at, bl_up2_nk, bl_up2_nx] at h23
                  first
                  | (exfalso; first | omega | exact h23 trivial)
                  | (refine ⟨(fun h => by cases h), ?_⟩
                     try show _ ∧ _
                     try dsimp only [bl_pv]
                     refine ⟨f1, f2, Or.inr ⟨hE, hmk, _, rfl, Or.inl ⟨by rw [en]; exact hm, u, c, by rw [en]; exact g1, Or.inr ⟨fun k hk e => ?_, rfl⟩⟩⟩⟩
                     rw [en] at hk
                     first
                     | (rw [e] at h18; exact absurd h18 (Int32.not_lt.mpr ((nI_lek (a := 0) (by omega) (by omega)).mpr (by omega))))
                     | (rw [e] at h23; exact h23 ((nI_ltk (by omega) (by omega)).mpr hk)))))
      · try simp (disch := omega) only [zI_n, zI_o, zI_lit, zI_neg, zI_add, zI_sub, zI_mul, zI_lt, zI_le, zI_eq, zI_clamp, zI_in, zI_div, zI_rem, lg_lt0, lg_gt0, lg_eq0, lg_le0, lg_ge0, Int.toNat_natCast, ge_iff_le, gt_iff_lt, List.length_cons, List.length_nil, bl_up2_at, bl_up2_nk, bl_up2_nx] at h7
        first
        | (exfalso; first | omega | exact h7 trivial)
        | (refine ⟨(fun h => by cases h), ?_⟩
           try show _ ∧ _
           try dsimp only [bl_pv]
           first
           | (refine ⟨f1, f2, Or.inr ⟨hE, hmk, _, rfl, Or.inr ⟨by rw [en]; exact g1.imp id And.left, rfl⟩⟩⟩))
    · refine bl_go oX10_pass 80 [] rfl ?_
      refine ⟨fun h7 => ?_, fun h7 => ?_⟩
      · try simp (disch := omega) only [zI_n, zI_o, zI_lit, zI_neg, zI_add, zI_sub, zI_mul, zI_lt, zI_le, zI_eq, zI_clamp, zI_in, zI_div, zI_rem, lg_lt0, lg_gt0, lg_eq0, lg_le0, lg_ge0, Int.toNat_natCast, ge_iff_le, gt_iff_lt, List.length_cons, List.length_nil, bl_up2_at, bl_up2_nk, bl_up2_nx] at h7
        first
        | (exfalso; first | omega | exact h7 trivial)
        | (refine ⟨rfl, (Nat.le_of_ble_eq_true rfl), (0, 0), Nat.le_of_ble_eq_true rfl, Nat.le_of_ble_eq_true rfl, bl_MC_mono (c_Passes_fewestFor (d := d + 4) (n := n) rfl hn1 hn2) (fun o13 σ13 q13 => ?_)⟩
           try dsimp only [bl_pv] at q13
           obtain ⟨rfl, rfl⟩ := q13
           rw [hfw]
           refine bl_go oX10_pass 80 [] rfl ?_
           refine ⟨fun h18 => ?_, fun h18 => ?_⟩
           · try simp (disch := omega) only [bl_pv, cl0, cl1, cl2, cl3, cl4, cl5, cl6, cl7, cl8, cl9, bl_up2_at, bl_up2_nk, bl_up2_nx] at h18
             first
             | (exfalso; first | omega | exact h18 trivial)
             | (refine ⟨(fun h => by cases h), ?_⟩
                try show _ ∧ _
                try dsimp only [bl_pv]
                refine ⟨f1, f2, Or.inr ⟨hE, hmk, _, rfl, Or.inl ⟨by rw [en]; exact hm, u, c, by rw [en]; exact g1, Or.inr ⟨fun k hk e => ?_, rfl⟩⟩⟩⟩
                rw [en] at hk
                first
                | (rw [e] at h18; exact absurd h18 (Int32.not_lt.mpr ((nI_lek (a := 0) (by omega) (by omega)).mpr (by omega))))
                | (rw [e] at h23; exact h23 ((nI_ltk (by omega) (by omega)).mpr hk)))
           · try simp (disch := omega) only [bl_pv, cl0, cl1, cl2, cl3, cl4, cl5, cl6, cl7, cl8, cl9, bl_up2_at, bl_up2_nk, bl_up2_nx] at h18
             first
             | (exfalso; first | omega | exact h18 trivial)
             | (refine ⟨fun h23 => ?_, fun h23 => ?_⟩
                · try simp (disch := omega) only [bl_pv, cl0, cl1, cl2, cl3, cl4, cl5, cl6, cl7, cl8, cl9, bl_up2_at, bl_up2_nk, bl_up2_nx] at h23
                  first
                  | (exfalso; first | omega | exact h23 trivial)
                  | (obtain ⟨k, hk, rfl, ek⟩ := rb_n (c := pm n) (by omega) ((rb_lt (by omega)).mpr ⟨Int32.not_lt.mp h18, h23⟩)
                     refine ⟨rfl, rfl, kx, (Nat.le_of_ble_eq_true rfl), (0, 0), Nat.le_of_ble_eq_true rfl, Nat.le_of_ble_eq_true rfl, bl_MC_mono (c_BL_searchedT (d := d + 5) f1 g4) (fun o31 σ31 q31 => ?_)⟩
                     try dsimp only [bl_pv] at q31
                     obtain ⟨rfl, rfl⟩ := q31
                     refine bl_go oX10_pass 80 [] rfl ?_
                     refine ⟨rfl, rfl, kxw, (Nat.le_of_ble_eq_true rfl), (0, 0), Nat.le_of_ble_eq_true rfl, Nat.le_of_ble_eq_true rfl, bl_MC_mono (c_Passes_waitOf (d := d + 5) (p := pm n) (i := k) (c := c) hps rfl ⟨by omega, hp6⟩ rfl hk g5 g3) (fun o36 σ36 q36 => ?_)⟩
                     try dsimp only [bl_pv] at q36
                     obtain ⟨rfl, rfl⟩ := q36
                     refine bl_go oX10_pass 80 [] rfl ?_
                     refine ⟨rfl, (Nat.le_of_ble_eq_true rfl), (0, 0), Nat.le_of_ble_eq_true rfl, Nat.le_of_ble_eq_true rfl, bl_MC_mono (c_Passes_factorAt (d := d + 4) (n := n) (i := k) rfl hn1 hn2 rfl (by omega)) (fun o42 σ42 q42 => ?_)⟩
                     try dsimp only [bl_pv] at q42
                     obtain ⟨rfl, rfl⟩ := q42
                     refine bl_go oX10_pass 80 [] rfl ?_
                     refine ⟨(fun h => by cases h), ?_⟩
                     try show _ ∧ _
                     try dsimp only [bl_pv]
                     refine ⟨f1, f2, Or.inr ⟨hE, hmk, _, rfl, Or.inl ⟨by rw [en]; exact hm, u, c, by rw [en]; exact g1, Or.inl ⟨k, by rw [en]; exact hk, rfl, ?_⟩⟩⟩⟩
                     rw [en]
                     exact nI_ma _ _)
                · try simp (disch := omega) only [bl_pv, cl0, cl1, cl2, cl3, cl4, cl5, cl6, cl7, cl8, cl9, bl_up2_at, bl_up2_nk, bl_up2_nx] at h23
                  first
                  | (exfalso; first | omega | exact h23 trivial)
                  | (refine ⟨(fun h => by cases h), ?_⟩
                     try show _ ∧ _
                     try dsimp only [bl_pv]
                     refine ⟨f1, f2, Or.inr ⟨hE, hmk, _, rfl, Or.inl ⟨by rw [en]; exact hm, u, c, by rw [en]; exact g1, Or.inr ⟨fun k hk e => ?_, rfl⟩⟩⟩⟩
                     rw [en] at hk
                     first
                     | (rw [e] at h18; exact absurd h18 (Int32.not_lt.mpr ((nI_lek (a := 0) (by omega) (by omega)).mpr (by omega))))
                     | (rw [e] at h23; exact h23 ((nI_ltk (by omega) (by omega)).mpr hk)))))
      · try simp (disch := omega) only [zI_n, zI_o, zI_lit, zI_neg, zI_add, zI_sub, zI_mul, zI_lt, zI_le, zI_eq, zI_clamp, zI_in, zI_div, zI_rem, lg_lt0, lg_gt0, lg_eq0, lg_le0, lg_ge0, Int.toNat_natCast, ge_iff_le, gt_iff_lt, List.length_cons, List.length_nil, bl_up2_at, bl_up2_nk, bl_up2_nx] at h7
        first
        | (exfalso; first | omega | exact h7 trivial)
        | (refine ⟨(fun h => by cases h), ?_⟩
           try show _ ∧ _
           try dsimp only [bl_pv]
           first
           | (refine ⟨f1, f2, Or.inr ⟨hE, hmk, _, rfl, Or.inr ⟨by rw [en]; exact g1.imp id And.left, rfl⟩⟩⟩))
  · have hW : swE x 0 = 1 := by unfold swE; rw [Bool.eq_false_iff.mpr (inb_f hx), Bool.false_and]; rfl
    have hE : psE' x = 1 := by unfold psE'; rw [if_neg (inb_f hx)]
    refine bl_MC_intro (by decide +kernel) rfl (Nat.le_of_ble_eq_true rfl) ?_
    refine bl_go oX10_pass 80 [] rfl ?_
    refine ⟨rfl, rfl, kx, (Nat.le_of_ble_eq_true rfl), (9, 38847), Nat.le_of_ble_eq_true rfl, Nat.le_of_ble_eq_true rfl, ?_⟩
    refine bl_MC_mono (c_BL_wayToN (d := d) (w := 0) hlt hI hO rx10) (fun o s' q => ?_)
    obtain ⟨f1, f2, f3⟩ := q
    obtain ⟨-, rfl, rfl⟩ := f3.resolve_right (fun q => by rw [hW] at q; exact absurd q.1 (by decide))
    exact Or.inl ⟨rfl, f1, f2, Or.inl ⟨hE, rfl⟩⟩
theorem c_BL_soonestN (hlt : l.stackTraces = false) (hI : clI (I, J, R, K, N) S h) (hO : csO S) (rx10 : R 100 10 = none) : bl_MC G l (d + 6) mX10_soonest [.ref 100, .int x, .int w] (I, J, R, K, N) (9, 38847) (fun o s' => clI s' S h ∧ cfF (I, J, R, K, N) s' ∧ ((swE x w = 1 ∧ o = .inr bl_IAE) ∨ (swE x w = 0 ∧ (made (rn x) → s'.2.2.1 100 10 = some 200) ∧ ∃ v, o = .inl (some (.int v)) ∧ swP (pPk S.1.1 S.2.1 S.1.2.2.2.2) (rn x) w v))) := by
  obtain ⟨⟨kx, ⟨rx_0, rx_1, rx_2, rx_3, rx_4, rx_5, rx_6, rx_7⟩, ⟨kxr, nxr⟩, ⟨kxn, nxn⟩, kxb, ⟨kxi, nxi⟩, ⟨kxj, nxj⟩⟩, hTp, hUn, hBn, hK1, hK2, hSt, hStr⟩ := hI.1
  dsimp only at kx
  by_cases hW : swE x w = 0
  · skip
    refine bl_MC_intro (by decide +kernel) rfl (Nat.le_of_ble_eq_true rfl) ?_
    refine bl_go oX10_soonest 80 [] rfl ?_
    refine ⟨rfl, rfl, kx, (Nat.le_of_ble_eq_true rfl), (9, 38847), Nat.le_of_ble_eq_true rfl, Nat.le_of_ble_eq_true rfl, bl_MC_mono (c_BL_wayToN (d := d) hlt hI hO rx10) (fun o3 σ3 q3 => ?_)⟩
    try dsimp only [bl_pv] at q3
    obtain ⟨f1, f2, f3⟩ := q3
    obtain ⟨-, v, rfl, f4⟩ := f3.resolve_left (fun q => by rw [hW] at q; exact absurd q.1 (by decide))
    refine bl_go oX10_soonest 80 [] rfl ?_
    refine ⟨(fun h => by cases h), ?_⟩
    try show _ ∧ _
    try dsimp only [bl_pv]
    exact ⟨f1, f2, Or.inr ⟨hW, f4.mk, v, rfl, f4.sw⟩⟩
  · skip
    refine bl_MC_intro (by decide +kernel) rfl (Nat.le_of_ble_eq_true rfl) ?_
    refine bl_go oX10_soonest 80 [] rfl ?_
    refine ⟨rfl, rfl, kx, (Nat.le_of_ble_eq_true rfl), (9, 38847), Nat.le_of_ble_eq_true rfl, Nat.le_of_ble_eq_true rfl, ?_⟩
    refine bl_MC_mono (c_BL_wayToN (d := d) hlt hI hO rx10) (fun o s' q => ?_)
    obtain ⟨f1, f2, f3⟩ := q
    obtain ⟨e, rfl, rfl⟩ := f3.resolve_right (fun q => hW q.1)
    exact Or.inl ⟨rfl, f1, f2, Or.inl ⟨e, rfl⟩⟩
theorem c_BL_fewestN (hlt : l.stackTraces = false) (hI : clI (I, J, R, K, N) S h) (hO : csO S) (rx10 : R 100 10 = none) : bl_MC G l (d + 6) mX10_fewest [.ref 100, .int x, .int w] (I, J, R, K, N) (9, 38847) (fun o s' => clI s' S h ∧ cfF (I, J, R, K, N) s' ∧ ((swE x w = 1 ∧ o = .inr bl_IAE) ∨ (swE x w = 0 ∧ (made (rn x) → s'.2.2.1 100 10 = some 200) ∧ ∃ v, o = .inl (some (.int v)) ∧ swP (pPk S.1.1 S.2.1 S.1.2.2.2.2) (rn x) w v))) := by
  obtain ⟨⟨kx, ⟨rx_0, rx_1, rx_2, rx_3, rx_4, rx_5, rx_6, rx_7⟩, ⟨kxr, nxr⟩, ⟨kxn, nxn⟩, kxb, ⟨kxi, nxi⟩, ⟨kxj, nxj⟩⟩, hTp, hUn, hBn, hK1, hK2, hSt, hStr⟩ := hI.1
  dsimp only at kx
  by_cases hW : swE x w = 0
  · skip
    refine bl_MC_intro (by decide +kernel) rfl (Nat.le_of_ble_eq_true rfl) ?_
    refine bl_go oX10_fewest 80 [] rfl ?_
    refine ⟨rfl, rfl, kx, (Nat.le_of_ble_eq_true rfl), (9, 38847), Nat.le_of_ble_eq_true rfl, Nat.le_of_ble_eq_true rfl, bl_MC_mono (c_BL_wayToN (d := d) hlt hI hO rx10) (fun o3 σ3 q3 => ?_)⟩
    try dsimp only [bl_pv] at q3
    obtain ⟨f1, f2, f3⟩ := q3
    obtain ⟨-, v, rfl, f4⟩ := f3.resolve_left (fun q => by rw [hW] at q; exact absurd q.1 (by decide))
    refine bl_go oX10_fewest 80 [] rfl ?_
    refine ⟨(fun h => by cases h), ?_⟩
    try show _ ∧ _
    try dsimp only [bl_pv]
    exact ⟨f1, f2, Or.inr ⟨hW, f4.mk, v, rfl, f4.sw⟩⟩
  · skip
    refine bl_MC_intro (by decide +kernel) rfl (Nat.le_of_ble_eq_true rfl) ?_
    refine bl_go oX10_fewest 80 [] rfl ?_
    refine ⟨rfl, rfl, kx, (Nat.le_of_ble_eq_true rfl), (9, 38847), Nat.le_of_ble_eq_true rfl, Nat.le_of_ble_eq_true rfl, ?_⟩
    refine bl_MC_mono (c_BL_wayToN (d := d) hlt hI hO rx10) (fun o s' q => ?_)
    obtain ⟨f1, f2, f3⟩ := q
    obtain ⟨e, rfl, rfl⟩ := f3.resolve_right (fun q => hW q.1)
    exact Or.inl ⟨rfl, f1, f2, Or.inl ⟨e, rfl⟩⟩
end CLSE
