/-! ===== ButterLeaves: a recipe is read ===== -/
/-- one recipe more -/
def rpA (A : aS) (Sq : sq) : aS := (A.1, A.2.1, A.2.2.1 + 1, (fun r => if r = A.2.2.1 then Sq else A.2.2.2.1 r), A.2.2.2.2)
def tpC (S : cS) (fp : Int32) : cS := (S.1, S.2.1, 0, S.2.2.2.1, fp, S.2.2.2.2.2)
def rpS (S : cS) (Sq : sq) : cS := (rpA S.1 Sq, S.2.1, 0, S.2.2.2.1, zI (-1), S.2.2.2.2.2)
theorem csO.tp {S : cS} (h : csO S) {fp : Int32} : csO (tpC S fp) := ⟨h.1, h.2.1, h.2.2.1, h.2.2.2.1, h.2.2.2.2.1, Nat.zero_le _, h.2.2.2.2.2.2⟩
theorem csO.rp {S : cS} (h : csO S) {Sq : sq} (hq : sqV Sq) (hc : S.1.2.2.1 < 4) : csO (rpS S Sq) := by
  obtain ⟨a1, a2, a3, a4, a5, a6, a7, a8, a9⟩ := h
  refine ⟨a1, a2, hc, fun r => ?_, a5, Nat.zero_le _, a7, fun i hi => ⟨Nat.le_succ_of_le (a8 i hi).1, (a8 i hi).2⟩, a9⟩
  show sqV (if r = S.1.2.2.1 then Sq else S.1.2.2.2.1 r)
  by_cases e : r = S.1.2.2.1
  · rw [if_pos e]; exact hq
  · rw [if_neg e]; exact a4 r
theorem rnO.rp {I : Nat → Nat → Int32} {J : Nat → Nat → Int64} {A : aS} {Sq : sq} {r : Nat} (h : rnO I J A r) (e : r ≠ A.2.2.1) : rnO I J (rpA A Sq) r := by
  have e1 : (rpA A Sq).2.2.2.1 r = A.2.2.2.1 r := if_neg e
  have e2 : aD (rpA A Sq) r = aD A r := by unfold aD; rw [e1]; rfl
  have e3 : ∀ k, aSl (rpA A Sq) r k = aSl A r k := fun k => by unfold aSl; rw [e1]; rfl
  have e4 : ∀ v, ltP (rpA A Sq) r v = ltP A r v := fun v => by unfold ltP; rw [e1, e2]; rfl
  unfold rnO at h ⊢
  rw [e2, e1, e4]
  simp only [e3]
  exact h
section CLSC
variable {G : bl_G} {l : Launch} {d : Nat} {I I' : Nat → Nat → Int32} {J J' : Nat → Nat → Int64} {R : Nat → Nat → Option Nat} {K N : Nat → Nat} {S : cS} {h c : Nat} {x y w a b e : Int32}
theorem clI.rows (hI : clI (I, J, R, K, N) S h) (hO : csO S) (hc : S.1.2.2.1 ≤ c) (hc4 : c < 4) (hF : ∀ y, ¬ (300 + 10 * c ≤ y ∧ y ≤ 302 + 10 * c) → I' y = I y) : clI (I', J, R, K, N) S h := by
  obtain ⟨a1, a2, a3, a4, a5, a6, a7, a8, a9, a10⟩ := hI
  have hh := a2.1
  have hs := hF
  refine ⟨a1, a2, a3, a4, ?_, kiC.nm a6 (hs _ (by omega)) (hs _ (by omega)), ?_, fun r hr => ?_, ?_, fun hw => (a10 hw).nm (fun y h1 h2 => hs y (by omega))⟩
  · unfold clT; dsimp only; rw [hs 110 (by omega), hs 111 (by omega)]; exact a5
  · unfold clN; dsimp only; rw [hs 100 (by omega), hs 170 (by omega), hs 171 (by omega)]; exact a7
  · obtain ⟨c1, c2, c3⟩ := a8 r hr
    have hD := aD_20 hO r
    exact ⟨c1, c2.nm (hs _ (by omega)) (hs _ (by omega)) (hs _ (by omega)), c3.nm (fun y hy => ⟨hs y (by have := rnN_rng hy (by omega); omega), rfl⟩) (by omega)⟩
  · unfold clB; dsimp only; rw [hs 150 (by omega)]
    rcases a9 with a | ⟨a, b⟩
    · exact Or.inl a
    · exact Or.inr ⟨a, b.nm (fun y h1 h2 => hs y (by omega))⟩
theorem clI.recipe {Sq : sq} {fp : Int32} (hI : clI (I, J, R, K, N) (tpC S fp) h) (hO : csO S) (hc : c = S.1.2.2.1) (hc4 : c < 4) (hm : mkR (I, J, R, K, N) c) (hg : fgt (I, J, R, K, N) c) (hq : rcC I (300 + 10 * c) Sq) (hF : ∀ y, y ≠ 100 → y ≠ 110 → y ≠ 150 → I' y = I y) (h100 : ∀ j, j ≠ 11 → I' 100 j = I 100 j) (h11 : I' 100 11 = nI (c + 1)) (hT : I' 110 1 = nI 0 ∧ I' 110 3 = zI (-1)) (h18 : I' 150 18 = 0) : clI (I', J, R, K, N) (rpS S Sq) h := by
  obtain ⟨a1, a2, a3, a4, a5, a6, a7, a8, a9, a10⟩ := hI
  have hh := a2.1
  have hs := hF
  refine ⟨a1, a2, a3, a4, ?_, kiC.nm a6 (hs _ (by omega) (by omega) (by omega)) (hs _ (by omega) (by omega) (by omega)), ?_, fun r hr => ?_, Or.inl h18, fun hw => (a10 hw).nm (fun y h1 h2 => hs y (by omega) (by omega) (by omega))⟩
  · unfold clT; dsimp only; rw [hs 111 (by omega) (by omega) (by omega)]; exact ⟨hT.1, hT.2, a5.2.2⟩
  · obtain ⟨n1, n2, n3, n4⟩ := a7
    unfold clN; dsimp only; rw [h100 12 (by omega), h100 13 (by omega), hs 170 (by omega) (by omega) (by omega), hs 171 (by omega) (by omega) (by omega), h11, hc]
    exact ⟨rfl, n2, n3, n4⟩
  · have hr' : r < S.1.2.2.1 + 1 := hr
    by_cases e : r = c
    · subst e
      refine ⟨hm, ?_, ?_⟩
      · have e1 : (rpS S Sq).1.2.2.2.1 r = Sq := if_pos hc
        rw [e1]
        exact hq.nm (hs _ (by omega) (by omega) (by omega)) (hs _ (by omega) (by omega) (by omega)) (hs _ (by omega) (by omega) (by omega))
      · unfold rnO; dsimp only; rw [hs (400 + 10 * r) (by omega) (by omega) (by omega)]
        exact ⟨Or.inl hg.1, Or.inl hg.2.1, Or.inl hg.2.2⟩
    · obtain ⟨c1, c2, c3⟩ := a8 r (show r < S.1.2.2.1 by omega)
      have e0 : r ≠ S.1.2.2.1 := by omega
      have e1 : (rpS S Sq).1.2.2.2.1 r = S.1.2.2.2.1 r := if_neg e0
      have hD := aD_20 hO r
      refine ⟨c1, ?_, ?_⟩
      · rw [e1]
        exact rcC.nm c2 (hs _ (by omega) (by omega) (by omega)) (hs _ (by omega) (by omega) (by omega)) (hs _ (by omega) (by omega) (by omega))
      · have c4 : rnO I J S.1 r := c3
        exact (c4.nm (I' := I') (J' := J) (fun y hy => ⟨hs y (by have := rnN_rng hy (by omega); omega) (by have := rnN_rng hy (by omega); omega) (by have := rnN_rng hy (by omega); omega), rfl⟩) (by omega)).rp e0

theorem c_BL_recipeT (hlt : l.stackTraces = false) (hI : clI (I, J, R, K, N) S h) (hO : csO S) (hc4 : S.1.2.2.1 < 4) (hm : mkR (I, J, R, K, N) S.1.2.2.1) : bl_MC G l (d + 4) mX10_recipe [.ref 100, .int x] (I, J, R, K, N) (1, 6) (fun o s' => (¬ (0 ≤ x ∧ x ≤ nI S.2.2.1) ∧ o = .inr bl_IAE ∧ s' = (I, J, R, K, N)) ∨ ∃ n, n ≤ S.2.2.1 ∧ x = nI n ∧ cfF (I, J, R, K, N) s' ∧ ((S.1.2.2.1 = 4 ∧ o = .inl (some (.int (zI (-1)))) ∧ clI s' (tpC S (zI (-1))) h) ∨ (S.1.2.2.1 < 4 ∧ mkR s' S.1.2.2.1 ∧ ((∃ f, prec S.2.2.2.1 n 21 sq0 0 = .inr f ∧ o = .inl (some (.int (nI f.1 - 10))) ∧ clI s' (tpC S (nI f.2)) h) ∨ (∃ Sq, prec S.2.2.2.1 n 21 sq0 0 = .inl Sq ∧ sqV Sq ∧ o = .inl (some (.int (nI S.1.2.2.1))) ∧ clI s' (rpS S Sq) h))))) := by
  obtain ⟨⟨kx, ⟨rx_0, rx_1, rx_2, rx_3, rx_4, rx_5, rx_6, rx_7⟩, ⟨kxr, nxr⟩, ⟨kxn, nxn⟩, kxb, ⟨kxi, nxi⟩, ⟨kxj, nxj⟩⟩, hTp, hUn, hBn, hK1, hK2, hSt, hStr⟩ := hI.1
  have ht := hI.2.2.2.2.1
  have kxt := hTp.2.1
  have hn := hI.2.2.2.2.2.2.1.1
  have hc5 := hO.2.2.1
  dsimp only at kx rx_0 kxt ht hn
  have ht4 := hO.2.2.2.2.2.1
  have hop := c_Tape_open (G := G) (l := l) (d := d + 3) (I := I) (J := J) (R := R) (N := N) (t := 110) (h := I 110 1) (fk := I 110 2) (fp := I 110 3) (en := I 110 4) (at' := I 110 5) (wa := I 110 6) (x := x) kxt ht.1 ht4
  rw [tpI_eta] at hop
  have hI1 : ∀ n, clI (tpI I 110 0 0 (zI (-1)) (nI n) (nI 0) (I 110 6), J, R, K, N) (tpC S (zI (-1))) h := fun n => hI.tape hO (fun y y1 _ _ => tpI_ne y1) ⟨rfl, rfl, by rw [tpI_ne (by omega)]; exact ht.2.2⟩
  have hO1 : csO (tpC S (zI (-1))) := hO.tp
  have hcf1 : ∀ n, cfF (I, J, R, K, N) (tpI I 110 0 0 (zI (-1)) (nI n) (nI 0) (I 110 6), J, R, K, N) := fun n y y1 y2 => ⟨tpI_ne (by omega), rfl, rfl, rfl, rfl⟩
  have e110 : ∀ n : Nat, tpI I 110 0 0 (zI (-1)) (nI n) (nI 0) (I 110 6) 100 = I 100 := fun n => tpI_ne (by omega)
  have hm1 : ∀ n : Nat, mkR (tpI I 110 0 0 (zI (-1)) (nI n) (nI 0) (I 110 6), J, R, K, N) S.1.2.2.1 := fun n => hm
  refine bl_MC_intro (by decide +kernel) rfl (Nat.le_of_ble_eq_true rfl) ?_
  refine bl_go oX10_recipe 80 [] rfl ?_
  refine ⟨kx, _, bl_vs rx_0, rfl, rfl, kxt, (Nat.le_of_ble_eq_true rfl), (0, 0), Nat.le_of_ble_eq_true rfl, Nat.le_of_ble_eq_true rfl, bl_MC_mono (hop) (fun o5 σ5 q5 => ?_)⟩
  rcases q5 with ⟨n, hx, hn1, rfl, rfl⟩ | ⟨hx, rfl, rfl⟩
  · refine bl_go oX10_recipe 80 [] rfl ?_
    refine ⟨fun h8 => ?_, fun h8 => ?_⟩
    · try simp (disch := omega) only [zI_n, zI_o, zI_lit, zI_neg, zI_add, zI_sub, zI_mul, zI_lt, zI_le, zI_eq, zI_clamp, zI_in, zI_div, zI_rem, lg_lt0, lg_gt0, lg_eq0, lg_le0, lg_ge0, Int.toNat_natCast, ge_iff_le, gt_iff_lt, List.length_cons, List.length_nil, bl_up2_at, bl_up2_nk, bl_up2_nx] at h8
      first
      | (exfalso; first | omega | exact h8 trivial)
      | (refine ⟨kx, fun h26 => ?_, fun h26 => ?_⟩
         · try simp (disch := omega) only [bl_pv, cl0, cl1, cl2, cl3, cl4, cl5, cl6, cl7, cl8, cl9, bl_up2_at, bl_up2_nk, bl_up2_nx] at h26
           first
           | (exfalso; first | omega | exact h26 trivial)
           | (refine ⟨rfl, rfl, kx, (Nat.le_of_ble_eq_true rfl), (0, 0), Nat.le_of_ble_eq_true rfl, Nat.le_of_ble_eq_true rfl, bl_MC_mono (c_BL_freeRecipeT (d := d + 2) (S := tpC S (zI (-1))) (hI1 n) hO1 rfl hc4 (hm1 n)) (fun o32 σ32 q32 => ?_)⟩
              try dsimp only [bl_pv] at q32
              obtain ⟨I5, J5, R5, K5, N5⟩ := σ32
              obtain ⟨rfl, f1, f2, f3, f4, f5, -⟩ := q32
              have hI5 := f1
              obtain ⟨⟨kx, ⟨rx_0, rx_1, rx_2, rx_3, rx_4, rx_5, rx_6, rx_7⟩, -⟩, hTp5, -, hBn5, -, -, hSt5, hStr5⟩ := f1.1
              have kxt := hTp5.2.1
              have kxo := hBn5.2.1
              have krp := f3.1.1
              have ht5 := hI5.2.2.2.2.1
              have hn5 := hI5.2.2.2.2.2.2.1.1
              dsimp only at f5 kx rx_0 rx_5 kxt kxo krp hSt5 hStr5 ht5 hn5
              have eta : tpI I5 110 0 0 (zI (-1)) (nI n) (nI 0) (I5 110 6) = I5 := by
                have := @tpI_eta I5 110
                rw [show I5 110 1 = 0 by rw [f5]; rfl, show I5 110 2 = 0 by rw [f5]; rfl, show I5 110 3 = zI (-1) by rw [f5]; rfl, show I5 110 4 = nI n by rw [f5]; rfl, show I5 110 5 = nI 0 by rw [f5]; rfl] at this
                exact this
              have hrd := c_Tape_readRecipe (G := G) (l := l) (d := d) (I := I5) (J := J5) (R := R5) (N := N5) (t := 110) (q := 300 + 10 * S.1.2.2.1) (h := 0) (fk := 0) (fp := zI (-1)) (n := n) (wa := I5 110 6) (u3 := 943) (u4 := 944) (show tpS R5 K5 N5 110 from hTp5) f3.1 (by omega) hStr5 (hSt5 3 (by omega)) (hSt5 4 (by omega)) (by omega)
              rw [eta, show (110 : Nat) + 1 = 111 from rfl, ht5.2.2] at hrd
              refine bl_go oX10_recipe 80 [] rfl ?_
              refine ⟨kx, _, bl_vs rx_0, rfl, rfl, kxt, (Nat.le_of_ble_eq_true rfl), (0, 0), Nat.le_of_ble_eq_true rfl, Nat.le_of_ble_eq_true rfl, bl_MC_mono (hrd) (fun o41 σ41 q41 => ?_)⟩
              rcases q41 with ⟨Sq, I6, at1, wa1, hp, rfl, rfl, g1, g2, g3⟩ | ⟨k, p, I6, at1, wa1, hp, rfl, rfl, g1⟩
              · refine bl_go oX10_recipe 80 [] rfl ?_
                refine ⟨fun h44 => ?_, fun h44 => ?_⟩
                · try simp (disch := omega) only [zI_n, zI_o, zI_lit, zI_neg, zI_add, zI_sub, zI_mul, zI_lt, zI_le, zI_eq, zI_clamp, zI_in, zI_div, zI_rem, lg_lt0, lg_gt0, lg_eq0, lg_le0, lg_ge0, Int.toNat_natCast, ge_iff_le, gt_iff_lt, List.length_cons, List.length_nil, bl_up2_at, bl_up2_nk, bl_up2_nx] at h44
                  first
                  | (exfalso; first | omega | exact h44 trivial)
                  | (refine ⟨rfl, kx, kx, Or.inr (Or.inr ⟨rfl, rfl, _, rfl⟩), (fun h => by cases h), kx, _, bl_vs rx_5, kxo, Or.inr (Or.inr ⟨rfl, rfl, _, rfl⟩), (fun _ => by first | exact Or.inl rfl | exact Or.inr rfl), kx, (fun h => by cases h), ?_⟩
                     try show _ ∧ _
                     try dsimp only [bl_pv]
                     have hI6 : clI (I6, J5, R5, K5, N5) (tpC S (zI (-1))) h := hI5.rows (c := S.1.2.2.1) hO1 (Nat.le_refl _) hc4 (fun y hy => g1 y (by omega) (by omega) (by omega))
                     have q11 : tpI I6 110 0 0 (zI (-1)) (nI n) at1 wa1 100 11 = nI S.1.2.2.1 := by rw [tpI_ne (by omega), g1 100 (by omega) (by omega) (by omega)]; exact hn5
                     have ea : nI S.1.2.2.1 + 1 = nI (S.1.2.2.1 + 1) := nI_1 _
                     have eb : nI (S.1.2.2.1 + 1) - 1 = nI S.1.2.2.1 := nI_subs (a := S.1.2.2.1 + 1) (b := 1) (by omega)
                     simp (disch := omega) only [bl_up2_at, bl_up2_nk, bl_up2_nx, q11, ea, eb]
                     have hs : ∀ y, y ≠ 100 → y ≠ 110 → y ≠ 150 → bl_up2 (bl_up2 (tpI I6 110 0 0 (zI (-1)) (nI n) at1 wa1) 100 11 (nI (S.1.2.2.1 + 1))) 150 18 0 y = I6 y := fun y y1 y2 y3 => by rw [bl_up2_ne y3, bl_up2_ne y1, tpI_ne y2]
                     refine Or.inr ⟨n, hn1, hx, ((hcf1 n).trans f2).trans (fun y y1 y2 => ⟨?_, rfl, rfl, rfl, rfl⟩), Or.inr ⟨hc4, f3, Or.inr ⟨Sq, hp, ⟨g2.2.1, g3⟩, trivial, ?_⟩⟩⟩
                     · exact (hs y (by omega) (by omega) (by omega)).trans (g1 y (by omega) (by omega) (by omega))
                     · refine clI.recipe (c := S.1.2.2.1) hI6 hO rfl hc4 f3 ?_ g2 hs (fun j hj => ?_) ?_ ?_ bl_up2_at
                       · unfold fgt at f4 ⊢; dsimp only at f4 ⊢; rw [g1 _ (by omega) (by omega) (by omega)]; exact f4
                       · rw [bl_up2_nx (by omega), bl_up2_nk hj, tpI_ne (by omega)]
                       · rw [bl_up2_nx (by omega), bl_up2_at]
                       · rw [bl_up2_nx (by omega), bl_up2_nx (by omega), bl_up2_nx (by omega), bl_up2_nx (by omega)]; exact ⟨rfl, rfl⟩)
                · try simp (disch := omega) only [zI_n, zI_o, zI_lit, zI_neg, zI_add, zI_sub, zI_mul, zI_lt, zI_le, zI_eq, zI_clamp, zI_in, zI_div, zI_rem, lg_lt0, lg_gt0, lg_eq0, lg_le0, lg_ge0, Int.toNat_natCast, ge_iff_le, gt_iff_lt, List.length_cons, List.length_nil, bl_up2_at, bl_up2_nk, bl_up2_nx] at h44
                  first
                  | (exfalso; first | omega | exact h44 trivial)
                  | (refine ⟨kx, _, bl_vs rx_0, kxt, (fun h => by cases h), ?_⟩
                     try show _ ∧ _
                     try dsimp only [bl_pv]
                     have hI6 : clI (I6, J5, R5, K5, N5) (tpC S (zI (-1))) h := hI5.rows (c := S.1.2.2.1) hO1 (Nat.le_refl _) hc4 (fun y hy => g1 y (by omega) (by omega) (by omega))
                     refine Or.inr ⟨n, hn1, hx, ((hcf1 n).trans f2).trans (fun y y1 y2 => ⟨?_, rfl, rfl, rfl, rfl⟩), Or.inr ⟨hc4, f3, Or.inl ⟨(k, p), hp, rfl, ?_⟩⟩⟩
                     · dsimp only; rw [tpI_ne (by omega)]; exact g1 y (by omega) (by omega) (by omega)
                     · exact hI6.tape (t := 0) (fp := nI p) hO1 (fun y y1 y2 y3 => tpI_ne y1) ⟨rfl, rfl, by rw [tpI_ne (by omega), g1 111 (by omega) (by omega) (by omega)]; exact ht5.2.2⟩)
              · refine bl_go oX10_recipe 80 [] rfl ?_
                refine ⟨fun h44 => ?_, fun h44 => ?_⟩
                · try simp (disch := omega) only [zI_n, zI_o, zI_lit, zI_neg, zI_add, zI_sub, zI_mul, zI_lt, zI_le, zI_eq, zI_clamp, zI_in, zI_div, zI_rem, lg_lt0, lg_gt0, lg_eq0, lg_le0, lg_ge0, Int.toNat_natCast, ge_iff_le, gt_iff_lt, List.length_cons, List.length_nil, bl_up2_at, bl_up2_nk, bl_up2_nx] at h44
                  first
                  | (exfalso; first | omega | exact h44 trivial)
                  | (refine ⟨rfl, kx, kx, Or.inr (Or.inr ⟨rfl, rfl, _, rfl⟩), (fun h => by cases h), kx, _, bl_vs rx_5, kxo, Or.inr (Or.inr ⟨rfl, rfl, _, rfl⟩), (fun _ => by first | exact Or.inl rfl | exact Or.inr rfl), kx, (fun h => by cases h), ?_⟩
                     try show _ ∧ _
                     try dsimp only [bl_pv]
                     have hI6 : clI (I6, J5, R5, K5, N5) (tpC S (zI (-1))) h := hI5.rows (c := S.1.2.2.1) hO1 (Nat.le_refl _) hc4 (fun y hy => g1 y (by omega) (by omega) (by omega))
                     have q11 : tpI I6 110 0 0 (zI (-1)) (nI n) at1 wa1 100 11 = nI S.1.2.2.1 := by rw [tpI_ne (by omega), g1 100 (by omega) (by omega) (by omega)]; exact hn5
                     have ea : nI S.1.2.2.1 + 1 = nI (S.1.2.2.1 + 1) := nI_1 _
                     have eb : nI (S.1.2.2.1 + 1) - 1 = nI S.1.2.2.1 := nI_subs (a := S.1.2.2.1 + 1) (b := 1) (by omega)
                     simp (disch := omega) only [bl_up2_at, bl_up2_nk, bl_up2_nx, q11, ea, eb]
                     have hs : ∀ y, y ≠ 100 → y ≠ 110 → y ≠ 150 → bl_up2 (bl_up2 (tpI I6 110 0 0 (zI (-1)) (nI n) at1 wa1) 100 11 (nI (S.1.2.2.1 + 1))) 150 18 0 y = I6 y := fun y y1 y2 y3 => by rw [bl_up2_ne y3, bl_up2_ne y1, tpI_ne y2]
                     refine Or.inr ⟨n, hn1, hx, ((hcf1 n).trans f2).trans (fun y y1 y2 => ⟨?_, rfl, rfl, rfl, rfl⟩), Or.inr ⟨hc4, f3, Or.inr ⟨Sq, hp, ⟨g2.2.1, g3⟩, trivial, ?_⟩⟩⟩
                     · exact (hs y (by omega) (by omega) (by omega)).trans (g1 y (by omega) (by omega) (by omega))
                     · refine clI.recipe (c := S.1.2.2.1) hI6 hO rfl hc4 f3 ?_ g2 hs (fun j hj => ?_) ?_ ?_ bl_up2_at
                       · unfold fgt at f4 ⊢; dsimp only at f4 ⊢; rw [g1 _ (by omega) (by omega) (by omega)]; exact f4
                       · rw [bl_up2_nx (by omega), bl_up2_nk hj, tpI_ne (by omega)]
                       · rw [bl_up2_nx (by omega), bl_up2_at]
                       · rw [bl_up2_nx (by omega), bl_up2_nx (by omega), bl_up2_nx (by omega), bl_up2_nx (by omega)]; exact ⟨rfl, rfl⟩)
                · try simp (disch := omega) only [zI_n, zI_o, zI_lit, zI_neg, zI_add, zI_sub, zI_mul, zI_lt, zI_le, zI_eq, zI_clamp, zI_in, zI_div, zI_rem, lg_lt0, lg_gt0, lg_eq0, lg_le0, lg_ge0, Int.toNat_natCast, ge_iff_le, gt_iff_lt, List.length_cons, List.length_nil, bl_up2_at, bl_up2_nk, bl_up2_nx] at h44
                  first
                  | (exfalso; first | omega | exact h44 trivial)
                  | (refine ⟨kx, _, bl_vs rx_0, kxt, (fun h => by cases h), ?_⟩
                     try show _ ∧ _
                     try dsimp only [bl_pv]
                     have hI6 : clI (I6, J5, R5, K5, N5) (tpC S (zI (-1))) h := hI5.rows (c := S.1.2.2.1) hO1 (Nat.le_refl _) hc4 (fun y hy => g1 y (by omega) (by omega) (by omega))
                     refine Or.inr ⟨n, hn1, hx, ((hcf1 n).trans f2).trans (fun y y1 y2 => ⟨?_, rfl, rfl, rfl, rfl⟩), Or.inr ⟨hc4, f3, Or.inl ⟨(k, p), hp, rfl, ?_⟩⟩⟩
                     · dsimp only; rw [tpI_ne (by omega)]; exact g1 y (by omega) (by omega) (by omega)
                     · exact hI6.tape (t := 0) (fp := nI p) hO1 (fun y y1 y2 y3 => tpI_ne y1) ⟨rfl, rfl, by rw [tpI_ne (by omega), g1 111 (by omega) (by omega) (by omega)]; exact ht5.2.2⟩))
         · try simp (disch := omega) only [bl_pv, cl0, cl1, cl2, cl3, cl4, cl5, cl6, cl7, cl8, cl9, bl_up2_at, bl_up2_nk, bl_up2_nx] at h26
           first
           | (exfalso; first | omega | exact h26 trivial)
           | (refine ⟨(fun h => by cases h), ?_⟩
              try show _ ∧ _
              try dsimp only [bl_pv]
              rw [e110, hn] at h26
              exact absurd ((nI_ltk (b := 4) (by omega) (by omega)).mpr hc4) h26))
    · try simp (disch := omega) only [zI_n, zI_o, zI_lit, zI_neg, zI_add, zI_sub, zI_mul, zI_lt, zI_le, zI_eq, zI_clamp, zI_in, zI_div, zI_rem, lg_lt0, lg_gt0, lg_eq0, lg_le0, lg_ge0, Int.toNat_natCast, ge_iff_le, gt_iff_lt, List.length_cons, List.length_nil, bl_up2_at, bl_up2_nk, bl_up2_nx] at h8
      first
      | (exfalso; first | omega | exact h8 trivial)
      | (refine ⟨hlt, (Nat.le_of_ble_eq_true rfl), (Nat.le_of_ble_eq_true rfl), (Nat.le_of_ble_eq_true rfl), ?_⟩
         try show _ ∧ _
         try dsimp only [bl_pv]
         refine Or.inl ⟨fun hq => ?_, rfl, rfl⟩
         obtain ⟨n, hn, e⟩ := i32_nat (by omega) hq.1 hq.2
         exact hx n hn e)
  · refine bl_go oX10_recipe 80 [] rfl ?_
    refine ⟨fun h8 => ?_, fun h8 => ?_⟩
    · try simp (disch := omega) only [zI_n, zI_o, zI_lit, zI_neg, zI_add, zI_sub, zI_mul, zI_lt, zI_le, zI_eq, zI_clamp, zI_in, zI_div, zI_rem, lg_lt0, lg_gt0, lg_eq0, lg_le0, lg_ge0, Int.toNat_natCast, ge_iff_le, gt_iff_lt, List.length_cons, List.length_nil, bl_up2_at, bl_up2_nk, bl_up2_nx] at h8
      first
      | (exfalso; first | omega | exact h8 trivial)
      | (refine ⟨kx, fun h26 => ?_, fun h26 => ?_⟩
         · try simp (disch := omega) only [bl_pv, cl0, cl1, cl2, cl3, cl4, cl5, cl6, cl7, cl8, cl9, bl_up2_at, bl_up2_nk, bl_up2_nx] at h26
           first
           | (exfalso; first | omega | exact h26 trivial)
           | (refine ⟨rfl, rfl, kx, (Nat.le_of_ble_eq_true rfl), (0, 0), Nat.le_of_ble_eq_true rfl, Nat.le_of_ble_eq_true rfl, bl_MC_mono (c_BL_freeRecipeT (d := d + 2) (S := tpC S (zI (-1))) (hI1 n) hO1 rfl hc4 (hm1 n)) (fun o32 σ32 q32 => ?_)⟩
              try dsimp only [bl_pv] at q32
              obtain ⟨I5, J5, R5, K5, N5⟩ := σ32
              obtain ⟨rfl, f1, f2, f3, f4, f5, -⟩ := q32
              have hI5 := f1
              obtain ⟨⟨kx, ⟨rx_0, rx_1, rx_2, rx_3, rx_4, rx_5, rx_6, rx_7⟩, -⟩, hTp5, -, hBn5, -, -, hSt5, hStr5⟩ := f1.1
              have kxt := hTp5.2.1
              have kxo := hBn5.2.1
              have krp := f3.1.1
              have ht5 := hI5.2.2.2.2.1
              have hn5 := hI5.2.2.2.2.2.2.1.1
              dsimp only at f5 kx rx_0 rx_5 kxt kxo krp hSt5 hStr5 ht5 hn5
              have eta : tpI I5 110 0 0 (zI (-1)) (nI n) (nI 0) (I5 110 6) = I5 := by
                have := @tpI_eta I5 110
                rw [show I5 110 1 = 0 by rw [f5]; rfl, show I5 110 2 = 0 by rw [f5]; rfl, show I5 110 3 = zI (-1) by rw [f5]; rfl, show I5 110 4 = nI n by rw [f5]; rfl, show I5 110 5 = nI 0 by rw [f5]; rfl] at this
                exact this
              have hrd := c_Tape_readRecipe (G := G) (l := l) (d := d) (I := I5) (J := J5) (R := R5) (N := N5) (t := 110) (q := 300 + 10 * S.1.2.2.1) (h := 0) (fk := 0) (fp := zI (-1)) (n := n) (wa := I5 110 6) (u3 := 943) (u4 := 944) (show tpS R5 K5 N5 110 from hTp5) f3.1 (by omega) hStr5 (hSt5 3 (by omega)) (hSt5 4 (by omega)) (by omega)
              rw [eta, show (110 : Nat) + 1 = 111 from rfl, ht5.2.2] at hrd
              refine bl_go oX10_recipe 80 [] rfl ?_
              refine ⟨kx, _, bl_vs rx_0, rfl, rfl, kxt, (Nat.le_of_ble_eq_true rfl), (0, 0), Nat.le_of_ble_eq_true rfl, Nat.le_of_ble_eq_true rfl, bl_MC_mono (hrd) (fun o41 σ41 q41 => ?_)⟩
              rcases q41 with ⟨Sq, I6, at1, wa1, hp, rfl, rfl, g1, g2, g3⟩ | ⟨k, p, I6, at1, wa1, hp, rfl, rfl, g1⟩
              · refine bl_go oX10_recipe 80 [] rfl ?_
                refine ⟨fun h44 => ?_, fun h44 => ?_⟩
                · try simp (disch := omega) only [zI_n, zI_o, zI_lit, zI_neg, zI_add, zI_sub, zI_mul, zI_lt, zI_le, zI_eq, zI_clamp, zI_in, zI_div, zI_rem, lg_lt0, lg_gt0, lg_eq0, lg_le0, lg_ge0, Int.toNat_natCast, ge_iff_le, gt_iff_lt, List.length_cons, List.length_nil, bl_up2_at, bl_up2_nk, bl_up2_nx] at h44
                  first
                  | (exfalso; first | omega | exact h44 trivial)
                  | (refine ⟨rfl, kx, kx, Or.inr (Or.inr ⟨rfl, rfl, _, rfl⟩), (fun h => by cases h), kx, _, bl_vs rx_5, kxo, Or.inr (Or.inr ⟨rfl, rfl, _, rfl⟩), (fun _ => by first | exact Or.inl rfl | exact Or.inr rfl), kx, (fun h => by cases h), ?_⟩
                     try show _ ∧ _
                     try dsimp only [bl_pv]
                     have hI6 : clI (I6, J5, R5, K5, N5) (tpC S (zI (-1))) h := hI5.rows (c := S.1.2.2.1) hO1 (Nat.le_refl _) hc4 (fun y hy => g1 y (by omega) (by omega) (by omega))
                     have q11 : tpI I6 110 0 0 (zI (-1)) (nI n) at1 wa1 100 11 = nI S.1.2.2.1 := by rw [tpI_ne (by omega), g1 100 (by omega) (by omega) (by omega)]; exact hn5
                     have ea : nI S.1.2.2.1 + 1 = nI (S.1.2.2.1 + 1) := nI_1 _
                     have eb : nI (S.1.2.2.1 + 1) - 1 = nI S.1.2.2.1 := nI_subs (a := S.1.2.2.1 + 1) (b := 1) (by omega)
                     simp (disch := omega) only [bl_up2_at, bl_up2_nk, bl_up2_nx, q11, ea, eb]
                     have hs : ∀ y, y ≠ 100 → y ≠ 110 → y ≠ 150 → bl_up2 (bl_up2 (tpI I6 110 0 0 (zI (-1)) (nI n) at1 wa1) 100 11 (nI (S.1.2.2.1 + 1))) 150 18 0 y = I6 y := fun y y1 y2 y3 => by rw [bl_up2_ne y3, bl_up2_ne y1, tpI_ne y2]
                     refine Or.inr ⟨n, hn1, hx, ((hcf1 n).trans f2).trans (fun y y1 y2 => ⟨?_, rfl, rfl, rfl, rfl⟩), Or.inr ⟨hc4, f3, Or.inr ⟨Sq, hp, ⟨g2.2.1, g3⟩, trivial, ?_⟩⟩⟩
                     · exact (hs y (by omega) (by omega) (by omega)).trans (g1 y (by omega) (by omega) (by omega))
                     · refine clI.recipe (c := S.1.2.2.1) hI6 hO rfl hc4 f3 ?_ g2 hs (fun j hj => ?_) ?_ ?_ bl_up2_at
                       · unfold fgt at f4 ⊢; dsimp only at f4 ⊢; rw [g1 _ (by omega) (by omega) (by omega)]; exact f4
                       · rw [bl_up2_nx (by omega), bl_up2_nk hj, tpI_ne (by omega)]
                       · rw [bl_up2_nx (by omega), bl_up2_at]
                       · rw [bl_up2_nx (by omega), bl_up2_nx (by omega), bl_up2_nx (by omega), bl_up2_nx (by omega)]; exact ⟨rfl, rfl⟩)
                · try simp (disch := omega) only [zI_n, zI_o, zI_lit, zI_neg, zI_add, zI_sub, zI_mul, zI_lt, zI_le, zI_eq, zI_clamp, zI_in, zI_div, zI_rem, lg_lt0, lg_gt0, lg_eq0, lg_le0, lg_ge0, Int.toNat_natCast, ge_iff_le, gt_iff_lt, List.length_cons, List.length_nil, bl_up2_at, bl_up2_nk, bl_up2_nx] at h44
                  first
                  | (exfalso; first | omega | exact h44 trivial)
                  | (refine ⟨kx, _, bl_vs rx_0, kxt, (fun h => by cases h), ?_⟩
                     try show _ ∧ _
                     try dsimp only [bl_pv]
                     have hI6 : clI (I6, J5, R5, K5, N5) (tpC S (zI (-1))) h := hI5.rows (c := S.1.2.2.1) hO1 (Nat.le_refl _) hc4 (fun y hy => g1 y (by omega) (by omega) (by omega))
                     refine Or.inr ⟨n, hn1, hx, ((hcf1 n).trans f2).trans (fun y y1 y2 => ⟨?_, rfl, rfl, rfl, rfl⟩), Or.inr ⟨hc4, f3, Or.inl ⟨(k, p), hp, rfl, ?_⟩⟩⟩
                     · dsimp only; rw [tpI_ne (by omega)]; exact g1 y (by omega) (by omega) (by omega)
                     · exact hI6.tape (t := 0) (fp := nI p) hO1 (fun y y1 y2 y3 => tpI_ne y1) ⟨rfl, rfl, by rw [tpI_ne (by omega), g1 111 (by omega) (by omega) (by omega)]; exact ht5.2.2⟩)
              · refine bl_go oX10_recipe 80 [] rfl ?_
                refine ⟨fun h44 => ?_, fun h44 => ?_⟩
                · try simp (disch := omega) only [zI_n, zI_o, zI_lit, zI_neg, zI_add, zI_sub, zI_mul, zI_lt, zI_le, zI_eq, zI_clamp, zI_in, zI_div, zI_rem, lg_lt0, lg_gt0, lg_eq0, lg_le0, lg_ge0, Int.toNat_natCast, ge_iff_le, gt_iff_lt, List.length_cons, List.length_nil, bl_up2_at, bl_up2_nk, bl_up2_nx] at h44
                  first
                  | (exfalso; first | omega | exact h44 trivial)
                  | (refine ⟨rfl, kx, kx, Or.inr (Or.inr ⟨rfl, rfl, _, rfl⟩), (fun h => by cases h), kx, _, bl_vs rx_5, kxo, Or.inr (Or.inr ⟨rfl, rfl, _, rfl⟩), (fun _ => by first | exact Or.inl rfl | exact Or.inr rfl), kx, (fun h => by cases h), ?_⟩
                     try show _ ∧ _
                     try dsimp only [bl_pv]
                     have hI6 : clI (I6, J5, R5, K5, N5) (tpC S (zI (-1))) h := hI5.rows (c := S.1.2.2.1) hO1 (Nat.le_refl _) hc4 (fun y hy => g1 y (by omega) (by omega) (by omega))
                     have q11 : tpI I6 110 0 0 (zI (-1)) (nI n) at1 wa1 100 11 = nI S.1.2.2.1 := by rw [tpI_ne (by omega), g1 100 (by omega) (by omega) (by omega)]; exact hn5
                     have ea : nI S.1.2.2.1 + 1 = nI (S.1.2.2.1 + 1) := nI_1 _
                     have eb : nI (S.1.2.2.1 + 1) - 1 = nI S.1.2.2.1 := nI_subs (a := S.1.2.2.1 + 1) (b := 1) (by omega)
                     simp (disch := omega) only [bl_up2_at, bl_up2_nk, bl_up2_nx, q11, ea, eb]
                     have hs : ∀ y, y ≠ 100 → y ≠ 110 → y ≠ 150 → bl_up2 (bl_up2 (tpI I6 110 0 0 (zI (-1)) (nI n) at1 wa1) 100 11 (nI (S.1.2.2.1 + 1))) 150 18 0 y = I6 y := fun y y1 y2 y3 => by rw [bl_up2_ne y3, bl_up2_ne y1, tpI_ne y2]
                     refine Or.inr ⟨n, hn1, hx, ((hcf1 n).trans f2).trans (fun y y1 y2 => ⟨?_, rfl, rfl, rfl, rfl⟩), Or.inr ⟨hc4, f3, Or.inr ⟨Sq, hp, ⟨g2.2.1, g3⟩, trivial, ?_⟩⟩⟩
                     · exact (hs y (by omega) (by omega) (by omega)).trans (g1 y (by omega) (by omega) (by omega))
                     · refine clI.recipe (c := S.1.2.2.1) hI6 hO rfl hc4 f3 ?_ g2 hs (fun j hj => ?_) ?_ ?_ bl_up2_at
                       · unfold fgt at f4 ⊢; dsimp only at f4 ⊢; rw [g1 _ (by omega) (by omega) (by omega)]; exact f4
                       · rw [bl_up2_nx (by omega), bl_up2_nk hj, tpI_ne (by omega)]
                       · rw [bl_up2_nx (by omega), bl_up2_at]
                       · rw [bl_up2_nx (by omega), bl_up2_nx (by omega), bl_up2_nx (by omega), bl_up2_nx (by omega)]; exact ⟨rfl, rfl⟩)
                · try simp (disch := omega) only [zI_n, zI_o, zI_lit, zI_neg, zI_add, zI_sub, zI_mul, zI_lt, zI_le, zI_eq, zI_clamp, zI_in, zI_div, zI_rem, lg_lt0, lg_gt0, lg_eq0, lg_le0, lg_ge0, Int.toNat_natCast, ge_iff_le, gt_iff_lt, List.length_cons, List.length_nil, bl_up2_at, bl_up2_nk, bl_up2_nx] at h44
                  first
                  | (exfalso; first | omega | exact h44 trivial)
                  | (refine ⟨kx, _, bl_vs rx_0, kxt, (fun h => by cases h), ?_⟩
                     try show _ ∧ _
                     try dsimp only [bl_pv]
                     have hI6 : clI (I6, J5, R5, K5, N5) (tpC S (zI (-1))) h := hI5.rows (c := S.1.2.2.1) hO1 (Nat.le_refl _) hc4 (fun y hy => g1 y (by omega) (by omega) (by omega))
                     refine Or.inr ⟨n, hn1, hx, ((hcf1 n).trans f2).trans (fun y y1 y2 => ⟨?_, rfl, rfl, rfl, rfl⟩), Or.inr ⟨hc4, f3, Or.inl ⟨(k, p), hp, rfl, ?_⟩⟩⟩
                     · dsimp only; rw [tpI_ne (by omega)]; exact g1 y (by omega) (by omega) (by omega)
                     · exact hI6.tape (t := 0) (fp := nI p) hO1 (fun y y1 y2 y3 => tpI_ne y1) ⟨rfl, rfl, by rw [tpI_ne (by omega), g1 111 (by omega) (by omega) (by omega)]; exact ht5.2.2⟩))
         · try simp (disch := omega) only [bl_pv, cl0, cl1, cl2, cl3, cl4, cl5, cl6, cl7, cl8, cl9, bl_up2_at, bl_up2_nk, bl_up2_nx] at h26
           first
           | (exfalso; first | omega | exact h26 trivial)
           | (refine ⟨(fun h => by cases h), ?_⟩
              try show _ ∧ _
              try dsimp only [bl_pv]
              rw [e110, hn] at h26
              exact absurd ((nI_ltk (b := 4) (by omega) (by omega)).mpr hc4) h26))
    · try simp (disch := omega) only [zI_n, zI_o, zI_lit, zI_neg, zI_add, zI_sub, zI_mul, zI_lt, zI_le, zI_eq, zI_clamp, zI_in, zI_div, zI_rem, lg_lt0, lg_gt0, lg_eq0, lg_le0, lg_ge0, Int.toNat_natCast, ge_iff_le, gt_iff_lt, List.length_cons, List.length_nil, bl_up2_at, bl_up2_nk, bl_up2_nx] at h8
      first
      | (exfalso; first | omega | exact h8 trivial)
      | (refine ⟨hlt, (Nat.le_of_ble_eq_true rfl), (Nat.le_of_ble_eq_true rfl), (Nat.le_of_ble_eq_true rfl), ?_⟩
         try show _ ∧ _
         try dsimp only [bl_pv]
         refine Or.inl ⟨fun hq => ?_, rfl, rfl⟩
         obtain ⟨n, hn, e⟩ := i32_nat (by omega) hq.1 hq.2
         exact hx n hn e)
theorem c_BL_recipeN (hlt : l.stackTraces = false) (hI : clI (I, J, R, K, N) S h) (hO : csO S) (hc4 : S.1.2.2.1 < 4) (hm : frR (I, J, R, K, N) S.1.2.2.1) : bl_MC G l (d + 4) mX10_recipe [.ref 100, .int x] (I, J, R, K, N) (154, 4379) (fun o s' => (¬ (0 ≤ x ∧ x ≤ nI S.2.2.1) ∧ o = .inr bl_IAE ∧ s' = (I, J, R, K, N)) ∨ ∃ n, n ≤ S.2.2.1 ∧ x = nI n ∧ cfF (I, J, R, K, N) s' ∧ ((S.1.2.2.1 = 4 ∧ o = .inl (some (.int (zI (-1)))) ∧ clI s' (tpC S (zI (-1))) h) ∨ (S.1.2.2.1 < 4 ∧ mkR s' S.1.2.2.1 ∧ ((∃ f, prec S.2.2.2.1 n 21 sq0 0 = .inr f ∧ o = .inl (some (.int (nI f.1 - 10))) ∧ clI s' (tpC S (nI f.2)) h) ∨ (∃ Sq, prec S.2.2.2.1 n 21 sq0 0 = .inl Sq ∧ sqV Sq ∧ o = .inl (some (.int (nI S.1.2.2.1))) ∧ clI s' (rpS S Sq) h))))) := by
  obtain ⟨⟨kx, ⟨rx_0, rx_1, rx_2, rx_3, rx_4, rx_5, rx_6, rx_7⟩, ⟨kxr, nxr⟩, ⟨kxn, nxn⟩, kxb, ⟨kxi, nxi⟩, ⟨kxj, nxj⟩⟩, hTp, hUn, hBn, hK1, hK2, hSt, hStr⟩ := hI.1
  have ht := hI.2.2.2.2.1
  have kxt := hTp.2.1
  have hn := hI.2.2.2.2.2.2.1.1
  have hc5 := hO.2.2.1
  dsimp only at kx rx_0 kxt ht hn
  have ht4 := hO.2.2.2.2.2.1
  have hop := c_Tape_open (G := G) (l := l) (d := d + 3) (I := I) (J := J) (R := R) (N := N) (t := 110) (h := I 110 1) (fk := I 110 2) (fp := I 110 3) (en := I 110 4) (at' := I 110 5) (wa := I 110 6) (x := x) kxt ht.1 ht4
  rw [tpI_eta] at hop
  have hI1 : ∀ n, clI (tpI I 110 0 0 (zI (-1)) (nI n) (nI 0) (I 110 6), J, R, K, N) (tpC S (zI (-1))) h := fun n => hI.tape hO (fun y y1 _ _ => tpI_ne y1) ⟨rfl, rfl, by rw [tpI_ne (by omega)]; exact ht.2.2⟩
  have hO1 : csO (tpC S (zI (-1))) := hO.tp
  have hcf1 : ∀ n, cfF (I, J, R, K, N) (tpI I 110 0 0 (zI (-1)) (nI n) (nI 0) (I 110 6), J, R, K, N) := fun n y y1 y2 => ⟨tpI_ne (by omega), rfl, rfl, rfl, rfl⟩
  have e110 : ∀ n : Nat, tpI I 110 0 0 (zI (-1)) (nI n) (nI 0) (I 110 6) 100 = I 100 := fun n => tpI_ne (by omega)
  have hm1 : ∀ n : Nat, frR (tpI I 110 0 0 (zI (-1)) (nI n) (nI 0) (I 110 6), J, R, K, N) S.1.2.2.1 := fun n => hm
  refine bl_MC_intro (by decide +kernel) rfl (Nat.le_of_ble_eq_true rfl) ?_
  refine bl_go oX10_recipe 80 [] rfl ?_
  refine ⟨kx, _, bl_vs rx_0, rfl, rfl, kxt, (Nat.le_of_ble_eq_true rfl), (0, 0), Nat.le_of_ble_eq_true rfl, Nat.le_of_ble_eq_true rfl, bl_MC_mono (hop) (fun o5 σ5 q5 => ?_)⟩
  rcases q5 with ⟨n, hx, hn1, rfl, rfl⟩ | ⟨hx, rfl, rfl⟩
  · refine bl_go oX10_recipe 80 [] rfl ?_
    refine ⟨fun h8 => ?_, fun h8 => ?_⟩
    · try simp (disch := omega) only [zI_n, zI_o, zI_lit, zI_neg, zI_add, zI_sub, zI_mul, zI_lt, zI_le, zI_eq, zI_clamp, zI_in, zI_div, zI_rem, lg_lt0, lg_gt0, lg_eq0, lg_le0, lg_ge0, Int.toNat_natCast, ge_iff_le, gt_iff_lt, List.length_cons, List.length_nil, bl_up2_at, bl_up2_nk, bl_up2_nx] at h8
      first
      | (exfalso; first | omega | exact h8 trivial)
      | (refine ⟨kx, fun h26 => ?_, fun h26 => ?_⟩
         · try simp (disch := omega) only [bl_pv, cl0, cl1, cl2, cl3, cl4, cl5, cl6, cl7, cl8, cl9, bl_up2_at, bl_up2_nk, bl_up2_nx] at h26
           first
           | (exfalso; first | omega | exact h26 trivial)
           | (refine ⟨rfl, rfl, kx, (Nat.le_of_ble_eq_true rfl), (154, 4379), Nat.le_of_ble_eq_true rfl, Nat.le_of_ble_eq_true rfl, bl_MC_mono (c_BL_freeRecipeN (d := d) (S := tpC S (zI (-1))) (hI1 n) hO1 rfl hc4 (hm1 n)) (fun o32 σ32 q32 => ?_)⟩
              try dsimp only [bl_pv] at q32
              obtain ⟨I5, J5, R5, K5, N5⟩ := σ32
              obtain ⟨rfl, f1, f2, f3, f4, f5⟩ := q32
              have hI5 := f1
              obtain ⟨⟨kx, ⟨rx_0, rx_1, rx_2, rx_3, rx_4, rx_5, rx_6, rx_7⟩, -⟩, hTp5, -, hBn5, -, -, hSt5, hStr5⟩ := f1.1
              have kxt := hTp5.2.1
              have kxo := hBn5.2.1
              have krp := f3.1.1
              have ht5 := hI5.2.2.2.2.1
              have hn5 := hI5.2.2.2.2.2.2.1.1
              dsimp only at f5 kx rx_0 rx_5 kxt kxo krp hSt5 hStr5 ht5 hn5
              have eta : tpI I5 110 0 0 (zI (-1)) (nI n) (nI 0) (I5 110 6) = I5 := by
                have := @tpI_eta I5 110
                rw [show I5 110 1 = 0 by rw [f5]; rfl, show I5 110 2 = 0 by rw [f5]; rfl, show I5 110 3 = zI (-1) by rw [f5]; rfl, show I5 110 4 = nI n by rw [f5]; rfl, show I5 110 5 = nI 0 by rw [f5]; rfl] at this
                exact this
              have hrd := c_Tape_readRecipe (G := G) (l := l) (d := d) (I := I5) (J := J5) (R := R5) (N := N5) (t := 110) (q := 300 + 10 * S.1.2.2.1) (h := 0) (fk := 0) (fp := zI (-1)) (n := n) (wa := I5 110 6) (u3 := 943) (u4 := 944) (show tpS R5 K5 N5 110 from hTp5) f3.1 (by omega) hStr5 (hSt5 3 (by omega)) (hSt5 4 (by omega)) (by omega)
              rw [eta, show (110 : Nat) + 1 = 111 from rfl, ht5.2.2] at hrd
              refine bl_go oX10_recipe 80 [] rfl ?_
              refine ⟨kx, _, bl_vs rx_0, rfl, rfl, kxt, (Nat.le_of_ble_eq_true rfl), (0, 0), Nat.le_of_ble_eq_true rfl, Nat.le_of_ble_eq_true rfl, bl_MC_mono (hrd) (fun o41 σ41 q41 => ?_)⟩
              rcases q41 with ⟨Sq, I6, at1, wa1, hp, rfl, rfl, g1, g2, g3⟩ | ⟨k, p, I6, at1, wa1, hp, rfl, rfl, g1⟩
              · refine bl_go oX10_recipe 80 [] rfl ?_
                refine ⟨fun h44 => ?_, fun h44 => ?_⟩
                · try simp (disch := omega) only [zI_n, zI_o, zI_lit, zI_neg, zI_add, zI_sub, zI_mul, zI_lt, zI_le, zI_eq, zI_clamp, zI_in, zI_div, zI_rem, lg_lt0, lg_gt0, lg_eq0, lg_le0, lg_ge0, Int.toNat_natCast, ge_iff_le, gt_iff_lt, List.length_cons, List.length_nil, bl_up2_at, bl_up2_nk, bl_up2_nx] at h44
                  first
                  | (exfalso; first | omega | exact h44 trivial)
                  | (refine ⟨rfl, kx, kx, Or.inr (Or.inr ⟨rfl, rfl, _, rfl⟩), (fun h => by cases h), kx, _, bl_vs rx_5, kxo, Or.inr (Or.inr ⟨rfl, rfl, _, rfl⟩), (fun _ => by first | exact Or.inl rfl | exact Or.inr rfl), kx, (fun h => by cases h), ?_⟩
                     try show _ ∧ _
                     try dsimp only [bl_pv]
                     have hI6 : clI (I6, J5, R5, K5, N5) (tpC S (zI (-1))) h := hI5.rows (c := S.1.2.2.1) hO1 (Nat.le_refl _) hc4 (fun y hy => g1 y (by omega) (by omega) (by omega))
                     have q11 : tpI I6 110 0 0 (zI (-1)) (nI n) at1 wa1 100 11 = nI S.1.2.2.1 := by rw [tpI_ne (by omega), g1 100 (by omega) (by omega) (by omega)]; exact hn5
                     have ea : nI S.1.2.2.1 + 1 = nI (S.1.2.2.1 + 1) := nI_1 _
                     have eb : nI (S.1.2.2.1 + 1) - 1 = nI S.1.2.2.1 := nI_subs (a := S.1.2.2.1 + 1) (b := 1) (by omega)
                     simp (disch := omega) only [bl_up2_at, bl_up2_nk, bl_up2_nx, q11, ea, eb]
                     have hs : ∀ y, y ≠ 100 → y ≠ 110 → y ≠ 150 → bl_up2 (bl_up2 (tpI I6 110 0 0 (zI (-1)) (nI n) at1 wa1) 100 11 (nI (S.1.2.2.1 + 1))) 150 18 0 y = I6 y := fun y y1 y2 y3 => by rw [bl_up2_ne y3, bl_up2_ne y1, tpI_ne y2]
                     refine Or.inr ⟨n, hn1, hx, ((hcf1 n).trans f2).trans (fun y y1 y2 => ⟨?_, rfl, rfl, rfl, rfl⟩), Or.inr ⟨hc4, f3, Or.inr ⟨Sq, hp, ⟨g2.2.1, g3⟩, trivial, ?_⟩⟩⟩
                     · exact (hs y (by omega) (by omega) (by omega)).trans (g1 y (by omega) (by omega) (by omega))
                     · refine clI.recipe (c := S.1.2.2.1) hI6 hO rfl hc4 f3 ?_ g2 hs (fun j hj => ?_) ?_ ?_ bl_up2_at
                       · unfold fgt at f4 ⊢; dsimp only at f4 ⊢; rw [g1 _ (by omega) (by omega) (by omega)]; exact f4
                       · rw [bl_up2_nx (by omega), bl_up2_nk hj, tpI_ne (by omega)]
                       · rw [bl_up2_nx (by omega), bl_up2_at]
                       · rw [bl_up2_nx (by omega), bl_up2_nx (by omega), bl_up2_nx (by omega), bl_up2_nx (by omega)]; exact ⟨rfl, rfl⟩)
                · try simp (disch := omega) only [zI_n, zI_o, zI_lit, zI_neg, zI_add, zI_sub, zI_mul, zI_lt, zI_le, zI_eq, zI_clamp, zI_in, zI_div, zI_rem, lg_lt0, lg_gt0, lg_eq0, lg_le0, lg_ge0, Int.toNat_natCast, ge_iff_le, gt_iff_lt, List.length_cons, List.length_nil, bl_up2_at, bl_up2_nk, bl_up2_nx] at h44
                  first
                  | (exfalso; first | omega | exact h44 trivial)
                  | (refine ⟨kx, _, bl_vs rx_0, kxt, (fun h => by cases h), ?_⟩
                     try show _ ∧ _
                     try dsimp only [bl_pv]
                     have hI6 : clI (I6, J5, R5, K5, N5) (tpC S (zI (-1))) h := hI5.rows (c := S.1.2.2.1) hO1 (Nat.le_refl _) hc4 (fun y hy => g1 y (by omega) (by omega) (by omega))
                     refine Or.inr ⟨n, hn1, hx, ((hcf1 n).trans f2).trans (fun y y1 y2 => ⟨?_, rfl, rfl, rfl, rfl⟩), Or.inr ⟨hc4, f3, Or.inl ⟨(k, p), hp, rfl, ?_⟩⟩⟩
                     · dsimp only; rw [tpI_ne (by omega)]; exact g1 y (by omega) (by omega) (by omega)
                     · exact hI6.tape (t := 0) (fp := nI p) hO1 (fun y y1 y2 y3 => tpI_ne y1) ⟨rfl, rfl, by rw [tpI_ne (by omega), g1 111 (by omega) (by omega) (by omega)]; exact ht5.2.2⟩)
              · refine bl_go oX10_recipe 80 [] rfl ?_
                refine ⟨fun h44 => ?_, fun h44 => ?_⟩
                · try simp (disch := omega) only [zI_n, zI_o, zI_lit, zI_neg, zI_add, zI_sub, zI_mul, zI_lt, zI_le, zI_eq, zI_clamp, zI_in, zI_div, zI_rem, lg_lt0, lg_gt0, lg_eq0, lg_le0, lg_ge0, Int.toNat_natCast, ge_iff_le, gt_iff_lt, List.length_cons, List.length_nil, bl_up2_at, bl_up2_nk, bl_up2_nx] at h44
                  first
                  | (exfalso; first | omega | exact h44 trivial)
                  | (refine ⟨rfl, kx, kx, Or.inr (Or.inr ⟨rfl, rfl, _, rfl⟩), (fun h => by cases h), kx, _, bl_vs rx_5, kxo, Or.inr (Or.inr ⟨rfl, rfl, _, rfl⟩), (fun _ => by first | exact Or.inl rfl | exact Or.inr rfl), kx, (fun h => by cases h), ?_⟩
                     try show _ ∧ _
                     try dsimp only [bl_pv]
                     have hI6 : clI (I6, J5, R5, K5, N5) (tpC S (zI (-1))) h := hI5.rows (c := S.1.2.2.1) hO1 (Nat.le_refl _) hc4 (fun y hy => g1 y (by omega) (by omega) (by omega))
                     have q11 : tpI I6 110 0 0 (zI (-1)) (nI n) at1 wa1 100 11 = nI S.1.2.2.1 := by rw [tpI_ne (by omega), g1 100 (by omega) (by omega) (by omega)]; exact hn5
                     have ea : nI S.1.2.2.1 + 1 = nI (S.1.2.2.1 + 1) := nI_1 _
                     have eb : nI (S.1.2.2.1 + 1) - 1 = nI S.1.2.2.1 := nI_subs (a := S.1.2.2.1 + 1) (b := 1) (by omega)
                     simp (disch := omega) only [bl_up2_at, bl_up2_nk, bl_up2_nx, q11, ea, eb]
                     have hs : ∀ y, y ≠ 100 → y ≠ 110 → y ≠ 150 → bl_up2 (bl_up2 (tpI I6 110 0 0 (zI (-1)) (nI n) at1 wa1) 100 11 (nI (S.1.2.2.1 + 1))) 150 18 0 y = I6 y := fun y y1 y2 y3 => by rw [bl_up2_ne y3, bl_up2_ne y1, tpI_ne y2]
                     refine Or.inr ⟨n, hn1, hx, ((hcf1 n).trans f2).trans (fun y y1 y2 => ⟨?_, rfl, rfl, rfl, rfl⟩), Or.inr ⟨hc4, f3, Or.inr ⟨Sq, hp, ⟨g2.2.1, g3⟩, trivial, ?_⟩⟩⟩
                     · exact (hs y (by omega) (by omega) (by omega)).trans (g1 y (by omega) (by omega) (by omega))
                     · refine clI.recipe (c := S.1.2.2.1) hI6 hO rfl hc4 f3 ?_ g2 hs (fun j hj => ?_) ?_ ?_ bl_up2_at
                       · unfold fgt at f4 ⊢; dsimp only at f4 ⊢; rw [g1 _ (by omega) (by omega) (by omega)]; exact f4
                       · rw [bl_up2_nx (by omega), bl_up2_nk hj, tpI_ne (by omega)]
                       · rw [bl_up2_nx (by omega), bl_up2_at]
                       · rw [bl_up2_nx (by omega), bl_up2_nx (by omega), bl_up2_nx (by omega), bl_up2_nx (by omega)]; exact ⟨rfl, rfl⟩)
                · try simp (disch := omega) only [zI_n, zI_o, zI_lit, zI_neg, zI_add, zI_sub, zI_mul, zI_lt, zI_le, zI_eq, zI_clamp, zI_in, zI_div, zI_rem, lg_lt0, lg_gt0, lg_eq0, lg_le0, lg_ge0, Int.toNat_natCast, ge_iff_le, gt_iff_lt, List.length_cons, List.length_nil, bl_up2_at, bl_up2_nk, bl_up2_nx] at h44
                  first
                  | (exfalso; first | omega | exact h44 trivial)
                  | (refine ⟨kx, _, bl_vs rx_0, kxt, (fun h => by cases h), ?_⟩
                     try show _ ∧ _
                     try dsimp only [bl_pv]
                     have hI6 : clI (I6, J5, R5, K5, N5) (tpC S (zI (-1))) h := hI5.rows (c := S.1.2.2.1) hO1 (Nat.le_refl _) hc4 (fun y hy => g1 y (by omega) (by omega) (by omega))
                     refine Or.inr ⟨n, hn1, hx, ((hcf1 n).trans f2).trans (fun y y1 y2 => ⟨?_, rfl, rfl, rfl, rfl⟩), Or.inr ⟨hc4, f3, Or.inl ⟨(k, p), hp, rfl, ?_⟩⟩⟩
                     · dsimp only; rw [tpI_ne (by omega)]; exact g1 y (by omega) (by omega) (by omega)
                     · exact hI6.tape (t := 0) (fp := nI p) hO1 (fun y y1 y2 y3 => tpI_ne y1) ⟨rfl, rfl, by rw [tpI_ne (by omega), g1 111 (by omega) (by omega) (by omega)]; exact ht5.2.2⟩))
         · try simp (disch := omega) only [bl_pv, cl0, cl1, cl2, cl3, cl4, cl5, cl6, cl7, cl8, cl9, bl_up2_at, bl_up2_nk, bl_up2_nx] at h26
           first
           | (exfalso; first | omega | exact h26 trivial)
           | (refine ⟨(fun h => by cases h), ?_⟩
              try show _ ∧ _
              try dsimp only [bl_pv]
              rw [e110, hn] at h26
              exact absurd ((nI_ltk (b := 4) (by omega) (by omega)).mpr hc4) h26))
    · try simp (disch := omega) only [zI_n, zI_o, zI_lit, zI_neg, zI_add, zI_sub, zI_mul, zI_lt, zI_le, zI_eq, zI_clamp, zI_in, zI_div, zI_rem, lg_lt0, lg_gt0, lg_eq0, lg_le0, lg_ge0, Int.toNat_natCast, ge_iff_le, gt_iff_lt, List.length_cons, List.length_nil, bl_up2_at, bl_up2_nk, bl_up2_nx] at h8
      first
      | (exfalso; first | omega | exact h8 trivial)
      | (refine ⟨hlt, (Nat.le_of_ble_eq_true rfl), (Nat.le_of_ble_eq_true rfl), (Nat.le_of_ble_eq_true rfl), ?_⟩
         try show _ ∧ _
         try dsimp only [bl_pv]
         refine Or.inl ⟨fun hq => ?_, rfl, rfl⟩
         obtain ⟨n, hn, e⟩ := i32_nat (by omega) hq.1 hq.2
         exact hx n hn e)
  · refine bl_go oX10_recipe 80 [] rfl ?_
    refine ⟨fun h8 => ?_, fun h8 => ?_⟩
    · try simp (disch := omega) only [zI_n, zI_o, zI_lit, zI_neg, zI_add, zI_sub, zI_mul, zI_lt, zI_le, zI_eq, zI_clamp, zI_in, zI_div, zI_rem, lg_lt0, lg_gt0, lg_eq0, lg_le0, lg_ge0, Int.toNat_natCast, ge_iff_le, gt_iff_lt, List.length_cons, List.length_nil, bl_up2_at, bl_up2_nk, bl_up2_nx] at h8
      first
      | (exfalso; first | omega | exact h8 trivial)
      | (refine ⟨kx, fun h26 => ?_, fun h26 => ?_⟩
         · try simp (disch := omega) only [bl_pv, cl0, cl1, cl2, cl3, cl4, cl5, cl6, cl7, cl8, cl9, bl_up2_at, bl_up2_nk, bl_up2_nx] at h26
           first
           | (exfalso; first | omega | exact h26 trivial)
           | (refine ⟨rfl, rfl, kx, (Nat.le_of_ble_eq_true rfl), (154, 4379), Nat.le_of_ble_eq_true rfl, Nat.le_of_ble_eq_true rfl, bl_MC_mono (c_BL_freeRecipeN (d := d) (S := tpC S (zI (-1))) (hI1 n) hO1 rfl hc4 (hm1 n)) (fun o32 σ32 q32 => ?_)⟩
              try dsimp only [bl_pv] at q32
              obtain ⟨I5, J5, R5, K5, N5⟩ := σ32
              obtain ⟨rfl, f1, f2, f3, f4, f5⟩ := q32
              have hI5 := f1
              obtain ⟨⟨kx, ⟨rx_0, rx_1, rx_2, rx_3, rx_4, rx_5, rx_6, rx_7⟩, -⟩, hTp5, -, hBn5, -, -, hSt5, hStr5⟩ := f1.1
              have kxt := hTp5.2.1
              have kxo := hBn5.2.1
              have krp := f3.1.1
              have ht5 := hI5.2.2.2.2.1
              have hn5 := hI5.2.2.2.2.2.2.1.1
              dsimp only at f5 kx rx_0 rx_5 kxt kxo krp hSt5 hStr5 ht5 hn5
              have eta : tpI I5 110 0 0 (zI (-1)) (nI n) (nI 0) (I5 110 6) = I5 := by
                have := @tpI_eta I5 110
                rw [show I5 110 1 = 0 by rw [f5]; rfl, show I5 110 2 = 0 by rw [f5]; rfl, show I5 110 3 = zI (-1) by rw [f5]; rfl, show I5 110 4 = nI n by rw [f5]; rfl, show I5 110 5 = nI 0 by rw [f5]; rfl] at this
                exact this
              have hrd := c_Tape_readRecipe (G := G) (l := l) (d := d) (I := I5) (J := J5) (R := R5) (N := N5) (t := 110) (q := 300 + 10 * S.1.2.2.1) (h := 0) (fk := 0) (fp := zI (-1)) (n := n) (wa := I5 110 6) (u3 := 943) (u4 := 944) (show tpS R5 K5 N5 110 from hTp5) f3.1 (by omega) hStr5 (hSt5 3 (by omega)) (hSt5 4 (by omega)) (by omega)
              rw [eta, show (110 : Nat) + 1 = 111 from rfl, ht5.2.2] at hrd
              refine bl_go oX10_recipe 80 [] rfl ?_
              refine ⟨kx, _, bl_vs rx_0, rfl, rfl, kxt, (Nat.le_of_ble_eq_true rfl), (0, 0), Nat.le_of_ble_eq_true rfl, Nat.le_of_ble_eq_true rfl, bl_MC_mono (hrd) (fun o41 σ41 q41 => ?_)⟩
              rcases q41 with ⟨Sq, I6, at1, wa1, hp, rfl, rfl, g1, g2, g3⟩ | ⟨k, p, I6, at1, wa1, hp, rfl, rfl, g1⟩
              · refine bl_go oX10_recipe 80 [] rfl ?_
                refine ⟨fun h44 => ?_, fun h44 => ?_⟩
                · try simp (disch := omega) only [zI_n, zI_o, zI_lit, zI_neg, zI_add, zI_sub, zI_mul, zI_lt, zI_le, zI_eq, zI_clamp, zI_in, zI_div, zI_rem, lg_lt0, lg_gt0, lg_eq0, lg_le0, lg_ge0, Int.toNat_natCast, ge_iff_le, gt_iff_lt, List.length_cons, List.length_nil, bl_up2_at, bl_up2_nk, bl_up2_nx] at h44
                  first
                  | (exfalso; first | omega | exact h44 trivial)
                  | (refine ⟨rfl, kx, kx, Or.inr (Or.inr ⟨rfl, rfl, _, rfl⟩), (fun h => by cases h), kx, _, bl_vs rx_5, kxo, Or.inr (Or.inr ⟨rfl, rfl, _, rfl⟩), (fun _ => by first | exact Or.inl rfl | exact Or.inr rfl), kx, (fun h => by cases h), ?_⟩
                     try show _ ∧ _
                     try dsimp only [bl_pv]
                     have hI6 : clI (I6, J5, R5, K5, N5) (tpC S (zI (-1))) h := hI5.rows (c := S.1.2.2.1) hO1 (Nat.le_refl _) hc4 (fun y hy => g1 y (by omega) (by omega) (by omega))
                     have q11 : tpI I6 110 0 0 (zI (-1)) (nI n) at1 wa1 100 11 = nI S.1.2.2.1 := by rw [tpI_ne (by omega), g1 100 (by omega) (by omega) (by omega)]; exact hn5
                     have ea : nI S.1.2.2.1 + 1 = nI (S.1.2.2.1 + 1) := nI_1 _
                     have eb : nI (S.1.2.2.1 + 1) - 1 = nI S.1.2.2.1 := nI_subs (a := S.1.2.2.1 + 1) (b := 1) (by omega)
                     simp (disch := omega) only [bl_up2_at, bl_up2_nk, bl_up2_nx, q11, ea, eb]
                     have hs : ∀ y, y ≠ 100 → y ≠ 110 → y ≠ 150 → bl_up2 (bl_up2 (tpI I6 110 0 0 (zI (-1)) (nI n) at1 wa1) 100 11 (nI (S.1.2.2.1 + 1))) 150 18 0 y = I6 y := fun y y1 y2 y3 => by rw [bl_up2_ne y3, bl_up2_ne y1, tpI_ne y2]
                     refine Or.inr ⟨n, hn1, hx, ((hcf1 n).trans f2).trans (fun y y1 y2 => ⟨?_, rfl, rfl, rfl, rfl⟩), Or.inr ⟨hc4, f3, Or.inr ⟨Sq, hp, ⟨g2.2.1, g3⟩, trivial, ?_⟩⟩⟩
                     · exact (hs y (by omega) (by omega) (by omega)).trans (g1 y (by omega) (by omega) (by omega))
                     · refine clI.recipe (c := S.1.2.2.1) hI6 hO rfl hc4 f3 ?_ g2 hs (fun j hj => ?_) ?_ ?_ bl_up2_at
                       · unfold fgt at f4 ⊢; dsimp only at f4 ⊢; rw [g1 _ (by omega) (by omega) (by omega)]; exact f4
                       · rw [bl_up2_nx (by omega), bl_up2_nk hj, tpI_ne (by omega)]
                       · rw [bl_up2_nx (by omega), bl_up2_at]
                       · rw [bl_up2_nx (by omega), bl_up2_nx (by omega), bl_up2_nx (by omega), bl_up2_nx (by omega)]; exact ⟨rfl, rfl⟩)
                · try simp (disch := omega) only [zI_n, zI_o, zI_lit, zI_neg, zI_add, zI_sub, zI_mul, zI_lt, zI_le, zI_eq, zI_clamp, zI_in, zI_div, zI_rem, lg_lt0, lg_gt0, lg_eq0, lg_le0, lg_ge0, Int.toNat_natCast, ge_iff_le, gt_iff_lt, List.length_cons, List.length_nil, bl_up2_at, bl_up2_nk, bl_up2_nx] at h44
                  first
                  | (exfalso; first | omega | exact h44 trivial)
                  | (refine ⟨kx, _, bl_vs rx_0, kxt, (fun h => by cases h), ?_⟩
                     try show _ ∧ _
                     try dsimp only [bl_pv]
                     have hI6 : clI (I6, J5, R5, K5, N5) (tpC S (zI (-1))) h := hI5.rows (c := S.1.2.2.1) hO1 (Nat.le_refl _) hc4 (fun y hy => g1 y (by omega) (by omega) (by omega))
                     refine Or.inr ⟨n, hn1, hx, ((hcf1 n).trans f2).trans (fun y y1 y2 => ⟨?_, rfl, rfl, rfl, rfl⟩), Or.inr ⟨hc4, f3, Or.inl ⟨(k, p), hp, rfl, ?_⟩⟩⟩
                     · dsimp only; rw [tpI_ne (by omega)]; exact g1 y (by omega) (by omega) (by omega)
                     · exact hI6.tape (t := 0) (fp := nI p) hO1 (fun y y1 y2 y3 => tpI_ne y1) ⟨rfl, rfl, by rw [tpI_ne (by omega), g1 111 (by omega) (by omega) (by omega)]; exact ht5.2.2⟩)
              · refine bl_go oX10_recipe 80 [] rfl ?_
                refine ⟨fun h44 => ?_, fun h44 => ?_⟩
                · try simp (disch := omega) only [zI_n, zI_o, zI_lit, zI_neg, zI_add, zI_sub, zI_mul, zI_lt, zI_le, zI_eq, zI_clamp, zI_in, zI_div, zI_rem, lg_lt0, lg_gt0, lg_eq0, lg_le0, lg_ge0, Int.toNat_natCast, ge_iff_le, gt_iff_lt, List.length_cons, List.length_nil, bl_up2_at, bl_up2_nk, bl_up2_nx] at h44
                  first
                  | (exfalso; first | omega | exact h44 trivial)
                  | (refine ⟨rfl, kx, kx, Or.inr (Or.inr ⟨rfl, rfl, _, rfl⟩), (fun h => by cases h), kx, _, bl_vs rx_5, kxo, Or.inr (Or.inr ⟨rfl, rfl, _, rfl⟩), (fun _ => by first | exact Or.inl rfl | exact Or.inr rfl), kx, (fun h => by cases h), ?_⟩
                     try show _ ∧ _
                     try dsimp only [bl_pv]
                     have hI6 : clI (I6, J5, R5, K5, N5) (tpC S (zI (-1))) h := hI5.rows (c := S.1.2.2.1) hO1 (Nat.le_refl _) hc4 (fun y hy => g1 y (by omega) (by omega) (by omega))
                     have q11 : tpI I6 110 0 0 (zI (-1)) (nI n) at1 wa1 100 11 = nI S.1.2.2.1 := by rw [tpI_ne (by omega), g1 100 (by omega) (by omega) (by omega)]; exact hn5
                     have ea : nI S.1.2.2.1 + 1 = nI (S.1.2.2.1 + 1) := nI_1 _
                     have eb : nI (S.1.2.2.1 + 1) - 1 = nI S.1.2.2.1 := nI_subs (a := S.1.2.2.1 + 1) (b := 1) (by omega)
                     simp (disch := omega) only [bl_up2_at, bl_up2_nk, bl_up2_nx, q11, ea, eb]
                     have hs : ∀ y, y ≠ 100 → y ≠ 110 → y ≠ 150 → bl_up2 (bl_up2 (tpI I6 110 0 0 (zI (-1)) (nI n) at1 wa1) 100 11 (nI (S.1.2.2.1 + 1))) 150 18 0 y = I6 y := fun y y1 y2 y3 => by rw [bl_up2_ne y3, bl_up2_ne y1, tpI_ne y2]
                     refine Or.inr ⟨n, hn1, hx, ((hcf1 n).trans f2).trans (fun y y1 y2 => ⟨?_, rfl, rfl, rfl, rfl⟩), Or.inr ⟨hc4, f3, Or.inr ⟨Sq, hp, ⟨g2.2.1, g3⟩, trivial, ?_⟩⟩⟩
                     · exact (hs y (by omega) (by omega) (by omega)).trans (g1 y (by omega) (by omega) (by omega))
                     · refine clI.recipe (c := S.1.2.2.1) hI6 hO rfl hc4 f3 ?_ g2 hs (fun j hj => ?_) ?_ ?_ bl_up2_at
                       · unfold fgt at f4 ⊢; dsimp only at f4 ⊢; rw [g1 _ (by omega) (by omega) (by omega)]; exact f4
                       · rw [bl_up2_nx (by omega), bl_up2_nk hj, tpI_ne (by omega)]
                       · rw [bl_up2_nx (by omega), bl_up2_at]
                       · rw [bl_up2_nx (by omega), bl_up2_nx (by omega), bl_up2_nx (by omega), bl_up2_nx (by omega)]; exact ⟨rfl, rfl⟩)
                · try simp (disch := omega) only [zI_n, zI_o, zI_lit, zI_neg, zI_add, zI_sub, zI_mul, zI_lt, zI_le, zI_eq, zI_clamp, zI_in, zI_div, zI_rem, lg_lt0, lg_gt0, lg_eq0, lg_le0, lg_ge0, Int.toNat_natCast, ge_iff_le, gt_iff_lt, List.length_cons, List.length_nil, bl_up2_at, bl_up2_nk, bl_up2_nx] at h44
                  first
                  | (exfalso; first | omega | exact h44 trivial)
                  | (refine ⟨kx, _, bl_vs rx_0, kxt, (fun h => by cases h), ?_⟩
                     try show _ ∧ _
                     try dsimp only [bl_pv]
                     have hI6 : clI (I6, J5, R5, K5, N5) (tpC S (zI (-1))) h := hI5.rows (c := S.1.2.2.1) hO1 (Nat.le_refl _) hc4 (fun y hy => g1 y (by omega) (by omega) (by omega))
                     refine Or.inr ⟨n, hn1, hx, ((hcf1 n).trans f2).trans (fun y y1 y2 => ⟨?_, rfl, rfl, rfl, rfl⟩), Or.inr ⟨hc4, f3, Or.inl ⟨(k, p), hp, rfl, ?_⟩⟩⟩
                     · dsimp only; rw [tpI_ne (by omega)]; exact g1 y (by omega) (by omega) (by omega)
                     · exact hI6.tape (t := 0) (fp := nI p) hO1 (fun y y1 y2 y3 => tpI_ne y1) ⟨rfl, rfl, by rw [tpI_ne (by omega), g1 111 (by omega) (by omega) (by omega)]; exact ht5.2.2⟩))
         · try simp (disch := omega) only [bl_pv, cl0, cl1, cl2, cl3, cl4, cl5, cl6, cl7, cl8, cl9, bl_up2_at, bl_up2_nk, bl_up2_nx] at h26
           first
           | (exfalso; first | omega | exact h26 trivial)
           | (refine ⟨(fun h => by cases h), ?_⟩
              try show _ ∧ _
              try dsimp only [bl_pv]
              rw [e110, hn] at h26
              exact absurd ((nI_ltk (b := 4) (by omega) (by omega)).mpr hc4) h26))
    · try simp (disch := omega) only [zI_n, zI_o, zI_lit, zI_neg, zI_add, zI_sub, zI_mul, zI_lt, zI_le, zI_eq, zI_clamp, zI_in, zI_div, zI_rem, lg_lt0, lg_gt0, lg_eq0, lg_le0, lg_ge0, Int.toNat_natCast, ge_iff_le, gt_iff_lt, List.length_cons, List.length_nil, bl_up2_at, bl_up2_nk, bl_up2_nx] at h8
      first
      | (exfalso; first | omega | exact h8 trivial)
      | (refine ⟨hlt, (Nat.le_of_ble_eq_true rfl), (Nat.le_of_ble_eq_true rfl), (Nat.le_of_ble_eq_true rfl), ?_⟩
         try show _ ∧ _
         try dsimp only [bl_pv]
         refine Or.inl ⟨fun hq => ?_, rfl, rfl⟩
         obtain ⟨n, hn, e⟩ := i32_nat (by omega) hq.1 hq.2
         exact hx n hn e)
theorem c_BL_recipeF (hlt : l.stackTraces = false) (hI : clI (I, J, R, K, N) S h) (hO : csO S) (hc4 : S.1.2.2.1 = 4) : bl_MC G l (d + 4) mX10_recipe [.ref 100, .int x] (I, J, R, K, N) (1, 6) (fun o s' => (¬ (0 ≤ x ∧ x ≤ nI S.2.2.1) ∧ o = .inr bl_IAE ∧ s' = (I, J, R, K, N)) ∨ ∃ n, n ≤ S.2.2.1 ∧ x = nI n ∧ cfF (I, J, R, K, N) s' ∧ ((S.1.2.2.1 = 4 ∧ o = .inl (some (.int (zI (-1)))) ∧ clI s' (tpC S (zI (-1))) h) ∨ (S.1.2.2.1 < 4 ∧ mkR s' S.1.2.2.1 ∧ ((∃ f, prec S.2.2.2.1 n 21 sq0 0 = .inr f ∧ o = .inl (some (.int (nI f.1 - 10))) ∧ clI s' (tpC S (nI f.2)) h) ∨ (∃ Sq, prec S.2.2.2.1 n 21 sq0 0 = .inl Sq ∧ sqV Sq ∧ o = .inl (some (.int (nI S.1.2.2.1))) ∧ clI s' (rpS S Sq) h))))) := by
  obtain ⟨⟨kx, ⟨rx_0, rx_1, rx_2, rx_3, rx_4, rx_5, rx_6, rx_7⟩, ⟨kxr, nxr⟩, ⟨kxn, nxn⟩, kxb, ⟨kxi, nxi⟩, ⟨kxj, nxj⟩⟩, hTp, hUn, hBn, hK1, hK2, hSt, hStr⟩ := hI.1
  have ht := hI.2.2.2.2.1
  have kxt := hTp.2.1
  have hn := hI.2.2.2.2.2.2.1.1
  have hc5 := hO.2.2.1
  dsimp only at kx rx_0 kxt ht hn
  have ht4 := hO.2.2.2.2.2.1
  have hop := c_Tape_open (G := G) (l := l) (d := d + 3) (I := I) (J := J) (R := R) (N := N) (t := 110) (h := I 110 1) (fk := I 110 2) (fp := I 110 3) (en := I 110 4) (at' := I 110 5) (wa := I 110 6) (x := x) kxt ht.1 ht4
  rw [tpI_eta] at hop
  have hI1 : ∀ n, clI (tpI I 110 0 0 (zI (-1)) (nI n) (nI 0) (I 110 6), J, R, K, N) (tpC S (zI (-1))) h := fun n => hI.tape hO (fun y y1 _ _ => tpI_ne y1) ⟨rfl, rfl, by rw [tpI_ne (by omega)]; exact ht.2.2⟩
  have hO1 : csO (tpC S (zI (-1))) := hO.tp
  have hcf1 : ∀ n, cfF (I, J, R, K, N) (tpI I 110 0 0 (zI (-1)) (nI n) (nI 0) (I 110 6), J, R, K, N) := fun n y y1 y2 => ⟨tpI_ne (by omega), rfl, rfl, rfl, rfl⟩
  have e110 : ∀ n : Nat, tpI I 110 0 0 (zI (-1)) (nI n) (nI 0) (I 110 6) 100 = I 100 := fun n => tpI_ne (by omega)
  refine bl_MC_intro (by decide +kernel) rfl (Nat.le_of_ble_eq_true rfl) ?_
  refine bl_go oX10_recipe 80 [31] rfl ?_
  refine ⟨kx, _, bl_vs rx_0, rfl, rfl, kxt, (Nat.le_of_ble_eq_true rfl), (0, 0), Nat.le_of_ble_eq_true rfl, Nat.le_of_ble_eq_true rfl, bl_MC_mono (hop) (fun o5 σ5 q5 => ?_)⟩
  rcases q5 with ⟨n, hx, hn1, rfl, rfl⟩ | ⟨hx, rfl, rfl⟩
  · refine bl_go oX10_recipe 80 [31] rfl ?_
    refine ⟨fun h8 => ?_, fun h8 => ?_⟩
    · try simp (disch := omega) only [zI_n, zI_o, zI_lit, zI_neg, zI_add, zI_sub, zI_mul, zI_lt, zI_le, zI_eq, zI_clamp, zI_in, zI_div, zI_rem, lg_lt0, lg_gt0, lg_eq0, lg_le0, lg_ge0, Int.toNat_natCast, ge_iff_le, gt_iff_lt, List.length_cons, List.length_nil, bl_up2_at, bl_up2_nk, bl_up2_nx] at h8
      first
      | (exfalso; first | omega | exact h8 trivial)
      | (refine ⟨kx, fun h26 => ?_, fun h26 => ?_⟩
         · try simp (disch := omega) only [bl_pv, cl0, cl1, cl2, cl3, cl4, cl5, cl6, cl7, cl8, cl9, bl_up2_at, bl_up2_nk, bl_up2_nx] at h26
           first
           | (exfalso; first | omega | exact h26 trivial)
           | (try dsimp only [bl_pv]
              rw [e110, hn, hc4] at h26
              exact absurd h26 (by decide))
         · try simp (disch := omega) only [bl_pv, cl0, cl1, cl2, cl3, cl4, cl5, cl6, cl7, cl8, cl9, bl_up2_at, bl_up2_nk, bl_up2_nx] at h26
           first
           | (exfalso; first | omega | exact h26 trivial)
           | (refine ⟨(fun h => by cases h), ?_⟩
              try show _ ∧ _
              try dsimp only [bl_pv]
              exact Or.inr ⟨n, hn1, hx, hcf1 n, Or.inl ⟨hc4, rfl, hI1 n⟩⟩))
    · try simp (disch := omega) only [zI_n, zI_o, zI_lit, zI_neg, zI_add, zI_sub, zI_mul, zI_lt, zI_le, zI_eq, zI_clamp, zI_in, zI_div, zI_rem, lg_lt0, lg_gt0, lg_eq0, lg_le0, lg_ge0, Int.toNat_natCast, ge_iff_le, gt_iff_lt, List.length_cons, List.length_nil, bl_up2_at, bl_up2_nk, bl_up2_nx] at h8
      first
      | (exfalso; first | omega | exact h8 trivial)
      | (refine ⟨hlt, (Nat.le_of_ble_eq_true rfl), (Nat.le_of_ble_eq_true rfl), (Nat.le_of_ble_eq_true rfl), ?_⟩
         try show _ ∧ _
         try dsimp only [bl_pv]
         refine Or.inl ⟨fun hq => ?_, rfl, rfl⟩
         obtain ⟨n, hn, e⟩ := i32_nat (by omega) hq.1 hq.2
         exact hx n hn e)
  · refine bl_go oX10_recipe 80 [31] rfl ?_
    refine ⟨fun h8 => ?_, fun h8 => ?_⟩
    · try simp (disch := omega) only [zI_n, zI_o, zI_lit, zI_neg, zI_add, zI_sub, zI_mul, zI_lt, zI_le, zI_eq, zI_clamp, zI_in, zI_div, zI_rem, lg_lt0, lg_gt0, lg_eq0, lg_le0, lg_ge0, Int.toNat_natCast, ge_iff_le, gt_iff_lt, List.length_cons, List.length_nil, bl_up2_at, bl_up2_nk, bl_up2_nx] at h8
      first
      | (exfalso; first | omega | exact h8 trivial)
      | (refine ⟨kx, fun h26 => ?_, fun h26 => ?_⟩
         · try simp (disch := omega) only [bl_pv, cl0, cl1, cl2, cl3, cl4, cl5, cl6, cl7, cl8, cl9, bl_up2_at, bl_up2_nk, bl_up2_nx] at h26
           first
           | (exfalso; first | omega | exact h26 trivial)
           | (try dsimp only [bl_pv]
              rw [e110, hn, hc4] at h26
              exact absurd h26 (by decide))
         · try simp (disch := omega) only [bl_pv, cl0, cl1, cl2, cl3, cl4, cl5, cl6, cl7, cl8, cl9, bl_up2_at, bl_up2_nk, bl_up2_nx] at h26
           first
           | (exfalso; first | omega | exact h26 trivial)
           | (refine ⟨(fun h => by cases h), ?_⟩
              try show _ ∧ _
              try dsimp only [bl_pv]
              exact Or.inr ⟨n, hn1, hx, hcf1 n, Or.inl ⟨hc4, rfl, hI1 n⟩⟩))
    · try simp (disch := omega) only [zI_n, zI_o, zI_lit, zI_neg, zI_add, zI_sub, zI_mul, zI_lt, zI_le, zI_eq, zI_clamp, zI_in, zI_div, zI_rem, lg_lt0, lg_gt0, lg_eq0, lg_le0, lg_ge0, Int.toNat_natCast, ge_iff_le, gt_iff_lt, List.length_cons, List.length_nil, bl_up2_at, bl_up2_nk, bl_up2_nx] at h8
      first
      | (exfalso; first | omega | exact h8 trivial)
      | (refine ⟨hlt, (Nat.le_of_ble_eq_true rfl), (Nat.le_of_ble_eq_true rfl), (Nat.le_of_ble_eq_true rfl), ?_⟩
         try show _ ∧ _
         try dsimp only [bl_pv]
         refine Or.inl ⟨fun hq => ?_, rfl, rfl⟩
         obtain ⟨n, hn, e⟩ := i32_nat (by omega) hq.1 hq.2
         exact hx n hn e)
end CLSC
