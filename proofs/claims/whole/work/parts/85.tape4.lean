/-! ===== Tape: a kitchen's text ===== -/
theorem rm_cur_congr {f g : Nat → Int32} (h : ∀ k, k < 24 → f k = g k) (c : Int32) : ∀ i, i ≤ 24 → rm_cur f c i = rm_cur g c i
  | 0, _ => rfl
  | i + 1, hi => by
    show (if f i = zI (-1) then rm_cur f c i else f i) = (if g i = zI (-1) then rm_cur g c i else g i)
    rw [rm_cur_congr h c i (by omega), h i (by omega)]
theorem rm_deg_congr {f g : Nat → Int32} (h : ∀ k, k < 24 → f k = g k) {i : Nat} (hi : i < 24) : rm_deg f i = rm_deg g i := by
  unfold rm_deg
  rw [rm_cur_congr h 20 24 (by omega), rm_cur_congr h _ (i + 1) (by omega)]
theorem tpI_fill {I : Nat → Nat → Int32} {t y k : Nat} {h fk fp en at' wa : Int32} {f : Nat → Int32} (hy : y ≠ t) : bl_fill (tpI I t h fk fp en at' wa) y f k = tpI (bl_fill I y f k) t h fk fp en at' wa := by
  funext x j
  unfold bl_fill tpI
  by_cases e : x = t
  · have e2 : ¬ (x = y ∧ j < k) := fun q => hy (q.1.symm.trans e)
    simp only [e2, if_false, if_pos e]
  · simp only [if_neg e]
theorem skW_ge (B : Nat → Int32) (n i : Nat) : i ≤ skW B n i := skp_ge _ i
theorem skB_ge (B : Nat → Int32) (n i : Nat) : i ≤ skB B n i := skp_ge _ i
section TAPE4
variable {G : bl_G} {l : Launch} {d t a u0 u1 u2 : Nat} {I : Nat → Nat → Int32} {J : Nat → Nat → Int64} {R : Nat → Nat → Option Nat} {K N : Nat → Nat} {h fk fp wa : Int32} {n i : Nat}
theorem c_Tape_kitLoop (ht : tpS R K N t) (ha : kiS R K N a) (hat : a + 3 < t ∨ t + 1 < a) (hst : ∀ j, j < 17 → K (950 + j) = 110 + j) (ku1 : K u1 = 101) (ku2 : K u2 = 102) (hn : n ≤ 400) : ∀ f c, c + f = 30 → ∀ i, i ≤ n → ∀ S I1 wa x, x = nI c → kC I1 a S → (∀ x, x ≠ a + 1 → x ≠ a + 2 → x ≠ a + 3 → I1 x = I x) → bl_WP G l (d + 4) mX8_readKitchen 6 [(2, .int x), (0, .ref t), (1, .ref a)] [] (tpI I1 t h fk fp (nI n) (nI i) wa, J, R, K, N) (0, 0) (fun o σ' => (∃ S' I' at' wa', pkit (I (t + 1)) n (f + 1) c S i = .inl S' ∧ o = .inl (some (.int 1)) ∧ σ' = (tpI I' t h fk fp (nI n) at' wa', J, R, K, N) ∧ (∀ x, x ≠ a + 1 → x ≠ a + 2 → x ≠ a + 3 → I' x = I x) ∧ kC I' a S' ∧ ∀ k, k < 24 → I' (a + 3) k = rm_deg S'.2 k) ∨ (∃ k p I' at' wa', pkit (I (t + 1)) n (f + 1) c S i = .inr (k, p) ∧ o = .inl (some (.int 0)) ∧ σ' = (tpI I' t h (nI k) (nI p) (nI n) at' wa', J, R, K, N) ∧ (∀ x, x ≠ a + 1 → x ≠ a + 2 → x ≠ a + 3 → I' x = I x))) := by
  have kt := ht.2.1
  have ha' := ha
  obtain ⟨-, ka, ra_0, ra_1, ra_2, ⟨kav, nav⟩, ⟨kaq, naq⟩, ⟨kag, nag⟩⟩ := ha
  intro f
  induction f with
  | zero =>
    intro c hc i hi S I1 wa x hx hC hF
    have e30 : c = 30 := by omega
    subst hx e30
    have hB : I1 (t + 1) = I (t + 1) := hF _ (by omega) (by omega) (by omega)
    have ep : pkit (I (t + 1)) n (0 + 1) 30 S i = if n ≤ skB (I (t + 1)) n i then .inl S else if ckd (I (t + 1)) (skB (I (t + 1)) n i) (skW (I (t + 1)) n (skB (I (t + 1)) n i)) = zI (-1) then .inr (1, skB (I (t + 1)) n i) else if 30 ≤ 30 then .inr (3, skB (I (t + 1)) n i) else pbd (pcl (I (t + 1)) n (ckd (I (t + 1)) (skB (I (t + 1)) n i) (skW (I (t + 1)) n (skB (I (t + 1)) n i))).toNatClampNeg S (skW (I (t + 1)) n (skB (I (t + 1)) n i))) fun a => pbd (pend (I (t + 1)) n a.2) fun j => pkit (I (t + 1)) n 0 (30 + 1) a.1 j := rfl
    have hp : skB (I (t + 1)) n i ≤ n := skB_le hi
    have hw1 : skW (I (t + 1)) n (skB (I (t + 1)) n i) ≤ n := skW_le hp
    have hw2 := skW_ge (I (t + 1)) n (skB (I (t + 1)) n i)
    rw [ep]
    have hW := c_Tape_readWord (d := d + 2) (l := l) (G := G) (J := J) (h := h) (fk := fk) (fp := fp) (wa := wa) (I := I1) ht hn hi
    rw [hB] at hW
    generalize hpe : skB (I (t + 1)) n i = p at *
    generalize hwe : skW (I (t + 1)) n p = e at *
    have hR := c_Tape_clauseRead (d := d + 2) (l := l) (G := G) (J := J) (h := h) (fk := fk) (fp := fp) (en := nI n) (I := I1) (p := p) (e := e) ht hst hw2 (by omega)
    rw [hB] at hR
    refine bl_go oX8_readKitchen 80 [6] rfl ?_
    refine ⟨fun h9 => ?_, fun h9 => ?_⟩
    · try simp (disch := omega) only [tp4, tp6, zI_n, zI_o, zI_lit, zI_neg, zI_add, zI_sub, zI_mul, zI_lt, zI_le, zI_eq, zI_clamp, zI_in, zI_div, zI_rem, lg_lt0, lg_gt0, lg_eq0, lg_le0, lg_ge0, Int.toNat_natCast, ge_iff_le, gt_iff_lt, List.length_cons, List.length_nil, bl_up2_at, bl_up2_nk, bl_up2_nx] at h9
      first
      | (exfalso; first | omega | exact h9 trivial)
      | (refine ⟨(fun _ => by first | exact Or.inl rfl | exact Or.inr rfl), ?_⟩
         try show _ ∧ _
         try dsimp only [bl_pv]
         fail /- ret94 -/)
    · try simp (disch := omega) only [tp4, tp6, zI_n, zI_o, zI_lit, zI_neg, zI_add, zI_sub, zI_mul, zI_lt, zI_le, zI_eq, zI_clamp, zI_in, zI_div, zI_rem, lg_lt0, lg_gt0, lg_eq0, lg_le0, lg_ge0, Int.toNat_natCast, ge_iff_le, gt_iff_lt, List.length_cons, List.length_nil, bl_up2_at, bl_up2_nk, bl_up2_nx] at h9
      first
      | (exfalso; first | omega | exact h9 trivial)
      | (refine ⟨rfl, rfl, kt, (Nat.le_of_ble_eq_true rfl), (0, 0), Nat.le_of_ble_eq_true rfl, Nat.le_of_ble_eq_true rfl, bl_MC_mono (hW) (fun o13 σ13 q13 => ?_)⟩
         try dsimp only [bl_pv] at q13
         obtain ⟨rfl, rfl⟩ := q13
         refine bl_go oX8_readKitchen 80 [6] rfl ?_
         refine ⟨kt, kt, fun h24 => ?_, fun h24 => ?_⟩
         · try simp (disch := omega) only [tp4, tp6, zI_n, zI_o, zI_lit, zI_neg, zI_add, zI_sub, zI_mul, zI_lt, zI_le, zI_eq, zI_clamp, zI_in, zI_div, zI_rem, lg_lt0, lg_gt0, lg_eq0, lg_le0, lg_ge0, Int.toNat_natCast, ge_iff_le, gt_iff_lt, List.length_cons, List.length_nil, bl_up2_at, bl_up2_nk, bl_up2_nx] at h24
           first
           | (exfalso; first | omega | exact h24 trivial)
           | (refine ⟨rfl, rfl, kt, (Nat.le_of_ble_eq_true rfl), (0, 0), Nat.le_of_ble_eq_true rfl, Nat.le_of_ble_eq_true rfl, bl_MC_mono (hR) (fun o34 σ34 q34 => ?_)⟩
              try dsimp only [bl_pv] at q34
              obtain ⟨rfl, rfl⟩ := q34
              rcases ckd_rng (I (t + 1)) p e with hk | ⟨kk, k1, k2, k3, hk⟩
              · rw [hk]
                refine bl_go oX8_readKitchen 80 [6] rfl ?_
                refine ⟨fun h40 => ?_, fun h40 => ?_⟩
                · try simp (disch := omega) only [tp4, tp6, zI_n, zI_o, zI_lit, zI_neg, zI_add, zI_sub, zI_mul, zI_lt, zI_le, zI_eq, zI_clamp, zI_in, zI_div, zI_rem, lg_lt0, lg_gt0, lg_eq0, lg_le0, lg_ge0, Int.toNat_natCast, ge_iff_le, gt_iff_lt, List.length_cons, List.length_nil, bl_up2_at, bl_up2_nk, bl_up2_nx] at h40
                  first
                  | (exfalso; first | omega | exact h40 trivial)
                  | (refine ⟨fun h56 => ?_, fun h56 => ?_⟩
                     · try simp (disch := omega) only [tp4, tp6, zI_n, zI_o, zI_lit, zI_neg, zI_add, zI_sub, zI_mul, zI_lt, zI_le, zI_eq, zI_clamp, zI_in, zI_div, zI_rem, lg_lt0, lg_gt0, lg_eq0, lg_le0, lg_ge0, Int.toNat_natCast, ge_iff_le, gt_iff_lt, List.length_cons, List.length_nil, bl_up2_at, bl_up2_nk, bl_up2_nx] at h56
                       exfalso; omega
                     · try simp (disch := omega) only [tp4, tp6, zI_n, zI_o, zI_lit, zI_neg, zI_add, zI_sub, zI_mul, zI_lt, zI_le, zI_eq, zI_clamp, zI_in, zI_div, zI_rem, lg_lt0, lg_gt0, lg_eq0, lg_le0, lg_ge0, Int.toNat_natCast, ge_iff_le, gt_iff_lt, List.length_cons, List.length_nil, bl_up2_at, bl_up2_nk, bl_up2_nx] at h56
                       first
                       | (exfalso; first | omega | exact h56 trivial)
                       | (refine ⟨kt, rfl, rfl, kt, (Nat.le_of_ble_eq_true rfl), (0, 0), Nat.le_of_ble_eq_true rfl, Nat.le_of_ble_eq_true rfl, bl_MC_mono (c_Tape_refuse (d := d + 3) kt) (fun o65 σ65 q65 => ?_)⟩
                          try dsimp only [bl_pv] at q65
                          obtain ⟨rfl, rfl⟩ := q65
                          refine bl_go oX8_readKitchen 80 [6] rfl ?_
                          refine ⟨(fun _ => by first | exact Or.inl rfl | exact Or.inr rfl), ?_⟩
                          try show _ ∧ _
                          try dsimp only [bl_pv]
                          refine Or.inr ⟨3, p, I1, _, _, by rw [if_neg (by omega), if_neg (by simp (disch := omega) only [zI_n, zI_o, zI_lit, zI_neg, zI_add, zI_sub, zI_mul, zI_lt, zI_le, zI_eq, zI_clamp, zI_in, zI_div, zI_rem, lg_lt0, lg_gt0, lg_eq0, lg_le0, lg_ge0, Int.toNat_natCast, ge_iff_le, gt_iff_lt, List.length_cons, List.length_nil, bl_up2_at, bl_up2_nk, bl_up2_nx]; omega), if_pos (Nat.le_refl _)], rfl, by rw [tp6]; rfl, hF⟩))
                · try simp (disch := omega) only [tp4, tp6, zI_n, zI_o, zI_lit, zI_neg, zI_add, zI_sub, zI_mul, zI_lt, zI_le, zI_eq, zI_clamp, zI_in, zI_div, zI_rem, lg_lt0, lg_gt0, lg_eq0, lg_le0, lg_ge0, Int.toNat_natCast, ge_iff_le, gt_iff_lt, List.length_cons, List.length_nil, bl_up2_at, bl_up2_nk, bl_up2_nx] at h40
                  first
                  | (exfalso; first | omega | exact h40 trivial)
                  | (refine ⟨kt, rfl, rfl, kt, (Nat.le_of_ble_eq_true rfl), (0, 0), Nat.le_of_ble_eq_true rfl, Nat.le_of_ble_eq_true rfl, bl_MC_mono (c_Tape_refuse (d := d + 3) kt) (fun o49 σ49 q49 => ?_)⟩
                     try dsimp only [bl_pv] at q49
                     obtain ⟨rfl, rfl⟩ := q49
                     refine bl_go oX8_readKitchen 80 [6] rfl ?_
                     refine ⟨(fun _ => by first | exact Or.inl rfl | exact Or.inr rfl), ?_⟩
                     try show _ ∧ _
                     try dsimp only [bl_pv]
                     refine Or.inr ⟨1, p, I1, _, _, by rw [if_neg (by omega), if_pos rfl], rfl, by rw [tp6]; rfl, hF⟩)
              · rw [hk]
                refine bl_go oX8_readKitchen 80 [6] rfl ?_
                refine ⟨fun h40 => ?_, fun h40 => ?_⟩
                · try simp (disch := omega) only [tp4, tp6, zI_n, zI_o, zI_lit, zI_neg, zI_add, zI_sub, zI_mul, zI_lt, zI_le, zI_eq, zI_clamp, zI_in, zI_div, zI_rem, lg_lt0, lg_gt0, lg_eq0, lg_le0, lg_ge0, Int.toNat_natCast, ge_iff_le, gt_iff_lt, List.length_cons, List.length_nil, bl_up2_at, bl_up2_nk, bl_up2_nx] at h40
                  first
                  | (exfalso; first | omega | exact h40 trivial)
                  | (refine ⟨fun h56 => ?_, fun h56 => ?_⟩
                     · try simp (disch := omega) only [tp4, tp6, zI_n, zI_o, zI_lit, zI_neg, zI_add, zI_sub, zI_mul, zI_lt, zI_le, zI_eq, zI_clamp, zI_in, zI_div, zI_rem, lg_lt0, lg_gt0, lg_eq0, lg_le0, lg_ge0, Int.toNat_natCast, ge_iff_le, gt_iff_lt, List.length_cons, List.length_nil, bl_up2_at, bl_up2_nk, bl_up2_nx] at h56
                       exfalso; omega
                     · try simp (disch := omega) only [tp4, tp6, zI_n, zI_o, zI_lit, zI_neg, zI_add, zI_sub, zI_mul, zI_lt, zI_le, zI_eq, zI_clamp, zI_in, zI_div, zI_rem, lg_lt0, lg_gt0, lg_eq0, lg_le0, lg_ge0, Int.toNat_natCast, ge_iff_le, gt_iff_lt, List.length_cons, List.length_nil, bl_up2_at, bl_up2_nk, bl_up2_nx] at h56
                       first
                       | (exfalso; first | omega | exact h56 trivial)
                       | (refine ⟨kt, rfl, rfl, kt, (Nat.le_of_ble_eq_true rfl), (0, 0), Nat.le_of_ble_eq_true rfl, Nat.le_of_ble_eq_true rfl, bl_MC_mono (c_Tape_refuse (d := d + 3) kt) (fun o65 σ65 q65 => ?_)⟩
                          try dsimp only [bl_pv] at q65
                          obtain ⟨rfl, rfl⟩ := q65
                          refine bl_go oX8_readKitchen 80 [6] rfl ?_
                          refine ⟨(fun _ => by first | exact Or.inl rfl | exact Or.inr rfl), ?_⟩
                          try show _ ∧ _
                          try dsimp only [bl_pv]
                          refine Or.inr ⟨3, p, I1, _, _, by rw [if_neg (by omega), if_neg (by simp (disch := omega) only [zI_n, zI_o, zI_lit, zI_neg, zI_add, zI_sub, zI_mul, zI_lt, zI_le, zI_eq, zI_clamp, zI_in, zI_div, zI_rem, lg_lt0, lg_gt0, lg_eq0, lg_le0, lg_ge0, Int.toNat_natCast, ge_iff_le, gt_iff_lt, List.length_cons, List.length_nil, bl_up2_at, bl_up2_nk, bl_up2_nx]; omega), if_pos (Nat.le_refl _)], rfl, by rw [tp6]; rfl, hF⟩))
                · try simp (disch := omega) only [tp4, tp6, zI_n, zI_o, zI_lit, zI_neg, zI_add, zI_sub, zI_mul, zI_lt, zI_le, zI_eq, zI_clamp, zI_in, zI_div, zI_rem, lg_lt0, lg_gt0, lg_eq0, lg_le0, lg_ge0, Int.toNat_natCast, ge_iff_le, gt_iff_lt, List.length_cons, List.length_nil, bl_up2_at, bl_up2_nk, bl_up2_nx] at h40
                  first
                  | (exfalso; first | omega | exact h40 trivial)
                  | (refine ⟨kt, rfl, rfl, kt, (Nat.le_of_ble_eq_true rfl), (0, 0), Nat.le_of_ble_eq_true rfl, Nat.le_of_ble_eq_true rfl, bl_MC_mono (c_Tape_refuse (d := d + 3) kt) (fun o49 σ49 q49 => ?_)⟩
                     try dsimp only [bl_pv] at q49
                     obtain ⟨rfl, rfl⟩ := q49
                     refine bl_go oX8_readKitchen 80 [6] rfl ?_
                     refine ⟨(fun _ => by first | exact Or.inl rfl | exact Or.inr rfl), ?_⟩
                     try show _ ∧ _
                     try dsimp only [bl_pv]
                     refine Or.inr ⟨1, p, I1, _, _, by rw [if_neg (by omega), if_pos rfl], rfl, by rw [tp6]; rfl, hF⟩))
         · try simp (disch := omega) only [tp4, tp6, zI_n, zI_o, zI_lit, zI_neg, zI_add, zI_sub, zI_mul, zI_lt, zI_le, zI_eq, zI_clamp, zI_in, zI_div, zI_rem, lg_lt0, lg_gt0, lg_eq0, lg_le0, lg_ge0, Int.toNat_natCast, ge_iff_le, gt_iff_lt, List.length_cons, List.length_nil, bl_up2_at, bl_up2_nk, bl_up2_nx] at h24
           first
           | (exfalso; first | omega | exact h24 trivial)
           | (refine ⟨rfl, rfl, ka, (Nat.le_of_ble_eq_true rfl), (0, 0), Nat.le_of_ble_eq_true rfl, Nat.le_of_ble_eq_true rfl, bl_MC_mono (c_Kitchen_settleRoom (d := d + 3) ka ra_1 kaq naq ra_2 kag nag (by omega)) (fun o28 σ28 q28 => ?_)⟩
              try dsimp only [bl_pv] at q28
              obtain ⟨rfl, rfl⟩ := q28
              rw [tpI_fill (by omega)]
              refine bl_go oX8_readKitchen 80 [6] rfl ?_
              refine ⟨(fun _ => by first | exact Or.inl rfl | exact Or.inr rfl), ?_⟩
              try show _ ∧ _
              try dsimp only [bl_pv]
              refine Or.inl ⟨S, _, _, _, by rw [if_pos (by omega)], rfl, rfl, fun x x1 x2 x3 => ?_, ⟨fun k hk => ?_, fun k hk => ?_⟩, fun k hk => ?_⟩
              · rw [bl_fill_ne x3]; exact hF x x1 x2 x3
              · rw [bl_fill_ne (by omega)]; exact hC.1 k hk
              · rw [bl_fill_ne (by omega)]; exact hC.2 k hk
              · rw [bl_fill_at hk, tpI_ne (by omega)]; exact rm_deg_congr hC.2 hk))
  | succ f ih =>
    intro c hc i hi S I1 wa x hx hC hF
    subst hx
    have hB : I1 (t + 1) = I (t + 1) := hF _ (by omega) (by omega) (by omega)
    have ep : pkit (I (t + 1)) n (f + 1 + 1) c S i = if n ≤ skB (I (t + 1)) n i then .inl S else if ckd (I (t + 1)) (skB (I (t + 1)) n i) (skW (I (t + 1)) n (skB (I (t + 1)) n i)) = zI (-1) then .inr (1, skB (I (t + 1)) n i) else if 30 ≤ c then .inr (3, skB (I (t + 1)) n i) else pbd (pcl (I (t + 1)) n (ckd (I (t + 1)) (skB (I (t + 1)) n i) (skW (I (t + 1)) n (skB (I (t + 1)) n i))).toNatClampNeg S (skW (I (t + 1)) n (skB (I (t + 1)) n i))) fun a => pbd (pend (I (t + 1)) n a.2) fun j => pkit (I (t + 1)) n (f + 1) (c + 1) a.1 j := rfl
    have hp : skB (I (t + 1)) n i ≤ n := skB_le hi
    have hw1 : skW (I (t + 1)) n (skB (I (t + 1)) n i) ≤ n := skW_le hp
    have hw2 := skW_ge (I (t + 1)) n (skB (I (t + 1)) n i)
    rw [ep]
    have hW := c_Tape_readWord (d := d + 2) (l := l) (G := G) (J := J) (h := h) (fk := fk) (fp := fp) (wa := wa) (I := I1) ht hn hi
    rw [hB] at hW
    generalize hpe : skB (I (t + 1)) n i = p at *
    generalize hwe : skW (I (t + 1)) n p = e at *
    have hR := c_Tape_clauseRead (d := d + 2) (l := l) (G := G) (J := J) (h := h) (fk := fk) (fp := fp) (en := nI n) (I := I1) (p := p) (e := e) ht hst hw2 (by omega)
    rw [hB] at hR
    refine bl_go oX8_readKitchen 80 [6] rfl ?_
    refine ⟨fun h9 => ?_, fun h9 => ?_⟩
    · try simp (disch := omega) only [tp4, tp6, zI_n, zI_o, zI_lit, zI_neg, zI_add, zI_sub, zI_mul, zI_lt, zI_le, zI_eq, zI_clamp, zI_in, zI_div, zI_rem, lg_lt0, lg_gt0, lg_eq0, lg_le0, lg_ge0, Int.toNat_natCast, ge_iff_le, gt_iff_lt, List.length_cons, List.length_nil, bl_up2_at, bl_up2_nk, bl_up2_nx] at h9
      first
      | (exfalso; first | omega | exact h9 trivial)
      | (refine ⟨(fun _ => by first | exact Or.inl rfl | exact Or.inr rfl), ?_⟩
         try show _ ∧ _
         try dsimp only [bl_pv]
         fail /- ret94 -/)
    · try simp (disch := omega) only [tp4, tp6, zI_n, zI_o, zI_lit, zI_neg, zI_add, zI_sub, zI_mul, zI_lt, zI_le, zI_eq, zI_clamp, zI_in, zI_div, zI_rem, lg_lt0, lg_gt0, lg_eq0, lg_le0, lg_ge0, Int.toNat_natCast, ge_iff_le, gt_iff_lt, List.length_cons, List.length_nil, bl_up2_at, bl_up2_nk, bl_up2_nx] at h9
      first
      | (exfalso; first | omega | exact h9 trivial)
      | (refine ⟨rfl, rfl, kt, (Nat.le_of_ble_eq_true rfl), (0, 0), Nat.le_of_ble_eq_true rfl, Nat.le_of_ble_eq_true rfl, bl_MC_mono (hW) (fun o13 σ13 q13 => ?_)⟩
         try dsimp only [bl_pv] at q13
         obtain ⟨rfl, rfl⟩ := q13
         refine bl_go oX8_readKitchen 80 [6] rfl ?_
         refine ⟨kt, kt, fun h24 => ?_, fun h24 => ?_⟩
         · try simp (disch := omega) only [tp4, tp6, zI_n, zI_o, zI_lit, zI_neg, zI_add, zI_sub, zI_mul, zI_lt, zI_le, zI_eq, zI_clamp, zI_in, zI_div, zI_rem, lg_lt0, lg_gt0, lg_eq0, lg_le0, lg_ge0, Int.toNat_natCast, ge_iff_le, gt_iff_lt, List.length_cons, List.length_nil, bl_up2_at, bl_up2_nk, bl_up2_nx] at h24
           first
           | (exfalso; first | omega | exact h24 trivial)
           | (refine ⟨rfl, rfl, kt, (Nat.le_of_ble_eq_true rfl), (0, 0), Nat.le_of_ble_eq_true rfl, Nat.le_of_ble_eq_true rfl, bl_MC_mono (hR) (fun o34 σ34 q34 => ?_)⟩
              try dsimp only [bl_pv] at q34
              obtain ⟨rfl, rfl⟩ := q34
              rcases ckd_rng (I (t + 1)) p e with hk | ⟨kk, k1, k2, k3, hk⟩
              · rw [hk]
                refine bl_go oX8_readKitchen 80 [6] rfl ?_
                refine ⟨fun h40 => ?_, fun h40 => ?_⟩
                · try simp (disch := omega) only [tp4, tp6, zI_n, zI_o, zI_lit, zI_neg, zI_add, zI_sub, zI_mul, zI_lt, zI_le, zI_eq, zI_clamp, zI_in, zI_div, zI_rem, lg_lt0, lg_gt0, lg_eq0, lg_le0, lg_ge0, Int.toNat_natCast, ge_iff_le, gt_iff_lt, List.length_cons, List.length_nil, bl_up2_at, bl_up2_nk, bl_up2_nx] at h40
                  first
                  | (exfalso; first | omega | exact h40 trivial)
                  | (refine ⟨fun h56 => ?_, fun h56 => ?_⟩
                     · try simp (disch := omega) only [tp4, tp6, zI_n, zI_o, zI_lit, zI_neg, zI_add, zI_sub, zI_mul, zI_lt, zI_le, zI_eq, zI_clamp, zI_in, zI_div, zI_rem, lg_lt0, lg_gt0, lg_eq0, lg_le0, lg_ge0, Int.toNat_natCast, ge_iff_le, gt_iff_lt, List.length_cons, List.length_nil, bl_up2_at, bl_up2_nk, bl_up2_nx] at h56
                       refine ⟨rfl, rfl, kt, (Nat.le_of_ble_eq_true rfl), (0, 0), Nat.le_of_ble_eq_true rfl, Nat.le_of_ble_eq_true rfl, bl_MC_mono (c_Tape_readClause (d := d) ht ha' hat ku1 ku2 hC hn hw1 rfl (c := kk) ⟨k1, k2, k3⟩) (fun o72 σ72 q72 => ?_)⟩
                       rcases q72 with ⟨S2, j2, I2, p2, rfl, rfl, hF2, hC2⟩ | ⟨k, p', a', p2, rfl, rfl⟩
                       · rw [hB] at p2
                         have hj2 := pcl_le hw1 p2
                         have hB2 : I2 (t + 1) = I (t + 1) := (hF2 _ (by omega) (by omega)).trans hB
                         refine bl_go oX8_readKitchen 80 [6] rfl ?_
                         refine ⟨fun h75 => ?_, fun h75 => ?_⟩
                         · try simp (disch := omega) only [tp4, tp6, zI_n, zI_o, zI_lit, zI_neg, zI_add, zI_sub, zI_mul, zI_lt, zI_le, zI_eq, zI_clamp, zI_in, zI_div, zI_rem, lg_lt0, lg_gt0, lg_eq0, lg_le0, lg_ge0, Int.toNat_natCast, ge_iff_le, gt_iff_lt, List.length_cons, List.length_nil, bl_up2_at, bl_up2_nk, bl_up2_nx] at h75
                           first
                           | (exfalso; first | omega | exact h75 trivial)
                           | (refine ⟨(fun _ => by first | exact Or.inl rfl | exact Or.inr rfl), ?_⟩
                              try show _ ∧ _
                              try dsimp only [bl_pv]
                              first
                              | (have hq := p3
                                 refine Or.inr ⟨k, p', I2, _, _, ?_, rfl, rfl, fun x x1 x2 x3 => (hF2 x x1 x2).trans (hF x x1 x2 x3)⟩
                                 rw [if_neg (by omega), if_neg (by simp (disch := omega) only [zI_n, zI_o, zI_lit, zI_neg, zI_add, zI_sub, zI_mul, zI_lt, zI_le, zI_eq, zI_clamp, zI_in, zI_div, zI_rem, lg_lt0, lg_gt0, lg_eq0, lg_le0, lg_ge0, Int.toNat_natCast, ge_iff_le, gt_iff_lt, List.length_cons, List.length_nil, bl_up2_at, bl_up2_nk, bl_up2_nx]; omega), if_neg (by omega)]
                                 simp only [pbd, p2, p3])
                              | (refine Or.inr ⟨k, p', I1, _, _, ?_, rfl, rfl, hF⟩
                                 rw [if_neg (by omega), if_neg (by simp (disch := omega) only [zI_n, zI_o, zI_lit, zI_neg, zI_add, zI_sub, zI_mul, zI_lt, zI_le, zI_eq, zI_clamp, zI_in, zI_div, zI_rem, lg_lt0, lg_gt0, lg_eq0, lg_le0, lg_ge0, Int.toNat_natCast, ge_iff_le, gt_iff_lt, List.length_cons, List.length_nil, bl_up2_at, bl_up2_nk, bl_up2_nx]; omega), if_neg (by omega)]
                                 simp only [pbd, p2]))
                         · try simp (disch := omega) only [tp4, tp6, zI_n, zI_o, zI_lit, zI_neg, zI_add, zI_sub, zI_mul, zI_lt, zI_le, zI_eq, zI_clamp, zI_in, zI_div, zI_rem, lg_lt0, lg_gt0, lg_eq0, lg_le0, lg_ge0, Int.toNat_natCast, ge_iff_le, gt_iff_lt, List.length_cons, List.length_nil, bl_up2_at, bl_up2_nk, bl_up2_nx] at h75
                           first
                           | (exfalso; first | omega | exact h75 trivial)
                           | (refine ⟨rfl, rfl, kt, (Nat.le_of_ble_eq_true rfl), (0, 0), Nat.le_of_ble_eq_true rfl, Nat.le_of_ble_eq_true rfl, bl_MC_mono (c_Tape_readEnd (d := d + 2) ht hn hj2) (fun o79 σ79 q79 => ?_)⟩
                              rcases q79 with ⟨j3, p3, rfl, rfl⟩ | ⟨k, p', a', p3, rfl, rfl⟩
                              · rw [hB2] at p3
                                refine bl_go oX8_readKitchen 80 [6] rfl ?_
                                refine ⟨fun h82 => ?_, fun h82 => ?_⟩
                                · try simp (disch := omega) only [tp4, tp6, zI_n, zI_o, zI_lit, zI_neg, zI_add, zI_sub, zI_mul, zI_lt, zI_le, zI_eq, zI_clamp, zI_in, zI_div, zI_rem, lg_lt0, lg_gt0, lg_eq0, lg_le0, lg_ge0, Int.toNat_natCast, ge_iff_le, gt_iff_lt, List.length_cons, List.length_nil, bl_up2_at, bl_up2_nk, bl_up2_nx] at h82
                                  first
                                  | (exfalso; first | omega | exact h82 trivial)
                                  | (refine bl_lv [0, 2, 3] rfl ?_
                                     try dsimp only [bl_pv]
                                     have := ih (c + 1) (by omega) j3 (pend_le p3) S2 I2 (nI p) _ (nI_1 c) hC2 (fun x x1 x2 x3 => (hF2 x x1 x2).trans (hF x x1 x2 x3))
                                     refine bl_WP_mono this (fun o σ' hq => ?_)
                                     rw [if_neg (by omega), if_neg (by simp (disch := omega) only [zI_n, zI_o, zI_lit, zI_neg, zI_add, zI_sub, zI_mul, zI_lt, zI_le, zI_eq, zI_clamp, zI_in, zI_div, zI_rem, lg_lt0, lg_gt0, lg_eq0, lg_le0, lg_ge0, Int.toNat_natCast, ge_iff_le, gt_iff_lt, List.length_cons, List.length_nil, bl_up2_at, bl_up2_nk, bl_up2_nx]; omega), if_neg (by omega)]
                                     simp only [pbd, p2, p3]
                                     exact hq)
                                · try simp (disch := omega) only [tp4, tp6, zI_n, zI_o, zI_lit, zI_neg, zI_add, zI_sub, zI_mul, zI_lt, zI_le, zI_eq, zI_clamp, zI_in, zI_div, zI_rem, lg_lt0, lg_gt0, lg_eq0, lg_le0, lg_ge0, Int.toNat_natCast, ge_iff_le, gt_iff_lt, List.length_cons, List.length_nil, bl_up2_at, bl_up2_nk, bl_up2_nx] at h82
                                  first
                                  | (exfalso; first | omega | exact h82 trivial)
                                  | (refine ⟨(fun _ => by first | exact Or.inl rfl | exact Or.inr rfl), ?_⟩
                                     try show _ ∧ _
                                     try dsimp only [bl_pv]
                                     first
                                     | (have hq := p3
                                        refine Or.inr ⟨k, p', I2, _, _, ?_, rfl, rfl, fun x x1 x2 x3 => (hF2 x x1 x2).trans (hF x x1 x2 x3)⟩
                                        rw [if_neg (by omega), if_neg (by simp (disch := omega) only [zI_n, zI_o, zI_lit, zI_neg, zI_add, zI_sub, zI_mul, zI_lt, zI_le, zI_eq, zI_clamp, zI_in, zI_div, zI_rem, lg_lt0, lg_gt0, lg_eq0, lg_le0, lg_ge0, Int.toNat_natCast, ge_iff_le, gt_iff_lt, List.length_cons, List.length_nil, bl_up2_at, bl_up2_nk, bl_up2_nx]; omega), if_neg (by omega)]
                                        simp only [pbd, p2, p3])
                                     | (refine Or.inr ⟨k, p', I1, _, _, ?_, rfl, rfl, hF⟩
                                        rw [if_neg (by omega), if_neg (by simp (disch := omega) only [zI_n, zI_o, zI_lit, zI_neg, zI_add, zI_sub, zI_mul, zI_lt, zI_le, zI_eq, zI_clamp, zI_in, zI_div, zI_rem, lg_lt0, lg_gt0, lg_eq0, lg_le0, lg_ge0, Int.toNat_natCast, ge_iff_le, gt_iff_lt, List.length_cons, List.length_nil, bl_up2_at, bl_up2_nk, bl_up2_nx]; omega), if_neg (by omega)]
                                        simp only [pbd, p2]))
                              · rw [hB2] at p3
                                refine bl_go oX8_readKitchen 80 [6] rfl ?_
                                refine ⟨fun h82 => ?_, fun h82 => ?_⟩
                                · try simp (disch := omega) only [tp4, tp6, zI_n, zI_o, zI_lit, zI_neg, zI_add, zI_sub, zI_mul, zI_lt, zI_le, zI_eq, zI_clamp, zI_in, zI_div, zI_rem, lg_lt0, lg_gt0, lg_eq0, lg_le0, lg_ge0, Int.toNat_natCast, ge_iff_le, gt_iff_lt, List.length_cons, List.length_nil, bl_up2_at, bl_up2_nk, bl_up2_nx] at h82
                                  first
                                  | (exfalso; first | omega | exact h82 trivial)
                                  | (refine bl_lv [0, 2, 3] rfl ?_
                                     try dsimp only [bl_pv]
                                     have := ih (c + 1) (by omega) j3 (pend_le p3) S2 I2 (nI p) _ (nI_1 c) hC2 (fun x x1 x2 x3 => (hF2 x x1 x2).trans (hF x x1 x2 x3))
                                     refine bl_WP_mono this (fun o σ' hq => ?_)
                                     rw [if_neg (by omega), if_neg (by simp (disch := omega) only [zI_n, zI_o, zI_lit, zI_neg, zI_add, zI_sub, zI_mul, zI_lt, zI_le, zI_eq, zI_clamp, zI_in, zI_div, zI_rem, lg_lt0, lg_gt0, lg_eq0, lg_le0, lg_ge0, Int.toNat_natCast, ge_iff_le, gt_iff_lt, List.length_cons, List.length_nil, bl_up2_at, bl_up2_nk, bl_up2_nx]; omega), if_neg (by omega)]
                                     simp only [pbd, p2, p3]
                                     exact hq)
                                · try simp (disch := omega) only [tp4, tp6, zI_n, zI_o, zI_lit, zI_neg, zI_add, zI_sub, zI_mul, zI_lt, zI_le, zI_eq, zI_clamp, zI_in, zI_div, zI_rem, lg_lt0, lg_gt0, lg_eq0, lg_le0, lg_ge0, Int.toNat_natCast, ge_iff_le, gt_iff_lt, List.length_cons, List.length_nil, bl_up2_at, bl_up2_nk, bl_up2_nx] at h82
                                  first
                                  | (exfalso; first | omega | exact h82 trivial)
                                  | (refine ⟨(fun _ => by first | exact Or.inl rfl | exact Or.inr rfl), ?_⟩
                                     try show _ ∧ _
                                     try dsimp only [bl_pv]
                                     first
                                     | (have hq := p3
                                        refine Or.inr ⟨k, p', I2, _, _, ?_, rfl, rfl, fun x x1 x2 x3 => (hF2 x x1 x2).trans (hF x x1 x2 x3)⟩
                                        rw [if_neg (by omega), if_neg (by simp (disch := omega) only [zI_n, zI_o, zI_lit, zI_neg, zI_add, zI_sub, zI_mul, zI_lt, zI_le, zI_eq, zI_clamp, zI_in, zI_div, zI_rem, lg_lt0, lg_gt0, lg_eq0, lg_le0, lg_ge0, Int.toNat_natCast, ge_iff_le, gt_iff_lt, List.length_cons, List.length_nil, bl_up2_at, bl_up2_nk, bl_up2_nx]; omega), if_neg (by omega)]
                                        simp only [pbd, p2, p3])
                                     | (refine Or.inr ⟨k, p', I1, _, _, ?_, rfl, rfl, hF⟩
                                        rw [if_neg (by omega), if_neg (by simp (disch := omega) only [zI_n, zI_o, zI_lit, zI_neg, zI_add, zI_sub, zI_mul, zI_lt, zI_le, zI_eq, zI_clamp, zI_in, zI_div, zI_rem, lg_lt0, lg_gt0, lg_eq0, lg_le0, lg_ge0, Int.toNat_natCast, ge_iff_le, gt_iff_lt, List.length_cons, List.length_nil, bl_up2_at, bl_up2_nk, bl_up2_nx]; omega), if_neg (by omega)]
                                        simp only [pbd, p2])))
                       · rw [hB] at p2
                         refine bl_go oX8_readKitchen 80 [6] rfl ?_
                         refine ⟨fun h75 => ?_, fun h75 => ?_⟩
                         · try simp (disch := omega) only [tp4, tp6, zI_n, zI_o, zI_lit, zI_neg, zI_add, zI_sub, zI_mul, zI_lt, zI_le, zI_eq, zI_clamp, zI_in, zI_div, zI_rem, lg_lt0, lg_gt0, lg_eq0, lg_le0, lg_ge0, Int.toNat_natCast, ge_iff_le, gt_iff_lt, List.length_cons, List.length_nil, bl_up2_at, bl_up2_nk, bl_up2_nx] at h75
                           first
                           | (exfalso; first | omega | exact h75 trivial)
                           | (refine ⟨(fun _ => by first | exact Or.inl rfl | exact Or.inr rfl), ?_⟩
                              try show _ ∧ _
                              try dsimp only [bl_pv]
                              first
                              | (have hq := p3
                                 refine Or.inr ⟨k, p', I2, _, _, ?_, rfl, rfl, fun x x1 x2 x3 => (hF2 x x1 x2).trans (hF x x1 x2 x3)⟩
                                 rw [if_neg (by omega), if_neg (by simp (disch := omega) only [zI_n, zI_o, zI_lit, zI_neg, zI_add, zI_sub, zI_mul, zI_lt, zI_le, zI_eq, zI_clamp, zI_in, zI_div, zI_rem, lg_lt0, lg_gt0, lg_eq0, lg_le0, lg_ge0, Int.toNat_natCast, ge_iff_le, gt_iff_lt, List.length_cons, List.length_nil, bl_up2_at, bl_up2_nk, bl_up2_nx]; omega), if_neg (by omega)]
                                 simp only [pbd, p2, p3])
                              | (refine Or.inr ⟨k, p', I1, _, _, ?_, rfl, rfl, hF⟩
                                 rw [if_neg (by omega), if_neg (by simp (disch := omega) only [zI_n, zI_o, zI_lit, zI_neg, zI_add, zI_sub, zI_mul, zI_lt, zI_le, zI_eq, zI_clamp, zI_in, zI_div, zI_rem, lg_lt0, lg_gt0, lg_eq0, lg_le0, lg_ge0, Int.toNat_natCast, ge_iff_le, gt_iff_lt, List.length_cons, List.length_nil, bl_up2_at, bl_up2_nk, bl_up2_nx]; omega), if_neg (by omega)]
                                 simp only [pbd, p2]))
                         · try simp (disch := omega) only [tp4, tp6, zI_n, zI_o, zI_lit, zI_neg, zI_add, zI_sub, zI_mul, zI_lt, zI_le, zI_eq, zI_clamp, zI_in, zI_div, zI_rem, lg_lt0, lg_gt0, lg_eq0, lg_le0, lg_ge0, Int.toNat_natCast, ge_iff_le, gt_iff_lt, List.length_cons, List.length_nil, bl_up2_at, bl_up2_nk, bl_up2_nx] at h75
                           first
                           | (exfalso; first | omega | exact h75 trivial)
                           | (refine ⟨rfl, rfl, kt, (Nat.le_of_ble_eq_true rfl), (0, 0), Nat.le_of_ble_eq_true rfl, Nat.le_of_ble_eq_true rfl, bl_MC_mono (c_Tape_readEnd (d := d + 2) ht hn hj2) (fun o79 σ79 q79 => ?_)⟩
                              rcases q79 with ⟨j3, p3, rfl, rfl⟩ | ⟨k, p', a', p3, rfl, rfl⟩
                              · rw [hB2] at p3
                                refine bl_go oX8_readKitchen 80 [6] rfl ?_
                                refine ⟨fun h82 => ?_, fun h82 => ?_⟩
                                · try simp (disch := omega) only [tp4, tp6, zI_n, zI_o, zI_lit, zI_neg, zI_add, zI_sub, zI_mul, zI_lt, zI_le, zI_eq, zI_clamp, zI_in, zI_div, zI_rem, lg_lt0, lg_gt0, lg_eq0, lg_le0, lg_ge0, Int.toNat_natCast, ge_iff_le, gt_iff_lt, List.length_cons, List.length_nil, bl_up2_at, bl_up2_nk, bl_up2_nx] at h82
                                  first
                                  | (exfalso; first | omega | exact h82 trivial)
                                  | (refine bl_lv [0, 2, 3] rfl ?_
                                     try dsimp only [bl_pv]
                                     have := ih (c + 1) (by omega) j3 (pend_le p3) S2 I2 (nI p) _ (nI_1 c) hC2 (fun x x1 x2 x3 => (hF2 x x1 x2).trans (hF x x1 x2 x3))
                                     refine bl_WP_mono this (fun o σ' hq => ?_)
                                     rw [if_neg (by omega), if_neg (by simp (disch := omega) only [zI_n, zI_o, zI_lit, zI_neg, zI_add, zI_sub, zI_mul, zI_lt, zI_le, zI_eq, zI_clamp, zI_in, zI_div, zI_rem, lg_lt0, lg_gt0, lg_eq0, lg_le0, lg_ge0, Int.toNat_natCast, ge_iff_le, gt_iff_lt, List.length_cons, List.length_nil, bl_up2_at, bl_up2_nk, bl_up2_nx]; omega), if_neg (by omega)]
                                     simp only [pbd, p2, p3]
                                     exact hq)
                                · try simp (disch := omega) only [tp4, tp6, zI_n, zI_o, zI_lit, zI_neg, zI_add, zI_sub, zI_mul, zI_lt, zI_le, zI_eq, zI_clamp, zI_in, zI_div, zI_rem, lg_lt0, lg_gt0, lg_eq0, lg_le0, lg_ge0, Int.toNat_natCast, ge_iff_le, gt_iff_lt, List.length_cons, List.length_nil, bl_up2_at, bl_up2_nk, bl_up2_nx] at h82
                                  first
                                  | (exfalso; first | omega | exact h82 trivial)
                                  | (refine ⟨(fun _ => by first | exact Or.inl rfl | exact Or.inr rfl), ?_⟩
                                     try show _ ∧ _
                                     try dsimp only [bl_pv]
                                     first
                                     | (have hq := p3
                                        refine Or.inr ⟨k, p', I2, _, _, ?_, rfl, rfl, fun x x1 x2 x3 => (hF2 x x1 x2).trans (hF x x1 x2 x3)⟩
                                        rw [if_neg (by omega), if_neg (by simp (disch := omega) only [zI_n, zI_o, zI_lit, zI_neg, zI_add, zI_sub, zI_mul, zI_lt, zI_le, zI_eq, zI_clamp, zI_in, zI_div, zI_rem, lg_lt0, lg_gt0, lg_eq0, lg_le0, lg_ge0, Int.toNat_natCast, ge_iff_le, gt_iff_lt, List.length_cons, List.length_nil, bl_up2_at, bl_up2_nk, bl_up2_nx]; omega), if_neg (by omega)]
                                        simp only [pbd, p2, p3])
                                     | (refine Or.inr ⟨k, p', I1, _, _, ?_, rfl, rfl, hF⟩
                                        rw [if_neg (by omega), if_neg (by simp (disch := omega) only [zI_n, zI_o, zI_lit, zI_neg, zI_add, zI_sub, zI_mul, zI_lt, zI_le, zI_eq, zI_clamp, zI_in, zI_div, zI_rem, lg_lt0, lg_gt0, lg_eq0, lg_le0, lg_ge0, Int.toNat_natCast, ge_iff_le, gt_iff_lt, List.length_cons, List.length_nil, bl_up2_at, bl_up2_nk, bl_up2_nx]; omega), if_neg (by omega)]
                                        simp only [pbd, p2]))
                              · rw [hB2] at p3
                                refine bl_go oX8_readKitchen 80 [6] rfl ?_
                                refine ⟨fun h82 => ?_, fun h82 => ?_⟩
                                · try simp (disch := omega) only [tp4, tp6, zI_n, zI_o, zI_lit, zI_neg, zI_add, zI_sub, zI_mul, zI_lt, zI_le, zI_eq, zI_clamp, zI_in, zI_div, zI_rem, lg_lt0, lg_gt0, lg_eq0, lg_le0, lg_ge0, Int.toNat_natCast, ge_iff_le, gt_iff_lt, List.length_cons, List.length_nil, bl_up2_at, bl_up2_nk, bl_up2_nx] at h82
                                  first
                                  | (exfalso; first | omega | exact h82 trivial)
                                  | (refine bl_lv [0, 2, 3] rfl ?_
                                     try dsimp only [bl_pv]
                                     have := ih (c + 1) (by omega) j3 (pend_le p3) S2 I2 (nI p) _ (nI_1 c) hC2 (fun x x1 x2 x3 => (hF2 x x1 x2).trans (hF x x1 x2 x3))
                                     refine bl_WP_mono this (fun o σ' hq => ?_)
                                     rw [if_neg (by omega), if_neg (by simp (disch := omega) only [zI_n, zI_o, zI_lit, zI_neg, zI_add, zI_sub, zI_mul, zI_lt, zI_le, zI_eq, zI_clamp, zI_in, zI_div, zI_rem, lg_lt0, lg_gt0, lg_eq0, lg_le0, lg_ge0, Int.toNat_natCast, ge_iff_le, gt_iff_lt, List.length_cons, List.length_nil, bl_up2_at, bl_up2_nk, bl_up2_nx]; omega), if_neg (by omega)]
                                     simp only [pbd, p2, p3]
                                     exact hq)
                                · try simp (disch := omega) only [tp4, tp6, zI_n, zI_o, zI_lit, zI_neg, zI_add, zI_sub, zI_mul, zI_lt, zI_le, zI_eq, zI_clamp, zI_in, zI_div, zI_rem, lg_lt0, lg_gt0, lg_eq0, lg_le0, lg_ge0, Int.toNat_natCast, ge_iff_le, gt_iff_lt, List.length_cons, List.length_nil, bl_up2_at, bl_up2_nk, bl_up2_nx] at h82
                                  first
                                  | (exfalso; first | omega | exact h82 trivial)
                                  | (refine ⟨(fun _ => by first | exact Or.inl rfl | exact Or.inr rfl), ?_⟩
                                     try show _ ∧ _
                                     try dsimp only [bl_pv]
                                     first
                                     | (have hq := p3
                                        refine Or.inr ⟨k, p', I2, _, _, ?_, rfl, rfl, fun x x1 x2 x3 => (hF2 x x1 x2).trans (hF x x1 x2 x3)⟩
                                        rw [if_neg (by omega), if_neg (by simp (disch := omega) only [zI_n, zI_o, zI_lit, zI_neg, zI_add, zI_sub, zI_mul, zI_lt, zI_le, zI_eq, zI_clamp, zI_in, zI_div, zI_rem, lg_lt0, lg_gt0, lg_eq0, lg_le0, lg_ge0, Int.toNat_natCast, ge_iff_le, gt_iff_lt, List.length_cons, List.length_nil, bl_up2_at, bl_up2_nk, bl_up2_nx]; omega), if_neg (by omega)]
                                        simp only [pbd, p2, p3])
                                     | (refine Or.inr ⟨k, p', I1, _, _, ?_, rfl, rfl, hF⟩
                                        rw [if_neg (by omega), if_neg (by simp (disch := omega) only [zI_n, zI_o, zI_lit, zI_neg, zI_add, zI_sub, zI_mul, zI_lt, zI_le, zI_eq, zI_clamp, zI_in, zI_div, zI_rem, lg_lt0, lg_gt0, lg_eq0, lg_le0, lg_ge0, Int.toNat_natCast, ge_iff_le, gt_iff_lt, List.length_cons, List.length_nil, bl_up2_at, bl_up2_nk, bl_up2_nx]; omega), if_neg (by omega)]
                                        simp only [pbd, p2])))
                     · try simp (disch := omega) only [tp4, tp6, zI_n, zI_o, zI_lit, zI_neg, zI_add, zI_sub, zI_mul, zI_lt, zI_le, zI_eq, zI_clamp, zI_in, zI_div, zI_rem, lg_lt0, lg_gt0, lg_eq0, lg_le0, lg_ge0, Int.toNat_natCast, ge_iff_le, gt_iff_lt, List.length_cons, List.length_nil, bl_up2_at, bl_up2_nk, bl_up2_nx] at h56
                       exfalso; omega)
                · try simp (disch := omega) only [tp4, tp6, zI_n, zI_o, zI_lit, zI_neg, zI_add, zI_sub, zI_mul, zI_lt, zI_le, zI_eq, zI_clamp, zI_in, zI_div, zI_rem, lg_lt0, lg_gt0, lg_eq0, lg_le0, lg_ge0, Int.toNat_natCast, ge_iff_le, gt_iff_lt, List.length_cons, List.length_nil, bl_up2_at, bl_up2_nk, bl_up2_nx] at h40
                  first
                  | (exfalso; first | omega | exact h40 trivial)
                  | (refine ⟨kt, rfl, rfl, kt, (Nat.le_of_ble_eq_true rfl), (0, 0), Nat.le_of_ble_eq_true rfl, Nat.le_of_ble_eq_true rfl, bl_MC_mono (c_Tape_refuse (d := d + 3) kt) (fun o49 σ49 q49 => ?_)⟩
                     try dsimp only [bl_pv] at q49
                     obtain ⟨rfl, rfl⟩ := q49
                     refine bl_go oX8_readKitchen 80 [6] rfl ?_
                     refine ⟨(fun _ => by first | exact Or.inl rfl | exact Or.inr rfl), ?_⟩
                     try show _ ∧ _
                     try dsimp only [bl_pv]
                     refine Or.inr ⟨1, p, I1, _, _, by rw [if_neg (by omega), if_pos rfl], rfl, by rw [tp6]; rfl, hF⟩)
              · rw [hk, nI_clamp (show kk < 2147483648 by omega)]
                refine bl_go oX8_readKitchen 80 [6] rfl ?_
                refine ⟨fun h40 => ?_, fun h40 => ?_⟩
                · try simp (disch := omega) only [tp4, tp6, zI_n, zI_o, zI_lit, zI_neg, zI_add, zI_sub, zI_mul, zI_lt, zI_le, zI_eq, zI_clamp, zI_in, zI_div, zI_rem, lg_lt0, lg_gt0, lg_eq0, lg_le0, lg_ge0, Int.toNat_natCast, ge_iff_le, gt_iff_lt, List.length_cons, List.length_nil, bl_up2_at, bl_up2_nk, bl_up2_nx] at h40
                  first
                  | (exfalso; first | omega | exact h40 trivial)
                  | (refine ⟨fun h56 => ?_, fun h56 => ?_⟩
                     · try simp (disch := omega) only [tp4, tp6, zI_n, zI_o, zI_lit, zI_neg, zI_add, zI_sub, zI_mul, zI_lt, zI_le, zI_eq, zI_clamp, zI_in, zI_div, zI_rem, lg_lt0, lg_gt0, lg_eq0, lg_le0, lg_ge0, Int.toNat_natCast, ge_iff_le, gt_iff_lt, List.length_cons, List.length_nil, bl_up2_at, bl_up2_nk, bl_up2_nx] at h56
                       refine ⟨rfl, rfl, kt, (Nat.le_of_ble_eq_true rfl), (0, 0), Nat.le_of_ble_eq_true rfl, Nat.le_of_ble_eq_true rfl, bl_MC_mono (c_Tape_readClause (d := d) ht ha' hat ku1 ku2 hC hn hw1 rfl (c := kk) ⟨k1, k2, k3⟩) (fun o72 σ72 q72 => ?_)⟩
                       rcases q72 with ⟨S2, j2, I2, p2, rfl, rfl, hF2, hC2⟩ | ⟨k, p', a', p2, rfl, rfl⟩
                       · rw [hB] at p2
                         have hj2 := pcl_le hw1 p2
                         have hB2 : I2 (t + 1) = I (t + 1) := (hF2 _ (by omega) (by omega)).trans hB
                         refine bl_go oX8_readKitchen 80 [6] rfl ?_
                         refine ⟨fun h75 => ?_, fun h75 => ?_⟩
                         · try simp (disch := omega) only [tp4, tp6, zI_n, zI_o, zI_lit, zI_neg, zI_add, zI_sub, zI_mul, zI_lt, zI_le, zI_eq, zI_clamp, zI_in, zI_div, zI_rem, lg_lt0, lg_gt0, lg_eq0, lg_le0, lg_ge0, Int.toNat_natCast, ge_iff_le, gt_iff_lt, List.length_cons, List.length_nil, bl_up2_at, bl_up2_nk, bl_up2_nx] at h75
                           first
                           | (exfalso; first | omega | exact h75 trivial)
                           | (refine ⟨(fun _ => by first | exact Or.inl rfl | exact Or.inr rfl), ?_⟩
                              try show _ ∧ _
                              try dsimp only [bl_pv]
                              first
                              | (have hq := p3
                                 refine Or.inr ⟨k, p', I2, _, _, ?_, rfl, rfl, fun x x1 x2 x3 => (hF2 x x1 x2).trans (hF x x1 x2 x3)⟩
                                 rw [if_neg (by omega), if_neg (by simp (disch := omega) only [zI_n, zI_o, zI_lit, zI_neg, zI_add, zI_sub, zI_mul, zI_lt, zI_le, zI_eq, zI_clamp, zI_in, zI_div, zI_rem, lg_lt0, lg_gt0, lg_eq0, lg_le0, lg_ge0, Int.toNat_natCast, ge_iff_le, gt_iff_lt, List.length_cons, List.length_nil, bl_up2_at, bl_up2_nk, bl_up2_nx]; omega), if_neg (by omega)]
                                 simp only [pbd, p2, p3])
                              | (refine Or.inr ⟨k, p', I1, _, _, ?_, rfl, rfl, hF⟩
                                 rw [if_neg (by omega), if_neg (by simp (disch := omega) only [zI_n, zI_o, zI_lit, zI_neg, zI_add, zI_sub, zI_mul, zI_lt, zI_le, zI_eq, zI_clamp, zI_in, zI_div, zI_rem, lg_lt0, lg_gt0, lg_eq0, lg_le0, lg_ge0, Int.toNat_natCast, ge_iff_le, gt_iff_lt, List.length_cons, List.length_nil, bl_up2_at, bl_up2_nk, bl_up2_nx]; omega), if_neg (by omega)]
                                 simp only [pbd, p2]))
                         · try simp (disch := omega) only [tp4, tp6, zI_n, zI_o, zI_lit, zI_neg, zI_add, zI_sub, zI_mul, zI_lt, zI_le, zI_eq, zI_clamp, zI_in, zI_div, zI_rem, lg_lt0, lg_gt0, lg_eq0, lg_le0, lg_ge0, Int.toNat_natCast, ge_iff_le, gt_iff_lt, List.length_cons, List.length_nil, bl_up2_at, bl_up2_nk, bl_up2_nx] at h75
                           first
                           | (exfalso; first | omega | exact h75 trivial)
                           | (refine ⟨rfl, rfl, kt, (Nat.le_of_ble_eq_true rfl), (0, 0), Nat.le_of_ble_eq_true rfl, Nat.le_of_ble_eq_true rfl, bl_MC_mono (c_Tape_readEnd (d := d + 2) ht hn hj2) (fun o79 σ79 q79 => ?_)⟩
                              rcases q79 with ⟨j3, p3, rfl, rfl⟩ | ⟨k, p', a', p3, rfl, rfl⟩
                              · rw [hB2] at p3
                                refine bl_go oX8_readKitchen 80 [6] rfl ?_
                                refine ⟨fun h82 => ?_, fun h82 => ?_⟩
                                · try simp (disch := omega) only [tp4, tp6, zI_n, zI_o, zI_lit, zI_neg, zI_add, zI_sub, zI_mul, zI_lt, zI_le, zI_eq, zI_clamp, zI_in, zI_div, zI_rem, lg_lt0, lg_gt0, lg_eq0, lg_le0, lg_ge0, Int.toNat_natCast, ge_iff_le, gt_iff_lt, List.length_cons, List.length_nil, bl_up2_at, bl_up2_nk, bl_up2_nx] at h82
                                  first
                                  | (exfalso; first | omega | exact h82 trivial)
                                  | (refine bl_lv [0, 2, 3] rfl ?_
                                     try dsimp only [bl_pv]
                                     have := ih (c + 1) (by omega) j3 (pend_le p3) S2 I2 (nI p) _ (nI_1 c) hC2 (fun x x1 x2 x3 => (hF2 x x1 x2).trans (hF x x1 x2 x3))
                                     refine bl_WP_mono this (fun o σ' hq => ?_)
                                     rw [if_neg (by omega), if_neg (by simp (disch := omega) only [zI_n, zI_o, zI_lit, zI_neg, zI_add, zI_sub, zI_mul, zI_lt, zI_le, zI_eq, zI_clamp, zI_in, zI_div, zI_rem, lg_lt0, lg_gt0, lg_eq0, lg_le0, lg_ge0, Int.toNat_natCast, ge_iff_le, gt_iff_lt, List.length_cons, List.length_nil, bl_up2_at, bl_up2_nk, bl_up2_nx]; omega), if_neg (by omega)]
                                     simp only [pbd, p2, p3]
                                     exact hq)
                                · try simp (disch := omega) only [tp4, tp6, zI_n, zI_o, zI_lit, zI_neg, zI_add, zI_sub, zI_mul, zI_lt, zI_le, zI_eq, zI_clamp, zI_in, zI_div, zI_rem, lg_lt0, lg_gt0, lg_eq0, lg_le0, lg_ge0, Int.toNat_natCast, ge_iff_le, gt_iff_lt, List.length_cons, List.length_nil, bl_up2_at, bl_up2_nk, bl_up2_nx] at h82
                                  first
                                  | (exfalso; first | omega | exact h82 trivial)
                                  | (refine ⟨(fun _ => by first | exact Or.inl rfl | exact Or.inr rfl), ?_⟩
                                     try show _ ∧ _
                                     try dsimp only [bl_pv]
                                     first
                                     | (have hq := p3
                                        refine Or.inr ⟨k, p', I2, _, _, ?_, rfl, rfl, fun x x1 x2 x3 => (hF2 x x1 x2).trans (hF x x1 x2 x3)⟩
                                        rw [if_neg (by omega), if_neg (by simp (disch := omega) only [zI_n, zI_o, zI_lit, zI_neg, zI_add, zI_sub, zI_mul, zI_lt, zI_le, zI_eq, zI_clamp, zI_in, zI_div, zI_rem, lg_lt0, lg_gt0, lg_eq0, lg_le0, lg_ge0, Int.toNat_natCast, ge_iff_le, gt_iff_lt, List.length_cons, List.length_nil, bl_up2_at, bl_up2_nk, bl_up2_nx]; omega), if_neg (by omega)]
                                        simp only [pbd, p2, p3])
                                     | (refine Or.inr ⟨k, p', I1, _, _, ?_, rfl, rfl, hF⟩
                                        rw [if_neg (by omega), if_neg (by simp (disch := omega) only [zI_n, zI_o, zI_lit, zI_neg, zI_add, zI_sub, zI_mul, zI_lt, zI_le, zI_eq, zI_clamp, zI_in, zI_div, zI_rem, lg_lt0, lg_gt0, lg_eq0, lg_le0, lg_ge0, Int.toNat_natCast, ge_iff_le, gt_iff_lt, List.length_cons, List.length_nil, bl_up2_at, bl_up2_nk, bl_up2_nx]; omega), if_neg (by omega)]
                                        simp only [pbd, p2]))
                              · rw [hB2] at p3
                                refine bl_go oX8_readKitchen 80 [6] rfl ?_
                                refine ⟨fun h82 => ?_, fun h82 => ?_⟩
                                · try simp (disch := omega) only [tp4, tp6, zI_n, zI_o, zI_lit, zI_neg, zI_add, zI_sub, zI_mul, zI_lt, zI_le, zI_eq, zI_clamp, zI_in, zI_div, zI_rem, lg_lt0, lg_gt0, lg_eq0, lg_le0, lg_ge0, Int.toNat_natCast, ge_iff_le, gt_iff_lt, List.length_cons, List.length_nil, bl_up2_at, bl_up2_nk, bl_up2_nx] at h82
                                  first
                                  | (exfalso; first | omega | exact h82 trivial)
                                  | (refine bl_lv [0, 2, 3] rfl ?_
                                     try dsimp only [bl_pv]
                                     have := ih (c + 1) (by omega) j3 (pend_le p3) S2 I2 (nI p) _ (nI_1 c) hC2 (fun x x1 x2 x3 => (hF2 x x1 x2).trans (hF x x1 x2 x3))
                                     refine bl_WP_mono this (fun o σ' hq => ?_)
                                     rw [if_neg (by omega), if_neg (by simp (disch := omega) only [zI_n, zI_o, zI_lit, zI_neg, zI_add, zI_sub, zI_mul, zI_lt, zI_le, zI_eq, zI_clamp, zI_in, zI_div, zI_rem, lg_lt0, lg_gt0, lg_eq0, lg_le0, lg_ge0, Int.toNat_natCast, ge_iff_le, gt_iff_lt, List.length_cons, List.length_nil, bl_up2_at, bl_up2_nk, bl_up2_nx]; omega), if_neg (by omega)]
                                     simp only [pbd, p2, p3]
                                     exact hq)
                                · try simp (disch := omega) only [tp4, tp6, zI_n, zI_o, zI_lit, zI_neg, zI_add, zI_sub, zI_mul, zI_lt, zI_le, zI_eq, zI_clamp, zI_in, zI_div, zI_rem, lg_lt0, lg_gt0, lg_eq0, lg_le0, lg_ge0, Int.toNat_natCast, ge_iff_le, gt_iff_lt, List.length_cons, List.length_nil, bl_up2_at, bl_up2_nk, bl_up2_nx] at h82
                                  first
                                  | (exfalso; first | omega | exact h82 trivial)
                                  | (refine ⟨(fun _ => by first | exact Or.inl rfl | exact Or.inr rfl), ?_⟩
                                     try show _ ∧ _
                                     try dsimp only [bl_pv]
                                     first
                                     | (have hq := p3
                                        refine Or.inr ⟨k, p', I2, _, _, ?_, rfl, rfl, fun x x1 x2 x3 => (hF2 x x1 x2).trans (hF x x1 x2 x3)⟩
                                        rw [if_neg (by omega), if_neg (by simp (disch := omega) only [zI_n, zI_o, zI_lit, zI_neg, zI_add, zI_sub, zI_mul, zI_lt, zI_le, zI_eq, zI_clamp, zI_in, zI_div, zI_rem, lg_lt0, lg_gt0, lg_eq0, lg_le0, lg_ge0, Int.toNat_natCast, ge_iff_le, gt_iff_lt, List.length_cons, List.length_nil, bl_up2_at, bl_up2_nk, bl_up2_nx]; omega), if_neg (by omega)]
                                        simp only [pbd, p2, p3])
                                     | (refine Or.inr ⟨k, p', I1, _, _, ?_, rfl, rfl, hF⟩
                                        rw [if_neg (by omega), if_neg (by simp (disch := omega) only [zI_n, zI_o, zI_lit, zI_neg, zI_add, zI_sub, zI_mul, zI_lt, zI_le, zI_eq, zI_clamp, zI_in, zI_div, zI_rem, lg_lt0, lg_gt0, lg_eq0, lg_le0, lg_ge0, Int.toNat_natCast, ge_iff_le, gt_iff_lt, List.length_cons, List.length_nil, bl_up2_at, bl_up2_nk, bl_up2_nx]; omega), if_neg (by omega)]
                                        simp only [pbd, p2])))
                       · rw [hB] at p2
                         refine bl_go oX8_readKitchen 80 [6] rfl ?_
                         refine ⟨fun h75 => ?_, fun h75 => ?_⟩
                         · try simp (disch := omega) only [tp4, tp6, zI_n, zI_o, zI_lit, zI_neg, zI_add, zI_sub, zI_mul, zI_lt, zI_le, zI_eq, zI_clamp, zI_in, zI_div, zI_rem, lg_lt0, lg_gt0, lg_eq0, lg_le0, lg_ge0, Int.toNat_natCast, ge_iff_le, gt_iff_lt, List.length_cons, List.length_nil, bl_up2_at, bl_up2_nk, bl_up2_nx] at h75
                           first
                           | (exfalso; first | omega | exact h75 trivial)
                           | (refine ⟨(fun _ => by first | exact Or.inl rfl | exact Or.inr rfl), ?_⟩
                              try show _ ∧ _
                              try dsimp only [bl_pv]
                              first
                              | (have hq := p3
                                 refine Or.inr ⟨k, p', I2, _, _, ?_, rfl, rfl, fun x x1 x2 x3 => (hF2 x x1 x2).trans (hF x x1 x2 x3)⟩
                                 rw [if_neg (by omega), if_neg (by simp (disch := omega) only [zI_n, zI_o, zI_lit, zI_neg, zI_add, zI_sub, zI_mul, zI_lt, zI_le, zI_eq, zI_clamp, zI_in, zI_div, zI_rem, lg_lt0, lg_gt0, lg_eq0, lg_le0, lg_ge0, Int.toNat_natCast, ge_iff_le, gt_iff_lt, List.length_cons, List.length_nil, bl_up2_at, bl_up2_nk, bl_up2_nx]; omega), if_neg (by omega)]
                                 simp only [pbd, p2, p3])
                              | (refine Or.inr ⟨k, p', I1, _, _, ?_, rfl, rfl, hF⟩
                                 rw [if_neg (by omega), if_neg (by simp (disch := omega) only [zI_n, zI_o, zI_lit, zI_neg, zI_add, zI_sub, zI_mul, zI_lt, zI_le, zI_eq, zI_clamp, zI_in, zI_div, zI_rem, lg_lt0, lg_gt0, lg_eq0, lg_le0, lg_ge0, Int.toNat_natCast, ge_iff_le, gt_iff_lt, List.length_cons, List.length_nil, bl_up2_at, bl_up2_nk, bl_up2_nx]; omega), if_neg (by omega)]
                                 simp only [pbd, p2]))
                         · try simp (disch := omega) only [tp4, tp6, zI_n, zI_o, zI_lit, zI_neg, zI_add, zI_sub, zI_mul, zI_lt, zI_le, zI_eq, zI_clamp, zI_in, zI_div, zI_rem, lg_lt0, lg_gt0, lg_eq0, lg_le0, lg_ge0, Int.toNat_natCast, ge_iff_le, gt_iff_lt, List.length_cons, List.length_nil, bl_up2_at, bl_up2_nk, bl_up2_nx] at h75
                           first
                           | (exfalso; first | omega | exact h75 trivial)
                           | (refine ⟨rfl, rfl, kt, (Nat.le_of_ble_eq_true rfl), (0, 0), Nat.le_of_ble_eq_true rfl, Nat.le_of_ble_eq_true rfl, bl_MC_mono (c_Tape_readEnd (d := d + 2) ht hn hj2) (fun o79 σ79 q79 => ?_)⟩
                              rcases q79 with ⟨j3, p3, rfl, rfl⟩ | ⟨k, p', a', p3, rfl, rfl⟩
                              · rw [hB2] at p3
                                refine bl_go oX8_readKitchen 80 [6] rfl ?_
                                refine ⟨fun h82 => ?_, fun h82 => ?_⟩
                                · try simp (disch := omega) only [tp4, tp6, zI_n, zI_o, zI_lit, zI_neg, zI_add, zI_sub, zI_mul, zI_lt, zI_le, zI_eq, zI_clamp, zI_in, zI_div, zI_rem, lg_lt0, lg_gt0, lg_eq0, lg_le0, lg_ge0, Int.toNat_natCast, ge_iff_le, gt_iff_lt, List.length_cons, List.length_nil, bl_up2_at, bl_up2_nk, bl_up2_nx] at h82
                                  first
                                  | (exfalso; first | omega | exact h82 trivial)
                                  | (refine bl_lv [0, 2, 3] rfl ?_
                                     try dsimp only [bl_pv]
                                     have := ih (c + 1) (by omega) j3 (pend_le p3) S2 I2 (nI p) _ (nI_1 c) hC2 (fun x x1 x2 x3 => (hF2 x x1 x2).trans (hF x x1 x2 x3))
                                     refine bl_WP_mono this (fun o σ' hq => ?_)
                                     rw [if_neg (by omega), if_neg (by simp (disch := omega) only [zI_n, zI_o, zI_lit, zI_neg, zI_add, zI_sub, zI_mul, zI_lt, zI_le, zI_eq, zI_clamp, zI_in, zI_div, zI_rem, lg_lt0, lg_gt0, lg_eq0, lg_le0, lg_ge0, Int.toNat_natCast, ge_iff_le, gt_iff_lt, List.length_cons, List.length_nil, bl_up2_at, bl_up2_nk, bl_up2_nx]; omega), if_neg (by omega)]
                                     simp only [pbd, p2, p3]
                                     exact hq)
                                · try simp (disch := omega) only [tp4, tp6, zI_n, zI_o, zI_lit, zI_neg, zI_add, zI_sub, zI_mul, zI_lt, zI_le, zI_eq, zI_clamp, zI_in, zI_div, zI_rem, lg_lt0, lg_gt0, lg_eq0, lg_le0, lg_ge0, Int.toNat_natCast, ge_iff_le, gt_iff_lt, List.length_cons, List.length_nil, bl_up2_at, bl_up2_nk, bl_up2_nx] at h82
                                  first
                                  | (exfalso; first | omega | exact h82 trivial)
                                  | (refine ⟨(fun _ => by first | exact Or.inl rfl | exact Or.inr rfl), ?_⟩
                                     try show _ ∧ _
                                     try dsimp only [bl_pv]
                                     first
                                     | (have hq := p3
                                        refine Or.inr ⟨k, p', I2, _, _, ?_, rfl, rfl, fun x x1 x2 x3 => (hF2 x x1 x2).trans (hF x x1 x2 x3)⟩
                                        rw [if_neg (by omega), if_neg (by simp (disch := omega) only [zI_n, zI_o, zI_lit, zI_neg, zI_add, zI_sub, zI_mul, zI_lt, zI_le, zI_eq, zI_clamp, zI_in, zI_div, zI_rem, lg_lt0, lg_gt0, lg_eq0, lg_le0, lg_ge0, Int.toNat_natCast, ge_iff_le, gt_iff_lt, List.length_cons, List.length_nil, bl_up2_at, bl_up2_nk, bl_up2_nx]; omega), if_neg (by omega)]
                                        simp only [pbd, p2, p3])
                                     | (refine Or.inr ⟨k, p', I1, _, _, ?_, rfl, rfl, hF⟩
                                        rw [if_neg (by omega), if_neg (by simp (disch := omega) only [zI_n, zI_o, zI_lit, zI_neg, zI_add, zI_sub, zI_mul, zI_lt, zI_le, zI_eq, zI_clamp, zI_in, zI_div, zI_rem, lg_lt0, lg_gt0, lg_eq0, lg_le0, lg_ge0, Int.toNat_natCast, ge_iff_le, gt_iff_lt, List.length_cons, List.length_nil, bl_up2_at, bl_up2_nk, bl_up2_nx]; omega), if_neg (by omega)]
                                        simp only [pbd, p2]))
                              · rw [hB2] at p3
                                refine bl_go oX8_readKitchen 80 [6] rfl ?_
                                refine ⟨fun h82 => ?_, fun h82 => ?_⟩
                                · try simp (disch := omega) only [tp4, tp6, zI_n, zI_o, zI_lit, zI_neg, zI_add, zI_sub, zI_mul, zI_lt, zI_le, zI_eq, zI_clamp, zI_in, zI_div, zI_rem, lg_lt0, lg_gt0, lg_eq0, lg_le0, lg_ge0, Int.toNat_natCast, ge_iff_le, gt_iff_lt, List.length_cons, List.length_nil, bl_up2_at, bl_up2_nk, bl_up2_nx] at h82
                                  first
                                  | (exfalso; first | omega | exact h82 trivial)
                                  | (refine bl_lv [0, 2, 3] rfl ?_
                                     try dsimp only [bl_pv]
                                     have := ih (c + 1) (by omega) j3 (pend_le p3) S2 I2 (nI p) _ (nI_1 c) hC2 (fun x x1 x2 x3 => (hF2 x x1 x2).trans (hF x x1 x2 x3))
                                     refine bl_WP_mono this (fun o σ' hq => ?_)
                                     rw [if_neg (by omega), if_neg (by simp (disch := omega) only [zI_n, zI_o, zI_lit, zI_neg, zI_add, zI_sub, zI_mul, zI_lt, zI_le, zI_eq, zI_clamp, zI_in, zI_div, zI_rem, lg_lt0, lg_gt0, lg_eq0, lg_le0, lg_ge0, Int.toNat_natCast, ge_iff_le, gt_iff_lt, List.length_cons, List.length_nil, bl_up2_at, bl_up2_nk, bl_up2_nx]; omega), if_neg (by omega)]
                                     simp only [pbd, p2, p3]
                                     exact hq)
                                · try simp (disch := omega) only [tp4, tp6, zI_n, zI_o, zI_lit, zI_neg, zI_add, zI_sub, zI_mul, zI_lt, zI_le, zI_eq, zI_clamp, zI_in, zI_div, zI_rem, lg_lt0, lg_gt0, lg_eq0, lg_le0, lg_ge0, Int.toNat_natCast, ge_iff_le, gt_iff_lt, List.length_cons, List.length_nil, bl_up2_at, bl_up2_nk, bl_up2_nx] at h82
                                  first
                                  | (exfalso; first | omega | exact h82 trivial)
                                  | (refine ⟨(fun _ => by first | exact Or.inl rfl | exact Or.inr rfl), ?_⟩
                                     try show _ ∧ _
                                     try dsimp only [bl_pv]
                                     first
                                     | (have hq := p3
                                        refine Or.inr ⟨k, p', I2, _, _, ?_, rfl, rfl, fun x x1 x2 x3 => (hF2 x x1 x2).trans (hF x x1 x2 x3)⟩
                                        rw [if_neg (by omega), if_neg (by simp (disch := omega) only [zI_n, zI_o, zI_lit, zI_neg, zI_add, zI_sub, zI_mul, zI_lt, zI_le, zI_eq, zI_clamp, zI_in, zI_div, zI_rem, lg_lt0, lg_gt0, lg_eq0, lg_le0, lg_ge0, Int.toNat_natCast, ge_iff_le, gt_iff_lt, List.length_cons, List.length_nil, bl_up2_at, bl_up2_nk, bl_up2_nx]; omega), if_neg (by omega)]
                                        simp only [pbd, p2, p3])
                                     | (refine Or.inr ⟨k, p', I1, _, _, ?_, rfl, rfl, hF⟩
                                        rw [if_neg (by omega), if_neg (by simp (disch := omega) only [zI_n, zI_o, zI_lit, zI_neg, zI_add, zI_sub, zI_mul, zI_lt, zI_le, zI_eq, zI_clamp, zI_in, zI_div, zI_rem, lg_lt0, lg_gt0, lg_eq0, lg_le0, lg_ge0, Int.toNat_natCast, ge_iff_le, gt_iff_lt, List.length_cons, List.length_nil, bl_up2_at, bl_up2_nk, bl_up2_nx]; omega), if_neg (by omega)]
                                        simp only [pbd, p2])))
                     · try simp (disch := omega) only [tp4, tp6, zI_n, zI_o, zI_lit, zI_neg, zI_add, zI_sub, zI_mul, zI_lt, zI_le, zI_eq, zI_clamp, zI_in, zI_div, zI_rem, lg_lt0, lg_gt0, lg_eq0, lg_le0, lg_ge0, Int.toNat_natCast, ge_iff_le, gt_iff_lt, List.length_cons, List.length_nil, bl_up2_at, bl_up2_nk, bl_up2_nx] at h56
                       exfalso; omega)
                · try simp (disch := omega) only [tp4, tp6, zI_n, zI_o, zI_lit, zI_neg, zI_add, zI_sub, zI_mul, zI_lt, zI_le, zI_eq, zI_clamp, zI_in, zI_div, zI_rem, lg_lt0, lg_gt0, lg_eq0, lg_le0, lg_ge0, Int.toNat_natCast, ge_iff_le, gt_iff_lt, List.length_cons, List.length_nil, bl_up2_at, bl_up2_nk, bl_up2_nx] at h40
                  first
                  | (exfalso; first | omega | exact h40 trivial)
                  | (refine ⟨kt, rfl, rfl, kt, (Nat.le_of_ble_eq_true rfl), (0, 0), Nat.le_of_ble_eq_true rfl, Nat.le_of_ble_eq_true rfl, bl_MC_mono (c_Tape_refuse (d := d + 3) kt) (fun o49 σ49 q49 => ?_)⟩
                     try dsimp only [bl_pv] at q49
                     obtain ⟨rfl, rfl⟩ := q49
                     refine bl_go oX8_readKitchen 80 [6] rfl ?_
                     refine ⟨(fun _ => by first | exact Or.inl rfl | exact Or.inr rfl), ?_⟩
                     try show _ ∧ _
                     try dsimp only [bl_pv]
                     refine Or.inr ⟨1, p, I1, _, _, by rw [if_neg (by omega), if_pos rfl], rfl, by rw [tp6]; rfl, hF⟩))
         · try simp (disch := omega) only [tp4, tp6, zI_n, zI_o, zI_lit, zI_neg, zI_add, zI_sub, zI_mul, zI_lt, zI_le, zI_eq, zI_clamp, zI_in, zI_div, zI_rem, lg_lt0, lg_gt0, lg_eq0, lg_le0, lg_ge0, Int.toNat_natCast, ge_iff_le, gt_iff_lt, List.length_cons, List.length_nil, bl_up2_at, bl_up2_nk, bl_up2_nx] at h24
           first
           | (exfalso; first | omega | exact h24 trivial)
           | (refine ⟨rfl, rfl, ka, (Nat.le_of_ble_eq_true rfl), (0, 0), Nat.le_of_ble_eq_true rfl, Nat.le_of_ble_eq_true rfl, bl_MC_mono (c_Kitchen_settleRoom (d := d + 3) ka ra_1 kaq naq ra_2 kag nag (by omega)) (fun o28 σ28 q28 => ?_)⟩
              try dsimp only [bl_pv] at q28
              obtain ⟨rfl, rfl⟩ := q28
              rw [tpI_fill (by omega)]
              refine bl_go oX8_readKitchen 80 [6] rfl ?_
              refine ⟨(fun _ => by first | exact Or.inl rfl | exact Or.inr rfl), ?_⟩
              try show _ ∧ _
              try dsimp only [bl_pv]
              refine Or.inl ⟨S, _, _, _, by rw [if_pos (by omega)], rfl, rfl, fun x x1 x2 x3 => ?_, ⟨fun k hk => ?_, fun k hk => ?_⟩, fun k hk => ?_⟩
              · rw [bl_fill_ne x3]; exact hF x x1 x2 x3
              · rw [bl_fill_ne (by omega)]; exact hC.1 k hk
              · rw [bl_fill_ne (by omega)]; exact hC.2 k hk
              · rw [bl_fill_at hk, tpI_ne (by omega)]; exact rm_deg_congr hC.2 hk))
theorem c_Tape_readKitchen (ht : tpS R K N t) (ha : kiS R K N a) (hat : a + 3 < t ∨ t + 1 < a) (hst : ∀ j, j < 17 → K (950 + j) = 110 + j) (ku0 : K u0 = 100) (ku1 : K u1 = 101) (ku2 : K u2 = 102) (hn : n ≤ 400) : bl_MC G l (d + 4) mX8_readKitchen [.ref t, .ref a] (tpI I t h fk fp (nI n) (nI 0) wa, J, R, K, N) (0, 0) (fun o σ' => (∃ S' I' at' wa', pkit (I (t + 1)) n 31 0 (km_un, fun _ => zI (-1)) 0 = .inl S' ∧ o = .inl (some (.int 1)) ∧ σ' = (tpI I' t h fk fp (nI n) at' wa', J, R, K, N) ∧ (∀ x, x ≠ a + 1 → x ≠ a + 2 → x ≠ a + 3 → I' x = I x) ∧ kC I' a S' ∧ ∀ k, k < 24 → I' (a + 3) k = rm_deg S'.2 k) ∨ (∃ k p I' at' wa', pkit (I (t + 1)) n 31 0 (km_un, fun _ => zI (-1)) 0 = .inr (k, p) ∧ o = .inl (some (.int 0)) ∧ σ' = (tpI I' t h (nI k) (nI p) (nI n) at' wa', J, R, K, N) ∧ (∀ x, x ≠ a + 1 → x ≠ a + 2 → x ≠ a + 3 → I' x = I x))) := by
  have ha' := ha
  obtain ⟨-, ka, ra_0, ra_1, ra_2, ⟨kav, nav⟩, ⟨kaq, naq⟩, ⟨kag, nag⟩⟩ := ha
  refine bl_MC_intro (by decide +kernel) rfl (Nat.le_of_ble_eq_true rfl) ?_
  refine bl_go oX8_readKitchen 80 [6] rfl ?_
  refine ⟨rfl, rfl, ka, (Nat.le_of_ble_eq_true rfl), (0, 0), Nat.le_of_ble_eq_true rfl, Nat.le_of_ble_eq_true rfl, bl_MC_mono (c_Kitchen_clear (d := d + 3) ka ra_0 kav nav ra_1 kaq naq ku0) (fun o1 σ1 q1 => ?_)⟩
  try dsimp only [bl_pv] at q1
  obtain ⟨rfl, rfl⟩ := q1
  rw [tpI_fill (by omega), tpI_fill (by omega)]
  refine bl_go oX8_readKitchen 80 [6] rfl ?_
  try dsimp only [bl_pv]
  refine c_Tape_kitLoop ht ha' hat hst ku1 ku2 hn 30 0 rfl 0 (Nat.zero_le _) (km_un, fun _ => zI (-1)) _ _ _ rfl ⟨fun k hk => ?_, fun k hk => ?_⟩ (fun x x1 x2 x3 => ?_)
  · rw [bl_fill_ne (by omega), bl_fill_at hk]
  · rw [bl_fill_at hk]
  · rw [bl_fill_ne x2, bl_fill_ne x1]
end TAPE4
