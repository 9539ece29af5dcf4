/-! ===== Passes: fewestUnits, waitOf, numbers ===== -/
/-- what a Passes keeps: sound rows; when known, the ways up to now -/
def wsI (I : Nat → Nat → Int32) (q : Nat) (P : pP) : Prop := pIR I q ∧ (I q 11 = 0 ∨ (I q 11 = 1 ∧ ∃ now, now ≤ 118 ∧ I q 6 = nI now ∧ psD I q P ∧ pI I q (We P P.1 now) now 0))
theorem We_all {P : pP} (hP : pPok P) {now p u w c : Nat} (hp : p ≤ 6) (h : Wy P 0 P.1 p u w c) : We P P.1 now p u w c ∨ now + 3 ≤ u := by
  match p with
  | 0 => exact Or.inl ⟨by omega, h⟩
  | p + 1 =>
    obtain ⟨u', w', c', x, a, e, f, g⟩ := h
    by_cases hn : u' < now
    · exact Or.inl ⟨hp, u', w', c', x, a, hn, e, f, g⟩
    · have := (stp_le hP e f).2.1
      exact Or.inr (by omega)
theorem We_sub {P : pP} {now p u w c : Nat} (h : We P P.1 now p u w c) : Wy P 0 P.1 p u w c := by
  match p, h with
  | 0, h => exact h.2
  | p + 1, h =>
    obtain ⟨-, u', w', c', x, a, b, e, f, g⟩ := h
    exact ⟨u', w', c', x, a, e, f, g⟩
section PASSES5
variable {G : bl_G} {l : Launch} {d q a : Nat} {I : Nat → Nat → Int32} {J : Nat → Nat → Int64} {R : Nat → Nat → Option Nat} {K N : Nat → Nat} {tf g : Nat → Nat} {dg : Nat → Int32}
theorem c_Passes_fewestUnits {u0 p : Nat} {x y : Int32} (hq : psS R K N q) (hw : wsI I q (pPk tf g u0)) (ha : kiS R K N a) (hC : kiC I a tf dg) (hg : ∀ h, h < 24 → dg h = nI (g h)) (hO : kiO tf g) (haq : a + 3 < q ∨ q + 6 < a) (hx : x = nI u0) (hu : u0 < 288) (hy : y = nI p) (hp : p ≤ 6) : bl_MC G l (d + 4) mX3_fewestUnits [.ref q, .ref a, .int x, .int y] (I, J, R, K, N) (0, 0) (fun o σ' => ∃ I', σ' = (I', J, R, K, N) ∧ (∀ x, (x < q ∨ q + 6 < x) → I' x = I x) ∧ I' q 11 = 1 ∧ wsI I' q (pPk tf g u0) ∧ ((∃ u c, bestW (pPk tf g u0) p u c ∧ u ≤ 120 ∧ c < 244140625 ∧ o = .inl (some (.int (nI u))) ∧ I' (q + 5) p = nI (c + 1)) ∨ ((∀ u w c, ¬ Wy (pPk tf g u0) 0 (pPk tf g u0).1 p u w c) ∧ o = .inl (some (.int (zI (-1))))))) := by
  have hq' := hq
  obtain ⟨hq0, kq, ⟨rq_0, rq_1, rq_2, rq_3, rq_4, rq_5⟩, ⟨kq1, kq2, kq3, kq4, kq5, kq6⟩, ⟨nq1, nq2, nq3, nq4, nq5, nq6⟩⟩ := hq
  have hP : pPok (pPk tf g u0) := pPk_ok hO
  have ecp : (nI p).toNatClampNeg = p := nI_clamp (by omega)
  subst hx hy
  refine bl_MC_intro (by decide +kernel) rfl (Nat.le_of_ble_eq_true rfl) ?_
  have L : ∀ m now, now + m = 118 → ∀ I1, (∀ x, (x < q ∨ q + 6 < x) → I1 x = I x) → I1 q 11 = 1 → I1 q 6 = nI now → psD I1 q (pPk tf g u0) → pI I1 q (We (pPk tf g u0) (pPk tf g u0).1 now) now 0 → bl_WP G l (d + 4) mX3_fewestUnits 25 [(0, .ref q), (3, .int (nI p))] [] (I1, J, R, K, N) (0, 0) (fun o σ' => ∃ I', σ' = (I', J, R, K, N) ∧ (∀ x, (x < q ∨ q + 6 < x) → I' x = I x) ∧ I' q 11 = 1 ∧ wsI I' q (pPk tf g u0) ∧ ((∃ u c, bestW (pPk tf g u0) p u c ∧ u ≤ 120 ∧ c < 244140625 ∧ o = .inl (some (.int (nI u))) ∧ I' (q + 5) p = nI (c + 1)) ∨ ((∀ u w c, ¬ Wy (pPk tf g u0) 0 (pPk tf g u0).1 p u w c) ∧ o = .inl (some (.int (zI (-1))))))) := by
    intro m
    induction m with
    | zero =>
      intro now hn I1 f1 f11 f6 fD fI
      have h118 : now = 118 := by omega
      subst h118
      have hB := fI.1 p hp
      rcases hB with ⟨b4, b5, hno⟩ | ⟨u, c, b4, b5, ⟨w, hE⟩, hmin⟩
      · skip
        refine bl_go oX3_fewestUnits 80 [25] rfl ?_
        refine ⟨kq, fun h33 => ?_, fun h33 => ?_⟩
        · try simp (disch := omega) only [f6, b4, zI_n, zI_o, zI_lit, zI_neg, zI_add, zI_sub, zI_mul, zI_lt, zI_le, zI_eq, zI_clamp, zI_in, zI_div, zI_rem, lg_lt0, lg_gt0, lg_eq0, lg_le0, lg_ge0, Int.toNat_natCast, ge_iff_le, gt_iff_lt, List.length_cons, List.length_nil, bl_up2_at, bl_up2_nk, bl_up2_nx] at h33
          first
          | (exfalso; first | omega | exact h33 trivial)
          | (refine ⟨kq, _, bl_vs rq_3, Or.inl ⟨kq4, (by first | exact (by rw [nq4]; exact vp_in_nI (by omega) (by omega)) | ((try dsimp only [bl_pv]); show vp_in _ (N _); rw [nq4]; simp (disch := omega) only [f6, b4, zI_n, zI_o, zI_lit, zI_neg, zI_add, zI_sub, zI_mul, zI_lt, zI_le, zI_eq, zI_clamp, zI_in, zI_div, zI_rem, lg_lt0, lg_gt0, lg_eq0, lg_le0, lg_ge0, Int.toNat_natCast, ge_iff_le, gt_iff_lt, List.length_cons, List.length_nil, bl_up2_at, bl_up2_nk, bl_up2_nx] <;> omega)), fun h77 => ?_, fun h77 => ?_⟩⟩
             · try simp (disch := omega) only [f6, b4, zI_n, zI_o, zI_lit, zI_neg, zI_add, zI_sub, zI_mul, zI_lt, zI_le, zI_eq, zI_clamp, zI_in, zI_div, zI_rem, lg_lt0, lg_gt0, lg_eq0, lg_le0, lg_ge0, Int.toNat_natCast, ge_iff_le, gt_iff_lt, List.length_cons, List.length_nil, bl_up2_at, bl_up2_nk, bl_up2_nx] at h77
               first
               | (exfalso; first | omega | exact h77 trivial)
               | (refine ⟨kq, _, bl_vs rq_3, Or.inl ⟨kq4, (by first | exact (by rw [nq4]; exact vp_in_nI (by omega) (by omega)) | ((try dsimp only [bl_pv]); show vp_in _ (N _); rw [nq4]; simp (disch := omega) only [f6, b4, zI_n, zI_o, zI_lit, zI_neg, zI_add, zI_sub, zI_mul, zI_lt, zI_le, zI_eq, zI_clamp, zI_in, zI_div, zI_rem, lg_lt0, lg_gt0, lg_eq0, lg_le0, lg_ge0, Int.toNat_natCast, ge_iff_le, gt_iff_lt, List.length_cons, List.length_nil, bl_up2_at, bl_up2_nk, bl_up2_nx] <;> omega)), (fun h => by cases h), ?_⟩⟩
                  try show _ ∧ _
                  try dsimp only [bl_pv]
                  first
                  | (exfalso; omega)
                  | (refine ⟨I1, rfl, f1, f11, ⟨fI.2.2.1, Or.inr ⟨f11, 118, by omega, f6, fD, fI⟩⟩, Or.inr ⟨fun u w c h => ?_, rfl⟩⟩
                     rcases We_all hP (now := 118) hp h with h' | h'
                     · exact hno u w c h'
                     · rcases (Wy_le hP (by show 10 * tf 4 ≤ 400; have := hO.1; omega) h).2.2.2 with h3 | h3
                       · omega
                       · subst h3; have := h.1; omega))
             · try simp (disch := omega) only [f6, b4, zI_n, zI_o, zI_lit, zI_neg, zI_add, zI_sub, zI_mul, zI_lt, zI_le, zI_eq, zI_clamp, zI_in, zI_div, zI_rem, lg_lt0, lg_gt0, lg_eq0, lg_le0, lg_ge0, Int.toNat_natCast, ge_iff_le, gt_iff_lt, List.length_cons, List.length_nil, bl_up2_at, bl_up2_nk, bl_up2_nx] at h77
               first
               | (exfalso; first | omega | exact h77 trivial)
               | (refine ⟨(fun h => by cases h), ?_⟩
                  try show _ ∧ _
                  try dsimp only [bl_pv]
                  first
                  | (exfalso; omega)
                  | (refine ⟨I1, rfl, f1, f11, ⟨fI.2.2.1, Or.inr ⟨f11, 118, by omega, f6, fD, fI⟩⟩, Or.inr ⟨fun u w c h => ?_, rfl⟩⟩
                     rcases We_all hP (now := 118) hp h with h' | h'
                     · exact hno u w c h'
                     · rcases (Wy_le hP (by show 10 * tf 4 ≤ 400; have := hO.1; omega) h).2.2.2 with h3 | h3
                       · omega
                       · subst h3; have := h.1; omega)))
        · try simp (disch := omega) only [f6, b4, zI_n, zI_o, zI_lit, zI_neg, zI_add, zI_sub, zI_mul, zI_lt, zI_le, zI_eq, zI_clamp, zI_in, zI_div, zI_rem, lg_lt0, lg_gt0, lg_eq0, lg_le0, lg_ge0, Int.toNat_natCast, ge_iff_le, gt_iff_lt, List.length_cons, List.length_nil, bl_up2_at, bl_up2_nk, bl_up2_nx] at h33
          exfalso; omega
      · obtain ⟨e1, e2, e3⟩ := fI.2.2.2 _ _ _ _ hE
        refine bl_go oX3_fewestUnits 80 [25] rfl ?_
        refine ⟨kq, fun h33 => ?_, fun h33 => ?_⟩
        · try simp (disch := omega) only [f6, b4, zI_n, zI_o, zI_lit, zI_neg, zI_add, zI_sub, zI_mul, zI_lt, zI_le, zI_eq, zI_clamp, zI_in, zI_div, zI_rem, lg_lt0, lg_gt0, lg_eq0, lg_le0, lg_ge0, Int.toNat_natCast, ge_iff_le, gt_iff_lt, List.length_cons, List.length_nil, bl_up2_at, bl_up2_nk, bl_up2_nx] at h33
          first
          | (exfalso; first | omega | exact h33 trivial)
          | (refine ⟨kq, _, bl_vs rq_3, Or.inl ⟨kq4, (by first | exact (by rw [nq4]; exact vp_in_nI (by omega) (by omega)) | ((try dsimp only [bl_pv]); show vp_in _ (N _); rw [nq4]; simp (disch := omega) only [f6, b4, zI_n, zI_o, zI_lit, zI_neg, zI_add, zI_sub, zI_mul, zI_lt, zI_le, zI_eq, zI_clamp, zI_in, zI_div, zI_rem, lg_lt0, lg_gt0, lg_eq0, lg_le0, lg_ge0, Int.toNat_natCast, ge_iff_le, gt_iff_lt, List.length_cons, List.length_nil, bl_up2_at, bl_up2_nk, bl_up2_nx] <;> omega)), fun h77 => ?_, fun h77 => ?_⟩⟩
             · try simp (disch := omega) only [f6, b4, zI_n, zI_o, zI_lit, zI_neg, zI_add, zI_sub, zI_mul, zI_lt, zI_le, zI_eq, zI_clamp, zI_in, zI_div, zI_rem, lg_lt0, lg_gt0, lg_eq0, lg_le0, lg_ge0, Int.toNat_natCast, ge_iff_le, gt_iff_lt, List.length_cons, List.length_nil, bl_up2_at, bl_up2_nk, bl_up2_nx] at h77
               first
               | (exfalso; first | omega | exact h77 trivial)
               | (refine ⟨kq, _, bl_vs rq_3, Or.inl ⟨kq4, (by first | exact (by rw [nq4]; exact vp_in_nI (by omega) (by omega)) | ((try dsimp only [bl_pv]); show vp_in _ (N _); rw [nq4]; simp (disch := omega) only [f6, b4, zI_n, zI_o, zI_lit, zI_neg, zI_add, zI_sub, zI_mul, zI_lt, zI_le, zI_eq, zI_clamp, zI_in, zI_div, zI_rem, lg_lt0, lg_gt0, lg_eq0, lg_le0, lg_ge0, Int.toNat_natCast, ge_iff_le, gt_iff_lt, List.length_cons, List.length_nil, bl_up2_at, bl_up2_nk, bl_up2_nx] <;> omega)), (fun h => by cases h), ?_⟩⟩
                  try show _ ∧ _
                  try dsimp only [bl_pv]
                  refine ⟨I1, rfl, f1, f11, ⟨fI.2.2.1, Or.inr ⟨f11, 118, by omega, f6, fD, fI⟩⟩, Or.inl ⟨u, c, ⟨⟨w, We_sub hE⟩, fun u' w' c' h => ?_⟩, e1, e3, by rw [ecp, b4], b5⟩⟩
                  rcases We_all hP (now := 118) hp h with h' | h'
                  · exact hmin u' w' c' h'
                  · omega)
             · try simp (disch := omega) only [f6, b4, zI_n, zI_o, zI_lit, zI_neg, zI_add, zI_sub, zI_mul, zI_lt, zI_le, zI_eq, zI_clamp, zI_in, zI_div, zI_rem, lg_lt0, lg_gt0, lg_eq0, lg_le0, lg_ge0, Int.toNat_natCast, ge_iff_le, gt_iff_lt, List.length_cons, List.length_nil, bl_up2_at, bl_up2_nk, bl_up2_nx] at h77
               first
               | (exfalso; first | omega | exact h77 trivial)
               | (refine ⟨(fun h => by cases h), ?_⟩
                  try show _ ∧ _
                  try dsimp only [bl_pv]
                  refine ⟨I1, rfl, f1, f11, ⟨fI.2.2.1, Or.inr ⟨f11, 118, by omega, f6, fD, fI⟩⟩, Or.inl ⟨u, c, ⟨⟨w, We_sub hE⟩, fun u' w' c' h => ?_⟩, e1, e3, by rw [ecp, b4], b5⟩⟩
                  rcases We_all hP (now := 118) hp h with h' | h'
                  · exact hmin u' w' c' h'
                  · omega))
        · try simp (disch := omega) only [f6, b4, zI_n, zI_o, zI_lit, zI_neg, zI_add, zI_sub, zI_mul, zI_lt, zI_le, zI_eq, zI_clamp, zI_in, zI_div, zI_rem, lg_lt0, lg_gt0, lg_eq0, lg_le0, lg_ge0, Int.toNat_natCast, ge_iff_le, gt_iff_lt, List.length_cons, List.length_nil, bl_up2_at, bl_up2_nk, bl_up2_nx] at h33
          exfalso; omega
    | succ m ih =>
      intro now hn I1 f1 f11 f6 fD fI
      have hB := fI.1 p hp
      have hW4 : (pPk tf g u0).1 ≤ 400 := hP.1
      rcases hB with ⟨b4, b5, hno⟩ | ⟨u, c, b4, b5, ⟨w, hE⟩, hmin⟩
      · skip
        refine bl_go oX3_fewestUnits 80 [25] rfl ?_
        refine ⟨kq, fun h33 => ?_, fun h33 => ?_⟩
        · try simp (disch := omega) only [f6, b4, zI_n, zI_o, zI_lit, zI_neg, zI_add, zI_sub, zI_mul, zI_lt, zI_le, zI_eq, zI_clamp, zI_in, zI_div, zI_rem, lg_lt0, lg_gt0, lg_eq0, lg_le0, lg_ge0, Int.toNat_natCast, ge_iff_le, gt_iff_lt, List.length_cons, List.length_nil, bl_up2_at, bl_up2_nk, bl_up2_nx] at h33
          exfalso; omega
        · try simp (disch := omega) only [f6, b4, zI_n, zI_o, zI_lit, zI_neg, zI_add, zI_sub, zI_mul, zI_lt, zI_le, zI_eq, zI_clamp, zI_in, zI_div, zI_rem, lg_lt0, lg_gt0, lg_eq0, lg_le0, lg_ge0, Int.toNat_natCast, ge_iff_le, gt_iff_lt, List.length_cons, List.length_nil, bl_up2_at, bl_up2_nk, bl_up2_nx] at h33
          first
          | (exfalso; first | omega | exact h33 trivial)
          | (refine ⟨kq, kq, _, bl_vs rq_3, Or.inl ⟨kq4, (by first | exact (by rw [nq4]; exact vp_in_nI (by omega) (by omega)) | ((try dsimp only [bl_pv]); show vp_in _ (N _); rw [nq4]; simp (disch := omega) only [f6, b4, zI_n, zI_o, zI_lit, zI_neg, zI_add, zI_sub, zI_mul, zI_lt, zI_le, zI_eq, zI_clamp, zI_in, zI_div, zI_rem, lg_lt0, lg_gt0, lg_eq0, lg_le0, lg_ge0, Int.toNat_natCast, ge_iff_le, gt_iff_lt, List.length_cons, List.length_nil, bl_up2_at, bl_up2_nk, bl_up2_nx] <;> omega)), fun h48 => ?_, fun h48 => ?_⟩⟩
             · try simp (disch := omega) only [f6, b4, zI_n, zI_o, zI_lit, zI_neg, zI_add, zI_sub, zI_mul, zI_lt, zI_le, zI_eq, zI_clamp, zI_in, zI_div, zI_rem, lg_lt0, lg_gt0, lg_eq0, lg_le0, lg_ge0, Int.toNat_natCast, ge_iff_le, gt_iff_lt, List.length_cons, List.length_nil, bl_up2_at, bl_up2_nk, bl_up2_nx] at h48
               exfalso; omega
             · try simp (disch := omega) only [f6, b4, zI_n, zI_o, zI_lit, zI_neg, zI_add, zI_sub, zI_mul, zI_lt, zI_le, zI_eq, zI_clamp, zI_in, zI_div, zI_rem, lg_lt0, lg_gt0, lg_eq0, lg_le0, lg_ge0, Int.toNat_natCast, ge_iff_le, gt_iff_lt, List.length_cons, List.length_nil, bl_up2_at, bl_up2_nk, bl_up2_nx] at h48
               first
               | (exfalso; first | omega | exact h48 trivial)
               | (refine ⟨rfl, rfl, kq, (Nat.le_of_ble_eq_true rfl), (0, 0), Nat.le_of_ble_eq_true rfl, Nat.le_of_ble_eq_true rfl, bl_MC_mono (c_Passes_spreadSlot (d := d) hq' fD hP fI f6 (by omega) (fun _ _ _ _ h => We_15 hP h) (fun p' w c hp' h => by
  have h1 := (Wy_le hP hW4 (We_sub h)).2.2.1
  have h2 : 25 ^ p' ≤ 25 ^ 5 := Nat.pow_le_pow_right (by decide) (by omega)
  have h3 : (25 : Nat) ^ 5 = 9765625 := by decide
  omega)) (fun o52 σ52 q52 => ?_)⟩
                  try dsimp only [bl_pv] at q52
                  obtain ⟨rfl, I2, rfl, hF2, hI2⟩ := q52
                  rw [We_s hP] at hI2
                  refine bl_go oX3_fewestUnits 80 [25] rfl ?_
                  refine ⟨rfl, kq, kq, Or.inr (Or.inr ⟨rfl, rfl, _, rfl⟩), (fun h => by cases h), ?_⟩
                  try dsimp only [bl_pv]
                  have e0 : ∀ x, x ≠ q → bl_up2 I2 q 6 (I2 q 6 + 1) x = I2 x := fun x hx => bl_up2_ne hx
                  have e6 : I2 q 6 = nI now := by rw [hF2 q (by omega)]; exact f6
                  refine ih (now + 1) (by omega) _ (fun x hx => ?_) ?_ ?_ ?_ ⟨?_, ?_, ?_, hI2.2.2.2⟩
                  · rw [e0 x (by omega), hF2 x (by omega)]; exact f1 x hx
                  · rw [bl_up2_nk (by omega), hF2 q (by omega)]; exact f11
                  · rw [bl_up2_at, e6, nI_1]
                  · have := fD.f hF2
                    unfold psD at this ⊢
                    rw [bl_up2_nk (by omega), bl_up2_nk (by omega), bl_up2_nk (by omega), bl_up2_nk (by omega), e0 _ (by omega)]; exact this
                  · unfold pIB; rw [e0 _ (by omega), e0 _ (by omega)]; exact hI2.1
                  · intro p' hp' u' h1 h2 w' hw'
                    rw [if_neg (Nat.not_lt_zero _)] at h1 h2
                    rw [e0 _ (by omega)]
                    exact hI2.2.1 p' hp' u' (by rw [if_pos hp']; omega) (by rw [if_pos hp']; omega) w' hw'
                  · unfold pIR; rw [e0 _ (by omega), e0 _ (by omega), e0 _ (by omega)]; exact hI2.2.2.1))
      · obtain ⟨e1, e2, e3⟩ := fI.2.2.2 _ _ _ _ hE
        refine bl_go oX3_fewestUnits 80 [25] rfl ?_
        refine ⟨kq, fun h33 => ?_, fun h33 => ?_⟩
        · try simp (disch := omega) only [f6, b4, zI_n, zI_o, zI_lit, zI_neg, zI_add, zI_sub, zI_mul, zI_lt, zI_le, zI_eq, zI_clamp, zI_in, zI_div, zI_rem, lg_lt0, lg_gt0, lg_eq0, lg_le0, lg_ge0, Int.toNat_natCast, ge_iff_le, gt_iff_lt, List.length_cons, List.length_nil, bl_up2_at, bl_up2_nk, bl_up2_nx] at h33
          exfalso; omega
        · try simp (disch := omega) only [f6, b4, zI_n, zI_o, zI_lit, zI_neg, zI_add, zI_sub, zI_mul, zI_lt, zI_le, zI_eq, zI_clamp, zI_in, zI_div, zI_rem, lg_lt0, lg_gt0, lg_eq0, lg_le0, lg_ge0, Int.toNat_natCast, ge_iff_le, gt_iff_lt, List.length_cons, List.length_nil, bl_up2_at, bl_up2_nk, bl_up2_nx] at h33
          first
          | (exfalso; first | omega | exact h33 trivial)
          | (refine ⟨kq, kq, _, bl_vs rq_3, Or.inl ⟨kq4, (by first | exact (by rw [nq4]; exact vp_in_nI (by omega) (by omega)) | ((try dsimp only [bl_pv]); show vp_in _ (N _); rw [nq4]; simp (disch := omega) only [f6, b4, zI_n, zI_o, zI_lit, zI_neg, zI_add, zI_sub, zI_mul, zI_lt, zI_le, zI_eq, zI_clamp, zI_in, zI_div, zI_rem, lg_lt0, lg_gt0, lg_eq0, lg_le0, lg_ge0, Int.toNat_natCast, ge_iff_le, gt_iff_lt, List.length_cons, List.length_nil, bl_up2_at, bl_up2_nk, bl_up2_nx] <;> omega)), fun h48 => ?_, fun h48 => ?_⟩⟩
             · try simp (disch := omega) only [f6, b4, zI_n, zI_o, zI_lit, zI_neg, zI_add, zI_sub, zI_mul, zI_lt, zI_le, zI_eq, zI_clamp, zI_in, zI_div, zI_rem, lg_lt0, lg_gt0, lg_eq0, lg_le0, lg_ge0, Int.toNat_natCast, ge_iff_le, gt_iff_lt, List.length_cons, List.length_nil, bl_up2_at, bl_up2_nk, bl_up2_nx] at h48
               first
               | (exfalso; first | omega | exact h48 trivial)
               | (refine ⟨kq, _, bl_vs rq_3, Or.inl ⟨kq4, (by first | exact (by rw [nq4]; exact vp_in_nI (by omega) (by omega)) | ((try dsimp only [bl_pv]); show vp_in _ (N _); rw [nq4]; simp (disch := omega) only [f6, b4, zI_n, zI_o, zI_lit, zI_neg, zI_add, zI_sub, zI_mul, zI_lt, zI_le, zI_eq, zI_clamp, zI_in, zI_div, zI_rem, lg_lt0, lg_gt0, lg_eq0, lg_le0, lg_ge0, Int.toNat_natCast, ge_iff_le, gt_iff_lt, List.length_cons, List.length_nil, bl_up2_at, bl_up2_nk, bl_up2_nx] <;> omega)), fun h77 => ?_, fun h77 => ?_⟩⟩
                  · try simp (disch := omega) only [f6, b4, zI_n, zI_o, zI_lit, zI_neg, zI_add, zI_sub, zI_mul, zI_lt, zI_le, zI_eq, zI_clamp, zI_in, zI_div, zI_rem, lg_lt0, lg_gt0, lg_eq0, lg_le0, lg_ge0, Int.toNat_natCast, ge_iff_le, gt_iff_lt, List.length_cons, List.length_nil, bl_up2_at, bl_up2_nk, bl_up2_nx] at h77
                    first
                    | (exfalso; first | omega | exact h77 trivial)
                    | (refine ⟨kq, _, bl_vs rq_3, Or.inl ⟨kq4, (by first | exact (by rw [nq4]; exact vp_in_nI (by omega) (by omega)) | ((try dsimp only [bl_pv]); show vp_in _ (N _); rw [nq4]; simp (disch := omega) only [f6, b4, zI_n, zI_o, zI_lit, zI_neg, zI_add, zI_sub, zI_mul, zI_lt, zI_le, zI_eq, zI_clamp, zI_in, zI_div, zI_rem, lg_lt0, lg_gt0, lg_eq0, lg_le0, lg_ge0, Int.toNat_natCast, ge_iff_le, gt_iff_lt, List.length_cons, List.length_nil, bl_up2_at, bl_up2_nk, bl_up2_nx] <;> omega)), (fun h => by cases h), ?_⟩⟩
                       try show _ ∧ _
                       try dsimp only [bl_pv]
                       refine ⟨I1, rfl, f1, f11, ⟨fI.2.2.1, Or.inr ⟨f11, now, by omega, f6, fD, fI⟩⟩, Or.inl ⟨u, c, ⟨⟨w, We_sub hE⟩, fun u' w' c' h => ?_⟩, e1, e3, by rw [ecp, b4], b5⟩⟩
                       rcases We_all hP (now := now) hp h with h' | h'
                       · exact hmin u' w' c' h'
                       · omega)
                  · try simp (disch := omega) only [f6, b4, zI_n, zI_o, zI_lit, zI_neg, zI_add, zI_sub, zI_mul, zI_lt, zI_le, zI_eq, zI_clamp, zI_in, zI_div, zI_rem, lg_lt0, lg_gt0, lg_eq0, lg_le0, lg_ge0, Int.toNat_natCast, ge_iff_le, gt_iff_lt, List.length_cons, List.length_nil, bl_up2_at, bl_up2_nk, bl_up2_nx] at h77
                    first
                    | (exfalso; first | omega | exact h77 trivial)
                    | (refine ⟨(fun h => by cases h), ?_⟩
                       try show _ ∧ _
                       try dsimp only [bl_pv]
                       refine ⟨I1, rfl, f1, f11, ⟨fI.2.2.1, Or.inr ⟨f11, now, by omega, f6, fD, fI⟩⟩, Or.inl ⟨u, c, ⟨⟨w, We_sub hE⟩, fun u' w' c' h => ?_⟩, e1, e3, by rw [ecp, b4], b5⟩⟩
                       rcases We_all hP (now := now) hp h with h' | h'
                       · exact hmin u' w' c' h'
                       · omega))
             · try simp (disch := omega) only [f6, b4, zI_n, zI_o, zI_lit, zI_neg, zI_add, zI_sub, zI_mul, zI_lt, zI_le, zI_eq, zI_clamp, zI_in, zI_div, zI_rem, lg_lt0, lg_gt0, lg_eq0, lg_le0, lg_ge0, Int.toNat_natCast, ge_iff_le, gt_iff_lt, List.length_cons, List.length_nil, bl_up2_at, bl_up2_nk, bl_up2_nx] at h48
               first
               | (exfalso; first | omega | exact h48 trivial)
               | (refine ⟨rfl, rfl, kq, (Nat.le_of_ble_eq_true rfl), (0, 0), Nat.le_of_ble_eq_true rfl, Nat.le_of_ble_eq_true rfl, bl_MC_mono (c_Passes_spreadSlot (d := d) hq' fD hP fI f6 (by omega) (fun _ _ _ _ h => We_15 hP h) (fun p' w c hp' h => by
  have h1 := (Wy_le hP hW4 (We_sub h)).2.2.1
  have h2 : 25 ^ p' ≤ 25 ^ 5 := Nat.pow_le_pow_right (by decide) (by omega)
  have h3 : (25 : Nat) ^ 5 = 9765625 := by decide
  omega)) (fun o52 σ52 q52 => ?_)⟩
                  try dsimp only [bl_pv] at q52
                  obtain ⟨rfl, I2, rfl, hF2, hI2⟩ := q52
                  rw [We_s hP] at hI2
                  refine bl_go oX3_fewestUnits 80 [25] rfl ?_
                  refine ⟨rfl, kq, kq, Or.inr (Or.inr ⟨rfl, rfl, _, rfl⟩), (fun h => by cases h), ?_⟩
                  try dsimp only [bl_pv]
                  have e0 : ∀ x, x ≠ q → bl_up2 I2 q 6 (I2 q 6 + 1) x = I2 x := fun x hx => bl_up2_ne hx
                  have e6 : I2 q 6 = nI now := by rw [hF2 q (by omega)]; exact f6
                  refine ih (now + 1) (by omega) _ (fun x hx => ?_) ?_ ?_ ?_ ⟨?_, ?_, ?_, hI2.2.2.2⟩
                  · rw [e0 x (by omega), hF2 x (by omega)]; exact f1 x hx
                  · rw [bl_up2_nk (by omega), hF2 q (by omega)]; exact f11
                  · rw [bl_up2_at, e6, nI_1]
                  · have := fD.f hF2
                    unfold psD at this ⊢
                    rw [bl_up2_nk (by omega), bl_up2_nk (by omega), bl_up2_nk (by omega), bl_up2_nk (by omega), e0 _ (by omega)]; exact this
                  · unfold pIB; rw [e0 _ (by omega), e0 _ (by omega)]; exact hI2.1
                  · intro p' hp' u' h1 h2 w' hw'
                    rw [if_neg (Nat.not_lt_zero _)] at h1 h2
                    rw [e0 _ (by omega)]
                    exact hI2.2.1 p' hp' u' (by rw [if_pos hp']; omega) (by rw [if_pos hp']; omega) w' hw'
                  · unfold pIR; rw [e0 _ (by omega), e0 _ (by omega), e0 _ (by omega)]; exact hI2.2.2.1))
  obtain ⟨hR, hk⟩ := hw
  rcases hk with k0 | ⟨k1, now, hn, k6, hD, hI⟩
  · skip
    refine bl_go oX3_fewestUnits 80 [25] rfl ?_
    refine ⟨fun h1 => ?_, fun h1 => ?_⟩
    · try simp (disch := omega) only [zI_n, zI_o, zI_lit, zI_neg, zI_add, zI_sub, zI_mul, zI_lt, zI_le, zI_eq, zI_clamp, zI_in, zI_div, zI_rem, lg_lt0, lg_gt0, lg_eq0, lg_le0, lg_ge0, Int.toNat_natCast, ge_iff_le, gt_iff_lt, List.length_cons, List.length_nil, bl_up2_at, bl_up2_nk, bl_up2_nx] at h1
      first
      | (exfalso; first | omega | exact h1 trivial)
      | (refine ⟨(fun h => by cases h), ?_⟩
         try show _ ∧ _
         try dsimp only [bl_pv]
         fail /- ret11 -/)
    · try simp (disch := omega) only [zI_n, zI_o, zI_lit, zI_neg, zI_add, zI_sub, zI_mul, zI_lt, zI_le, zI_eq, zI_clamp, zI_in, zI_div, zI_rem, lg_lt0, lg_gt0, lg_eq0, lg_le0, lg_ge0, Int.toNat_natCast, ge_iff_le, gt_iff_lt, List.length_cons, List.length_nil, bl_up2_at, bl_up2_nk, bl_up2_nx] at h1
      first
      | (exfalso; first | omega | exact h1 trivial)
      | (refine ⟨fun h7 => ?_, fun h7 => ?_⟩
         · try simp (disch := omega) only [zI_n, zI_o, zI_lit, zI_neg, zI_add, zI_sub, zI_mul, zI_lt, zI_le, zI_eq, zI_clamp, zI_in, zI_div, zI_rem, lg_lt0, lg_gt0, lg_eq0, lg_le0, lg_ge0, Int.toNat_natCast, ge_iff_le, gt_iff_lt, List.length_cons, List.length_nil, bl_up2_at, bl_up2_nk, bl_up2_nx] at h7
           first
           | (exfalso; first | omega | exact h7 trivial)
           | (refine ⟨kq, fun h16 => ?_, fun h16 => ?_⟩
              · try simp (disch := omega) only [bl_pv, cl0, cl1, cl2, cl3, cl4, cl5, cl6, cl7, cl8, cl9, bl_up2_at, bl_up2_nk, bl_up2_nx] at h16
                exact absurd k0 h16
              · try simp (disch := omega) only [bl_pv, cl0, cl1, cl2, cl3, cl4, cl5, cl6, cl7, cl8, cl9, bl_up2_at, bl_up2_nk, bl_up2_nx] at h16
                first
                | (exfalso; first | omega | exact h16 trivial)
                | (refine ⟨rfl, rfl, kq, (Nat.le_of_ble_eq_true rfl), (0, 0), Nat.le_of_ble_eq_true rfl, Nat.le_of_ble_eq_true rfl, bl_MC_mono (c_Passes_start (d := d + 2) hq' hR ha hC hg hO haq rfl hu) (fun o22 σ22 q22 => ?_)⟩
                   try dsimp only [bl_pv] at q22
                   obtain ⟨rfl, I2, rfl, s1, s2, s3, s4, s5⟩ := q22
                   refine bl_lv [0, 3] rfl ?_
                   try dsimp only [bl_pv]
                   exact L 118 0 rfl I2 s1 s5 s4 s2 s3))
         · try simp (disch := omega) only [zI_n, zI_o, zI_lit, zI_neg, zI_add, zI_sub, zI_mul, zI_lt, zI_le, zI_eq, zI_clamp, zI_in, zI_div, zI_rem, lg_lt0, lg_gt0, lg_eq0, lg_le0, lg_ge0, Int.toNat_natCast, ge_iff_le, gt_iff_lt, List.length_cons, List.length_nil, bl_up2_at, bl_up2_nk, bl_up2_nx] at h7
           first
           | (exfalso; first | omega | exact h7 trivial)
           | (refine ⟨(fun h => by cases h), ?_⟩
              try show _ ∧ _
              try dsimp only [bl_pv]
              fail /- ret11 -/))
  · skip
    refine bl_go oX3_fewestUnits 80 [25] rfl ?_
    refine ⟨fun h1 => ?_, fun h1 => ?_⟩
    · try simp (disch := omega) only [zI_n, zI_o, zI_lit, zI_neg, zI_add, zI_sub, zI_mul, zI_lt, zI_le, zI_eq, zI_clamp, zI_in, zI_div, zI_rem, lg_lt0, lg_gt0, lg_eq0, lg_le0, lg_ge0, Int.toNat_natCast, ge_iff_le, gt_iff_lt, List.length_cons, List.length_nil, bl_up2_at, bl_up2_nk, bl_up2_nx] at h1
      first
      | (exfalso; first | omega | exact h1 trivial)
      | (refine ⟨(fun h => by cases h), ?_⟩
         try show _ ∧ _
         try dsimp only [bl_pv]
         fail /- ret11 -/)
    · try simp (disch := omega) only [zI_n, zI_o, zI_lit, zI_neg, zI_add, zI_sub, zI_mul, zI_lt, zI_le, zI_eq, zI_clamp, zI_in, zI_div, zI_rem, lg_lt0, lg_gt0, lg_eq0, lg_le0, lg_ge0, Int.toNat_natCast, ge_iff_le, gt_iff_lt, List.length_cons, List.length_nil, bl_up2_at, bl_up2_nk, bl_up2_nx] at h1
      first
      | (exfalso; first | omega | exact h1 trivial)
      | (refine ⟨fun h7 => ?_, fun h7 => ?_⟩
         · try simp (disch := omega) only [zI_n, zI_o, zI_lit, zI_neg, zI_add, zI_sub, zI_mul, zI_lt, zI_le, zI_eq, zI_clamp, zI_in, zI_div, zI_rem, lg_lt0, lg_gt0, lg_eq0, lg_le0, lg_ge0, Int.toNat_natCast, ge_iff_le, gt_iff_lt, List.length_cons, List.length_nil, bl_up2_at, bl_up2_nk, bl_up2_nx] at h7
           first
           | (exfalso; first | omega | exact h7 trivial)
           | (refine ⟨kq, fun h16 => ?_, fun h16 => ?_⟩
              · try simp (disch := omega) only [bl_pv, cl0, cl1, cl2, cl3, cl4, cl5, cl6, cl7, cl8, cl9, bl_up2_at, bl_up2_nk, bl_up2_nx] at h16
                first
                | (exfalso; first | omega | exact h16 trivial)
                | (refine bl_lv [0, 3] rfl ?_
                   try dsimp only [bl_pv]
                   exact L (118 - now) now (by omega) I (fun _ _ => rfl) k1 k6 hD hI)
              · try simp (disch := omega) only [bl_pv, cl0, cl1, cl2, cl3, cl4, cl5, cl6, cl7, cl8, cl9, bl_up2_at, bl_up2_nk, bl_up2_nx] at h16
                exact absurd (k1.symm.trans h16) (by decide))
         · try simp (disch := omega) only [zI_n, zI_o, zI_lit, zI_neg, zI_add, zI_sub, zI_mul, zI_lt, zI_le, zI_eq, zI_clamp, zI_in, zI_div, zI_rem, lg_lt0, lg_gt0, lg_eq0, lg_le0, lg_ge0, Int.toNat_natCast, ge_iff_le, gt_iff_lt, List.length_cons, List.length_nil, bl_up2_at, bl_up2_nk, bl_up2_nx] at h7
           first
           | (exfalso; first | omega | exact h7 trivial)
           | (refine ⟨(fun h => by cases h), ?_⟩
              try show _ ∧ _
              try dsimp only [bl_pv]
              fail /- ret11 -/))
theorem c_Passes_waitOf {p i c : Nat} {x y : Int32} (hq : psS R K N q) (hx : x = nI p) (hp : 1 ≤ p ∧ p ≤ 6) (hy : y = nI i) (hi : i < p) (hc : I (q + 5) p = nI (c + 1)) (hcb : c < 244140625) : bl_MC G l d mX3_waitOf [.ref q, .int x, .int y] (I, J, R, K, N) (0, 0) (fun o σ' => o = .inl (some (.int (nI (c / 25 ^ (p - 1 - i) % 25)))) ∧ σ' = (I, J, R, K, N)) := by
  obtain ⟨hq0, kq, ⟨rq_0, rq_1, rq_2, rq_3, rq_4, rq_5⟩, ⟨kq1, kq2, kq3, kq4, kq5, kq6⟩, ⟨nq1, nq2, nq3, nq4, nq5, nq6⟩⟩ := hq
  subst hx hy
  have ecp : (nI p).toNatClampNeg = p := nI_clamp (by omega)
  refine bl_MC_intro (by decide +kernel) rfl (Nat.le_of_ble_eq_true rfl) ?_
  have L : ∀ m j, j + m = p - 1 → i ≤ j → ∀ z v, z = nI j → v = nI (c / 25 ^ m) → bl_WP G l d mX3_waitOf 31 [(4, .int z), (3, .int v), (0, .ref q), (1, .int (nI p)), (2, .int (nI i))] [] (I, J, R, K, N) (0, 0) (fun o σ' => o = .inl (some (.int (nI (c / 25 ^ (p - 1 - i) % 25)))) ∧ σ' = (I, J, R, K, N)) := by
    intro m j
    induction j generalizing m with
    | zero =>
      intro hj hij z v hz hv
      subst hz hv
      have hb : c / 25 ^ m ≤ c := Nat.div_le_self _ _
      have em : nI (c / 25 ^ m) - nI (c / 25 ^ m) / 25 * 25 = nI (c / 25 ^ m % 25) := by
        generalize c / 25 ^ m = b at *
        simp (disch := omega) only [zI_n, zI_o, zI_lit, zI_neg, zI_add, zI_sub, zI_mul, zI_lt, zI_le, zI_eq, zI_clamp, zI_in, zI_div, zI_rem, lg_lt0, lg_gt0, lg_eq0, lg_le0, lg_ge0, Int.toNat_natCast, ge_iff_le, gt_iff_lt, List.length_cons, List.length_nil, bl_up2_at, bl_up2_nk, bl_up2_nx]
        congr 1
        omega
      refine bl_go oX3_waitOf 80 [31] rfl ?_
      refine ⟨fun h34 => ?_, fun h34 => ?_⟩
      · try simp (disch := omega) only [zI_n, zI_o, zI_lit, zI_neg, zI_add, zI_sub, zI_mul, zI_lt, zI_le, zI_eq, zI_clamp, zI_in, zI_div, zI_rem, lg_lt0, lg_gt0, lg_eq0, lg_le0, lg_ge0, Int.toNat_natCast, ge_iff_le, gt_iff_lt, List.length_cons, List.length_nil, bl_up2_at, bl_up2_nk, bl_up2_nx] at h34
        refine ⟨(by decide), (fun h => by cases h), ?_⟩
        try show _ ∧ _
        try dsimp only [bl_pv]
        rw [em, show p - 1 - i = m by omega]; exact ⟨rfl, rfl⟩
      · try simp (disch := omega) only [zI_n, zI_o, zI_lit, zI_neg, zI_add, zI_sub, zI_mul, zI_lt, zI_le, zI_eq, zI_clamp, zI_in, zI_div, zI_rem, lg_lt0, lg_gt0, lg_eq0, lg_le0, lg_ge0, Int.toNat_natCast, ge_iff_le, gt_iff_lt, List.length_cons, List.length_nil, bl_up2_at, bl_up2_nk, bl_up2_nx] at h34
        exfalso; omega
    | succ j ih =>
      intro hj hij z v hz hv
      subst hz hv
      have hb : c / 25 ^ m ≤ c := Nat.div_le_self _ _
      have em : nI (c / 25 ^ m) - nI (c / 25 ^ m) / 25 * 25 = nI (c / 25 ^ m % 25) := by
        generalize c / 25 ^ m = b at *
        simp (disch := omega) only [zI_n, zI_o, zI_lit, zI_neg, zI_add, zI_sub, zI_mul, zI_lt, zI_le, zI_eq, zI_clamp, zI_in, zI_div, zI_rem, lg_lt0, lg_gt0, lg_eq0, lg_le0, lg_ge0, Int.toNat_natCast, ge_iff_le, gt_iff_lt, List.length_cons, List.length_nil, bl_up2_at, bl_up2_nk, bl_up2_nx]
        congr 1
        omega
      have ed : nI (c / 25 ^ m) / 25 = nI (c / 25 ^ (m + 1)) := by
        rw [Nat.pow_succ, ← Nat.div_div_eq_div_mul]
        generalize c / 25 ^ m = b at *
        simp (disch := omega) only [zI_n, zI_o, zI_lit, zI_neg, zI_add, zI_sub, zI_mul, zI_lt, zI_le, zI_eq, zI_clamp, zI_in, zI_div, zI_rem, lg_lt0, lg_gt0, lg_eq0, lg_le0, lg_ge0, Int.toNat_natCast, ge_iff_le, gt_iff_lt, List.length_cons, List.length_nil, bl_up2_at, bl_up2_nk, bl_up2_nx]
        congr 1
      refine bl_go oX3_waitOf 80 [31] rfl ?_
      refine ⟨fun h34 => ?_, fun h34 => ?_⟩
      · try simp (disch := omega) only [zI_n, zI_o, zI_lit, zI_neg, zI_add, zI_sub, zI_mul, zI_lt, zI_le, zI_eq, zI_clamp, zI_in, zI_div, zI_rem, lg_lt0, lg_gt0, lg_eq0, lg_le0, lg_ge0, Int.toNat_natCast, ge_iff_le, gt_iff_lt, List.length_cons, List.length_nil, bl_up2_at, bl_up2_nk, bl_up2_nx] at h34
        first
        | (exfalso; first | omega | exact h34 trivial)
        | (refine ⟨(by decide), (fun h => by cases h), ?_⟩
           try show _ ∧ _
           try dsimp only [bl_pv]
           rw [em, show p - 1 - i = m by omega]; exact ⟨rfl, rfl⟩)
      · try simp (disch := omega) only [zI_n, zI_o, zI_lit, zI_neg, zI_add, zI_sub, zI_mul, zI_lt, zI_le, zI_eq, zI_clamp, zI_in, zI_div, zI_rem, lg_lt0, lg_gt0, lg_eq0, lg_le0, lg_ge0, Int.toNat_natCast, ge_iff_le, gt_iff_lt, List.length_cons, List.length_nil, bl_up2_at, bl_up2_nk, bl_up2_nx] at h34
        first
        | (exfalso; first | omega | exact h34 trivial)
        | (refine ⟨(by decide), ?_⟩
           try dsimp only [bl_pv]
           exact ih (m + 1) (by omega) (by omega) _ _ (by first | with_reducible rfl | ((try dsimp only [bl_pv]); simp (disch := omega) only [zI_n, zI_o, zI_lit, zI_neg, zI_add, zI_sub, zI_mul, zI_lt, zI_le, zI_eq, zI_clamp, zI_in, zI_div, zI_rem, lg_lt0, lg_gt0, lg_eq0, lg_le0, lg_ge0, Int.toNat_natCast, ge_iff_le, gt_iff_lt, List.length_cons, List.length_nil, bl_up2_at, bl_up2_nk, bl_up2_nx] <;> omega)) ed)
  refine bl_go oX3_waitOf 80 [31] rfl ?_
  refine ⟨fun h2 => ?_, fun h2 => ?_⟩
  · try simp (disch := omega) only [zI_n, zI_o, zI_lit, zI_neg, zI_add, zI_sub, zI_mul, zI_lt, zI_le, zI_eq, zI_clamp, zI_in, zI_div, zI_rem, lg_lt0, lg_gt0, lg_eq0, lg_le0, lg_ge0, Int.toNat_natCast, ge_iff_le, gt_iff_lt, List.length_cons, List.length_nil, bl_up2_at, bl_up2_nk, bl_up2_nx] at h2
    first
    | (exfalso; first | omega | exact h2 trivial)
    | (refine ⟨(fun h => by cases h), ?_⟩
       try show _ ∧ _
       try dsimp only [bl_pv]
       fail /- ret16 -/)
  · try simp (disch := omega) only [zI_n, zI_o, zI_lit, zI_neg, zI_add, zI_sub, zI_mul, zI_lt, zI_le, zI_eq, zI_clamp, zI_in, zI_div, zI_rem, lg_lt0, lg_gt0, lg_eq0, lg_le0, lg_ge0, Int.toNat_natCast, ge_iff_le, gt_iff_lt, List.length_cons, List.length_nil, bl_up2_at, bl_up2_nk, bl_up2_nx] at h2
    first
    | (exfalso; first | omega | exact h2 trivial)
    | (refine ⟨fun h8 => ?_, fun h8 => ?_⟩
       · try simp (disch := omega) only [zI_n, zI_o, zI_lit, zI_neg, zI_add, zI_sub, zI_mul, zI_lt, zI_le, zI_eq, zI_clamp, zI_in, zI_div, zI_rem, lg_lt0, lg_gt0, lg_eq0, lg_le0, lg_ge0, Int.toNat_natCast, ge_iff_le, gt_iff_lt, List.length_cons, List.length_nil, bl_up2_at, bl_up2_nk, bl_up2_nx] at h8
         first
         | (exfalso; first | omega | exact h8 trivial)
         | (refine ⟨(fun h => by cases h), ?_⟩
            try show _ ∧ _
            try dsimp only [bl_pv]
            fail /- ret16 -/)
       · try simp (disch := omega) only [zI_n, zI_o, zI_lit, zI_neg, zI_add, zI_sub, zI_mul, zI_lt, zI_le, zI_eq, zI_clamp, zI_in, zI_div, zI_rem, lg_lt0, lg_gt0, lg_eq0, lg_le0, lg_ge0, Int.toNat_natCast, ge_iff_le, gt_iff_lt, List.length_cons, List.length_nil, bl_up2_at, bl_up2_nk, bl_up2_nx] at h8
         first
         | (exfalso; first | omega | exact h8 trivial)
         | (refine ⟨fun h12 => ?_, fun h12 => ?_⟩
            · try simp (disch := omega) only [zI_n, zI_o, zI_lit, zI_neg, zI_add, zI_sub, zI_mul, zI_lt, zI_le, zI_eq, zI_clamp, zI_in, zI_div, zI_rem, lg_lt0, lg_gt0, lg_eq0, lg_le0, lg_ge0, Int.toNat_natCast, ge_iff_le, gt_iff_lt, List.length_cons, List.length_nil, bl_up2_at, bl_up2_nk, bl_up2_nx] at h12
              first
              | (exfalso; first | omega | exact h12 trivial)
              | (refine ⟨kq, _, bl_vs rq_4, Or.inl ⟨kq5, (by first | exact (by rw [nq5]; exact vp_in_nI (by omega) (by omega)) | ((try dsimp only [bl_pv]); show vp_in _ (N _); rw [nq5]; simp (disch := omega) only [zI_n, zI_o, zI_lit, zI_neg, zI_add, zI_sub, zI_mul, zI_lt, zI_le, zI_eq, zI_clamp, zI_in, zI_div, zI_rem, lg_lt0, lg_gt0, lg_eq0, lg_le0, lg_ge0, Int.toNat_natCast, ge_iff_le, gt_iff_lt, List.length_cons, List.length_nil, bl_up2_at, bl_up2_nk, bl_up2_nx] <;> omega)), ?_⟩⟩
                 try dsimp only [bl_pv]
                 refine L 0 (p - 1) (by omega) (by omega) _ _ (by first | with_reducible rfl | ((try dsimp only [bl_pv]); simp (disch := omega) only [zI_n, zI_o, zI_lit, zI_neg, zI_add, zI_sub, zI_mul, zI_lt, zI_le, zI_eq, zI_clamp, zI_in, zI_div, zI_rem, lg_lt0, lg_gt0, lg_eq0, lg_le0, lg_ge0, Int.toNat_natCast, ge_iff_le, gt_iff_lt, List.length_cons, List.length_nil, bl_up2_at, bl_up2_nk, bl_up2_nx] <;> omega)) ?_
                 rw [ecp, hc, show (1 : Int32) = nI 1 from rfl, nI_subs (by omega), Nat.add_sub_cancel, Nat.pow_zero, Nat.div_one])
            · try simp (disch := omega) only [zI_n, zI_o, zI_lit, zI_neg, zI_add, zI_sub, zI_mul, zI_lt, zI_le, zI_eq, zI_clamp, zI_in, zI_div, zI_rem, lg_lt0, lg_gt0, lg_eq0, lg_le0, lg_ge0, Int.toNat_natCast, ge_iff_le, gt_iff_lt, List.length_cons, List.length_nil, bl_up2_at, bl_up2_nk, bl_up2_nx] at h12
              first
              | (exfalso; first | omega | exact h12 trivial)
              | (refine ⟨(fun h => by cases h), ?_⟩
                 try show _ ∧ _
                 try dsimp only [bl_pv]
                 fail /- ret16 -/)))
/-- how often b divides n (at most f times) -/
def tmi (b : Nat) : Nat → Nat → Nat
  | 0, _ => 0
  | f + 1, n => if 0 < n ∧ n % b = 0 then tmi b f (n / b) + 1 else 0
theorem tmi_le (b : Nat) : ∀ f n, tmi b f n ≤ f
  | 0, _ => Nat.le_refl _
  | f + 1, n => by
    have := tmi_le b f (n / b)
    show (if 0 < n ∧ n % b = 0 then tmi b f (n / b) + 1 else 0) ≤ f + 1
    split <;> omega
theorem c_Passes_timesIn_2 {n : Nat} {x y : Int32} (hx : x = nI n) (hn : n ≤ 1024) (hy : y = nI 2) : bl_MC G l d mX3_timesIn [.int x, .int y] (I, J, R, K, N) (0, 0) (fun o σ' => o = .inl (some (.int (nI (tmi 2 31 n)))) ∧ σ' = (I, J, R, K, N)) := by
  subst hx hy
  refine bl_MC_intro (by decide +kernel) rfl (Nat.le_of_ble_eq_true rfl) ?_
  have L : ∀ f k, k + f = 31 → ∀ m c z y v, z = nI k → y = nI c → c ≤ k → v = nI m → m ≤ 1024 → bl_WP G l d mX3_timesIn 7 [(4, .int z), (3, .int y), (2, .int v), (0, .int (nI n)), (1, .int (nI 2))] [] (I, J, R, K, N) (0, 0) (fun o σ' => o = .inl (some (.int (nI (c + tmi 2 f m)))) ∧ σ' = (I, J, R, K, N)) := by
    intro f
    induction f with
    | zero =>
      intro k hk m c z y v hz hy hc hv hm
      have e31 : k = 31 := by omega
      subst hz hy hv e31
      refine bl_go oX3_timesIn 80 [7] rfl ?_
      refine ⟨fun h11 => ?_, fun h11 => ?_⟩
      · try simp (disch := omega) only [zI_n, zI_o, zI_lit, zI_neg, zI_add, zI_sub, zI_mul, zI_lt, zI_le, zI_eq, zI_clamp, zI_in, zI_div, zI_rem, lg_lt0, lg_gt0, lg_eq0, lg_le0, lg_ge0, Int.toNat_natCast, ge_iff_le, gt_iff_lt, List.length_cons, List.length_nil, bl_up2_at, bl_up2_nk, bl_up2_nx] at h11
        refine ⟨(fun h => by cases h), ?_⟩
        try show _ ∧ _
        try dsimp only [bl_pv]
        exact ⟨rfl, rfl⟩
      · try simp (disch := omega) only [zI_n, zI_o, zI_lit, zI_neg, zI_add, zI_sub, zI_mul, zI_lt, zI_le, zI_eq, zI_clamp, zI_in, zI_div, zI_rem, lg_lt0, lg_gt0, lg_eq0, lg_le0, lg_ge0, Int.toNat_natCast, ge_iff_le, gt_iff_lt, List.length_cons, List.length_nil, bl_up2_at, bl_up2_nk, bl_up2_nx] at h11
        exfalso; omega
    | succ f ih =>
      intro k hk m c z y v hz hy hc hv hm
      subst hz hy hv
      refine bl_go oX3_timesIn 80 [7] rfl ?_
      refine ⟨fun h11 => ?_, fun h11 => ?_⟩
      · try simp (disch := omega) only [zI_n, zI_o, zI_lit, zI_neg, zI_add, zI_sub, zI_mul, zI_lt, zI_le, zI_eq, zI_clamp, zI_in, zI_div, zI_rem, lg_lt0, lg_gt0, lg_eq0, lg_le0, lg_ge0, Int.toNat_natCast, ge_iff_le, gt_iff_lt, List.length_cons, List.length_nil, bl_up2_at, bl_up2_nk, bl_up2_nx] at h11
        exfalso; omega
      · try simp (disch := omega) only [zI_n, zI_o, zI_lit, zI_neg, zI_add, zI_sub, zI_mul, zI_lt, zI_le, zI_eq, zI_clamp, zI_in, zI_div, zI_rem, lg_lt0, lg_gt0, lg_eq0, lg_le0, lg_ge0, Int.toNat_natCast, ge_iff_le, gt_iff_lt, List.length_cons, List.length_nil, bl_up2_at, bl_up2_nk, bl_up2_nx] at h11
        refine ⟨fun h16 => ?_, fun h16 => ?_⟩
        · try simp (disch := omega) only [zI_n, zI_o, zI_lit, zI_neg, zI_add, zI_sub, zI_mul, zI_lt, zI_le, zI_eq, zI_clamp, zI_in, zI_div, zI_rem, lg_lt0, lg_gt0, lg_eq0, lg_le0, lg_ge0, Int.toNat_natCast, ge_iff_le, gt_iff_lt, List.length_cons, List.length_nil, bl_up2_at, bl_up2_nk, bl_up2_nx] at h16
          exfalso; omega
        · try simp (disch := omega) only [zI_n, zI_o, zI_lit, zI_neg, zI_add, zI_sub, zI_mul, zI_lt, zI_le, zI_eq, zI_clamp, zI_in, zI_div, zI_rem, lg_lt0, lg_gt0, lg_eq0, lg_le0, lg_ge0, Int.toNat_natCast, ge_iff_le, gt_iff_lt, List.length_cons, List.length_nil, bl_up2_at, bl_up2_nk, bl_up2_nx] at h16
          refine ⟨fun h20 => ?_, fun h20 => ?_⟩
          · try simp (disch := omega) only [zI_n, zI_o, zI_lit, zI_neg, zI_add, zI_sub, zI_mul, zI_lt, zI_le, zI_eq, zI_clamp, zI_in, zI_div, zI_rem, lg_lt0, lg_gt0, lg_eq0, lg_le0, lg_ge0, Int.toNat_natCast, ge_iff_le, gt_iff_lt, List.length_cons, List.length_nil, bl_up2_at, bl_up2_nk, bl_up2_nx] at h20
            first
            | (exfalso; first | omega | exact h20 trivial)
            | (refine ⟨(fun h => by cases h), ?_⟩
               try show _ ∧ _
               try dsimp only [bl_pv]
               have e : tmi 2 (f + 1) m = 0 := if_neg (by omega)
               rw [e]; exact ⟨rfl, rfl⟩)
          · try simp (disch := omega) only [zI_n, zI_o, zI_lit, zI_neg, zI_add, zI_sub, zI_mul, zI_lt, zI_le, zI_eq, zI_clamp, zI_in, zI_div, zI_rem, lg_lt0, lg_gt0, lg_eq0, lg_le0, lg_ge0, Int.toNat_natCast, ge_iff_le, gt_iff_lt, List.length_cons, List.length_nil, bl_up2_at, bl_up2_nk, bl_up2_nx] at h20
            first
            | (exfalso; first | omega | exact h20 trivial)
            | (refine ⟨(by first | decide | (simp (disch := omega) only [zI_n, zI_o, zI_lit, zI_neg, zI_add, zI_sub, zI_mul, zI_lt, zI_le, zI_eq, zI_clamp, zI_in, zI_div, zI_rem, lg_lt0, lg_gt0, lg_eq0, lg_le0, lg_ge0, Int.toNat_natCast, ge_iff_le, gt_iff_lt, List.length_cons, List.length_nil, bl_up2_at, bl_up2_nk, bl_up2_nx] <;> omega)), fun h26 => ?_, fun h26 => ?_⟩
               · try simp (disch := omega) only [zI_n, zI_o, zI_lit, zI_neg, zI_add, zI_sub, zI_mul, zI_lt, zI_le, zI_eq, zI_clamp, zI_in, zI_div, zI_rem, lg_lt0, lg_gt0, lg_eq0, lg_le0, lg_ge0, Int.toNat_natCast, ge_iff_le, gt_iff_lt, List.length_cons, List.length_nil, bl_up2_at, bl_up2_nk, bl_up2_nx] at h26
                 first
                 | (exfalso; first | omega | exact h26 trivial)
                 | (refine ⟨(fun h => by cases h), ?_⟩
                    try show _ ∧ _
                    try dsimp only [bl_pv]
                    have e : tmi 2 (f + 1) m = 0 := if_neg (by omega)
                    rw [e]; exact ⟨rfl, rfl⟩)
               · try simp (disch := omega) only [zI_n, zI_o, zI_lit, zI_neg, zI_add, zI_sub, zI_mul, zI_lt, zI_le, zI_eq, zI_clamp, zI_in, zI_div, zI_rem, lg_lt0, lg_gt0, lg_eq0, lg_le0, lg_ge0, Int.toNat_natCast, ge_iff_le, gt_iff_lt, List.length_cons, List.length_nil, bl_up2_at, bl_up2_nk, bl_up2_nx] at h26
                 first
                 | (exfalso; first | omega | exact h26 trivial)
                 | (refine ⟨(by first | decide | (simp (disch := omega) only [zI_n, zI_o, zI_lit, zI_neg, zI_add, zI_sub, zI_mul, zI_lt, zI_le, zI_eq, zI_clamp, zI_in, zI_div, zI_rem, lg_lt0, lg_gt0, lg_eq0, lg_le0, lg_ge0, Int.toNat_natCast, ge_iff_le, gt_iff_lt, List.length_cons, List.length_nil, bl_up2_at, bl_up2_nk, bl_up2_nx] <;> omega)), ?_⟩
                    try dsimp only [bl_pv]
                    have e : tmi 2 (f + 1) m = tmi 2 f (m / 2) + 1 := if_pos (by omega)
                    have := ih (k + 1) (by omega) (m / 2) (c + 1) _ _ _ (nI_1 _) (nI_1 _) (by omega) (show nI m / nI 2 = nI (m / 2) by simp (disch := omega) only [zI_n, zI_o, zI_lit, zI_neg, zI_add, zI_sub, zI_mul, zI_lt, zI_le, zI_eq, zI_clamp, zI_in, zI_div, zI_rem, lg_lt0, lg_gt0, lg_eq0, lg_le0, lg_ge0, Int.toNat_natCast, ge_iff_le, gt_iff_lt, List.length_cons, List.length_nil, bl_up2_at, bl_up2_nk, bl_up2_nx]; congr 1) (by omega)
                    refine bl_WP_mono this (fun o σ' hq => ?_)
                    rw [e, show c + (tmi 2 f (m / 2) + 1) = c + 1 + tmi 2 f (m / 2) by omega]; exact hq))
  refine bl_go oX3_timesIn 80 [7] rfl ?_
  try dsimp only [bl_pv]
  have := L 31 0 rfl n 0 _ _ _ rfl rfl (Nat.le_refl _) rfl hn
  rw [Nat.zero_add] at this
  exact this
theorem c_Passes_timesIn_3 {n : Nat} {x y : Int32} (hx : x = nI n) (hn : n ≤ 1024) (hy : y = nI 3) : bl_MC G l d mX3_timesIn [.int x, .int y] (I, J, R, K, N) (0, 0) (fun o σ' => o = .inl (some (.int (nI (tmi 3 31 n)))) ∧ σ' = (I, J, R, K, N)) := by
  subst hx hy
  refine bl_MC_intro (by decide +kernel) rfl (Nat.le_of_ble_eq_true rfl) ?_
  have L : ∀ f k, k + f = 31 → ∀ m c z y v, z = nI k → y = nI c → c ≤ k → v = nI m → m ≤ 1024 → bl_WP G l d mX3_timesIn 7 [(4, .int z), (3, .int y), (2, .int v), (0, .int (nI n)), (1, .int (nI 3))] [] (I, J, R, K, N) (0, 0) (fun o σ' => o = .inl (some (.int (nI (c + tmi 3 f m)))) ∧ σ' = (I, J, R, K, N)) := by
    intro f
    induction f with
    | zero =>
      intro k hk m c z y v hz hy hc hv hm
      have e31 : k = 31 := by omega
      subst hz hy hv e31
      refine bl_go oX3_timesIn 80 [7] rfl ?_
      refine ⟨fun h11 => ?_, fun h11 => ?_⟩
      · try simp (disch := omega) only [zI_n, zI_o, zI_lit, zI_neg, zI_add, zI_sub, zI_mul, zI_lt, zI_le, zI_eq, zI_clamp, zI_in, zI_div, zI_rem, lg_lt0, lg_gt0, lg_eq0, lg_le0, lg_ge0, Int.toNat_natCast, ge_iff_le, gt_iff_lt, List.length_cons, List.length_nil, bl_up2_at, bl_up2_nk, bl_up2_nx] at h11
        refine ⟨(fun h => by cases h), ?_⟩
        try show _ ∧ _
        try dsimp only [bl_pv]
        exact ⟨rfl, rfl⟩
      · try simp (disch := omega) only [zI_n, zI_o, zI_lit, zI_neg, zI_add, zI_sub, zI_mul, zI_lt, zI_le, zI_eq, zI_clamp, zI_in, zI_div, zI_rem, lg_lt0, lg_gt0, lg_eq0, lg_le0, lg_ge0, Int.toNat_natCast, ge_iff_le, gt_iff_lt, List.length_cons, List.length_nil, bl_up2_at, bl_up2_nk, bl_up2_nx] at h11
        exfalso; omega
    | succ f ih =>
      intro k hk m c z y v hz hy hc hv hm
      subst hz hy hv
      refine bl_go oX3_timesIn 80 [7] rfl ?_
      refine ⟨fun h11 => ?_, fun h11 => ?_⟩
      · try simp (disch := omega) only [zI_n, zI_o, zI_lit, zI_neg, zI_add, zI_sub, zI_mul, zI_lt, zI_le, zI_eq, zI_clamp, zI_in, zI_div, zI_rem, lg_lt0, lg_gt0, lg_eq0, lg_le0, lg_ge0, Int.toNat_natCast, ge_iff_le, gt_iff_lt, List.length_cons, List.length_nil, bl_up2_at, bl_up2_nk, bl_up2_nx] at h11
        exfalso; omega
      · try simp (disch := omega) only [zI_n, zI_o, zI_lit, zI_neg, zI_add, zI_sub, zI_mul, zI_lt, zI_le, zI_eq, zI_clamp, zI_in, zI_div, zI_rem, lg_lt0, lg_gt0, lg_eq0, lg_le0, lg_ge0, Int.toNat_natCast, ge_iff_le, gt_iff_lt, List.length_cons, List.length_nil, bl_up2_at, bl_up2_nk, bl_up2_nx] at h11
        refine ⟨fun h16 => ?_, fun h16 => ?_⟩
        · try simp (disch := omega) only [zI_n, zI_o, zI_lit, zI_neg, zI_add, zI_sub, zI_mul, zI_lt, zI_le, zI_eq, zI_clamp, zI_in, zI_div, zI_rem, lg_lt0, lg_gt0, lg_eq0, lg_le0, lg_ge0, Int.toNat_natCast, ge_iff_le, gt_iff_lt, List.length_cons, List.length_nil, bl_up2_at, bl_up2_nk, bl_up2_nx] at h16
          exfalso; omega
        · try simp (disch := omega) only [zI_n, zI_o, zI_lit, zI_neg, zI_add, zI_sub, zI_mul, zI_lt, zI_le, zI_eq, zI_clamp, zI_in, zI_div, zI_rem, lg_lt0, lg_gt0, lg_eq0, lg_le0, lg_ge0, Int.toNat_natCast, ge_iff_le, gt_iff_lt, List.length_cons, List.length_nil, bl_up2_at, bl_up2_nk, bl_up2_nx] at h16
          refine ⟨fun h20 => ?_, fun h20 => ?_⟩
          · try simp (disch := omega) only [zI_n, zI_o, zI_lit, zI_neg, zI_add, zI_sub, zI_mul, zI_lt, zI_le, zI_eq, zI_clamp, zI_in, zI_div, zI_rem, lg_lt0, lg_gt0, lg_eq0, lg_le0, lg_ge0, Int.toNat_natCast, ge_iff_le, gt_iff_lt, List.length_cons, List.length_nil, bl_up2_at, bl_up2_nk, bl_up2_nx] at h20
            first
            | (exfalso; first | omega | exact h20 trivial)
            | (refine ⟨(fun h => by cases h), ?_⟩
               try show _ ∧ _
               try dsimp only [bl_pv]
               have e : tmi 3 (f + 1) m = 0 := if_neg (by omega)
               rw [e]; exact ⟨rfl, rfl⟩)
          · try simp (disch := omega) only [zI_n, zI_o, zI_lit, zI_neg, zI_add, zI_sub, zI_mul, zI_lt, zI_le, zI_eq, zI_clamp, zI_in, zI_div, zI_rem, lg_lt0, lg_gt0, lg_eq0, lg_le0, lg_ge0, Int.toNat_natCast, ge_iff_le, gt_iff_lt, List.length_cons, List.length_nil, bl_up2_at, bl_up2_nk, bl_up2_nx] at h20
            first
            | (exfalso; first | omega | exact h20 trivial)
            | (refine ⟨(by first | decide | (simp (disch := omega) only [zI_n, zI_o, zI_lit, zI_neg, zI_add, zI_sub, zI_mul, zI_lt, zI_le, zI_eq, zI_clamp, zI_in, zI_div, zI_rem, lg_lt0, lg_gt0, lg_eq0, lg_le0, lg_ge0, Int.toNat_natCast, ge_iff_le, gt_iff_lt, List.length_cons, List.length_nil, bl_up2_at, bl_up2_nk, bl_up2_nx] <;> omega)), fun h26 => ?_, fun h26 => ?_⟩
               · try simp (disch := omega) only [zI_n, zI_o, zI_lit, zI_neg, zI_add, zI_sub, zI_mul, zI_lt, zI_le, zI_eq, zI_clamp, zI_in, zI_div, zI_rem, lg_lt0, lg_gt0, lg_eq0, lg_le0, lg_ge0, Int.toNat_natCast, ge_iff_le, gt_iff_lt, List.length_cons, List.length_nil, bl_up2_at, bl_up2_nk, bl_up2_nx] at h26
                 first
                 | (exfalso; first | omega | exact h26 trivial)
                 | (refine ⟨(fun h => by cases h), ?_⟩
                    try show _ ∧ _
                    try dsimp only [bl_pv]
                    have e : tmi 3 (f + 1) m = 0 := if_neg (by omega)
                    rw [e]; exact ⟨rfl, rfl⟩)
               · try simp (disch := omega) only [zI_n, zI_o, zI_lit, zI_neg, zI_add, zI_sub, zI_mul, zI_lt, zI_le, zI_eq, zI_clamp, zI_in, zI_div, zI_rem, lg_lt0, lg_gt0, lg_eq0, lg_le0, lg_ge0, Int.toNat_natCast, ge_iff_le, gt_iff_lt, List.length_cons, List.length_nil, bl_up2_at, bl_up2_nk, bl_up2_nx] at h26
                 first
                 | (exfalso; first | omega | exact h26 trivial)
                 | (refine ⟨(by first | decide | (simp (disch := omega) only [zI_n, zI_o, zI_lit, zI_neg, zI_add, zI_sub, zI_mul, zI_lt, zI_le, zI_eq, zI_clamp, zI_in, zI_div, zI_rem, lg_lt0, lg_gt0, lg_eq0, lg_le0, lg_ge0, Int.toNat_natCast, ge_iff_le, gt_iff_lt, List.length_cons, List.length_nil, bl_up2_at, bl_up2_nk, bl_up2_nx] <;> omega)), ?_⟩
                    try dsimp only [bl_pv]
                    have e : tmi 3 (f + 1) m = tmi 3 f (m / 3) + 1 := if_pos (by omega)
                    have := ih (k + 1) (by omega) (m / 3) (c + 1) _ _ _ (nI_1 _) (nI_1 _) (by omega) (show nI m / nI 3 = nI (m / 3) by simp (disch := omega) only [zI_n, zI_o, zI_lit, zI_neg, zI_add, zI_sub, zI_mul, zI_lt, zI_le, zI_eq, zI_clamp, zI_in, zI_div, zI_rem, lg_lt0, lg_gt0, lg_eq0, lg_le0, lg_ge0, Int.toNat_natCast, ge_iff_le, gt_iff_lt, List.length_cons, List.length_nil, bl_up2_at, bl_up2_nk, bl_up2_nx]; congr 1) (by omega)
                    refine bl_WP_mono this (fun o σ' hq => ?_)
                    rw [e, show c + (tmi 3 f (m / 3) + 1) = c + 1 + tmi 3 f (m / 3) by omega]; exact hq))
  refine bl_go oX3_timesIn 80 [7] rfl ?_
  try dsimp only [bl_pv]
  have := L 31 0 rfl n 0 _ _ _ rfl rfl (Nat.le_refl _) rfl hn
  rw [Nat.zero_add] at this
  exact this
theorem tmi_pow {b : Nat} (hb : 1 ≤ b) : ∀ f n, 1 ≤ n → b ^ tmi b f n ≤ n
  | 0, n, h => h
  | f + 1, n, h => by
    show b ^ (if 0 < n ∧ n % b = 0 then tmi b f (n / b) + 1 else 0) ≤ n
    by_cases e : 0 < n ∧ n % b = 0
    · rw [if_pos e, Nat.pow_succ]
      have hd : n / b * b = n := Nat.div_mul_cancel (Nat.dvd_of_mod_eq_zero e.2)
      have h1 : 1 ≤ n / b := by
        rcases Nat.eq_zero_or_pos (n / b) with h0 | h0
        · rw [h0, Nat.zero_mul] at hd; omega
        · exact h0
      have := Nat.mul_le_mul_right b (tmi_pow hb f (n / b) h1)
      omega
    · rw [if_neg e]; exact h
theorem tmi2_le {n : Nat} (h1 : 1 ≤ n) (h2 : n ≤ 1024) : tmi 2 31 n ≤ 10 := by
  have a := tmi_pow (b := 2) (by decide) 31 n h1
  rcases Nat.lt_or_ge 10 (tmi 2 31 n) with h | h
  · have b : 2 ^ 11 ≤ 2 ^ tmi 2 31 n := Nat.pow_le_pow_right (by decide) h
    have c : (2 : Nat) ^ 11 = 2048 := by decide
    omega
  · exact h
theorem tmi3_le {n : Nat} (h1 : 1 ≤ n) (h2 : n ≤ 1024) : tmi 3 31 n ≤ 6 := by
  have a := tmi_pow (b := 3) (by decide) 31 n h1
  rcases Nat.lt_or_ge 6 (tmi 3 31 n) with h | h
  · have b : 3 ^ 7 ≤ 3 ^ tmi 3 31 n := Nat.pow_le_pow_right (by decide) h
    have c : (3 : Nat) ^ 7 = 2187 := by decide
    omega
  · exact h
theorem sh2 {a : Nat} (h : a ≤ 10) : (1 : Int32) <<< (nI a &&& 31) = nI (2 ^ a) ∧ 2 ^ a ≤ 1024 := by
  have : ∀ a : Fin 11, (1 : Int32) <<< (nI a.1 &&& 31) = nI (2 ^ a.1) ∧ 2 ^ a.1 ≤ 1024 := by decide +kernel
  exact this ⟨a, by omega⟩
/-- the fewest passes for n, the i-th factor -/
def fwf (n : Nat) : Int32 := if 2 ^ tmi 2 31 n * 3 ^ tmi 3 31 n = n then nI ((tmi 2 31 n + 1) / 2 + tmi 3 31 n) else zI (-1)
def fac (n i : Nat) : Nat := if i < tmi 2 31 n % 2 then 2 else if i < tmi 2 31 n % 2 + tmi 3 31 n then 3 else 4
theorem c_Passes_fewestFor {n : Nat} {x : Int32} (hx : x = nI n) (h1 : 1 ≤ n) (h2 : n ≤ 1024) : bl_MC G l (d + 1) mX3_fewestFor [.int x] (I, J, R, K, N) (0, 0) (fun o σ' => o = .inl (some (.int (fwf n))) ∧ σ' = (I, J, R, K, N)) := by
  have a10 := tmi2_le h1 h2
  have b6 := tmi3_le h1 h2
  obtain ⟨e2, l2⟩ := sh2 a10
  have p3 : ∀ k, k ≤ tmi 3 31 n → 3 ^ k ≤ 729 := fun k hk => by
    have : 3 ^ k ≤ 3 ^ 6 := Nat.pow_le_pow_right (by decide) (by omega)
    have c : (3 : Nat) ^ 6 = 729 := by decide
    omega
  have pb : ∀ k, k ≤ tmi 3 31 n → 2 ^ tmi 2 31 n * 3 ^ k ≤ 746496 := fun k hk => Nat.mul_le_mul l2 (p3 k hk)
  subst hx
  unfold fwf
  generalize ha : tmi 2 31 n = a at *
  generalize hb : tmi 3 31 n = b at *
  refine bl_MC_intro (by decide +kernel) rfl (Nat.le_of_ble_eq_true rfl) ?_
  have L : ∀ k, k ≤ b → ∀ z v, z = nI k → v = nI (2 ^ a * 3 ^ k) → bl_WP G l (d + 1) mX3_fewestFor 19 [(4, .int z), (3, .int v), (2, .int (nI b)), (1, .int (nI a)), (0, .int (nI n))] [] (I, J, R, K, N) (0, 0) (fun o σ' => o = .inl (some (.int (if 2 ^ a * 3 ^ b = n then nI ((a + 1) / 2 + b) else zI (-1)))) ∧ σ' = (I, J, R, K, N)) := by
    refine bl_for b ?_ (fun k hk ih => ?_)
    · intro z v hz hv; subst hz hv
      have hpb := pb b (Nat.le_refl _)
      generalize 2 ^ a * 3 ^ b = m at *
      have em : (nI a + 1) / 2 + nI b = nI ((a + 1) / 2 + b) := by
        simp (disch := omega) only [zI_n, zI_o, zI_lit, zI_neg, zI_add, zI_sub, zI_mul, zI_lt, zI_le, zI_eq, zI_clamp, zI_in, zI_div, zI_rem, lg_lt0, lg_gt0, lg_eq0, lg_le0, lg_ge0, Int.toNat_natCast, ge_iff_le, gt_iff_lt, List.length_cons, List.length_nil, bl_up2_at, bl_up2_nk, bl_up2_nx]
        congr 1
      refine bl_go oX3_fewestFor 80 [19] rfl ?_
      refine ⟨fun h22 => ?_, fun h22 => ?_⟩
      · try simp (disch := omega) only [zI_n, zI_o, zI_lit, zI_neg, zI_add, zI_sub, zI_mul, zI_lt, zI_le, zI_eq, zI_clamp, zI_in, zI_div, zI_rem, lg_lt0, lg_gt0, lg_eq0, lg_le0, lg_ge0, Int.toNat_natCast, ge_iff_le, gt_iff_lt, List.length_cons, List.length_nil, bl_up2_at, bl_up2_nk, bl_up2_nx] at h22
        refine ⟨fun h37 => ?_, fun h37 => ?_⟩
        · try simp (disch := omega) only [zI_n, zI_o, zI_lit, zI_neg, zI_add, zI_sub, zI_mul, zI_lt, zI_le, zI_eq, zI_clamp, zI_in, zI_div, zI_rem, lg_lt0, lg_gt0, lg_eq0, lg_le0, lg_ge0, Int.toNat_natCast, ge_iff_le, gt_iff_lt, List.length_cons, List.length_nil, bl_up2_at, bl_up2_nk, bl_up2_nx] at h37
          refine ⟨(fun h => by cases h), ?_⟩
          try show _ ∧ _
          try dsimp only [bl_pv]
          first
          | (rw [if_neg (by omega)]; exact ⟨rfl, rfl⟩)
          | (rw [if_pos (by omega), em]; exact ⟨rfl, rfl⟩)
        · try simp (disch := omega) only [zI_n, zI_o, zI_lit, zI_neg, zI_add, zI_sub, zI_mul, zI_lt, zI_le, zI_eq, zI_clamp, zI_in, zI_div, zI_rem, lg_lt0, lg_gt0, lg_eq0, lg_le0, lg_ge0, Int.toNat_natCast, ge_iff_le, gt_iff_lt, List.length_cons, List.length_nil, bl_up2_at, bl_up2_nk, bl_up2_nx] at h37
          refine ⟨(by decide), (fun h => by cases h), ?_⟩
          try show _ ∧ _
          try dsimp only [bl_pv]
          first
          | (rw [if_neg (by omega)]; exact ⟨rfl, rfl⟩)
          | (rw [if_pos (by omega), em]; exact ⟨rfl, rfl⟩)
      · try simp (disch := omega) only [zI_n, zI_o, zI_lit, zI_neg, zI_add, zI_sub, zI_mul, zI_lt, zI_le, zI_eq, zI_clamp, zI_in, zI_div, zI_rem, lg_lt0, lg_gt0, lg_eq0, lg_le0, lg_ge0, Int.toNat_natCast, ge_iff_le, gt_iff_lt, List.length_cons, List.length_nil, bl_up2_at, bl_up2_nk, bl_up2_nx] at h22
        exfalso; omega
    · intro z v hz hv; subst hz hv
      refine bl_go oX3_fewestFor 80 [19] rfl ?_
      refine ⟨fun h22 => ?_, fun h22 => ?_⟩
      · try simp (disch := omega) only [zI_n, zI_o, zI_lit, zI_neg, zI_add, zI_sub, zI_mul, zI_lt, zI_le, zI_eq, zI_clamp, zI_in, zI_div, zI_rem, lg_lt0, lg_gt0, lg_eq0, lg_le0, lg_ge0, Int.toNat_natCast, ge_iff_le, gt_iff_lt, List.length_cons, List.length_nil, bl_up2_at, bl_up2_nk, bl_up2_nx] at h22
        exfalso; omega
      · try simp (disch := omega) only [zI_n, zI_o, zI_lit, zI_neg, zI_add, zI_sub, zI_mul, zI_lt, zI_le, zI_eq, zI_clamp, zI_in, zI_div, zI_rem, lg_lt0, lg_gt0, lg_eq0, lg_le0, lg_ge0, Int.toNat_natCast, ge_iff_le, gt_iff_lt, List.length_cons, List.length_nil, bl_up2_at, bl_up2_nk, bl_up2_nx] at h22
        try dsimp only [bl_pv]
        refine ih _ _ (nI_1 _) ?_
        rw [show (3 : Int32) = nI 3 from rfl, nI_mulc, Nat.pow_succ, Nat.mul_assoc]
  refine bl_go oX3_fewestFor 80 [19] rfl ?_
  refine ⟨rfl, (Nat.le_of_ble_eq_true rfl), (0, 0), Nat.le_of_ble_eq_true rfl, Nat.le_of_ble_eq_true rfl, bl_MC_mono (c_Passes_timesIn_2 (d := d) rfl h2 rfl) (fun o2 σ2 q2 => ?_)⟩
  try dsimp only [bl_pv] at q2
  obtain ⟨rfl, rfl⟩ := q2
  rw [ha]
  refine bl_go oX3_fewestFor 80 [19] rfl ?_
  refine ⟨rfl, (Nat.le_of_ble_eq_true rfl), (0, 0), Nat.le_of_ble_eq_true rfl, Nat.le_of_ble_eq_true rfl, bl_MC_mono (c_Passes_timesIn_3 (d := d) rfl h2 rfl) (fun o8 σ8 q8 => ?_)⟩
  try dsimp only [bl_pv] at q8
  obtain ⟨rfl, rfl⟩ := q8
  rw [hb]
  refine bl_go oX3_fewestFor 80 [19] rfl ?_
  try dsimp only [bl_pv]
  refine L 0 (by omega) _ _ rfl ?_
  rw [Nat.pow_zero, Nat.mul_one]; exact e2
theorem c_Passes_factorAt {n i : Nat} {x y : Int32} (hx : x = nI n) (h1 : 1 ≤ n) (h2 : n ≤ 1024) (hy : y = nI i) (hi : i < 100) : bl_MC G l (d + 1) mX3_factorAt [.int x, .int y] (I, J, R, K, N) (0, 0) (fun o σ' => o = .inl (some (.int (nI (fac n i)))) ∧ σ' = (I, J, R, K, N)) := by
  have a10 := tmi2_le h1 h2
  have b6 := tmi3_le h1 h2
  subst hx hy
  unfold fac
  generalize ha : tmi 2 31 n = a at *
  generalize hb : tmi 3 31 n = b at *
  refine bl_MC_intro (by decide +kernel) rfl (Nat.le_of_ble_eq_true rfl) ?_
  refine bl_go oX3_factorAt 80 [] rfl ?_
  refine ⟨rfl, (Nat.le_of_ble_eq_true rfl), (0, 0), Nat.le_of_ble_eq_true rfl, Nat.le_of_ble_eq_true rfl, bl_MC_mono (c_Passes_timesIn_2 (d := d) rfl h2 rfl) (fun o2 σ2 q2 => ?_)⟩
  try dsimp only [bl_pv] at q2
  obtain ⟨rfl, rfl⟩ := q2
  rw [ha]
  refine bl_go oX3_factorAt 80 [] rfl ?_
  refine ⟨(by decide), fun h10 => ?_, fun h10 => ?_⟩
  · try simp (disch := omega) only [zI_n, zI_o, zI_lit, zI_neg, zI_add, zI_sub, zI_mul, zI_lt, zI_le, zI_eq, zI_clamp, zI_in, zI_div, zI_rem, lg_lt0, lg_gt0, lg_eq0, lg_le0, lg_ge0, Int.toNat_natCast, ge_iff_le, gt_iff_lt, List.length_cons, List.length_nil, bl_up2_at, bl_up2_nk, bl_up2_nx] at h10
    first
    | (exfalso; first | omega | exact h10 trivial)
    | (refine ⟨rfl, (Nat.le_of_ble_eq_true rfl), (0, 0), Nat.le_of_ble_eq_true rfl, Nat.le_of_ble_eq_true rfl, bl_MC_mono (c_Passes_timesIn_3 (d := d) rfl h2 rfl) (fun o19 σ19 q19 => ?_)⟩
       try dsimp only [bl_pv] at q19
       obtain ⟨rfl, rfl⟩ := q19
       rw [hb]
       refine bl_go oX3_factorAt 80 [] rfl ?_
       refine ⟨fun h23 => ?_, fun h23 => ?_⟩
       · try simp (disch := omega) only [zI_n, zI_o, zI_lit, zI_neg, zI_add, zI_sub, zI_mul, zI_lt, zI_le, zI_eq, zI_clamp, zI_in, zI_div, zI_rem, lg_lt0, lg_gt0, lg_eq0, lg_le0, lg_ge0, Int.toNat_natCast, ge_iff_le, gt_iff_lt, List.length_cons, List.length_nil, bl_up2_at, bl_up2_nk, bl_up2_nx] at h23
         first
         | (exfalso; first | omega | exact h23 trivial)
         | (refine ⟨(fun h => by cases h), ?_⟩
            try show _ ∧ _
            try dsimp only [bl_pv]
            refine ⟨?_, rfl⟩
            first
            | (rw [if_pos (by omega)]; rfl)
            | (rw [if_neg (by omega), if_pos (by omega)]; rfl)
            | (rw [if_neg (by omega), if_neg (by omega)]; rfl))
       · try simp (disch := omega) only [zI_n, zI_o, zI_lit, zI_neg, zI_add, zI_sub, zI_mul, zI_lt, zI_le, zI_eq, zI_clamp, zI_in, zI_div, zI_rem, lg_lt0, lg_gt0, lg_eq0, lg_le0, lg_ge0, Int.toNat_natCast, ge_iff_le, gt_iff_lt, List.length_cons, List.length_nil, bl_up2_at, bl_up2_nk, bl_up2_nx] at h23
         first
         | (exfalso; first | omega | exact h23 trivial)
         | (refine ⟨(fun h => by cases h), ?_⟩
            try show _ ∧ _
            try dsimp only [bl_pv]
            refine ⟨?_, rfl⟩
            first
            | (rw [if_pos (by omega)]; rfl)
            | (rw [if_neg (by omega), if_pos (by omega)]; rfl)
            | (rw [if_neg (by omega), if_neg (by omega)]; rfl)))
  · try simp (disch := omega) only [zI_n, zI_o, zI_lit, zI_neg, zI_add, zI_sub, zI_mul, zI_lt, zI_le, zI_eq, zI_clamp, zI_in, zI_div, zI_rem, lg_lt0, lg_gt0, lg_eq0, lg_le0, lg_ge0, Int.toNat_natCast, ge_iff_le, gt_iff_lt, List.length_cons, List.length_nil, bl_up2_at, bl_up2_nk, bl_up2_nx] at h10
    first
    | (exfalso; first | omega | exact h10 trivial)
    | (refine ⟨(fun h => by cases h), ?_⟩
       try show _ ∧ _
       try dsimp only [bl_pv]
       refine ⟨?_, rfl⟩
       first
       | (rw [if_pos (by omega)]; rfl)
       | (rw [if_neg (by omega), if_pos (by omega)]; rfl)
       | (rw [if_neg (by omega), if_neg (by omega)]; rfl))
end PASSES5
