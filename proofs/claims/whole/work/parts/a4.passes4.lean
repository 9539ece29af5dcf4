/-! ===== Passes: start, fewestUnits ===== -/
def pPk (tf g : Nat → Nat) (u0 : Nat) : pP := (10 * tf 4, 10 * tf 5, 10 * tf 6, tf 7, fun u => 10 * g ((u0 + u) / 12 % 24))
/-- a kitchen's numbers -/
def kiO (tf g : Nat → Nat) : Prop := tf 4 ≤ 40 ∧ tf 5 ≤ 40 ∧ tf 6 ≤ 40 ∧ tf 7 ≤ 99 ∧ ∀ h, h < 24 → g h ≤ 40
theorem pPk_ok {tf g : Nat → Nat} {u0 : Nat} (h : kiO tf g) : pPok (pPk tf g u0) := by
  obtain ⟨a, b, c, d, e⟩ := h
  refine ⟨?_, ?_, ?_, d, fun u => ?_⟩
  · show 10 * tf 4 ≤ 400; omega
  · show 10 * tf 5 ≤ 400; omega
  · show 10 * tf 6 ≤ 400; omega
  · have := e ((u0 + u) / 12 % 24) (by omega)
    show 10 * g _ ≤ 400; omega
theorem pIR_em {I I' : Nat → Nat → Int32} {q t : Nat} (hR : pIR I q) (hm : emQ I I' q t) (ht : t < 96) : pIR I' q := by
  obtain ⟨m1, m2, m3, m4⟩ := hm
  intro t' ht'
  by_cases e : t' = t
  · subst e
    refine ⟨401, 0, by omega, by omega, by rw [m3, if_pos rfl], by rw [m4, if_pos rfl]; rfl, fun w hw hne => ?_⟩
    rw [m2, if_pos (by omega)] at hne
    exact absurd rfl hne
  · obtain ⟨lo, hi, a1, a2, a3, a4, a5⟩ := hR t' ht'
    refine ⟨lo, hi, a1, a2, by rw [m3, if_neg e]; exact a3, by rw [m4, if_neg e]; exact a4, fun w hw hne => ?_⟩
    rw [m2, if_neg (by omega)] at hne
    exact a5 w hw hne
def psN : psE := fun _ _ _ _ => False
theorem We_0 {P : pP} {w0 : Nat} : We P w0 0 = eAdd psN 0 0 w0 0 := by
  funext p u w c
  refine propext ⟨fun h => ?_, fun h => ?_⟩
  · match p, h with
    | 0, h => exact Or.inr ⟨rfl, h.2.1, h.2.2.1, h.2.2.2⟩
    | p + 1, h =>
      obtain ⟨-, u', w', c', x, -, h2, -⟩ := h
      exact absurd h2 (Nat.not_lt_zero _)
  · rcases h with h | ⟨rfl, rfl, rfl, rfl⟩
    · exact h.elim
    · exact ⟨by omega, rfl, rfl, rfl⟩
/-- of p passes the soonest way, the first one of these -/
def bestW (P : pP) (p u c : Nat) : Prop := (∃ w, Wy P 0 P.1 p u w c) ∧ ∀ u' w' c', Wy P 0 P.1 p u' w' c' → u < u' ∨ (u = u' ∧ c ≤ c')
theorem We_y {P : pP} (hP : pPok P) {w0 now p w c : Nat} (hp : p ≤ 6) : We P w0 now p now w c ↔ Wy P 0 w0 p now w c := by
  match p with
  | 0 => exact ⟨fun h => h.2, fun h => ⟨by omega, h⟩⟩
  | p + 1 =>
    refine ⟨fun h => ?_, fun h => ?_⟩
    · obtain ⟨-, u', w', c', x, a, b, e, f, g⟩ := h
      exact ⟨u', w', c', x, a, e, f, g⟩
    · obtain ⟨u', w', c', x, a, e, f, g⟩ := h
      have := (stp_le hP e f).2.1
      exact ⟨hp, u', w', c', x, a, by omega, e, f, g⟩
theorem We_s {P : pP} (hP : pPok P) {w0 now : Nat} : Fs (We P w0 now) P now 6 0 = We P w0 (now + 1) := by
  funext p' u' w' c'
  refine propext ⟨fun h => ?_, fun h => ?_⟩
  · rcases h with h | ⟨pp, w, c, x, h1, h2, h3, h4, h5, h6⟩
    · match p', h with
      | 0, h => exact h
      | p + 1, h =>
        obtain ⟨h0, u'', w'', c'', x, a, b, e⟩ := h
        exact ⟨h0, u'', w'', c'', x, a, by omega, e⟩
    · subst h2
      exact ⟨by omega, now, w, c, x, (We_y hP (by omega)).mp h3, by omega, h4, h5, h6⟩
  · match p', h with
    | 0, h => exact Or.inl h
    | p + 1, h =>
      obtain ⟨h0, u'', w'', c'', x, a, b, e⟩ := h
      by_cases eu : u'' = now
      · subst eu
        exact Or.inr ⟨p, w'', c'', x, by omega, rfl, (We_y hP (by omega)).mpr a, e⟩
      · exact Or.inl ⟨h0, u'', w'', c'', x, a, by omega, e⟩
theorem We_15 {P : pP} (hP : pPok P) {w0 now p u w c : Nat} (h : We P w0 now p u w c) : u ≤ now + 15 := by
  match p, h with
  | 0, h => have := h.2.1; omega
  | p + 1, h =>
    obtain ⟨-, u', w', c', x, a, b, e, f, -⟩ := h
    have := (stp_le hP e f).2.2.1
    omega
section PASSES4
variable {G : bl_G} {l : Launch} {d q a : Nat} {I : Nat → Nat → Int32} {J : Nat → Nat → Int64} {R : Nat → Nat → Option Nat} {K N : Nat → Nat} {tf g : Nat → Nat} {dg : Nat → Int32} {P : pP}
theorem c_Passes_start {u0 : Nat} {x : Int32} (hq : psS R K N q) (hR : pIR I q) (ha : kiS R K N a) (hC : kiC I a tf dg) (hg : ∀ h, h < 24 → dg h = nI (g h)) (hO : kiO tf g) (haq : a + 3 < q ∨ q + 6 < a) (hx : x = nI u0) (hu : u0 < 288) : bl_MC G l (d + 1) mX3_start [.ref q, .ref a, .int x] (I, J, R, K, N) (0, 0) (fun o σ' => o = .inl none ∧ ∃ I', σ' = (I', J, R, K, N) ∧ (∀ x, (x < q ∨ q + 6 < x) → I' x = I x) ∧ psD I' q (pPk tf g u0) ∧ pI I' q (We (pPk tf g u0) (10 * tf 4) 0) 0 0 ∧ I' q 6 = nI 0 ∧ I' q 11 = 1) := by
  have hq' := hq
  have ha' := ha
  obtain ⟨hq0, kq, ⟨rq_0, rq_1, rq_2, rq_3, rq_4, rq_5⟩, ⟨kq1, kq2, kq3, kq4, kq5, kq6⟩, ⟨nq1, nq2, nq3, nq4, nq5, nq6⟩⟩ := hq
  obtain ⟨-, ka, ra_0, -, -, ⟨kav, nav⟩, -, -⟩ := ha
  have hO' := hO
  obtain ⟨o4, o5, o6, o7, og⟩ := hO
  subst hx
  refine bl_MC_intro (by decide +kernel) rfl (Nat.le_of_ble_eq_true rfl) ?_
  have L99 : ∀ p, p ≤ 7 → ∀ z I1, z = nI p → (∀ x, (x < q ∨ q + 6 < x) → I1 x = I x) → psD I1 q (pPk tf g u0) → pIR I1 q → (∀ t, t < 96 → ∀ w, w ≤ 400 → I1 (q + 1) (t * 401 + w) = nI 0) → (∀ j, j < p → I1 (q + 4) j = nI 1000 ∧ I1 (q + 5) j = nI 0) → bl_WP G l (d + 1) mX3_start 99 [(3, .int z), (0, .ref q)] [] (I1, J, R, K, N) (0, 0) (fun o σ' => o = .inl none ∧ ∃ I', σ' = (I', J, R, K, N) ∧ (∀ x, (x < q ∨ q + 6 < x) → I' x = I x) ∧ psD I' q (pPk tf g u0) ∧ pI I' q (We (pPk tf g u0) (10 * tf 4) 0) 0 0 ∧ I' q 6 = nI 0 ∧ I' q 11 = 1) := by
    refine bl_for 7 ?_ (fun p hp ih => ?_)
    · intro z I1 hz f1 f2 f3 f4 f5; subst hz
      have f2' : psD (bl_up2 I1 q 6 0) q (pPk tf g u0) := by
        unfold psD
        rw [bl_up2_nk (by omega), bl_up2_nk (by omega), bl_up2_nk (by omega), bl_up2_nk (by omega), bl_up2_ne (show q + 6 ≠ q by omega)]; exact f2
      have e1 : ∀ x, x ≠ q → bl_up2 I1 q 6 0 x = I1 x := fun x hx => bl_up2_ne hx
      refine bl_go oX3_start 80 [53, 80, 99] rfl ?_
      refine ⟨fun h102 => ?_, fun h102 => ?_⟩
      · try simp (disch := omega) only [zI_n, zI_o, zI_lit, zI_neg, zI_add, zI_sub, zI_mul, zI_lt, zI_le, zI_eq, zI_clamp, zI_in, zI_div, zI_rem, lg_lt0, lg_gt0, lg_eq0, lg_le0, lg_ge0, Int.toNat_natCast, ge_iff_le, gt_iff_lt, List.length_cons, List.length_nil, bl_up2_at, bl_up2_nk, bl_up2_nx] at h102
        refine ⟨kq, Or.inr (Or.inr ⟨rfl, rfl, _, rfl⟩), (fun h => by cases h), kq, rfl, rfl, kq, (Nat.le_of_ble_eq_true rfl), (0, 0), Nat.le_of_ble_eq_true rfl, Nat.le_of_ble_eq_true rfl, bl_MC_mono (c_Passes_enter (d := d) (E := psN) (now := 0) (dn := 0) (p := 0) (u := 0) (w := 10 * tf 4) (c := 0) hq' (fun p hp => Or.inl ⟨by rw [e1 _ (by omega)]; exact (f5 p (by omega)).1, by rw [e1 _ (by omega)]; exact (f5 p (by omega)).2, fun _ _ _ h => h⟩) (fun p hp u _ _ w hw => Or.inl ⟨by rw [e1 _ (by omega)]; exact f4 _ (by omega) w hw, fun _ h => h⟩) (by unfold pIR; rw [e1 _ (by omega), e1 _ (by omega), e1 _ (by omega)]; exact f3) (fun _ _ _ _ h => h.elim) (by omega) (by omega) (by omega) (by omega) (Or.inr ⟨rfl, rfl⟩) rfl rfl (by dsimp only [bl_pv]; rw [bl_up2_nk (by omega)]; exact f2.1) rfl) (fun o140 σ140 q140 => ?_)⟩
        try dsimp only [bl_pv] at q140
        obtain ⟨rfl, I2, rfl, g1, g2, g3, g4⟩ := q140
        refine bl_go oX3_start 80 [53, 80, 99] rfl ?_
        refine ⟨kq, Or.inr (Or.inr ⟨rfl, rfl, _, rfl⟩), (fun _ => by first | exact Or.inl rfl | exact Or.inr rfl), ?_⟩
        try show _ ∧ _
        try dsimp only [bl_pv]
        have e11 : ∀ x, x ≠ q → bl_up2 I2 q 11 1 x = I2 x := fun x hx => bl_up2_ne hx
        refine ⟨rfl, _, rfl, fun x hx => ?_, ?_, ?_, ?_, bl_up2_at⟩
        · rw [e11 x (by omega), g1 x (by omega), e1 x (by omega)]; exact f1 x hx
        · have := f2'.f g1
          unfold psD at this ⊢
          rw [bl_up2_nk (by omega), bl_up2_nk (by omega), bl_up2_nk (by omega), bl_up2_nk (by omega), e11 _ (by omega)]; exact this
        · rw [We_0]
          refine ⟨?_, ?_, ?_, eAdd_b (fun _ _ _ _ h => h.elim) (by omega) (by omega) (by omega)⟩
          · unfold pIB; rw [e11 _ (by omega), e11 _ (by omega)]; exact g2
          · unfold pIC; rw [e11 _ (by omega)]; exact g3
          · unfold pIR; rw [e11 _ (by omega), e11 _ (by omega), e11 _ (by omega)]; exact g4
        · rw [bl_up2_nk (by omega), g1 q (by omega), bl_up2_at]; rfl
      · try simp (disch := omega) only [zI_n, zI_o, zI_lit, zI_neg, zI_add, zI_sub, zI_mul, zI_lt, zI_le, zI_eq, zI_clamp, zI_in, zI_div, zI_rem, lg_lt0, lg_gt0, lg_eq0, lg_le0, lg_ge0, Int.toNat_natCast, ge_iff_le, gt_iff_lt, List.length_cons, List.length_nil, bl_up2_at, bl_up2_nk, bl_up2_nx] at h102
        exfalso; omega
    · intro z I1 hz f1 f2 f3 f4 f5; subst hz
      have ec : (nI p).toNatClampNeg = p := nI_clamp (by omega)
      refine bl_go oX3_start 80 [53, 80, 99] rfl ?_
      refine ⟨fun h102 => ?_, fun h102 => ?_⟩
      · try simp (disch := omega) only [zI_n, zI_o, zI_lit, zI_neg, zI_add, zI_sub, zI_mul, zI_lt, zI_le, zI_eq, zI_clamp, zI_in, zI_div, zI_rem, lg_lt0, lg_gt0, lg_eq0, lg_le0, lg_ge0, Int.toNat_natCast, ge_iff_le, gt_iff_lt, List.length_cons, List.length_nil, bl_up2_at, bl_up2_nk, bl_up2_nx] at h102
        exfalso; omega
      · try simp (disch := omega) only [zI_n, zI_o, zI_lit, zI_neg, zI_add, zI_sub, zI_mul, zI_lt, zI_le, zI_eq, zI_clamp, zI_in, zI_div, zI_rem, lg_lt0, lg_gt0, lg_eq0, lg_le0, lg_ge0, Int.toNat_natCast, ge_iff_le, gt_iff_lt, List.length_cons, List.length_nil, bl_up2_at, bl_up2_nk, bl_up2_nx] at h102
        refine ⟨kq, _, bl_vs rq_3, kq4, (by first | exact (by rw [nq4]; exact vp_in_nI (by omega) (by omega)) | ((try dsimp only [bl_pv]); show vp_in _ (N _); rw [nq4]; simp (disch := omega) only [zI_n, zI_o, zI_lit, zI_neg, zI_add, zI_sub, zI_mul, zI_lt, zI_le, zI_eq, zI_clamp, zI_in, zI_div, zI_rem, lg_lt0, lg_gt0, lg_eq0, lg_le0, lg_ge0, Int.toNat_natCast, ge_iff_le, gt_iff_lt, List.length_cons, List.length_nil, bl_up2_at, bl_up2_nk, bl_up2_nx] <;> omega)), kq, _, bl_vs rq_4, kq5, (by first | exact (by rw [nq5]; exact vp_in_nI (by omega) (by omega)) | ((try dsimp only [bl_pv]); show vp_in _ (N _); rw [nq5]; simp (disch := omega) only [zI_n, zI_o, zI_lit, zI_neg, zI_add, zI_sub, zI_mul, zI_lt, zI_le, zI_eq, zI_clamp, zI_in, zI_div, zI_rem, lg_lt0, lg_gt0, lg_eq0, lg_le0, lg_ge0, Int.toNat_natCast, ge_iff_le, gt_iff_lt, List.length_cons, List.length_nil, bl_up2_at, bl_up2_nk, bl_up2_nx] <;> omega)), ?_⟩
        try dsimp only [bl_pv]
        rw [ec]
        refine ih _ _ (nI_1 _) (fun x hx => ?_) ?_ ?_ ?_ (fun j hj => ?_)
        · rw [bl_up2_ne (by omega), bl_up2_ne (by omega)]; exact f1 x hx
        · unfold psD; rw [bl_up2_ne (by omega), bl_up2_ne (by omega), bl_up2_ne (by omega), bl_up2_ne (by omega)]; exact f2
        · unfold pIR; rw [bl_up2_ne (by omega), bl_up2_ne (by omega), bl_up2_ne (by omega), bl_up2_ne (by omega), bl_up2_ne (by omega), bl_up2_ne (by omega)]; exact f3
        · rw [bl_up2_ne (by omega), bl_up2_ne (by omega)]; exact f4
        · rw [bl_up2_ne (show q + 4 ≠ q + 5 by omega)]
          by_cases e : j = p
          · subst e; rw [bl_up2_at, bl_up2_at]; exact ⟨rfl, rfl⟩
          · rw [bl_up2_nk e, bl_up2_nk e, bl_up2_ne (by omega)]; exact f5 j (by omega)
  have L80 : ∀ t, t ≤ 96 → ∀ z I1, z = nI t → (∀ x, (x < q ∨ q + 6 < x) → I1 x = I x) → psD I1 q (pPk tf g u0) → pIR I1 q → (∀ t', t' < t → ∀ w, w ≤ 400 → I1 (q + 1) (t' * 401 + w) = nI 0) → bl_WP G l (d + 1) mX3_start 80 [(3, .int z), (0, .ref q)] [] (I1, J, R, K, N) (0, 0) (fun o σ' => o = .inl none ∧ ∃ I', σ' = (I', J, R, K, N) ∧ (∀ x, (x < q ∨ q + 6 < x) → I' x = I x) ∧ psD I' q (pPk tf g u0) ∧ pI I' q (We (pPk tf g u0) (10 * tf 4) 0) 0 0 ∧ I' q 6 = nI 0 ∧ I' q 11 = 1) := by
    refine bl_for 96 ?_ (fun t ht ih => ?_)
    · intro z I1 hz f1 f2 f3 f4; subst hz
      refine bl_go oX3_start 80 [53, 80, 99] rfl ?_
      refine ⟨fun h83 => ?_, fun h83 => ?_⟩
      · try simp (disch := omega) only [zI_n, zI_o, zI_lit, zI_neg, zI_add, zI_sub, zI_mul, zI_lt, zI_le, zI_eq, zI_clamp, zI_in, zI_div, zI_rem, lg_lt0, lg_gt0, lg_eq0, lg_le0, lg_ge0, Int.toNat_natCast, ge_iff_le, gt_iff_lt, List.length_cons, List.length_nil, bl_up2_at, bl_up2_nk, bl_up2_nx] at h83
        try dsimp only [bl_pv]
        exact L99 0 (by omega) _ I1 rfl f1 f2 f3 f4 (fun j hj => absurd hj (by omega))
      · try simp (disch := omega) only [zI_n, zI_o, zI_lit, zI_neg, zI_add, zI_sub, zI_mul, zI_lt, zI_le, zI_eq, zI_clamp, zI_in, zI_div, zI_rem, lg_lt0, lg_gt0, lg_eq0, lg_le0, lg_ge0, Int.toNat_natCast, ge_iff_le, gt_iff_lt, List.length_cons, List.length_nil, bl_up2_at, bl_up2_nk, bl_up2_nx] at h83
        exfalso; omega
    · intro z I1 hz f1 f2 f3 f4; subst hz
      refine bl_go oX3_start 80 [53, 80, 99] rfl ?_
      refine ⟨fun h83 => ?_, fun h83 => ?_⟩
      · try simp (disch := omega) only [zI_n, zI_o, zI_lit, zI_neg, zI_add, zI_sub, zI_mul, zI_lt, zI_le, zI_eq, zI_clamp, zI_in, zI_div, zI_rem, lg_lt0, lg_gt0, lg_eq0, lg_le0, lg_ge0, Int.toNat_natCast, ge_iff_le, gt_iff_lt, List.length_cons, List.length_nil, bl_up2_at, bl_up2_nk, bl_up2_nx] at h83
        exfalso; omega
      · try simp (disch := omega) only [zI_n, zI_o, zI_lit, zI_neg, zI_add, zI_sub, zI_mul, zI_lt, zI_le, zI_eq, zI_clamp, zI_in, zI_div, zI_rem, lg_lt0, lg_gt0, lg_eq0, lg_le0, lg_ge0, Int.toNat_natCast, ge_iff_le, gt_iff_lt, List.length_cons, List.length_nil, bl_up2_at, bl_up2_nk, bl_up2_nx] at h83
        refine ⟨rfl, rfl, kq, (Nat.le_of_ble_eq_true rfl), (0, 0), Nat.le_of_ble_eq_true rfl, Nat.le_of_ble_eq_true rfl, bl_MC_mono (c_Passes_emptySlot (d := d) hq' f3 ht rfl) (fun o88 σ88 q88 => ?_)⟩
        try dsimp only [bl_pv] at q88
        obtain ⟨rfl, I2, rfl, hm⟩ := q88
        refine bl_go oX3_start 80 [53, 80, 99] rfl ?_
        try dsimp only [bl_pv]
        refine ih _ I2 (nI_1 _) (fun x hx => ?_) ?_ (pIR_em f3 hm ht) (fun t' ht' w hw => ?_)
        · rw [hm.1 x (by omega) (by omega) (by omega)]; exact f1 x hx
        · unfold psD; rw [hm.1 q (by omega) (by omega) (by omega), hm.1 (q + 6) (by omega) (by omega) (by omega)]; exact f2
        · rw [hm.2.1]
          by_cases e : t' = t
          · rw [if_pos (by omega)]
          · rw [if_neg (by omega)]; exact f4 t' (by omega) w hw
  have L53 : ∀ u, u ≤ 121 → ∀ z I1, z = nI u → (∀ x, (x < q ∨ q + 6 < x) → I1 x = I x) → (I1 q 7 = nI (10 * tf 4) ∧ I1 q 8 = nI (10 * tf 5) ∧ I1 q 9 = nI (10 * tf 6) ∧ I1 q 10 = nI (tf 7)) → pIR I1 q → (∀ j, j < u → I1 (q + 6) j = nI ((pPk tf g u0).2.2.2.2 j)) → bl_WP G l (d + 1) mX3_start 53 [(3, .int z), (0, .ref q), (1, .ref a), (2, .int (nI u0))] [] (I1, J, R, K, N) (0, 0) (fun o σ' => o = .inl none ∧ ∃ I', σ' = (I', J, R, K, N) ∧ (∀ x, (x < q ∨ q + 6 < x) → I' x = I x) ∧ psD I' q (pPk tf g u0) ∧ pI I' q (We (pPk tf g u0) (10 * tf 4) 0) 0 0 ∧ I' q 6 = nI 0 ∧ I' q 11 = 1) := by
    refine bl_for 121 ?_ (fun u hu' ih => ?_)
    · intro z I1 hz f1 f2 f3 f4; subst hz
      refine bl_go oX3_start 80 [53, 80, 99] rfl ?_
      refine ⟨fun h56 => ?_, fun h56 => ?_⟩
      · try simp (disch := omega) only [zI_n, zI_o, zI_lit, zI_neg, zI_add, zI_sub, zI_mul, zI_lt, zI_le, zI_eq, zI_clamp, zI_in, zI_div, zI_rem, lg_lt0, lg_gt0, lg_eq0, lg_le0, lg_ge0, Int.toNat_natCast, ge_iff_le, gt_iff_lt, List.length_cons, List.length_nil, bl_up2_at, bl_up2_nk, bl_up2_nx] at h56
        refine bl_lv [0, 1] rfl ?_
        try dsimp only [bl_pv]
        exact L80 0 (by omega) _ I1 rfl f1 ⟨f2.1, f2.2.1, f2.2.2.1, f2.2.2.2, fun u hu => f4 u (by omega)⟩ f3 (fun t' ht' => absurd ht' (by omega))
      · try simp (disch := omega) only [zI_n, zI_o, zI_lit, zI_neg, zI_add, zI_sub, zI_mul, zI_lt, zI_le, zI_eq, zI_clamp, zI_in, zI_div, zI_rem, lg_lt0, lg_gt0, lg_eq0, lg_le0, lg_ge0, Int.toNat_natCast, ge_iff_le, gt_iff_lt, List.length_cons, List.length_nil, bl_up2_at, bl_up2_nk, bl_up2_nx] at h56
        exfalso; omega
    · intro z I1 hz f1 f2 f3 f4; subst hz
      have ec : (nI u).toNatClampNeg = u := nI_clamp (by omega)
      have hC1 : kiC I1 a tf dg := ⟨fun j hj => by rw [f1 _ (by omega)]; exact hC.1 j hj, fun j hj => by rw [f1 _ (by omega)]; exact hC.2 j hj⟩
      refine bl_go oX3_start 80 [53, 80, 99] rfl ?_
      refine ⟨fun h56 => ?_, fun h56 => ?_⟩
      · try simp (disch := omega) only [zI_n, zI_o, zI_lit, zI_neg, zI_add, zI_sub, zI_mul, zI_lt, zI_le, zI_eq, zI_clamp, zI_in, zI_div, zI_rem, lg_lt0, lg_gt0, lg_eq0, lg_le0, lg_ge0, Int.toNat_natCast, ge_iff_le, gt_iff_lt, List.length_cons, List.length_nil, bl_up2_at, bl_up2_nk, bl_up2_nx] at h56
        exfalso; omega
      · try simp (disch := omega) only [zI_n, zI_o, zI_lit, zI_neg, zI_add, zI_sub, zI_mul, zI_lt, zI_le, zI_eq, zI_clamp, zI_in, zI_div, zI_rem, lg_lt0, lg_gt0, lg_eq0, lg_le0, lg_ge0, Int.toNat_natCast, ge_iff_le, gt_iff_lt, List.length_cons, List.length_nil, bl_up2_at, bl_up2_nk, bl_up2_nx] at h56
        refine ⟨kq, _, bl_vs rq_5, rfl, rfl, ka, (Nat.le_of_ble_eq_true rfl), (0, 0), Nat.le_of_ble_eq_true rfl, Nat.le_of_ble_eq_true rfl, bl_MC_mono (c_Kitchen_roomTenths' (d := d) (u := u0 + u) (by rw [nI_add]) (by omega) ha' hC1) (fun o68 σ68 q68 => ?_)⟩
        try dsimp only [bl_pv] at q68
        obtain ⟨rfl, rfl⟩ := q68
        refine bl_go oX3_start 80 [53, 80, 99] rfl ?_
        refine ⟨kq6, (by first | exact (by rw [nq6]; exact vp_in_nI (by omega) (by omega)) | ((try dsimp only [bl_pv]); show vp_in _ (N _); rw [nq6]; simp (disch := omega) only [zI_n, zI_o, zI_lit, zI_neg, zI_add, zI_sub, zI_mul, zI_lt, zI_le, zI_eq, zI_clamp, zI_in, zI_div, zI_rem, lg_lt0, lg_gt0, lg_eq0, lg_le0, lg_ge0, Int.toNat_natCast, ge_iff_le, gt_iff_lt, List.length_cons, List.length_nil, bl_up2_at, bl_up2_nk, bl_up2_nx] <;> omega)), ?_⟩
        try dsimp only [bl_pv]
        rw [ec]
        refine ih _ _ (nI_1 _) (fun x hx => ?_) ?_ ?_ (fun j hj => ?_)
        · rw [bl_up2_ne (by omega)]; exact f1 x hx
        · rw [bl_up2_ne (by omega)]; exact f2
        · unfold pIR; rw [bl_up2_ne (by omega), bl_up2_ne (by omega), bl_up2_ne (by omega)]; exact f3
        · by_cases e : j = u
          · subst e
            rw [bl_up2_at, hg _ (by omega), show (10 : Int32) = nI 10 from rfl, nI_mulc]; rfl
          · rw [bl_up2_nk e]; exact f4 j (by omega)
  have v4 := hC.1 4 (by omega)
  have v5 := hC.1 5 (by omega)
  have v6 := hC.1 6 (by omega)
  have v7 := hC.1 7 (by omega)
  have e10 : ∀ n, (10 : Int32) * nI n = nI (10 * n) := fun n => by rw [show (10 : Int32) = nI 10 from rfl, nI_mulc]
  refine bl_go oX3_start 80 [53, 80, 99] rfl ?_
  refine ⟨ka, _, bl_vs ra_0, Or.inl ⟨kav, (by first | exact (by rw [nav]; exact vp_in_nI (by omega) (by omega)) | ((try dsimp only [bl_pv]); show vp_in _ (N _); rw [nav]; simp (disch := omega) only [zI_n, zI_o, zI_lit, zI_neg, zI_add, zI_sub, zI_mul, zI_lt, zI_le, zI_eq, zI_clamp, zI_in, zI_div, zI_rem, lg_lt0, lg_gt0, lg_eq0, lg_le0, lg_ge0, Int.toNat_natCast, ge_iff_le, gt_iff_lt, List.length_cons, List.length_nil, bl_up2_at, bl_up2_nk, bl_up2_nx] <;> omega)), kq, Or.inr (Or.inr ⟨rfl, rfl, _, rfl⟩), (fun h => by cases h), ka, _, bl_vs ra_0, Or.inl ⟨kav, (by first | exact (by rw [nav]; exact vp_in_nI (by omega) (by omega)) | ((try dsimp only [bl_pv]); show vp_in _ (N _); rw [nav]; simp (disch := omega) only [zI_n, zI_o, zI_lit, zI_neg, zI_add, zI_sub, zI_mul, zI_lt, zI_le, zI_eq, zI_clamp, zI_in, zI_div, zI_rem, lg_lt0, lg_gt0, lg_eq0, lg_le0, lg_ge0, Int.toNat_natCast, ge_iff_le, gt_iff_lt, List.length_cons, List.length_nil, bl_up2_at, bl_up2_nk, bl_up2_nx] <;> omega)), kq, Or.inr (Or.inr ⟨rfl, rfl, _, rfl⟩), (fun h => by cases h), ka, _, bl_vs ra_0, Or.inl ⟨kav, (by first | exact (by rw [nav]; exact vp_in_nI (by omega) (by omega)) | ((try dsimp only [bl_pv]); show vp_in _ (N _); rw [nav]; simp (disch := omega) only [zI_n, zI_o, zI_lit, zI_neg, zI_add, zI_sub, zI_mul, zI_lt, zI_le, zI_eq, zI_clamp, zI_in, zI_div, zI_rem, lg_lt0, lg_gt0, lg_eq0, lg_le0, lg_ge0, Int.toNat_natCast, ge_iff_le, gt_iff_lt, List.length_cons, List.length_nil, bl_up2_at, bl_up2_nk, bl_up2_nx] <;> omega)), kq, Or.inr (Or.inr ⟨rfl, rfl, _, rfl⟩), (fun h => by cases h), ka, _, bl_vs ra_0, Or.inl ⟨kav, (by first | exact (by rw [nav]; exact vp_in_nI (by omega) (by omega)) | ((try dsimp only [bl_pv]); show vp_in _ (N _); rw [nav]; simp (disch := omega) only [zI_n, zI_o, zI_lit, zI_neg, zI_add, zI_sub, zI_mul, zI_lt, zI_le, zI_eq, zI_clamp, zI_in, zI_div, zI_rem, lg_lt0, lg_gt0, lg_eq0, lg_le0, lg_ge0, Int.toNat_natCast, ge_iff_le, gt_iff_lt, List.length_cons, List.length_nil, bl_up2_at, bl_up2_nk, bl_up2_nx] <;> omega)), kq, Or.inr (Or.inr ⟨rfl, rfl, _, rfl⟩), (fun h => by cases h), ?_⟩⟩⟩⟩⟩
  try dsimp only [bl_pv]
  refine L53 0 (by omega) _ _ rfl (fun x hx => ?_) ⟨?_, ?_, ?_, ?_⟩ ?_ (fun j hj => absurd hj (by omega))
  · simp (disch := omega) only [bl_up2_ne]
  · simp (disch := omega) only [bl_up2_nk, bl_up2_at]
    show 10 * I (a + 1) 4 = _
    rw [v4, e10]
  · simp (disch := omega) only [bl_up2_nk, bl_up2_at, bl_up2_nx]
    show 10 * I (a + 1) 5 = _
    rw [v5, e10]
  · simp (disch := omega) only [bl_up2_nk, bl_up2_at, bl_up2_nx]
    show 10 * I (a + 1) 6 = _
    rw [v6, e10]
  · simp (disch := omega) only [bl_up2_nk, bl_up2_at, bl_up2_nx]
    show I (a + 1) 7 = _
    exact v7
  · unfold pIR; simp (disch := omega) only [bl_up2_ne]; exact hR
end PASSES4
