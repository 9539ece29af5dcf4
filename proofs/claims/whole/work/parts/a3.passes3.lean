/-! ===== Passes: emptySlot, spreadSlot ===== -/
/-- and what comes of the states at now of fewer than p passes, or of p ones, less warm than wb -/
def Fs (E : psE) (P : pP) (now p wb : Nat) : psE := fun p' u' w' c' => E p' u' w' c' ∨ ∃ pp w c x, (pp < p ∨ (pp = p ∧ w < wb)) ∧ p' = pp + 1 ∧ E pp now w c ∧ x < 25 ∧ stp P x now w = some (u', w') ∧ c' = 25 * c + x
theorem Fs_now {E : psE} {P : pP} {now p wb p' w c : Nat} (hP : pPok P) : Fs E P now p wb p' now w c ↔ E p' now w c := by
  refine ⟨fun h => h.elim id ?_, Or.inl⟩
  rintro ⟨pp, w', c', x, -, -, -, hx, hs, -⟩
  have := (stp_le hP hx hs).2.1
  omega
theorem Fs_0 {E : psE} {P : pP} {now : Nat} : Fs E P now 0 0 = E := by
  funext p' u' w' c'
  refine propext ⟨fun h => h.elim id ?_, Or.inl⟩
  rintro ⟨pp, w, c, x, h, -⟩
  omega
theorem Fs_skip {E : psE} {P : pP} {now p a b : Nat} (hab : a ≤ b) (h : ∀ w c, a ≤ w → w < b → ¬ E p now w c) : Fs E P now p a = Fs E P now p b := by
  funext p' u' w' c'
  refine propext ⟨fun h' => h'.elim Or.inl (fun ⟨pp, w, c, x, h1, h2⟩ => Or.inr ⟨pp, w, c, x, by omega, h2⟩), fun h' => h'.elim Or.inl ?_⟩
  rintro ⟨pp, w, c, x, h1, h2, h3, h4⟩
  refine Or.inr ⟨pp, w, c, x, ?_, h2, h3, h4⟩
  rcases h1 with h1 | ⟨h1, h5⟩
  · exact Or.inl h1
  · by_cases e : w < a
    · exact Or.inr ⟨h1, e⟩
    · subst h1; exact absurd h3 (h w c (by omega) h5)
theorem Fs_next {E : psE} {P : pP} {now p : Nat} (hE : ∀ w c, E p now w c → w ≤ 400) : Fs E P now p 401 = Fs E P now (p + 1) 0 := by
  funext p' u' w' c'
  refine propext ⟨fun h' => h'.elim Or.inl (fun ⟨pp, w, c, x, h1, h2⟩ => Or.inr ⟨pp, w, c, x, by omega, h2⟩), fun h' => h'.elim Or.inl ?_⟩
  rintro ⟨pp, w, c, x, h1, h2, h3, h4⟩
  refine Or.inr ⟨pp, w, c, x, ?_, h2, h3, h4⟩
  by_cases e : pp = p
  · subst e; have := hE w c h3; omega
  · omega
section PASSES3
variable {G : bl_G} {l : Launch} {d q now dn : Nat} {I : Nat → Nat → Int32} {J : Nat → Nat → Int64} {R : Nat → Nat → Option Nat} {K N : Nat → Nat} {E : psE} {P : pP}
def emQ (I I' : Nat → Nat → Int32) (q t : Nat) : Prop := (∀ x, x ≠ q + 1 → x ≠ q + 2 → x ≠ q + 3 → I' x = I x) ∧ (∀ j, I' (q + 1) j = if t * 401 ≤ j ∧ j < t * 401 + 401 then nI 0 else I (q + 1) j) ∧ (∀ j, I' (q + 2) j = if j = t then nI 401 else I (q + 2) j) ∧ ∀ j, I' (q + 3) j = if j = t then zI (-1) else I (q + 3) j
theorem c_Passes_emptySlot {t : Nat} {x : Int32} (hq : psS R K N q) (hR : pIR I q) (ht : t < 96) (hx : x = nI t) : bl_MC G l d mX3_emptySlot [.ref q, .int x] (I, J, R, K, N) (0, 0) (fun o σ' => o = .inl none ∧ ∃ I', σ' = (I', J, R, K, N) ∧ emQ I I' q t) := by
  obtain ⟨hq0, kq, ⟨rq_0, rq_1, rq_2, rq_3, rq_4, rq_5⟩, ⟨kq1, kq2, kq3, kq4, kq5, kq6⟩, ⟨nq1, nq2, nq3, nq4, nq5, nq6⟩⟩ := hq
  obtain ⟨lo, hi, a1, a2, a3, a4, a5⟩ := hR t ht
  have ec : (nI t).toNatClampNeg = t := nI_clamp (by omega)
  subst hx
  refine bl_MC_intro (by decide +kernel) rfl (Nat.le_of_ble_eq_true rfl) ?_
  have L : ∀ m i, i + m = max lo hi → lo ≤ i → ∀ z I1, z = nI i → (∀ x, x ≠ q + 1 → I1 x = I x) → (∀ j, I1 (q + 1) j = if t * 401 + lo ≤ j ∧ j < t * 401 + i then nI 0 else I (q + 1) j) → bl_WP G l d mX3_emptySlot 7 [(2, .int z), (0, .ref q), (1, .int (nI t))] [] (I1, J, R, K, N) (0, 0) (fun o σ' => o = .inl none ∧ ∃ I', σ' = (I', J, R, K, N) ∧ emQ I I' q t) := by
    intro m
    induction m with
    | zero =>
      intro i hi1 hi2 z I1 hz f1 f2
      subst hz
      have g3 : I1 (q + 3) t = zI ((hi : Int) - 1) := by rw [f1 _ (by omega)]; exact a4
      refine bl_go oX3_emptySlot 80 [7] rfl ?_
      refine ⟨kq, _, bl_vs rq_2, Or.inl ⟨kq3, (by first | exact (by rw [nq3]; exact vp_in_nI (by omega) (by omega)) | ((try dsimp only [bl_pv]); show vp_in _ (N _); rw [nq3]; simp (disch := omega) only [g3, zI_n, zI_o, zI_lit, zI_neg, zI_add, zI_sub, zI_mul, zI_lt, zI_le, zI_eq, zI_clamp, zI_in, zI_div, zI_rem, lg_lt0, lg_gt0, lg_eq0, lg_le0, lg_ge0, Int.toNat_natCast, ge_iff_le, gt_iff_lt, List.length_cons, List.length_nil, bl_up2_at, bl_up2_nk, bl_up2_nx] <;> omega)), fun h14 => ?_, fun h14 => ?_⟩⟩
      · try simp (disch := omega) only [g3, zI_n, zI_o, zI_lit, zI_neg, zI_add, zI_sub, zI_mul, zI_lt, zI_le, zI_eq, zI_clamp, zI_in, zI_div, zI_rem, lg_lt0, lg_gt0, lg_eq0, lg_le0, lg_ge0, Int.toNat_natCast, ge_iff_le, gt_iff_lt, List.length_cons, List.length_nil, bl_up2_at, bl_up2_nk, bl_up2_nx] at h14
        refine ⟨kq, _, bl_vs rq_1, kq2, (by first | exact (by rw [nq2]; exact vp_in_nI (by omega) (by omega)) | ((try dsimp only [bl_pv]); show vp_in _ (N _); rw [nq2]; simp (disch := omega) only [g3, zI_n, zI_o, zI_lit, zI_neg, zI_add, zI_sub, zI_mul, zI_lt, zI_le, zI_eq, zI_clamp, zI_in, zI_div, zI_rem, lg_lt0, lg_gt0, lg_eq0, lg_le0, lg_ge0, Int.toNat_natCast, ge_iff_le, gt_iff_lt, List.length_cons, List.length_nil, bl_up2_at, bl_up2_nk, bl_up2_nx] <;> omega)), kq, _, bl_vs rq_2, kq3, (by first | exact (by rw [nq3]; exact vp_in_nI (by omega) (by omega)) | ((try dsimp only [bl_pv]); show vp_in _ (N _); rw [nq3]; simp (disch := omega) only [g3, zI_n, zI_o, zI_lit, zI_neg, zI_add, zI_sub, zI_mul, zI_lt, zI_le, zI_eq, zI_clamp, zI_in, zI_div, zI_rem, lg_lt0, lg_gt0, lg_eq0, lg_le0, lg_ge0, Int.toNat_natCast, ge_iff_le, gt_iff_lt, List.length_cons, List.length_nil, bl_up2_at, bl_up2_nk, bl_up2_nx] <;> omega)), ?_⟩
        try show _ ∧ _
        try dsimp only [bl_pv]
        refine ⟨rfl, _, rfl, fun x x1 x2 x3 => ?_, fun j => ?_, fun j => ?_, fun j => ?_⟩
        · rw [bl_up2_ne x3, bl_up2_ne x2]; exact f1 x x1
        · rw [bl_up2_ne (by omega), bl_up2_ne (by omega), f2]
          by_cases e : t * 401 ≤ j ∧ j < t * 401 + 401
          · rw [if_pos e]
            by_cases e2 : t * 401 + lo ≤ j ∧ j < t * 401 + i
            · rw [if_pos e2]
            · rw [if_neg e2]
              by_cases e3 : I (q + 1) j = nI 0
              · exact e3
              · obtain ⟨w, rfl⟩ : ∃ w, j = t * 401 + w := ⟨j - t * 401, by omega⟩
                have := a5 w (by omega) e3
                omega
          · have hi401 : i ≤ 401 := by omega
            rw [if_neg e, if_neg (fun q => e ⟨Nat.le_trans (Nat.le_add_right _ _) q.1, Nat.lt_of_lt_of_le q.2 (Nat.add_le_add_left hi401 _)⟩)]
        · rw [bl_up2_ne (by omega), ec]
          by_cases e : j = t
          · subst e; rw [bl_up2_at, if_pos rfl]; rfl
          · rw [bl_up2_nk e, if_neg e, f1 _ (by omega)]
        · rw [ec]
          by_cases e : j = t
          · subst e; rw [bl_up2_at, if_pos rfl]; rfl
          · rw [bl_up2_nk e, if_neg e, bl_up2_ne (by omega), f1 _ (by omega)]
      · try simp (disch := omega) only [g3, zI_n, zI_o, zI_lit, zI_neg, zI_add, zI_sub, zI_mul, zI_lt, zI_le, zI_eq, zI_clamp, zI_in, zI_div, zI_rem, lg_lt0, lg_gt0, lg_eq0, lg_le0, lg_ge0, Int.toNat_natCast, ge_iff_le, gt_iff_lt, List.length_cons, List.length_nil, bl_up2_at, bl_up2_nk, bl_up2_nx] at h14
        exfalso; omega
    | succ m ih =>
      intro i hi1 hi2 z I1 hz f1 f2
      subst hz
      have g3 : I1 (q + 3) t = zI ((hi : Int) - 1) := by rw [f1 _ (by omega)]; exact a4
      have em : nI t * 401 + nI i = nI (t * 401 + i) := by
        simp (disch := omega) only [zI_n, zI_o, zI_lit, zI_neg, zI_add, zI_sub, zI_mul, zI_lt, zI_le, zI_eq, zI_clamp, zI_in, zI_div, zI_rem, lg_lt0, lg_gt0, lg_eq0, lg_le0, lg_ge0, Int.toNat_natCast, ge_iff_le, gt_iff_lt, List.length_cons, List.length_nil, bl_up2_at, bl_up2_nk, bl_up2_nx]
        congr 1
      have ei : (nI (t * 401 + i)).toNatClampNeg = t * 401 + i := nI_clamp (by omega)
      refine bl_go oX3_emptySlot 80 [7] rfl ?_
      refine ⟨kq, _, bl_vs rq_2, Or.inl ⟨kq3, (by first | exact (by rw [nq3]; exact vp_in_nI (by omega) (by omega)) | ((try dsimp only [bl_pv]); show vp_in _ (N _); rw [nq3]; simp (disch := omega) only [g3, zI_n, zI_o, zI_lit, zI_neg, zI_add, zI_sub, zI_mul, zI_lt, zI_le, zI_eq, zI_clamp, zI_in, zI_div, zI_rem, lg_lt0, lg_gt0, lg_eq0, lg_le0, lg_ge0, Int.toNat_natCast, ge_iff_le, gt_iff_lt, List.length_cons, List.length_nil, bl_up2_at, bl_up2_nk, bl_up2_nx] <;> omega)), fun h14 => ?_, fun h14 => ?_⟩⟩
      · try simp (disch := omega) only [g3, zI_n, zI_o, zI_lit, zI_neg, zI_add, zI_sub, zI_mul, zI_lt, zI_le, zI_eq, zI_clamp, zI_in, zI_div, zI_rem, lg_lt0, lg_gt0, lg_eq0, lg_le0, lg_ge0, Int.toNat_natCast, ge_iff_le, gt_iff_lt, List.length_cons, List.length_nil, bl_up2_at, bl_up2_nk, bl_up2_nx] at h14
        exfalso; omega
      · try simp (disch := omega) only [g3, zI_n, zI_o, zI_lit, zI_neg, zI_add, zI_sub, zI_mul, zI_lt, zI_le, zI_eq, zI_clamp, zI_in, zI_div, zI_rem, lg_lt0, lg_gt0, lg_eq0, lg_le0, lg_ge0, Int.toNat_natCast, ge_iff_le, gt_iff_lt, List.length_cons, List.length_nil, bl_up2_at, bl_up2_nk, bl_up2_nx] at h14
        refine ⟨kq, _, bl_vs rq_0, kq1, (by (try dsimp only [bl_pv]); show vp_in _ (N _); rw [nq1, em]; exact vp_in_nI (by omega) (by omega)), ?_⟩
        try dsimp only [bl_pv]
        rw [em, ei]
        refine ih (i + 1) (by omega) (by omega) _ _ (nI_1 _) (fun x x1 => by rw [bl_up2_ne x1]; exact f1 x x1) (fun j => ?_)
        by_cases e : j = t * 401 + i
        · subst e; rw [bl_up2_at, if_pos (by omega)]; rfl
        · rw [bl_up2_nk e, f2]
          by_cases e2 : t * 401 + lo ≤ j ∧ j < t * 401 + i
          · rw [if_pos e2, if_pos (by omega)]
          · rw [if_neg e2, if_neg (by omega)]
  refine bl_go oX3_emptySlot 80 [7] rfl ?_
  refine ⟨kq, _, bl_vs rq_1, Or.inl ⟨kq2, (by first | exact (by rw [nq2]; exact vp_in_nI (by omega) (by omega)) | ((try dsimp only [bl_pv]); show vp_in _ (N _); rw [nq2]; simp (disch := omega) only [zI_n, zI_o, zI_lit, zI_neg, zI_add, zI_sub, zI_mul, zI_lt, zI_le, zI_eq, zI_clamp, zI_in, zI_div, zI_rem, lg_lt0, lg_gt0, lg_eq0, lg_le0, lg_ge0, Int.toNat_natCast, ge_iff_le, gt_iff_lt, List.length_cons, List.length_nil, bl_up2_at, bl_up2_nk, bl_up2_nx] <;> omega)), ?_⟩⟩
  try dsimp only [bl_pv]
  exact L (max lo hi - lo) lo (by omega) (Nat.le_refl _) _ I (by rw [ec]; exact a3) (fun _ _ => rfl) (fun j => by rw [if_neg (by omega)])
theorem pI_empty {I' : Nat → Nat → Int32} {p : Nat} (hI : pI I q E now p) (hp : p < 6) (hm : emQ I I' q (now % 16 * 6 + p)) (h15 : ∀ p u w c, E p u w c → u ≤ now + 15) : pI I' q E now (p + 1) := by
  obtain ⟨hB, hC, hR, hE⟩ := hI
  obtain ⟨m1, m2, m3, m4⟩ := hm
  refine ⟨?_, fun p' hp' u hu1 hu2 w hw => ?_, fun t ht => ?_, hE⟩
  · unfold pIB; rw [m1 _ (by omega) (by omega) (by omega), m1 _ (by omega) (by omega) (by omega)]; exact hB
  · rw [m2]
    by_cases e : p' = p
    · subst e
      rw [if_pos (by omega)] at hu1 hu2
      by_cases eu : u = now + 16
      · rw [if_pos (by omega)]
        exact Or.inl ⟨rfl, fun c h => by have := h15 _ _ _ _ h; omega⟩
      · rw [if_neg (by omega)]
        exact hC p' hp' u (by rw [if_neg (by omega)]; omega) (by rw [if_neg (by omega)]; omega) w hw
    · rw [if_neg (by omega)]
      have es : (if p' < p + 1 then 1 else 0) = (if p' < p then 1 else 0) := by
        by_cases e2 : p' < p
        · rw [if_pos (by omega), if_pos e2]
        · rw [if_neg (by omega), if_neg e2]
      rw [es] at hu1 hu2
      exact hC p' hp' u hu1 hu2 w hw
  · by_cases e : t = now % 16 * 6 + p
    · subst e
      refine ⟨401, 0, by omega, by omega, by rw [m3, if_pos rfl], by rw [m4, if_pos rfl]; rfl, fun w hw hne => ?_⟩
      rw [m2, if_pos (by omega)] at hne
      exact absurd rfl hne
    · obtain ⟨lo, hi, a1, a2, a3, a4, a5⟩ := hR t ht
      refine ⟨lo, hi, a1, a2, by rw [m3, if_neg e]; exact a3, by rw [m4, if_neg e]; exact a4, fun w hw hne => ?_⟩
      rw [m2, if_neg (by omega)] at hne
      exact a5 w hw hne
theorem c_Passes_spreadSlot (hq : psS R K N q) (hD : psD I q P) (hP : pPok P) (hI : pI I q E now 0) (hn : I q 6 = nI now) (hu3 : now ≤ 120) (h15 : ∀ p u w c, E p u w c → u ≤ now + 15) (h5 : ∀ p w c, p < 6 → E p now w c → c < 9765625) : bl_MC G l (d + 3) mX3_spreadSlot [.ref q] (I, J, R, K, N) (0, 0) (fun o σ' => o = .inl none ∧ ∃ I', σ' = (I', J, R, K, N) ∧ psF I I' q ∧ pI I' q (Fs E P now 6 0) now 6) := by
  have hq' := hq
  obtain ⟨hq0, kq, ⟨rq_0, rq_1, rq_2, rq_3, rq_4, rq_5⟩, ⟨kq1, kq2, kq3, kq4, kq5, kq6⟩, ⟨nq1, nq2, nq3, nq4, nq5, nq6⟩⟩ := hq
  have hE4 : ∀ p w c, E p now w c → w ≤ 400 := fun p w c h => (hI.2.2.2 _ _ _ _ h).2.1
  have h15F : ∀ p wb p' u w c, Fs E P now p wb p' u w c → u ≤ now + 15 := by
    rintro p wb p' u w c (h | ⟨pp, w', c', x, -, -, -, hx, hs, -⟩)
    · exact h15 _ _ _ _ h
    · exact (stp_le hP hx hs).2.2.1
  refine bl_MC_intro (by decide +kernel) rfl (Nat.le_of_ble_eq_true rfl) ?_
  have L : ∀ p, p ≤ 6 → ∀ z I1, z = nI p → psF I I1 q → pI I1 q (Fs E P now p 0) now p → bl_WP G l (d + 3) mX3_spreadSlot 2 [(1, .int z), (0, .ref q)] [] (I1, J, R, K, N) (0, 0) (fun o σ' => o = .inl none ∧ ∃ I', σ' = (I', J, R, K, N) ∧ psF I I' q ∧ pI I' q (Fs E P now 6 0) now 6) := by
    refine bl_for 6 ?_ (fun p hp ih => ?_)
    · intro z I1 hz hF h1; subst hz
      refine bl_go oX3_spreadSlot 80 [2, 28] rfl ?_
      refine ⟨fun h5 => ?_, fun h5 => ?_⟩
      · try simp (disch := omega) only [zI_n, zI_o, zI_lit, zI_neg, zI_add, zI_sub, zI_mul, zI_lt, zI_le, zI_eq, zI_clamp, zI_in, zI_div, zI_rem, lg_lt0, lg_gt0, lg_eq0, lg_le0, lg_ge0, Int.toNat_natCast, ge_iff_le, gt_iff_lt, List.length_cons, List.length_nil, bl_up2_at, bl_up2_nk, bl_up2_nx] at h5
        try show _ ∧ _
        try dsimp only [bl_pv]
        exact ⟨rfl, I1, rfl, hF, h1⟩
      · try simp (disch := omega) only [zI_n, zI_o, zI_lit, zI_neg, zI_add, zI_sub, zI_mul, zI_lt, zI_le, zI_eq, zI_clamp, zI_in, zI_div, zI_rem, lg_lt0, lg_gt0, lg_eq0, lg_le0, lg_ge0, Int.toNat_natCast, ge_iff_le, gt_iff_lt, List.length_cons, List.length_nil, bl_up2_at, bl_up2_nk, bl_up2_nx] at h5
        exfalso; omega
    · intro z I1 hz hF h1; subst hz
      have g6 : I1 q 6 = nI now := by rw [hF q (by omega)]; exact hn
      have em : (nI now - nI now / 16 * 16) * 6 + nI p = nI (now % 16 * 6 + p) := by
        simp (disch := omega) only [zI_n, zI_o, zI_lit, zI_neg, zI_add, zI_sub, zI_mul, zI_lt, zI_le, zI_eq, zI_clamp, zI_in, zI_div, zI_rem, lg_lt0, lg_gt0, lg_eq0, lg_le0, lg_ge0, Int.toNat_natCast, ge_iff_le, gt_iff_lt, List.length_cons, List.length_nil, bl_up2_at, bl_up2_nk, bl_up2_nx]
        congr 1
        omega
      have ect : (nI (now % 16 * 6 + p)).toNatClampNeg = now % 16 * 6 + p := nI_clamp (by omega)
      have L28 : ∀ m i, i + m = 401 → ∀ z v I1, z = nI i → v = nI (now % 16 * 6 + p) → psF I I1 q → pI I1 q (Fs E P now p i) now p → bl_WP G l (d + 3) mX3_spreadSlot 28 [(3, .int z), (2, .int v), (1, .int (nI p)), (0, .ref q)] [] (I1, J, R, K, N) (0, 0) (fun o σ' => o = .inl none ∧ ∃ I', σ' = (I', J, R, K, N) ∧ psF I I' q ∧ pI I' q (Fs E P now 6 0) now 6) := by
        intro m
        induction m with
        | zero =>
          intro i hi z v I1 hz hv hF h1
          have e401 : i = 401 := by omega
          subst e401 hz hv
          obtain ⟨lo, hi', a1, a2, a3, a4, a5⟩ := h1.2.2.1 (now % 16 * 6 + p) (by omega)
          refine bl_go oX3_spreadSlot 80 [2, 28] rfl ?_
          refine ⟨kq, _, bl_vs rq_2, Or.inl ⟨kq3, (by first | exact (by rw [nq3]; exact vp_in_nI (by omega) (by omega)) | ((try dsimp only [bl_pv]); show vp_in _ (N _); rw [nq3]; simp (disch := omega) only [a4, zI_n, zI_o, zI_lit, zI_neg, zI_add, zI_sub, zI_mul, zI_lt, zI_le, zI_eq, zI_clamp, zI_in, zI_div, zI_rem, lg_lt0, lg_gt0, lg_eq0, lg_le0, lg_ge0, Int.toNat_natCast, ge_iff_le, gt_iff_lt, List.length_cons, List.length_nil, bl_up2_at, bl_up2_nk, bl_up2_nx] <;> omega)), fun h35 => ?_, fun h35 => ?_⟩⟩
          · try simp (disch := omega) only [a4, zI_n, zI_o, zI_lit, zI_neg, zI_add, zI_sub, zI_mul, zI_lt, zI_le, zI_eq, zI_clamp, zI_in, zI_div, zI_rem, lg_lt0, lg_gt0, lg_eq0, lg_le0, lg_ge0, Int.toNat_natCast, ge_iff_le, gt_iff_lt, List.length_cons, List.length_nil, bl_up2_at, bl_up2_nk, bl_up2_nx] at h35
            refine ⟨rfl, rfl, kq, (Nat.le_of_ble_eq_true rfl), (0, 0), Nat.le_of_ble_eq_true rfl, Nat.le_of_ble_eq_true rfl, bl_MC_mono (c_Passes_emptySlot (d := d + 2) hq' h1.2.2.1 (by omega) rfl) (fun o78 σ78 q78 => ?_)⟩
            try dsimp only [bl_pv] at q78
            obtain ⟨rfl, I2, rfl, hm⟩ := q78
            refine bl_go oX3_spreadSlot 80 [2, 28] rfl ?_
            refine bl_lv [0, 3] rfl ?_
            try dsimp only [bl_pv]
            refine ih _ I2 (nI_1 _) (fun x hx => by rw [hm.1 x (by omega) (by omega) (by omega)]; exact hF x hx) ?_
            rw [← Fs_next (fun w c h => hE4 _ w c h)]
            exact pI_empty h1 hp hm (h15F _ _)
          · try simp (disch := omega) only [a4, zI_n, zI_o, zI_lit, zI_neg, zI_add, zI_sub, zI_mul, zI_lt, zI_le, zI_eq, zI_clamp, zI_in, zI_div, zI_rem, lg_lt0, lg_gt0, lg_eq0, lg_le0, lg_ge0, Int.toNat_natCast, ge_iff_le, gt_iff_lt, List.length_cons, List.length_nil, bl_up2_at, bl_up2_nk, bl_up2_nx] at h35
            exfalso; omega
        | succ m ihm =>
          intro i hi z v I1 hz hv hF h1
          subst hz hv
          have hD1 := hD.f hF
          have g6 : I1 q 6 = nI now := by rw [hF q (by omega)]; exact hn
          obtain ⟨lo, hi', a1, a2, a3, a4, a5⟩ := h1.2.2.1 (now % 16 * 6 + p) (by omega)
          have em2 : nI (now % 16 * 6 + p) * 401 + nI i = nI ((now % 16 * 6 + p) * 401 + i) := by
            simp (disch := omega) only [zI_n, zI_o, zI_lit, zI_neg, zI_add, zI_sub, zI_mul, zI_lt, zI_le, zI_eq, zI_clamp, zI_in, zI_div, zI_rem, lg_lt0, lg_gt0, lg_eq0, lg_le0, lg_ge0, Int.toNat_natCast, ge_iff_le, gt_iff_lt, List.length_cons, List.length_nil, bl_up2_at, bl_up2_nk, bl_up2_nx]
            congr 1
          have ei : (nI ((now % 16 * 6 + p) * 401 + i)).toNatClampNeg = (now % 16 * 6 + p) * 401 + i := nI_clamp (by omega)
          have hCp := fun w hw => h1.2.1 p hp now (by rw [if_neg (Nat.lt_irrefl _)]; omega) (by rw [if_neg (Nat.lt_irrefl _)]; omega) w hw
          have hnone : ∀ w, w ≤ 400 → I1 (q + 1) ((now % 16 * 6 + p) * 401 + w) = nI 0 → ∀ c, ¬ E p now w c := fun w hw h0 c hE0 => by
            rcases hCp w hw with ⟨_, b⟩ | ⟨c0, a, b, g⟩
            · exact b c (Or.inl hE0)
            · have hcc := (h1.2.2.2 _ _ _ _ b).2.2
              rw [a] at h0
              have := congrArg Int32.toNatClampNeg h0
              rw [nI_clamp (by omega), nI_clamp (by omega)] at this
              omega
          rcases hCp i (by omega) with ⟨cz, cno⟩ | ⟨c0, ca, cb, cg⟩
          · skip
            refine bl_go oX3_spreadSlot 80 [2, 28] rfl ?_
            refine ⟨kq, _, bl_vs rq_2, Or.inl ⟨kq3, (by first | exact (by rw [nq3]; exact vp_in_nI (by omega) (by omega)) | ((try dsimp only [bl_pv]); show vp_in _ (N _); rw [nq3]; simp (disch := omega) only [a4, ei, zI_n, zI_o, zI_lit, zI_neg, zI_add, zI_sub, zI_mul, zI_lt, zI_le, zI_eq, zI_clamp, zI_in, zI_div, zI_rem, lg_lt0, lg_gt0, lg_eq0, lg_le0, lg_ge0, Int.toNat_natCast, ge_iff_le, gt_iff_lt, List.length_cons, List.length_nil, bl_up2_at, bl_up2_nk, bl_up2_nx] <;> omega)), fun h35 => ?_, fun h35 => ?_⟩⟩
            · try simp (disch := omega) only [a4, ei, zI_n, zI_o, zI_lit, zI_neg, zI_add, zI_sub, zI_mul, zI_lt, zI_le, zI_eq, zI_clamp, zI_in, zI_div, zI_rem, lg_lt0, lg_gt0, lg_eq0, lg_le0, lg_ge0, Int.toNat_natCast, ge_iff_le, gt_iff_lt, List.length_cons, List.length_nil, bl_up2_at, bl_up2_nk, bl_up2_nx] at h35
              refine ⟨rfl, rfl, kq, (Nat.le_of_ble_eq_true rfl), (0, 0), Nat.le_of_ble_eq_true rfl, Nat.le_of_ble_eq_true rfl, bl_MC_mono (c_Passes_emptySlot (d := d + 2) hq' h1.2.2.1 (by omega) rfl) (fun o78 σ78 q78 => ?_)⟩
              try dsimp only [bl_pv] at q78
              obtain ⟨rfl, I2, rfl, hm⟩ := q78
              refine bl_go oX3_spreadSlot 80 [2, 28] rfl ?_
              refine bl_lv [0, 3] rfl ?_
              try dsimp only [bl_pv]
              refine ih _ I2 (nI_1 _) (fun x hx => by rw [hm.1 x (by omega) (by omega) (by omega)]; exact hF x hx) ?_
              rw [← Fs_next (fun w c h => hE4 _ w c h)]
              rw [Fs_skip (a := i) (b := 401) (by omega) (fun w c w1 w2 => hnone w (by omega) (by
                by_cases e3 : I1 (q + 1) ((now % 16 * 6 + p) * 401 + w) = nI 0
                · exact e3
                · have := a5 w (by omega) e3
                  omega) c)] at h1
              exact pI_empty h1 hp hm (h15F _ _)
            · try simp (disch := omega) only [a4, ei, zI_n, zI_o, zI_lit, zI_neg, zI_add, zI_sub, zI_mul, zI_lt, zI_le, zI_eq, zI_clamp, zI_in, zI_div, zI_rem, lg_lt0, lg_gt0, lg_eq0, lg_le0, lg_ge0, Int.toNat_natCast, ge_iff_le, gt_iff_lt, List.length_cons, List.length_nil, bl_up2_at, bl_up2_nk, bl_up2_nx] at h35
              refine ⟨kq, _, bl_vs rq_0, Or.inl ⟨kq1, (by (try dsimp only [bl_pv]); show vp_in _ (N _); rw [nq1, em2]; exact vp_in_nI (by omega) (by omega)), fun h54 => ?_, fun h54 => ?_⟩⟩
              · try simp (disch := omega) only [bl_pv, cl0, cl1, cl2, cl3, cl4, cl5, cl6, cl7, cl8, cl9, bl_up2_at, bl_up2_nk, bl_up2_nx] at h54
                rw [em2, ei, cz] at h54
                refine bl_lv [0, 2, 3, 4] rfl ?_
                try dsimp only [bl_pv]
                refine ihm (i + 1) (by omega) _ _ I1 (nI_1 _) rfl hF ?_
                rw [← Fs_skip (a := i) (b := i + 1) (by omega) (fun w c w1 w2 => hnone w (by omega) (by rw [show w = i by omega]; exact cz) c)]
                exact h1
              · try simp (disch := omega) only [bl_pv, cl0, cl1, cl2, cl3, cl4, cl5, cl6, cl7, cl8, cl9, bl_up2_at, bl_up2_nk, bl_up2_nx] at h54
                rw [em2, ei, cz] at h54
                exact absurd (show nI 0 ≤ 0 by decide) h54
          · have hcb := (Fs_now hP).mp cb
            have hc5 := h5 p i c0 hp hcb
            refine bl_go oX3_spreadSlot 80 [2, 28] rfl ?_
            refine ⟨kq, _, bl_vs rq_2, Or.inl ⟨kq3, (by first | exact (by rw [nq3]; exact vp_in_nI (by omega) (by omega)) | ((try dsimp only [bl_pv]); show vp_in _ (N _); rw [nq3]; simp (disch := omega) only [a4, ei, zI_n, zI_o, zI_lit, zI_neg, zI_add, zI_sub, zI_mul, zI_lt, zI_le, zI_eq, zI_clamp, zI_in, zI_div, zI_rem, lg_lt0, lg_gt0, lg_eq0, lg_le0, lg_ge0, Int.toNat_natCast, ge_iff_le, gt_iff_lt, List.length_cons, List.length_nil, bl_up2_at, bl_up2_nk, bl_up2_nx] <;> omega)), fun h35 => ?_, fun h35 => ?_⟩⟩
            · try simp (disch := omega) only [a4, ei, zI_n, zI_o, zI_lit, zI_neg, zI_add, zI_sub, zI_mul, zI_lt, zI_le, zI_eq, zI_clamp, zI_in, zI_div, zI_rem, lg_lt0, lg_gt0, lg_eq0, lg_le0, lg_ge0, Int.toNat_natCast, ge_iff_le, gt_iff_lt, List.length_cons, List.length_nil, bl_up2_at, bl_up2_nk, bl_up2_nx] at h35
              refine ⟨rfl, rfl, kq, (Nat.le_of_ble_eq_true rfl), (0, 0), Nat.le_of_ble_eq_true rfl, Nat.le_of_ble_eq_true rfl, bl_MC_mono (c_Passes_emptySlot (d := d + 2) hq' h1.2.2.1 (by omega) rfl) (fun o78 σ78 q78 => ?_)⟩
              try dsimp only [bl_pv] at q78
              obtain ⟨rfl, I2, rfl, hm⟩ := q78
              refine bl_go oX3_spreadSlot 80 [2, 28] rfl ?_
              refine bl_lv [0, 3] rfl ?_
              try dsimp only [bl_pv]
              refine ih _ I2 (nI_1 _) (fun x hx => by rw [hm.1 x (by omega) (by omega) (by omega)]; exact hF x hx) ?_
              rw [← Fs_next (fun w c h => hE4 _ w c h)]
              rw [Fs_skip (a := i) (b := 401) (by omega) (fun w c w1 w2 => hnone w (by omega) (by
                by_cases e3 : I1 (q + 1) ((now % 16 * 6 + p) * 401 + w) = nI 0
                · exact e3
                · have := a5 w (by omega) e3
                  omega) c)] at h1
              exact pI_empty h1 hp hm (h15F _ _)
            · try simp (disch := omega) only [a4, ei, zI_n, zI_o, zI_lit, zI_neg, zI_add, zI_sub, zI_mul, zI_lt, zI_le, zI_eq, zI_clamp, zI_in, zI_div, zI_rem, lg_lt0, lg_gt0, lg_eq0, lg_le0, lg_ge0, Int.toNat_natCast, ge_iff_le, gt_iff_lt, List.length_cons, List.length_nil, bl_up2_at, bl_up2_nk, bl_up2_nx] at h35
              refine ⟨kq, _, bl_vs rq_0, Or.inl ⟨kq1, (by (try dsimp only [bl_pv]); show vp_in _ (N _); rw [nq1, em2]; exact vp_in_nI (by omega) (by omega)), fun h54 => ?_, fun h54 => ?_⟩⟩
              · try simp (disch := omega) only [bl_pv, cl0, cl1, cl2, cl3, cl4, cl5, cl6, cl7, cl8, cl9, bl_up2_at, bl_up2_nk, bl_up2_nx] at h54
                rw [em2, ei, ca, zI_n, zI_lit, zI_le (by omega) (by omega) (by omega) (by omega)] at h54
                omega
              · try simp (disch := omega) only [bl_pv, cl0, cl1, cl2, cl3, cl4, cl5, cl6, cl7, cl8, cl9, bl_up2_at, bl_up2_nk, bl_up2_nx] at h54
                refine ⟨rfl, rfl, kq, (Nat.le_of_ble_eq_true rfl), (0, 0), Nat.le_of_ble_eq_true rfl, Nat.le_of_ble_eq_true rfl, bl_MC_mono (c_Passes_spreadState (d := d) (p := p) (w := i) (c := 25 * c0) hq' hD1 hP h1 g6 (by omega) (by omega) (by omega) hu3 rfl rfl (by dsimp only; rw [em2, ei, ca, show (1 : Int32) = nI 1 from rfl, nI_subs (by omega), Nat.add_sub_cancel, show (25 : Int32) = nI 25 from rfl, nI_mulc, Nat.mul_comm])) (fun o67 σ67 q67 => ?_)⟩
                try dsimp only [bl_pv] at q67
                obtain ⟨rfl, I2, rfl, hF2, hI2⟩ := q67
                refine bl_go oX3_spreadSlot 80 [2, 28] rfl ?_
                refine bl_lv [0, 2, 3, 4] rfl ?_
                try dsimp only [bl_pv]
                refine ihm (i + 1) (by omega) _ _ I2 (nI_1 _) rfl (hF.trans hF2) ?_
                have d1 : ∀ p' u' w' c', eSp (Fs E P now p i) P p now i (25 * c0) 25 p' u' w' c' → Fs E P now p (i + 1) p' u' w' c' := by
                  rintro p' u' w' c' ((h | ⟨pp, w, c, x, y1, y2⟩) | ⟨y1, x, y2, y3, y4⟩)
                  · exact Or.inl h
                  · exact Or.inr ⟨pp, w, c, x, by omega, y2⟩
                  · exact Or.inr ⟨p, i, c0, x, by omega, y1, hcb, y2, y3, y4⟩
                have d2 : ∀ p' u' w' c', Fs E P now p (i + 1) p' u' w' c' → ∃ c'', c'' ≤ c' ∧ eSp (Fs E P now p i) P p now i (25 * c0) 25 p' u' w' c'' := by
                  rintro p' u' w' c' (h | ⟨pp, w, c, x, y1, y2, y3, y4, y5, y6⟩)
                  · exact ⟨c', Nat.le_refl _, Or.inl (Or.inl h)⟩
                  · by_cases e : pp = p ∧ w = i
                    · obtain ⟨rfl, rfl⟩ := e
                      have := cg c (Or.inl y3)
                      exact ⟨25 * c0 + x, by omega, Or.inr ⟨y2, x, y4, y5, rfl⟩⟩
                    · exact ⟨c', Nat.le_refl _, Or.inl (Or.inr ⟨pp, w, c, x, by omega, y2, y3, y4, y5, y6⟩)⟩
                refine ⟨hI2.1.dom d1 d2, hI2.2.1.dom d1 d2, hI2.2.2.1, ?_⟩
                rintro p' u' w' c' (h | ⟨pp, w, c, x, y1, y2, y3, y4, y5, y6⟩)
                · exact hI.2.2.2 _ _ _ _ h
                · have s1 := stp_le hP y4 y5
                  have s2 := h5 pp w c (by omega) y3
                  exact ⟨s1.2.2.2, s1.1, by omega⟩
      obtain ⟨lo, hi', a1, a2, a3, a4, a5⟩ := h1.2.2.1 (now % 16 * 6 + p) (by omega)
      refine bl_go oX3_spreadSlot 80 [2, 28] rfl ?_
      refine ⟨fun h5 => ?_, fun h5 => ?_⟩
      · try simp (disch := omega) only [g6, zI_n, zI_o, zI_lit, zI_neg, zI_add, zI_sub, zI_mul, zI_lt, zI_le, zI_eq, zI_clamp, zI_in, zI_div, zI_rem, lg_lt0, lg_gt0, lg_eq0, lg_le0, lg_ge0, Int.toNat_natCast, ge_iff_le, gt_iff_lt, List.length_cons, List.length_nil, bl_up2_at, bl_up2_nk, bl_up2_nx] at h5
        exfalso; omega
      · try simp (disch := omega) only [g6, zI_n, zI_o, zI_lit, zI_neg, zI_add, zI_sub, zI_mul, zI_lt, zI_le, zI_eq, zI_clamp, zI_in, zI_div, zI_rem, lg_lt0, lg_gt0, lg_eq0, lg_le0, lg_ge0, Int.toNat_natCast, ge_iff_le, gt_iff_lt, List.length_cons, List.length_nil, bl_up2_at, bl_up2_nk, bl_up2_nx] at h5
        refine ⟨kq, (by decide), kq, _, bl_vs rq_1, Or.inl ⟨kq2, (by (try dsimp only [bl_pv]); show vp_in _ (N _); rw [nq2, g6, em]; exact vp_in_nI (by omega) (by omega)), ?_⟩⟩
        try dsimp only [bl_pv]
        refine L28 (401 - lo) lo (by omega) _ _ I1 ?_ ?_ hF ?_
        · rw [g6, em, ect]; exact a3
        · rw [g6, em]
        · rw [← Fs_skip (a := 0) (b := lo) (by omega) (fun w c w1 w2 hE0 => ?_)]
          · exact h1
          · rcases h1.2.1 p hp now (by rw [if_neg (Nat.lt_irrefl _)]; omega) (by rw [if_neg (Nat.lt_irrefl _)]; omega) w (by omega) with ⟨_, b⟩ | ⟨c0, a, b, g⟩
            · exact b c (Or.inl hE0)
            · have hcc := (h1.2.2.2 _ _ _ _ b).2.2
              have := a5 w (by omega) (fun h0 => by
                rw [a] at h0
                have := congrArg Int32.toNatClampNeg h0
                rw [nI_clamp (by omega), nI_clamp (by omega)] at this
                omega)
              omega
  refine bl_go oX3_spreadSlot 80 [2, 28] rfl ?_
  try dsimp only [bl_pv]
  refine L 0 (by omega) _ I rfl (fun _ _ => rfl) ?_
  rw [Fs_0]; exact hI
end PASSES3
