/-! ===== Model: layBlocks ===== -/
def blI (I : Nat → Nat → Int32) (m r : Nat) (S : bkS) : Prop := I (m + 53) r = nI S.1 ∧ ∀ j, j < S.1 → I (m + 120 + r) j = nI (S.2.1 j) ∧ I (m + 130 + r) j = nI (S.2.2 j)
def blF (I I' : Nat → Nat → Int32) (m r : Nat) : Prop := (∀ x, x ≠ m + 53 → x ≠ m + 120 + r → x ≠ m + 130 + r → I' x = I x) ∧ ∀ j, j ≠ r → I' (m + 53) j = I (m + 53) j
theorem bkE_z {S : bkS} {k : Nat} (h : bkK S k) : (bkE S).2.1 (bkE S).1 = 0 := by
  unfold bkE
  by_cases e : S.2.1 S.1 = 0
  · rw [if_pos e]; exact e
  · rw [if_neg e]; exact (h.2.1 (S.1 + 1) (by omega)).1
def bmR (I : Nat → Nat → Int32) (m : Nat) (D : bD) (r : Nat) : Prop := D.2.1 r ≤ 20 ∧ I (m + 53) r = nI (D.2.1 r) ∧ (∀ b, b < D.2.1 r → I (m + 120 + r) b = nI (D.2.2.1 r b)) ∧ ∀ b, b ≤ D.2.1 r → I (m + 130 + r) b = nI (D.2.2.2 r b)
def bhF (I I' : Nat → Nat → Int32) (m : Nat) : Prop := (∀ x, x ≠ m → (x < m + 53 ∨ (m + 59 < x ∧ x < m + 120) ∨ m + 134 ≤ x) → I' x = I x) ∧ ∀ j, j < 60 → I' m j = I m j
theorem bhF.trans {I I1 I2 : Nat → Nat → Int32} {m : Nat} (h : bhF I I1 m) (h2 : bhF I1 I2 m) : bhF I I2 m := ⟨fun x a b => (h2.1 x a b).trans (h.1 x a b), fun j a => (h2.2 j a).trans (h.2 j a)⟩
section MODEL30
variable {G : bl_G} {l : Launch} {d m : Nat} {I : Nat → Nat → Int32} {J : Nat → Nat → Int64} {R : Nat → Nat → Option Nat} {K N : Nat → Nat} {A : aS}
theorem c_Model_layBlocks (hm : mdS R K N m) (hR : mdR I m A.2.2.1 A.2.2.2.1) : bl_MC G l (d + 1) mX11_layBlocks [.ref m] (I, J, R, K, N) (0, 0) (fun o σ' => o = .inl none ∧ ∃ I', σ' = (I', J, R, K, N) ∧ bhF I I' m ∧ I' m 60 = nI (bTot A.2.2.1 A.2.2.2.1) ∧ (∀ j, j ≠ 60 → I' m j = I m j) ∧ (∀ x, m + 54 ≤ x → x ≤ m + 59 → I' x = I x) ∧ ∀ r, r < A.2.2.1 → bmR I' m (bdD A.2.2.1 A.2.2.2.1) r) := by
  have km := hm.2.1
  obtain ⟨rm_16, km16, nm16⟩ := hm.f16
  obtain ⟨rm_18, km18, nm18⟩ := hm.f18
  obtain ⟨rm_51, km51, nm51⟩ := hm.f51
  obtain ⟨rm_52, km52, nm52⟩ := hm.f52
  obtain ⟨rm_53, km53, nm53⟩ := hm.f53
  obtain ⟨hc, hc4, hRr⟩ := hR
  have hTl : ∀ r, r ≤ A.2.2.1 → smf (bdD A.2.2.1 A.2.2.2.1).2.1 r ≤ 20 * r := by
    intro r
    induction r with
    | zero => intro _; exact Nat.le_refl _
    | succ r ih =>
      intro hr
      have h1 := ih (by omega)
      have hv : sqV (A.2.2.2.1 r) := ⟨(hRr r (by omega)).2.1, (hRr r (by omega)).2.2.1⟩
      have h2 : (bkD (A.2.2.2.1 r)).1 ≤ 20 := by have := (bkD_K hv).1; have := hv.1; omega
      show smf _ r + (bkD (A.2.2.2.1 r)).1 ≤ _
      omega
  refine bl_MC_intro (by decide +kernel) rfl (Nat.le_of_ble_eq_true rfl) ?_
  have L7 : ∀ r, r ≤ A.2.2.1 → ∀ z I1, z = nI r → bhF I I1 m → (∀ j, j ≠ 60 → I1 m j = I m j) → (∀ x, m + 54 ≤ x → x ≤ m + 59 → I1 x = I x) → I1 m 60 = nI (smf (bdD A.2.2.1 A.2.2.2.1).2.1 r) → (∀ j, j < r → bmR I1 m (bdD A.2.2.1 A.2.2.2.1) j) → bl_WP G l (d + 1) mX11_layBlocks 7 [(1, .int z), (0, .ref m)] [] (I1, J, R, K, N) (0, 0) (fun o σ' => o = .inl none ∧ ∃ I', σ' = (I', J, R, K, N) ∧ bhF I I' m ∧ I' m 60 = nI (bTot A.2.2.1 A.2.2.2.1) ∧ (∀ j, j ≠ 60 → I' m j = I m j) ∧ (∀ x, m + 54 ≤ x → x ≤ m + 59 → I' x = I x) ∧ ∀ r, r < A.2.2.1 → bmR I' m (bdD A.2.2.1 A.2.2.2.1) r) := by
    refine bl_for A.2.2.1 ?_ (fun r hr ih => ?_)
    · intro z I1 hz f1 f2 f5 f3 f4; subst hz
      have e13 : I1 m 13 = nI A.2.2.1 := (f2 13 (by omega)).trans hc
      refine bl_go oX11_layBlocks 80 [7, 29, 74, 125, 199] rfl ?_
      refine ⟨km, fun h12 => ?_, fun h12 => ?_⟩
      · try simp (disch := omega) only [e13, zI_n, zI_o, zI_lit, zI_neg, zI_add, zI_sub, zI_mul, zI_lt, zI_le, zI_eq, zI_clamp, zI_in, zI_div, zI_rem, lg_lt0, lg_gt0, lg_eq0, lg_le0, lg_ge0, Int.toNat_natCast, ge_iff_le, gt_iff_lt, List.length_cons, List.length_nil, bl_up2_at, bl_up2_nk, bl_up2_nx] at h12
        try show _ ∧ _
        try dsimp only [bl_pv]
        exact ⟨rfl, I1, rfl, f1, f3, f2, f5, f4⟩
      · try simp (disch := omega) only [e13, zI_n, zI_o, zI_lit, zI_neg, zI_add, zI_sub, zI_mul, zI_lt, zI_le, zI_eq, zI_clamp, zI_in, zI_div, zI_rem, lg_lt0, lg_gt0, lg_eq0, lg_le0, lg_ge0, Int.toNat_natCast, ge_iff_le, gt_iff_lt, List.length_cons, List.length_nil, bl_up2_at, bl_up2_nk, bl_up2_nx] at h12
        exfalso; first | omega | exact h12 trivial
    · intro z I1 hz f1 f2 f5 f3 f4; subst hz
      have e13 : I1 m 13 = nI A.2.2.1 := (f2 13 (by omega)).trans hc
      have ecr : (nI r).toNatClampNeg = r := nI_clamp (by omega)
      obtain ⟨hr1, hr20, hrO, hrs⟩ := hRr r hr
      obtain ⟨rms, kms, nms⟩ := hm.g18 r (by omega)
      obtain ⟨rmu, kmu, nmu⟩ := hm.g51 r (by omega)
      obtain ⟨rmr, kmr, nmr⟩ := hm.g52 r (by omega)
      generalize hrc : A.2.2.2.1 r = rc at *
      have hv : sqV rc := ⟨hr20, hrO⟩
      have hT := hTl r (by omega)
      have L199 : ∀ z I2, z = nI ((bkD rc).2.2 (bkD rc).1) → blF I1 I2 m r → blI I2 m r (bkD rc) → bl_WP G l (d + 1) mX11_layBlocks 199 [(2, .int z), (1, .int (nI r)), (0, .ref m)] [] (I2, J, R, K, N) (0, 0) (fun o σ' => o = .inl none ∧ ∃ I', σ' = (I', J, R, K, N) ∧ bhF I I' m ∧ I' m 60 = nI (bTot A.2.2.1 A.2.2.2.1) ∧ (∀ j, j ≠ 60 → I' m j = I m j) ∧ (∀ x, m + 54 ≤ x → x ≤ m + 59 → I' x = I x) ∧ ∀ r, r < A.2.2.1 → bmR I' m (bdD A.2.2.1 A.2.2.2.1) r) := by
        intro z I2 hz g1 g2; subst hz
        have hK := bkD_K hv
        have hb20 : (bkD rc).1 ≤ 20 := by have := hK.1; omega
        have e53 : I2 (m + 53) (nI r).toNatClampNeg = nI (bkD rc).1 := by rw [ecr]; exact g2.1
        have ecb : (nI (bkD rc).1).toNatClampNeg = (bkD rc).1 := nI_clamp (by omega)
        refine bl_go oX11_layBlocks 80 [7, 29, 74, 125, 199] rfl ?_
        refine ⟨km, _, bl_vs rm_52, bl_ka km52, (by first | exact (by rw [nm52]; exact vp_in_nI (by omega) (by omega)) | ((try dsimp only [bl_pv]); show vp_in _ (N _); rw [nm52]; simp (disch := omega) only [zI_n, zI_o, zI_lit, zI_neg, zI_add, zI_sub, zI_mul, zI_lt, zI_le, zI_eq, zI_clamp, zI_in, zI_div, zI_rem, lg_lt0, lg_gt0, lg_eq0, lg_le0, lg_ge0, Int.toNat_natCast, ge_iff_le, gt_iff_lt, List.length_cons, List.length_nil, bl_up2_at, bl_up2_nk, bl_up2_nx] <;> omega)), _, bl_vs (by dsimp only; rw [ecr]; exact rmr), km, _, bl_vs rm_53, Or.inl ⟨km53, (by first | exact (by rw [nm53]; exact vp_in_nI (by omega) (by omega)) | ((try dsimp only [bl_pv]); show vp_in _ (N _); rw [nm53]; simp (disch := omega) only [zI_n, zI_o, zI_lit, zI_neg, zI_add, zI_sub, zI_mul, zI_lt, zI_le, zI_eq, zI_clamp, zI_in, zI_div, zI_rem, lg_lt0, lg_gt0, lg_eq0, lg_le0, lg_ge0, Int.toNat_natCast, ge_iff_le, gt_iff_lt, List.length_cons, List.length_nil, bl_up2_at, bl_up2_nk, bl_up2_nx] <;> omega)), kmr, (by (try dsimp only [bl_pv]); rw [nmr, e53]; exact vp_in_nI (by omega) (by omega)), rfl, km, km, _, bl_vs rm_53, Or.inl ⟨km53, (by first | exact (by rw [nm53]; exact vp_in_nI (by omega) (by omega)) | ((try dsimp only [bl_pv]); show vp_in _ (N _); rw [nm53]; simp (disch := omega) only [zI_n, zI_o, zI_lit, zI_neg, zI_add, zI_sub, zI_mul, zI_lt, zI_le, zI_eq, zI_clamp, zI_in, zI_div, zI_rem, lg_lt0, lg_gt0, lg_eq0, lg_le0, lg_ge0, Int.toNat_natCast, ge_iff_le, gt_iff_lt, List.length_cons, List.length_nil, bl_up2_at, bl_up2_nk, bl_up2_nx] <;> omega)), km, Or.inr (Or.inr ⟨rfl, rfl, _, rfl⟩), (fun h => by cases h), ?_⟩⟩⟩
        refine bl_lv [0, 2] rfl ?_
        try dsimp only [bl_pv]
        rw [e53, ecb, ecr]
        have e60 : I2 m 60 = nI (smf (bdD A.2.2.1 A.2.2.2.1).2.1 r) := (congrFun (g1.1 m (by omega) (by omega) (by omega)) 60).trans f3
        have em : ∀ j, I2 m j = I1 m j := fun j => congrFun (g1.1 m (by omega) (by omega) (by omega)) j
        have hD1 : (bdD A.2.2.1 A.2.2.2.1).2.1 r = (bkD rc).1 := by show (bkD (A.2.2.2.1 r)).1 = _; rw [hrc]
        have hD2 : (bdD A.2.2.1 A.2.2.2.1).2.2.1 r = (bkD rc).2.1 := by show (bkD (A.2.2.2.1 r)).2.1 = _; rw [hrc]
        have hD3 : (bdD A.2.2.1 A.2.2.2.1).2.2.2 r = (bkD rc).2.2 := by show (bkD (A.2.2.2.1 r)).2.2 = _; rw [hrc]
        refine ih _ _ (nI_1 _) ⟨fun x x1 x2 => ?_, fun j j1 => ?_⟩ (fun j j1 => ?_) (fun x x1 x2 => ?_) ?_ (fun j hj => ?_)
        · rw [bl_up2_ne x1, bl_up2_ne (by omega), g1.1 x (by omega) (by omega) (by omega)]; exact f1.1 x x1 x2
        · rw [bl_up2_nk (by omega), bl_up2_nx (by omega), em]; exact f1.2 j j1
        · rw [bl_up2_nk j1, bl_up2_nx (by omega), em]; exact f2 j j1
        · rw [bl_up2_ne (by omega), bl_up2_ne (by omega), g1.1 x (by omega) (by omega) (by omega)]; exact f5 x x1 x2
        · rw [bl_up2_at, bl_up2_nx (by omega), bl_up2_nx (by omega), e60, g2.1]
          show nI _ + nI _ = nI (smf _ r + (bdD A.2.2.1 A.2.2.2.1).2.1 r)
          rw [hD1]; exact (Int32.ofNat_add _ _).symm
        · unfold bmR
          by_cases e : j = r
          · subst e
            rw [hD1, hD2, hD3]
            refine ⟨hb20, ?_, fun b hb => ?_, fun b hb => ?_⟩
            · rw [bl_up2_nx (by omega), bl_up2_nx (by omega)]; exact g2.1
            · rw [bl_up2_nx (by omega), bl_up2_nx (by omega)]; exact (g2.2 b hb).1
            · rw [bl_up2_nx (by omega)]
              by_cases eb : b = (bkD rc).1
              · subst eb; rw [bl_up2_at]
              · rw [bl_up2_nk eb]; exact (g2.2 b (by omega)).2
          · obtain ⟨y1, y2, y3, y4⟩ := f4 j (by omega)
            refine ⟨y1, ?_, fun b hb => ?_, fun b hb => ?_⟩
            · rw [bl_up2_nx (by omega), bl_up2_nx (by omega), g1.2 j e]; exact y2
            · rw [bl_up2_nx (by omega), bl_up2_nx (by omega), g1.1 _ (by omega) (by omega) (by omega)]; exact y3 b hb
            · rw [bl_up2_nx (by omega), bl_up2_nx (by omega), g1.1 _ (by omega) (by omega) (by omega)]; exact y4 b hb
      have e16 : ∀ I2, blF I1 I2 m r → I2 (m + 16) r = nI rc.1 := fun I2 g => by rw [g.1 _ (by omega) (by omega) (by omega), f1.1 _ (by omega) (by omega)]; exact hr1
      have L29 : ∀ k, k ≤ rc.1 → ∀ z u w I2, z = nI k → u = nI ((bkF rc k).2.1 (bkF rc k).1) → w = nI ((bkF rc k).2.2 (bkF rc k).1) → blF I1 I2 m r → blI I2 m r (bkF rc k) → bl_WP G l (d + 1) mX11_layBlocks 29 [(4, .int z), (3, .int u), (2, .int w), (1, .int (nI r)), (0, .ref m)] [] (I2, J, R, K, N) (0, 0) (fun o σ' => o = .inl none ∧ ∃ I', σ' = (I', J, R, K, N) ∧ bhF I I' m ∧ I' m 60 = nI (bTot A.2.2.1 A.2.2.2.1) ∧ (∀ j, j ≠ 60 → I' m j = I m j) ∧ (∀ x, m + 54 ≤ x → x ≤ m + 59 → I' x = I x) ∧ ∀ r, r < A.2.2.1 → bmR I' m (bdD A.2.2.1 A.2.2.2.1) r) := by
        refine bl_for rc.1 ?_ (fun k hk ih2 => ?_)
        · intro z u w I2 hz hu hw g1 g2; subst hz hu hw
          have e16' := e16 I2 g1
          have hK := bkF_K hv.u rc.1 (Nat.le_refl _)
          have hb3 := hK.2.2.1 (bkF rc rc.1).1
          have hb1 := hK.1
          have L125 : ∀ u w I3, w = nI ((bkD rc).2.2 (bkD rc).1) → blF I1 I3 m r → blI I3 m r (bkD rc) → bl_WP G l (d + 1) mX11_layBlocks 125 [(5, .int 1), (4, .int (nI rc.1)), (3, .int u), (2, .int w), (1, .int (nI r)), (0, .ref m)] [] (I3, J, R, K, N) (0, 0) (fun o σ' => o = .inl none ∧ ∃ I', σ' = (I', J, R, K, N) ∧ bhF I I' m ∧ I' m 60 = nI (bTot A.2.2.1 A.2.2.2.1) ∧ (∀ j, j ≠ 60 → I' m j = I m j) ∧ (∀ x, m + 54 ≤ x → x ≤ m + 59 → I' x = I x) ∧ ∀ r, r < A.2.2.1 → bmR I' m (bdD A.2.2.1 A.2.2.2.1) r) := by
            intro u w I3 hw g1 g2; subst hw
            have e16' := e16 I3 g1
            have L29x : ∀ z u, z = nI (rc.1 + 1) → bl_WP G l (d + 1) mX11_layBlocks 29 [(4, .int z), (3, .int u), (2, .int (nI ((bkD rc).2.2 (bkD rc).1))), (1, .int (nI r)), (0, .ref m)] [] (I3, J, R, K, N) (0, 0) (fun o σ' => o = .inl none ∧ ∃ I', σ' = (I', J, R, K, N) ∧ bhF I I' m ∧ I' m 60 = nI (bTot A.2.2.1 A.2.2.2.1) ∧ (∀ j, j ≠ 60 → I' m j = I m j) ∧ (∀ x, m + 54 ≤ x → x ≤ m + 59 → I' x = I x) ∧ ∀ r, r < A.2.2.1 → bmR I' m (bdD A.2.2.1 A.2.2.2.1) r) := by
              intro z u hz; subst hz
              refine bl_go oX11_layBlocks 80 [7, 29, 74, 125, 199] rfl ?_
              refine ⟨km, _, bl_vs rm_16, Or.inl ⟨km16, (by first | exact (by rw [nm16]; exact vp_in_nI (by omega) (by omega)) | ((try dsimp only [bl_pv]); show vp_in _ (N _); rw [nm16]; simp (disch := omega) only [e16', zI_n, zI_o, zI_lit, zI_neg, zI_add, zI_sub, zI_mul, zI_lt, zI_le, zI_eq, zI_clamp, zI_in, zI_div, zI_rem, lg_lt0, lg_gt0, lg_eq0, lg_le0, lg_ge0, Int.toNat_natCast, ge_iff_le, gt_iff_lt, List.length_cons, List.length_nil, bl_up2_at, bl_up2_nk, bl_up2_nx] <;> omega)), fun h37 => ?_, fun h37 => ?_⟩⟩
              · try simp (disch := omega) only [e16', zI_n, zI_o, zI_lit, zI_neg, zI_add, zI_sub, zI_mul, zI_lt, zI_le, zI_eq, zI_clamp, zI_in, zI_div, zI_rem, lg_lt0, lg_gt0, lg_eq0, lg_le0, lg_ge0, Int.toNat_natCast, ge_iff_le, gt_iff_lt, List.length_cons, List.length_nil, bl_up2_at, bl_up2_nk, bl_up2_nx] at h37
                refine bl_lv [2, 3, 4] rfl ?_
                try dsimp only [bl_pv]
                exact L199 _ _ rfl g1 g2
              · try simp (disch := omega) only [e16', zI_n, zI_o, zI_lit, zI_neg, zI_add, zI_sub, zI_mul, zI_lt, zI_le, zI_eq, zI_clamp, zI_in, zI_div, zI_rem, lg_lt0, lg_gt0, lg_eq0, lg_le0, lg_ge0, Int.toNat_natCast, ge_iff_le, gt_iff_lt, List.length_cons, List.length_nil, bl_up2_at, bl_up2_nk, bl_up2_nx] at h37
                exfalso; first | omega | exact h37 trivial
            refine bl_go oX11_layBlocks 80 [7, 29, 74, 125, 199] rfl ?_
            refine ⟨km, _, bl_vs rm_16, Or.inl ⟨km16, (by first | exact (by rw [nm16]; exact vp_in_nI (by omega) (by omega)) | ((try dsimp only [bl_pv]); show vp_in _ (N _); rw [nm16]; simp (disch := omega) only [e16', zI_n, zI_o, zI_lit, zI_neg, zI_add, zI_sub, zI_mul, zI_lt, zI_le, zI_eq, zI_clamp, zI_in, zI_div, zI_rem, lg_lt0, lg_gt0, lg_eq0, lg_le0, lg_ge0, Int.toNat_natCast, ge_iff_le, gt_iff_lt, List.length_cons, List.length_nil, bl_up2_at, bl_up2_nk, bl_up2_nx] <;> omega)), fun h133 => ?_, fun h133 => ?_⟩⟩
            · try simp (disch := omega) only [e16', zI_n, zI_o, zI_lit, zI_neg, zI_add, zI_sub, zI_mul, zI_lt, zI_le, zI_eq, zI_clamp, zI_in, zI_div, zI_rem, lg_lt0, lg_gt0, lg_eq0, lg_le0, lg_ge0, Int.toNat_natCast, ge_iff_le, gt_iff_lt, List.length_cons, List.length_nil, bl_up2_at, bl_up2_nk, bl_up2_nx] at h133
              exfalso; first | omega | exact h133 trivial
            · try simp (disch := omega) only [e16', zI_n, zI_o, zI_lit, zI_neg, zI_add, zI_sub, zI_mul, zI_lt, zI_le, zI_eq, zI_clamp, zI_in, zI_div, zI_rem, lg_lt0, lg_gt0, lg_eq0, lg_le0, lg_ge0, Int.toNat_natCast, ge_iff_le, gt_iff_lt, List.length_cons, List.length_nil, bl_up2_at, bl_up2_nk, bl_up2_nx] at h133
              refine bl_lv [0, 2, 3, 4, 5] rfl ?_
              try dsimp only [bl_pv]
              exact L29x _ _ (nI_1 _)
          have L74 : bl_WP G l (d + 1) mX11_layBlocks 74 [(5, .int 1), (4, .int (nI rc.1)), (3, .int (nI ((bkF rc rc.1).2.1 (bkF rc rc.1).1))), (2, .int (nI ((bkF rc rc.1).2.2 (bkF rc rc.1).1))), (1, .int (nI r)), (0, .ref m)] [] (I2, J, R, K, N) (0, 0) (fun o σ' => o = .inl none ∧ ∃ I', σ' = (I', J, R, K, N) ∧ bhF I I' m ∧ I' m 60 = nI (bTot A.2.2.1 A.2.2.2.1) ∧ (∀ j, j ≠ 60 → I' m j = I m j) ∧ (∀ x, m + 54 ≤ x → x ≤ m + 59 → I' x = I x) ∧ ∀ r, r < A.2.2.1 → bmR I' m (bdD A.2.2.1 A.2.2.2.1) r) := by
            by_cases hz0 : (bkF rc rc.1).2.1 (bkF rc rc.1).1 = 0
            · have hE : bkD rc = bkF rc rc.1 := if_pos hz0
              rw [← hE] at g2 hz0 ⊢
              refine bl_go oX11_layBlocks 80 [7, 29, 74, 125, 199] rfl ?_
              refine ⟨fun h76 => ?_, fun h76 => ?_⟩
              · try simp (disch := omega) only [bl_pv, cl0, cl1, cl2, cl3, cl4, cl5, cl6, cl7, cl8, cl9, bl_up2_at, bl_up2_nk, bl_up2_nx] at h76
                (first | exact absurd rfl h76 | exact absurd trivial h76 | exact absurd h76 (by decide))
              · try simp (disch := omega) only [bl_pv, cl0, cl1, cl2, cl3, cl4, cl5, cl6, cl7, cl8, cl9, bl_up2_at, bl_up2_nk, bl_up2_nx] at h76
                first
                | (exfalso; first | omega | exact h76 trivial)
                | (refine ⟨fun h80 => ?_, fun h80 => ?_⟩
                   · try simp (disch := omega) only [zI_n, zI_o, zI_lit, zI_neg, zI_add, zI_sub, zI_mul, zI_lt, zI_le, zI_eq, zI_clamp, zI_in, zI_div, zI_rem, lg_lt0, lg_gt0, lg_eq0, lg_le0, lg_ge0, Int.toNat_natCast, ge_iff_le, gt_iff_lt, List.length_cons, List.length_nil, bl_up2_at, bl_up2_nk, bl_up2_nx] at h80
                     try dsimp only [bl_pv]
                     exact L125 _ _ _ rfl g1 g2
                   · try simp (disch := omega) only [zI_n, zI_o, zI_lit, zI_neg, zI_add, zI_sub, zI_mul, zI_lt, zI_le, zI_eq, zI_clamp, zI_in, zI_div, zI_rem, lg_lt0, lg_gt0, lg_eq0, lg_le0, lg_ge0, Int.toNat_natCast, ge_iff_le, gt_iff_lt, List.length_cons, List.length_nil, bl_up2_at, bl_up2_nk, bl_up2_nx] at h80
                     exfalso; first | omega | exact h80 trivial)
            · have hE : bkD rc = ((bkF rc rc.1).1 + 1, (bkF rc rc.1).2.1, (bkF rc rc.1).2.2) := if_neg hz0
              rw [if_neg hz0] at hb1
              have hbn := (hK.2.1 ((bkF rc rc.1).1 + 1) (by omega)).2
              generalize hSS : bkF rc rc.1 = S at *
              have e53 : I2 (m + 53) (nI r).toNatClampNeg = nI S.1 := by rw [ecr]; exact g2.1
              have ecb : (nI S.1).toNatClampNeg = S.1 := nI_clamp (by omega)
              have e53' : ∀ v u, bl_up2 (bl_up2 I2 (m + 120 + r) S.1 v) (m + 130 + r) S.1 u (m + 53) (nI r).toNatClampNeg = nI S.1 := fun v u => by rw [bl_up2_nx (by omega), bl_up2_nx (by omega)]; exact e53
              have e53'' : ∀ v, bl_up2 I2 (m + 120 + r) S.1 v (m + 53) (nI r).toNatClampNeg = nI S.1 := fun v => by rw [bl_up2_nx (by omega)]; exact e53
              refine bl_go oX11_layBlocks 80 [7, 29, 74, 125, 199] rfl ?_
              refine ⟨fun h76 => ?_, fun h76 => ?_⟩
              · try simp (disch := omega) only [bl_pv, cl0, cl1, cl2, cl3, cl4, cl5, cl6, cl7, cl8, cl9, bl_up2_at, bl_up2_nk, bl_up2_nx] at h76
                (first | exact absurd rfl h76 | exact absurd trivial h76 | exact absurd h76 (by decide))
              · try simp (disch := omega) only [bl_pv, cl0, cl1, cl2, cl3, cl4, cl5, cl6, cl7, cl8, cl9, bl_up2_at, bl_up2_nk, bl_up2_nx] at h76
                first
                | (exfalso; first | omega | exact h76 trivial)
                | (refine ⟨fun h80 => ?_, fun h80 => ?_⟩
                   · try simp (disch := omega) only [zI_n, zI_o, zI_lit, zI_neg, zI_add, zI_sub, zI_mul, zI_lt, zI_le, zI_eq, zI_clamp, zI_in, zI_div, zI_rem, lg_lt0, lg_gt0, lg_eq0, lg_le0, lg_ge0, Int.toNat_natCast, ge_iff_le, gt_iff_lt, List.length_cons, List.length_nil, bl_up2_at, bl_up2_nk, bl_up2_nx] at h80
                     exfalso; first | omega | exact h80 trivial
                   · try simp (disch := omega) only [zI_n, zI_o, zI_lit, zI_neg, zI_add, zI_sub, zI_mul, zI_lt, zI_le, zI_eq, zI_clamp, zI_in, zI_div, zI_rem, lg_lt0, lg_gt0, lg_eq0, lg_le0, lg_ge0, Int.toNat_natCast, ge_iff_le, gt_iff_lt, List.length_cons, List.length_nil, bl_up2_at, bl_up2_nk, bl_up2_nx] at h80
                     refine ⟨km, _, bl_vs rm_51, bl_ka km51, (by first | exact (by rw [nm51]; exact vp_in_nI (by omega) (by omega)) | ((try dsimp only [bl_pv]); show vp_in _ (N _); rw [nm51]; simp (disch := omega) only [zI_n, zI_o, zI_lit, zI_neg, zI_add, zI_sub, zI_mul, zI_lt, zI_le, zI_eq, zI_clamp, zI_in, zI_div, zI_rem, lg_lt0, lg_gt0, lg_eq0, lg_le0, lg_ge0, Int.toNat_natCast, ge_iff_le, gt_iff_lt, List.length_cons, List.length_nil, bl_up2_at, bl_up2_nk, bl_up2_nx] <;> omega)), _, bl_vs (by dsimp only; rw [ecr]; exact rmu), km, _, bl_vs rm_53, Or.inl ⟨km53, (by first | exact (by rw [nm53]; exact vp_in_nI (by omega) (by omega)) | ((try dsimp only [bl_pv]); show vp_in _ (N _); rw [nm53]; simp (disch := omega) only [zI_n, zI_o, zI_lit, zI_neg, zI_add, zI_sub, zI_mul, zI_lt, zI_le, zI_eq, zI_clamp, zI_in, zI_div, zI_rem, lg_lt0, lg_gt0, lg_eq0, lg_le0, lg_ge0, Int.toNat_natCast, ge_iff_le, gt_iff_lt, List.length_cons, List.length_nil, bl_up2_at, bl_up2_nk, bl_up2_nx] <;> omega)), kmu, (by (try dsimp only [bl_pv]); rw [nmu, e53]; exact vp_in_nI (by omega) (by omega)), km, _, bl_vs rm_52, bl_ka km52, (by first | exact (by rw [nm52]; exact vp_in_nI (by omega) (by omega)) | ((try dsimp only [bl_pv]); show vp_in _ (N _); rw [nm52]; simp (disch := omega) only [zI_n, zI_o, zI_lit, zI_neg, zI_add, zI_sub, zI_mul, zI_lt, zI_le, zI_eq, zI_clamp, zI_in, zI_div, zI_rem, lg_lt0, lg_gt0, lg_eq0, lg_le0, lg_ge0, Int.toNat_natCast, ge_iff_le, gt_iff_lt, List.length_cons, List.length_nil, bl_up2_at, bl_up2_nk, bl_up2_nx] <;> omega)), _, bl_vs (by dsimp only [bl_pv]; rw [ecr]; exact rmr), km, _, bl_vs rm_53, Or.inl ⟨km53, (by first | exact (by rw [nm53]; exact vp_in_nI (by omega) (by omega)) | ((try dsimp only [bl_pv]); show vp_in _ (N _); rw [nm53]; simp (disch := omega) only [zI_n, zI_o, zI_lit, zI_neg, zI_add, zI_sub, zI_mul, zI_lt, zI_le, zI_eq, zI_clamp, zI_in, zI_div, zI_rem, lg_lt0, lg_gt0, lg_eq0, lg_le0, lg_ge0, Int.toNat_natCast, ge_iff_le, gt_iff_lt, List.length_cons, List.length_nil, bl_up2_at, bl_up2_nk, bl_up2_nx] <;> omega)), kmr, (by (try dsimp only [bl_pv]); rw [nmr, e53, ecb, e53'']; exact vp_in_nI (by omega) (by omega)), km, _, bl_vs rm_53, ⟨rfl, rfl⟩, Or.inl ⟨km53, (by first | exact (by rw [nm53]; exact vp_in_nI (by omega) (by omega)) | ((try dsimp only [bl_pv]); show vp_in _ (N _); rw [nm53]; simp (disch := omega) only [zI_n, zI_o, zI_lit, zI_neg, zI_add, zI_sub, zI_mul, zI_lt, zI_le, zI_eq, zI_clamp, zI_in, zI_div, zI_rem, lg_lt0, lg_gt0, lg_eq0, lg_le0, lg_ge0, Int.toNat_natCast, ge_iff_le, gt_iff_lt, List.length_cons, List.length_nil, bl_up2_at, bl_up2_nk, bl_up2_nx] <;> omega)), km53, (by first | exact (by rw [nm53]; exact vp_in_nI (by omega) (by omega)) | ((try dsimp only [bl_pv]); show vp_in _ (N _); rw [nm53]; simp (disch := omega) only [zI_n, zI_o, zI_lit, zI_neg, zI_add, zI_sub, zI_mul, zI_lt, zI_le, zI_eq, zI_clamp, zI_in, zI_div, zI_rem, lg_lt0, lg_gt0, lg_eq0, lg_le0, lg_ge0, Int.toNat_natCast, ge_iff_le, gt_iff_lt, List.length_cons, List.length_nil, bl_up2_at, bl_up2_nk, bl_up2_nx] <;> omega)), ?_⟩⟩⟩⟩
                     refine bl_lv [2, 3, 0, 1, 4, 5] rfl ?_
                     try dsimp only [bl_pv]
                     rw [e53, ecb, e53'', ecb, e53', ecr]
                     refine L125 _ _ _ ?_ ⟨fun x x1 x2 x3 => ?_, fun j j1 => ?_⟩ ?_
                     · rw [hE]; show nI 0 = nI (S.2.2 (S.1 + 1)); rw [hbn]
                     · rw [bl_up2_ne x1, bl_up2_ne x3, bl_up2_ne x2]; exact g1.1 x x1 x2 x3
                     · rw [bl_up2_nk j1, bl_up2_nx (by omega), bl_up2_nx (by omega)]; exact g1.2 j j1
                     · rw [hE]
                       refine ⟨?_, fun j hj => ?_⟩
                       · rw [bl_up2_at, nI_1]
                       · have hj' : j < S.1 + 1 := hj
                         rw [bl_up2_nx (show m + 120 + r ≠ m + 53 by omega), bl_up2_nx (show m + 120 + r ≠ m + 130 + r by omega), bl_up2_nx (show m + 130 + r ≠ m + 53 by omega)]
                         by_cases ej : j = S.1
                         · subst ej; rw [bl_up2_at, bl_up2_at]; exact ⟨rfl, rfl⟩
                         · rw [bl_up2_nk ej, bl_up2_nk ej, bl_up2_nx (by omega)]; exact g2.2 j (by omega))
          refine bl_go oX11_layBlocks 80 [7, 29, 74, 125, 199] rfl ?_
          refine ⟨km, _, bl_vs rm_16, Or.inl ⟨km16, (by first | exact (by rw [nm16]; exact vp_in_nI (by omega) (by omega)) | ((try dsimp only [bl_pv]); show vp_in _ (N _); rw [nm16]; simp (disch := omega) only [e16', zI_n, zI_o, zI_lit, zI_neg, zI_add, zI_sub, zI_mul, zI_lt, zI_le, zI_eq, zI_clamp, zI_in, zI_div, zI_rem, lg_lt0, lg_gt0, lg_eq0, lg_le0, lg_ge0, Int.toNat_natCast, ge_iff_le, gt_iff_lt, List.length_cons, List.length_nil, bl_up2_at, bl_up2_nk, bl_up2_nx] <;> omega)), fun h37 => ?_, fun h37 => ?_⟩⟩
          · try simp (disch := omega) only [e16', zI_n, zI_o, zI_lit, zI_neg, zI_add, zI_sub, zI_mul, zI_lt, zI_le, zI_eq, zI_clamp, zI_in, zI_div, zI_rem, lg_lt0, lg_gt0, lg_eq0, lg_le0, lg_ge0, Int.toNat_natCast, ge_iff_le, gt_iff_lt, List.length_cons, List.length_nil, bl_up2_at, bl_up2_nk, bl_up2_nx] at h37
            exfalso; first | omega | exact h37 trivial
          · try simp (disch := omega) only [e16', zI_n, zI_o, zI_lit, zI_neg, zI_add, zI_sub, zI_mul, zI_lt, zI_le, zI_eq, zI_clamp, zI_in, zI_div, zI_rem, lg_lt0, lg_gt0, lg_eq0, lg_le0, lg_ge0, Int.toNat_natCast, ge_iff_le, gt_iff_lt, List.length_cons, List.length_nil, bl_up2_at, bl_up2_nk, bl_up2_nx] at h37
            refine ⟨km, _, bl_vs rm_16, Or.inl ⟨km16, (by first | exact (by rw [nm16]; exact vp_in_nI (by omega) (by omega)) | ((try dsimp only [bl_pv]); show vp_in _ (N _); rw [nm16]; simp (disch := omega) only [e16', zI_n, zI_o, zI_lit, zI_neg, zI_add, zI_sub, zI_mul, zI_lt, zI_le, zI_eq, zI_clamp, zI_in, zI_div, zI_rem, lg_lt0, lg_gt0, lg_eq0, lg_le0, lg_ge0, Int.toNat_natCast, ge_iff_le, gt_iff_lt, List.length_cons, List.length_nil, bl_up2_at, bl_up2_nk, bl_up2_nx] <;> omega)), fun h48 => ?_, fun h48 => ?_⟩⟩
            · try simp (disch := omega) only [e16', zI_n, zI_o, zI_lit, zI_neg, zI_add, zI_sub, zI_mul, zI_lt, zI_le, zI_eq, zI_clamp, zI_in, zI_div, zI_rem, lg_lt0, lg_gt0, lg_eq0, lg_le0, lg_ge0, Int.toNat_natCast, ge_iff_le, gt_iff_lt, List.length_cons, List.length_nil, bl_up2_at, bl_up2_nk, bl_up2_nx] at h48
              try dsimp only [bl_pv]
              exact L74
            · try simp (disch := omega) only [e16', zI_n, zI_o, zI_lit, zI_neg, zI_add, zI_sub, zI_mul, zI_lt, zI_le, zI_eq, zI_clamp, zI_in, zI_div, zI_rem, lg_lt0, lg_gt0, lg_eq0, lg_le0, lg_ge0, Int.toNat_natCast, ge_iff_le, gt_iff_lt, List.length_cons, List.length_nil, bl_up2_at, bl_up2_nk, bl_up2_nx] at h48
              exfalso; first | omega | exact h48 trivial
        · intro z u w I2 hz hu hw g1 g2; subst hz hu hw
          have e16' := e16 I2 g1
          have hK := bkF_K hv.u k (by omega)
          have hb3 := hK.2.2.1 (bkF rc k).1
          have hb1 := hK.1
          obtain ⟨ho1, ho2, -⟩ := hrO k hk
          obtain ⟨hs1, hs2⟩ := hrs k hk
          have i1 : ∀ I3, blF I1 I3 m r → I3 (m + 100 + r) (2 * nI k).toNatClampNeg = nI (rc.2.1 k) := fun I3 g => by rw [cl2_ (by omega), g.1 _ (by omega) (by omega) (by omega), f1.1 _ (by omega) (by omega)]; exact hs1
          have i2 : ∀ I3, blF I1 I3 m r → I3 (m + 100 + r) (2 * nI k + 1).toNatClampNeg = nI (rc.2.2 k) := fun I3 g => by rw [cl2_1 (by omega), g.1 _ (by omega) (by omega) (by omega), f1.1 _ (by omega) (by omega)]; exact hs2
          by_cases h6 : rc.2.1 k = 6
          · have hF : bkF rc (k + 1) = ((bkE (bkF rc k)).1, (bkE (bkF rc k)).2.1, up1 (bkE (bkF rc k)).2.2 (bkE (bkF rc k)).1 ((bkE (bkF rc k)).2.2 (bkE (bkF rc k)).1 + rc.2.2 k)) := by
              show (if rc.2.1 k = 6 then _ else _) = _
              rw [if_pos h6, show st_un (rc.2.1 k) (rc.2.2 k) = rc.2.2 k by rw [h6]; rfl]
            have hz := bkE_z hK
            have hKE := bkE_K hK
            have hKE3 := hKE.2.2.1 (bkE (bkF rc k)).1
            have L125 : ∀ u w I3, u = nI 0 → w = nI ((bkE (bkF rc k)).2.2 (bkE (bkF rc k)).1) → blF I1 I3 m r → blI I3 m r (bkE (bkF rc k)) → bl_WP G l (d + 1) mX11_layBlocks 125 [(5, .int 1), (4, .int (nI k)), (3, .int u), (2, .int w), (1, .int (nI r)), (0, .ref m)] [] (I3, J, R, K, N) (0, 0) (fun o σ' => o = .inl none ∧ ∃ I', σ' = (I', J, R, K, N) ∧ bhF I I' m ∧ I' m 60 = nI (bTot A.2.2.1 A.2.2.2.1) ∧ (∀ j, j ≠ 60 → I' m j = I m j) ∧ (∀ x, m + 54 ≤ x → x ≤ m + 59 → I' x = I x) ∧ ∀ r, r < A.2.2.1 → bmR I' m (bdD A.2.2.1 A.2.2.2.1) r) := by
              intro u w I3 hu hw g1 g2; subst hu hw
              have e16' := e16 I3 g1
              have i2' := i2 I3 g1
              refine bl_go oX11_layBlocks 80 [7, 29, 74, 125, 199] rfl ?_
              refine ⟨km, _, bl_vs rm_16, Or.inl ⟨km16, (by first | exact (by rw [nm16]; exact vp_in_nI (by omega) (by omega)) | ((try dsimp only [bl_pv]); show vp_in _ (N _); rw [nm16]; simp (disch := omega) only [e16', zI_n, zI_o, zI_lit, zI_neg, zI_add, zI_sub, zI_mul, zI_lt, zI_le, zI_eq, zI_clamp, zI_in, zI_div, zI_rem, lg_lt0, lg_gt0, lg_eq0, lg_le0, lg_ge0, Int.toNat_natCast, ge_iff_le, gt_iff_lt, List.length_cons, List.length_nil, bl_up2_at, bl_up2_nk, bl_up2_nx] <;> omega)), fun h133 => ?_, fun h133 => ?_⟩⟩
              · try simp (disch := omega) only [e16', zI_n, zI_o, zI_lit, zI_neg, zI_add, zI_sub, zI_mul, zI_lt, zI_le, zI_eq, zI_clamp, zI_in, zI_div, zI_rem, lg_lt0, lg_gt0, lg_eq0, lg_le0, lg_ge0, Int.toNat_natCast, ge_iff_le, gt_iff_lt, List.length_cons, List.length_nil, bl_up2_at, bl_up2_nk, bl_up2_nx] at h133
                refine ⟨fun h141 => ?_, fun h141 => ?_⟩
                · try simp (disch := omega) only [bl_pv, cl0, cl1, cl2, cl3, cl4, cl5, cl6, cl7, cl8, cl9, bl_up2_at, bl_up2_nk, bl_up2_nx] at h141
                  (first | exact absurd rfl h141 | exact absurd trivial h141 | exact absurd h141 (by decide))
                · try simp (disch := omega) only [bl_pv, cl0, cl1, cl2, cl3, cl4, cl5, cl6, cl7, cl8, cl9, bl_up2_at, bl_up2_nk, bl_up2_nx] at h141
                  first
                  | (exfalso; first | omega | exact h141 trivial)
                  | (refine ⟨km, _, bl_vs rm_18, bl_ka km18, (by first | exact (by rw [nm18]; exact vp_in_nI (by omega) (by omega)) | ((try dsimp only [bl_pv]); show vp_in _ (N _); rw [nm18]; simp (disch := omega) only [e16', zI_n, zI_o, zI_lit, zI_neg, zI_add, zI_sub, zI_mul, zI_lt, zI_le, zI_eq, zI_clamp, zI_in, zI_div, zI_rem, lg_lt0, lg_gt0, lg_eq0, lg_le0, lg_ge0, Int.toNat_natCast, ge_iff_le, gt_iff_lt, List.length_cons, List.length_nil, bl_up2_at, bl_up2_nk, bl_up2_nx] <;> omega)), _, bl_vs (by dsimp only; rw [ecr]; exact rms), Or.inl ⟨kms, (by first | exact (by rw [nms]; exact vp_in_nI (by omega) (by omega)) | ((try dsimp only [bl_pv]); show vp_in _ (N _); rw [nms]; simp (disch := omega) only [e16', zI_n, zI_o, zI_lit, zI_neg, zI_add, zI_sub, zI_mul, zI_lt, zI_le, zI_eq, zI_clamp, zI_in, zI_div, zI_rem, lg_lt0, lg_gt0, lg_eq0, lg_le0, lg_ge0, Int.toNat_natCast, ge_iff_le, gt_iff_lt, List.length_cons, List.length_nil, bl_up2_at, bl_up2_nk, bl_up2_nx] <;> omega)), ?_⟩⟩
                     refine bl_lv [0, 3, 1, 4, 5] rfl ?_
                     try dsimp only [bl_pv]
                     refine ih2 _ _ _ _ (nI_1 _) ?_ ?_ g1 ?_
                     · rw [hF]; show nI 0 = nI ((bkE (bkF rc k)).2.1 (bkE (bkF rc k)).1); rw [hz]
                     · rw [hF]
                       show _ = nI (up1 _ _ _ _)
                       rw [up1_at]
                       show _ + I3 (m + 100 + r) (2 * nI k + 1).toNatClampNeg = _
                       rw [i2']; exact (Int32.ofNat_add _ _).symm
                     · rw [hF]
                       refine ⟨g2.1, fun j hj => ⟨(g2.2 j hj).1, ?_⟩⟩
                       show I3 (m + 130 + r) j = nI (up1 _ _ _ j)
                       have hj' : j < (bkE (bkF rc k)).1 := hj
                       rw [up1_ne (by omega)]; exact (g2.2 j hj).2)
              · try simp (disch := omega) only [e16', zI_n, zI_o, zI_lit, zI_neg, zI_add, zI_sub, zI_mul, zI_lt, zI_le, zI_eq, zI_clamp, zI_in, zI_div, zI_rem, lg_lt0, lg_gt0, lg_eq0, lg_le0, lg_ge0, Int.toNat_natCast, ge_iff_le, gt_iff_lt, List.length_cons, List.length_nil, bl_up2_at, bl_up2_nk, bl_up2_nx] at h133
                exfalso; first | omega | exact h133 trivial
            have L74 : bl_WP G l (d + 1) mX11_layBlocks 74 [(5, .int 1), (4, .int (nI k)), (3, .int (nI ((bkF rc k).2.1 (bkF rc k).1))), (2, .int (nI ((bkF rc k).2.2 (bkF rc k).1))), (1, .int (nI r)), (0, .ref m)] [] (I2, J, R, K, N) (0, 0) (fun o σ' => o = .inl none ∧ ∃ I', σ' = (I', J, R, K, N) ∧ bhF I I' m ∧ I' m 60 = nI (bTot A.2.2.1 A.2.2.2.1) ∧ (∀ j, j ≠ 60 → I' m j = I m j) ∧ (∀ x, m + 54 ≤ x → x ≤ m + 59 → I' x = I x) ∧ ∀ r, r < A.2.2.1 → bmR I' m (bdD A.2.2.1 A.2.2.2.1) r) := by
              by_cases hz0 : (bkF rc k).2.1 (bkF rc k).1 = 0
              · have hE : bkE (bkF rc k) = bkF rc k := if_pos hz0
                rw [hE] at L125
                rw [hz0]
                refine bl_go oX11_layBlocks 80 [7, 29, 74, 125, 199] rfl ?_
                refine ⟨fun h76 => ?_, fun h76 => ?_⟩
                · try simp (disch := omega) only [bl_pv, cl0, cl1, cl2, cl3, cl4, cl5, cl6, cl7, cl8, cl9, bl_up2_at, bl_up2_nk, bl_up2_nx] at h76
                  (first | exact absurd rfl h76 | exact absurd trivial h76 | exact absurd h76 (by decide))
                · try simp (disch := omega) only [bl_pv, cl0, cl1, cl2, cl3, cl4, cl5, cl6, cl7, cl8, cl9, bl_up2_at, bl_up2_nk, bl_up2_nx] at h76
                  first
                  | (exfalso; first | omega | exact h76 trivial)
                  | (refine ⟨fun h80 => ?_, fun h80 => ?_⟩
                     · try simp (disch := omega) only [zI_n, zI_o, zI_lit, zI_neg, zI_add, zI_sub, zI_mul, zI_lt, zI_le, zI_eq, zI_clamp, zI_in, zI_div, zI_rem, lg_lt0, lg_gt0, lg_eq0, lg_le0, lg_ge0, Int.toNat_natCast, ge_iff_le, gt_iff_lt, List.length_cons, List.length_nil, bl_up2_at, bl_up2_nk, bl_up2_nx] at h80
                       try dsimp only [bl_pv]
                       exact L125 _ _ _ rfl rfl g1 g2
                     · try simp (disch := omega) only [zI_n, zI_o, zI_lit, zI_neg, zI_add, zI_sub, zI_mul, zI_lt, zI_le, zI_eq, zI_clamp, zI_in, zI_div, zI_rem, lg_lt0, lg_gt0, lg_eq0, lg_le0, lg_ge0, Int.toNat_natCast, ge_iff_le, gt_iff_lt, List.length_cons, List.length_nil, bl_up2_at, bl_up2_nk, bl_up2_nx] at h80
                       exfalso; first | omega | exact h80 trivial)
              · have hE : bkE (bkF rc k) = ((bkF rc k).1 + 1, (bkF rc k).2.1, (bkF rc k).2.2) := if_neg hz0
                rw [if_neg hz0] at hb1
                have hbn := (hK.2.1 ((bkF rc k).1 + 1) (by omega)).2
                rw [hE] at L125
                clear hF hz hKE hKE3 hE ih2
                generalize bkF rc k = S at *
                have e53 : I2 (m + 53) (nI r).toNatClampNeg = nI S.1 := by rw [ecr]; exact g2.1
                have ecb : (nI S.1).toNatClampNeg = S.1 := nI_clamp (by omega)
                have e53' : ∀ v u, bl_up2 (bl_up2 I2 (m + 120 + r) S.1 v) (m + 130 + r) S.1 u (m + 53) (nI r).toNatClampNeg = nI S.1 := fun v u => by rw [bl_up2_nx (by omega), bl_up2_nx (by omega)]; exact e53
                have e53'' : ∀ v, bl_up2 I2 (m + 120 + r) S.1 v (m + 53) (nI r).toNatClampNeg = nI S.1 := fun v => by rw [bl_up2_nx (by omega)]; exact e53
                refine bl_go oX11_layBlocks 80 [7, 29, 74, 125, 199] rfl ?_
                refine ⟨fun h76 => ?_, fun h76 => ?_⟩
                · try simp (disch := omega) only [bl_pv, cl0, cl1, cl2, cl3, cl4, cl5, cl6, cl7, cl8, cl9, bl_up2_at, bl_up2_nk, bl_up2_nx] at h76
                  (first | exact absurd rfl h76 | exact absurd trivial h76 | exact absurd h76 (by decide))
                · try simp (disch := omega) only [bl_pv, cl0, cl1, cl2, cl3, cl4, cl5, cl6, cl7, cl8, cl9, bl_up2_at, bl_up2_nk, bl_up2_nx] at h76
                  first
                  | (exfalso; first | omega | exact h76 trivial)
                  | (refine ⟨fun h80 => ?_, fun h80 => ?_⟩
                     · try simp (disch := omega) only [zI_n, zI_o, zI_lit, zI_neg, zI_add, zI_sub, zI_mul, zI_lt, zI_le, zI_eq, zI_clamp, zI_in, zI_div, zI_rem, lg_lt0, lg_gt0, lg_eq0, lg_le0, lg_ge0, Int.toNat_natCast, ge_iff_le, gt_iff_lt, List.length_cons, List.length_nil, bl_up2_at, bl_up2_nk, bl_up2_nx] at h80
                       exfalso; first | omega | exact h80 trivial
                     · try simp (disch := omega) only [zI_n, zI_o, zI_lit, zI_neg, zI_add, zI_sub, zI_mul, zI_lt, zI_le, zI_eq, zI_clamp, zI_in, zI_div, zI_rem, lg_lt0, lg_gt0, lg_eq0, lg_le0, lg_ge0, Int.toNat_natCast, ge_iff_le, gt_iff_lt, List.length_cons, List.length_nil, bl_up2_at, bl_up2_nk, bl_up2_nx] at h80
                       refine ⟨km, _, bl_vs rm_51, bl_ka km51, (by first | exact (by rw [nm51]; exact vp_in_nI (by omega) (by omega)) | ((try dsimp only [bl_pv]); show vp_in _ (N _); rw [nm51]; simp (disch := omega) only [zI_n, zI_o, zI_lit, zI_neg, zI_add, zI_sub, zI_mul, zI_lt, zI_le, zI_eq, zI_clamp, zI_in, zI_div, zI_rem, lg_lt0, lg_gt0, lg_eq0, lg_le0, lg_ge0, Int.toNat_natCast, ge_iff_le, gt_iff_lt, List.length_cons, List.length_nil, bl_up2_at, bl_up2_nk, bl_up2_nx] <;> omega)), _, bl_vs (by dsimp only; rw [ecr]; exact rmu), km, _, bl_vs rm_53, Or.inl ⟨km53, (by first | exact (by rw [nm53]; exact vp_in_nI (by omega) (by omega)) | ((try dsimp only [bl_pv]); show vp_in _ (N _); rw [nm53]; simp (disch := omega) only [zI_n, zI_o, zI_lit, zI_neg, zI_add, zI_sub, zI_mul, zI_lt, zI_le, zI_eq, zI_clamp, zI_in, zI_div, zI_rem, lg_lt0, lg_gt0, lg_eq0, lg_le0, lg_ge0, Int.toNat_natCast, ge_iff_le, gt_iff_lt, List.length_cons, List.length_nil, bl_up2_at, bl_up2_nk, bl_up2_nx] <;> omega)), kmu, (by (try dsimp only [bl_pv]); rw [nmu, e53]; exact vp_in_nI (by omega) (by omega)), km, _, bl_vs rm_52, bl_ka km52, (by first | exact (by rw [nm52]; exact vp_in_nI (by omega) (by omega)) | ((try dsimp only [bl_pv]); show vp_in _ (N _); rw [nm52]; simp (disch := omega) only [zI_n, zI_o, zI_lit, zI_neg, zI_add, zI_sub, zI_mul, zI_lt, zI_le, zI_eq, zI_clamp, zI_in, zI_div, zI_rem, lg_lt0, lg_gt0, lg_eq0, lg_le0, lg_ge0, Int.toNat_natCast, ge_iff_le, gt_iff_lt, List.length_cons, List.length_nil, bl_up2_at, bl_up2_nk, bl_up2_nx] <;> omega)), _, bl_vs (by dsimp only [bl_pv]; rw [ecr]; exact rmr), km, _, bl_vs rm_53, Or.inl ⟨km53, (by first | exact (by rw [nm53]; exact vp_in_nI (by omega) (by omega)) | ((try dsimp only [bl_pv]); show vp_in _ (N _); rw [nm53]; simp (disch := omega) only [zI_n, zI_o, zI_lit, zI_neg, zI_add, zI_sub, zI_mul, zI_lt, zI_le, zI_eq, zI_clamp, zI_in, zI_div, zI_rem, lg_lt0, lg_gt0, lg_eq0, lg_le0, lg_ge0, Int.toNat_natCast, ge_iff_le, gt_iff_lt, List.length_cons, List.length_nil, bl_up2_at, bl_up2_nk, bl_up2_nx] <;> omega)), kmr, (by (try dsimp only [bl_pv]); rw [nmr, e53, ecb, e53'']; exact vp_in_nI (by omega) (by omega)), km, _, bl_vs rm_53, ⟨rfl, rfl⟩, Or.inl ⟨km53, (by first | exact (by rw [nm53]; exact vp_in_nI (by omega) (by omega)) | ((try dsimp only [bl_pv]); show vp_in _ (N _); rw [nm53]; simp (disch := omega) only [zI_n, zI_o, zI_lit, zI_neg, zI_add, zI_sub, zI_mul, zI_lt, zI_le, zI_eq, zI_clamp, zI_in, zI_div, zI_rem, lg_lt0, lg_gt0, lg_eq0, lg_le0, lg_ge0, Int.toNat_natCast, ge_iff_le, gt_iff_lt, List.length_cons, List.length_nil, bl_up2_at, bl_up2_nk, bl_up2_nx] <;> omega)), km53, (by first | exact (by rw [nm53]; exact vp_in_nI (by omega) (by omega)) | ((try dsimp only [bl_pv]); show vp_in _ (N _); rw [nm53]; simp (disch := omega) only [zI_n, zI_o, zI_lit, zI_neg, zI_add, zI_sub, zI_mul, zI_lt, zI_le, zI_eq, zI_clamp, zI_in, zI_div, zI_rem, lg_lt0, lg_gt0, lg_eq0, lg_le0, lg_ge0, Int.toNat_natCast, ge_iff_le, gt_iff_lt, List.length_cons, List.length_nil, bl_up2_at, bl_up2_nk, bl_up2_nx] <;> omega)), ?_⟩⟩⟩⟩
                       refine bl_lv [2, 3, 0, 1, 4, 5] rfl ?_
                       try dsimp only [bl_pv]
                       rw [e53, ecb, e53'', ecb, e53', ecr]
                       refine L125 _ _ _ rfl ?_ ⟨fun x x1 x2 x3 => ?_, fun j j1 => ?_⟩ ?_
                       · show nI 0 = nI (S.2.2 (S.1 + 1)); rw [hbn]
                       · rw [bl_up2_ne x1, bl_up2_ne x3, bl_up2_ne x2]; exact g1.1 x x1 x2 x3
                       · rw [bl_up2_nk j1, bl_up2_nx (by omega), bl_up2_nx (by omega)]; exact g1.2 j j1
                       · refine ⟨?_, fun j hj => ?_⟩
                         · rw [bl_up2_at, nI_1]
                         · have hj' : j < S.1 + 1 := hj
                           rw [bl_up2_nx (show m + 120 + r ≠ m + 53 by omega), bl_up2_nx (show m + 120 + r ≠ m + 130 + r by omega), bl_up2_nx (show m + 130 + r ≠ m + 53 by omega)]
                           by_cases ej : j = S.1
                           · subst ej; rw [bl_up2_at, bl_up2_at]; exact ⟨rfl, rfl⟩
                           · rw [bl_up2_nk ej, bl_up2_nk ej, bl_up2_nx (by omega)]; exact g2.2 j (by omega))
            have i1' := i1 I2 g1
            refine bl_go oX11_layBlocks 80 [7, 29, 74, 125, 199] rfl ?_
            refine ⟨km, _, bl_vs rm_16, Or.inl ⟨km16, (by first | exact (by rw [nm16]; exact vp_in_nI (by omega) (by omega)) | ((try dsimp only [bl_pv]); show vp_in _ (N _); rw [nm16]; simp (disch := omega) only [e16', zI_n, zI_o, zI_lit, zI_neg, zI_add, zI_sub, zI_mul, zI_lt, zI_le, zI_eq, zI_clamp, zI_in, zI_div, zI_rem, lg_lt0, lg_gt0, lg_eq0, lg_le0, lg_ge0, Int.toNat_natCast, ge_iff_le, gt_iff_lt, List.length_cons, List.length_nil, bl_up2_at, bl_up2_nk, bl_up2_nx] <;> omega)), fun h37 => ?_, fun h37 => ?_⟩⟩
            · try simp (disch := omega) only [e16', zI_n, zI_o, zI_lit, zI_neg, zI_add, zI_sub, zI_mul, zI_lt, zI_le, zI_eq, zI_clamp, zI_in, zI_div, zI_rem, lg_lt0, lg_gt0, lg_eq0, lg_le0, lg_ge0, Int.toNat_natCast, ge_iff_le, gt_iff_lt, List.length_cons, List.length_nil, bl_up2_at, bl_up2_nk, bl_up2_nx] at h37
              exfalso; first | omega | exact h37 trivial
            · try simp (disch := omega) only [e16', zI_n, zI_o, zI_lit, zI_neg, zI_add, zI_sub, zI_mul, zI_lt, zI_le, zI_eq, zI_clamp, zI_in, zI_div, zI_rem, lg_lt0, lg_gt0, lg_eq0, lg_le0, lg_ge0, Int.toNat_natCast, ge_iff_le, gt_iff_lt, List.length_cons, List.length_nil, bl_up2_at, bl_up2_nk, bl_up2_nx] at h37
              refine ⟨km, _, bl_vs rm_16, Or.inl ⟨km16, (by first | exact (by rw [nm16]; exact vp_in_nI (by omega) (by omega)) | ((try dsimp only [bl_pv]); show vp_in _ (N _); rw [nm16]; simp (disch := omega) only [e16', zI_n, zI_o, zI_lit, zI_neg, zI_add, zI_sub, zI_mul, zI_lt, zI_le, zI_eq, zI_clamp, zI_in, zI_div, zI_rem, lg_lt0, lg_gt0, lg_eq0, lg_le0, lg_ge0, Int.toNat_natCast, ge_iff_le, gt_iff_lt, List.length_cons, List.length_nil, bl_up2_at, bl_up2_nk, bl_up2_nx] <;> omega)), fun h48 => ?_, fun h48 => ?_⟩⟩
              · try simp (disch := omega) only [e16', zI_n, zI_o, zI_lit, zI_neg, zI_add, zI_sub, zI_mul, zI_lt, zI_le, zI_eq, zI_clamp, zI_in, zI_div, zI_rem, lg_lt0, lg_gt0, lg_eq0, lg_le0, lg_ge0, Int.toNat_natCast, ge_iff_le, gt_iff_lt, List.length_cons, List.length_nil, bl_up2_at, bl_up2_nk, bl_up2_nx] at h48
                exfalso; first | omega | exact h48 trivial
              · try simp (disch := omega) only [e16', zI_n, zI_o, zI_lit, zI_neg, zI_add, zI_sub, zI_mul, zI_lt, zI_le, zI_eq, zI_clamp, zI_in, zI_div, zI_rem, lg_lt0, lg_gt0, lg_eq0, lg_le0, lg_ge0, Int.toNat_natCast, ge_iff_le, gt_iff_lt, List.length_cons, List.length_nil, bl_up2_at, bl_up2_nk, bl_up2_nx] at h48
                refine ⟨km, _, bl_vs rm_18, bl_ka km18, (by first | exact (by rw [nm18]; exact vp_in_nI (by omega) (by omega)) | ((try dsimp only [bl_pv]); show vp_in _ (N _); rw [nm18]; simp (disch := omega) only [e16', zI_n, zI_o, zI_lit, zI_neg, zI_add, zI_sub, zI_mul, zI_lt, zI_le, zI_eq, zI_clamp, zI_in, zI_div, zI_rem, lg_lt0, lg_gt0, lg_eq0, lg_le0, lg_ge0, Int.toNat_natCast, ge_iff_le, gt_iff_lt, List.length_cons, List.length_nil, bl_up2_at, bl_up2_nk, bl_up2_nx] <;> omega)), _, bl_vs (by dsimp only; rw [ecr]; exact rms), Or.inl ⟨kms, (by first | exact (by rw [nms]; exact vp_in_nI (by omega) (by omega)) | ((try dsimp only [bl_pv]); show vp_in _ (N _); rw [nms]; simp (disch := omega) only [e16', zI_n, zI_o, zI_lit, zI_neg, zI_add, zI_sub, zI_mul, zI_lt, zI_le, zI_eq, zI_clamp, zI_in, zI_div, zI_rem, lg_lt0, lg_gt0, lg_eq0, lg_le0, lg_ge0, Int.toNat_natCast, ge_iff_le, gt_iff_lt, List.length_cons, List.length_nil, bl_up2_at, bl_up2_nk, bl_up2_nx] <;> omega)), fun h64 => ?_, fun h64 => ?_⟩⟩
                · try simp (disch := omega) only [bl_pv, cl0, cl1, cl2, cl3, cl4, cl5, cl6, cl7, cl8, cl9, bl_up2_at, bl_up2_nk, bl_up2_nx] at h64
                  exact absurd (i1'.trans (by rw [h6]; rfl)) h64
                · try simp (disch := omega) only [bl_pv, cl0, cl1, cl2, cl3, cl4, cl5, cl6, cl7, cl8, cl9, bl_up2_at, bl_up2_nk, bl_up2_nx] at h64
                  first
                  | (exfalso; first | omega | exact h64 trivial)
                  | (try dsimp only [bl_pv]
                     exact L74)
          · have hF : bkF rc (k + 1) = ((bkF rc k).1, up1 (bkF rc k).2.1 (bkF rc k).1 ((bkF rc k).2.1 (bkF rc k).1 + st_un (rc.2.1 k) (rc.2.2 k)), (bkF rc k).2.2) := if_neg h6
            have i1' := i1 I2 g1
            have i2' := i2 I2 g1
            have hsu : st_un (rc.2.1 k) (rc.2.2 k) ≤ 36 := st_un_le ho2
            have L74 : bl_WP G l (d + 1) mX11_layBlocks 74 [(5, .int 0), (4, .int (nI k)), (3, .int (nI ((bkF rc k).2.1 (bkF rc k).1))), (2, .int (nI ((bkF rc k).2.2 (bkF rc k).1))), (1, .int (nI r)), (0, .ref m)] [] (I2, J, R, K, N) (0, 0) (fun o σ' => o = .inl none ∧ ∃ I', σ' = (I', J, R, K, N) ∧ bhF I I' m ∧ I' m 60 = nI (bTot A.2.2.1 A.2.2.2.1) ∧ (∀ j, j ≠ 60 → I' m j = I m j) ∧ (∀ x, m + 54 ≤ x → x ≤ m + 59 → I' x = I x) ∧ ∀ r, r < A.2.2.1 → bmR I' m (bdD A.2.2.1 A.2.2.2.1) r) := by
              have L125 : bl_WP G l (d + 1) mX11_layBlocks 125 [(5, .int 0), (4, .int (nI k)), (3, .int (nI ((bkF rc k).2.1 (bkF rc k).1))), (2, .int (nI ((bkF rc k).2.2 (bkF rc k).1))), (1, .int (nI r)), (0, .ref m)] [] (I2, J, R, K, N) (0, 0) (fun o σ' => o = .inl none ∧ ∃ I', σ' = (I', J, R, K, N) ∧ bhF I I' m ∧ I' m 60 = nI (bTot A.2.2.1 A.2.2.2.1) ∧ (∀ j, j ≠ 60 → I' m j = I m j) ∧ (∀ x, m + 54 ≤ x → x ≤ m + 59 → I' x = I x) ∧ ∀ r, r < A.2.2.1 → bmR I' m (bdD A.2.2.1 A.2.2.2.1) r) := by
                skip
                refine bl_go oX11_layBlocks 80 [7, 29, 74, 125, 199] rfl ?_
                refine ⟨km, _, bl_vs rm_16, Or.inl ⟨km16, (by first | exact (by rw [nm16]; exact vp_in_nI (by omega) (by omega)) | ((try dsimp only [bl_pv]); show vp_in _ (N _); rw [nm16]; simp (disch := omega) only [e16', zI_n, zI_o, zI_lit, zI_neg, zI_add, zI_sub, zI_mul, zI_lt, zI_le, zI_eq, zI_clamp, zI_in, zI_div, zI_rem, lg_lt0, lg_gt0, lg_eq0, lg_le0, lg_ge0, Int.toNat_natCast, ge_iff_le, gt_iff_lt, List.length_cons, List.length_nil, bl_up2_at, bl_up2_nk, bl_up2_nx] <;> omega)), fun h133 => ?_, fun h133 => ?_⟩⟩
                · try simp (disch := omega) only [e16', zI_n, zI_o, zI_lit, zI_neg, zI_add, zI_sub, zI_mul, zI_lt, zI_le, zI_eq, zI_clamp, zI_in, zI_div, zI_rem, lg_lt0, lg_gt0, lg_eq0, lg_le0, lg_ge0, Int.toNat_natCast, ge_iff_le, gt_iff_lt, List.length_cons, List.length_nil, bl_up2_at, bl_up2_nk, bl_up2_nx] at h133
                  refine ⟨fun h141 => ?_, fun h141 => ?_⟩
                  · try simp (disch := omega) only [bl_pv, cl0, cl1, cl2, cl3, cl4, cl5, cl6, cl7, cl8, cl9, bl_up2_at, bl_up2_nk, bl_up2_nx] at h141
                    first
                    | (exfalso; first | omega | exact h141 trivial)
                    | (refine ⟨km, _, bl_vs rm_18, bl_ka km18, (by first | exact (by rw [nm18]; exact vp_in_nI (by omega) (by omega)) | ((try dsimp only [bl_pv]); show vp_in _ (N _); rw [nm18]; simp (disch := omega) only [e16', zI_n, zI_o, zI_lit, zI_neg, zI_add, zI_sub, zI_mul, zI_lt, zI_le, zI_eq, zI_clamp, zI_in, zI_div, zI_rem, lg_lt0, lg_gt0, lg_eq0, lg_le0, lg_ge0, Int.toNat_natCast, ge_iff_le, gt_iff_lt, List.length_cons, List.length_nil, bl_up2_at, bl_up2_nk, bl_up2_nx] <;> omega)), _, bl_vs (by dsimp only; rw [ecr]; exact rms), Or.inl ⟨kms, (by first | exact (by rw [nms]; exact vp_in_nI (by omega) (by omega)) | ((try dsimp only [bl_pv]); show vp_in _ (N _); rw [nms]; simp (disch := omega) only [e16', zI_n, zI_o, zI_lit, zI_neg, zI_add, zI_sub, zI_mul, zI_lt, zI_le, zI_eq, zI_clamp, zI_in, zI_div, zI_rem, lg_lt0, lg_gt0, lg_eq0, lg_le0, lg_ge0, Int.toNat_natCast, ge_iff_le, gt_iff_lt, List.length_cons, List.length_nil, bl_up2_at, bl_up2_nk, bl_up2_nx] <;> omega)), km, _, bl_vs rm_18, bl_ka km18, (by first | exact (by rw [nm18]; exact vp_in_nI (by omega) (by omega)) | ((try dsimp only [bl_pv]); show vp_in _ (N _); rw [nm18]; simp (disch := omega) only [e16', zI_n, zI_o, zI_lit, zI_neg, zI_add, zI_sub, zI_mul, zI_lt, zI_le, zI_eq, zI_clamp, zI_in, zI_div, zI_rem, lg_lt0, lg_gt0, lg_eq0, lg_le0, lg_ge0, Int.toNat_natCast, ge_iff_le, gt_iff_lt, List.length_cons, List.length_nil, bl_up2_at, bl_up2_nk, bl_up2_nx] <;> omega)), _, bl_vs (by dsimp only; rw [ecr]; exact rms), Or.inl ⟨kms, (by first | exact (by rw [nms]; exact vp_in_nI (by omega) (by omega)) | ((try dsimp only [bl_pv]); show vp_in _ (N _); rw [nms]; simp (disch := omega) only [e16', zI_n, zI_o, zI_lit, zI_neg, zI_add, zI_sub, zI_mul, zI_lt, zI_le, zI_eq, zI_clamp, zI_in, zI_div, zI_rem, lg_lt0, lg_gt0, lg_eq0, lg_le0, lg_ge0, Int.toNat_natCast, ge_iff_le, gt_iff_lt, List.length_cons, List.length_nil, bl_up2_at, bl_up2_nk, bl_up2_nx] <;> omega)), rfl, (Nat.le_of_ble_eq_true rfl), (0, 0), Nat.le_of_ble_eq_true rfl, Nat.le_of_ble_eq_true rfl, bl_MC_mono (c_Model_units (d := d) (k := rc.2.1 k) (v := rc.2.2 k) i1' i2' ho1) (fun o188 σ188 q188 => ?_)⟩⟩⟩
                       try dsimp only [bl_pv] at q188
                       obtain ⟨rfl, rfl⟩ := q188
                       refine bl_go oX11_layBlocks 80 [7, 29, 74, 125, 199] rfl ?_
                       refine bl_lv [0, 1, 3, 4, 5] rfl ?_
                       try dsimp only [bl_pv]
                       refine ih2 _ _ _ _ (nI_1 _) ?_ ?_ g1 ?_
                       · rw [hF]
                         show _ = nI (up1 _ _ _ _)
                         rw [up1_at]; exact (Int32.ofNat_add _ _).symm
                       · rw [hF]
                       · rw [hF]
                         refine ⟨g2.1, fun j hj => ⟨?_, (g2.2 j hj).2⟩⟩
                         show I2 (m + 120 + r) j = nI (up1 _ _ _ j)
                         have hj' : j < (bkF rc k).1 := hj
                         rw [up1_ne (by omega)]; exact (g2.2 j hj).1)
                  · try simp (disch := omega) only [bl_pv, cl0, cl1, cl2, cl3, cl4, cl5, cl6, cl7, cl8, cl9, bl_up2_at, bl_up2_nk, bl_up2_nx] at h141
                    (first | exact absurd rfl h141 | exact absurd trivial h141 | exact absurd h141 (by decide))
                · try simp (disch := omega) only [e16', zI_n, zI_o, zI_lit, zI_neg, zI_add, zI_sub, zI_mul, zI_lt, zI_le, zI_eq, zI_clamp, zI_in, zI_div, zI_rem, lg_lt0, lg_gt0, lg_eq0, lg_le0, lg_ge0, Int.toNat_natCast, ge_iff_le, gt_iff_lt, List.length_cons, List.length_nil, bl_up2_at, bl_up2_nk, bl_up2_nx] at h133
                  exfalso; first | omega | exact h133 trivial
              refine bl_go oX11_layBlocks 80 [7, 29, 74, 125, 199] rfl ?_
              refine ⟨fun h76 => ?_, fun h76 => ?_⟩
              · try simp (disch := omega) only [bl_pv, cl0, cl1, cl2, cl3, cl4, cl5, cl6, cl7, cl8, cl9, bl_up2_at, bl_up2_nk, bl_up2_nx] at h76
                first
                | (exfalso; first | omega | exact h76 trivial)
                | (try dsimp only [bl_pv]
                   exact L125)
              · try simp (disch := omega) only [bl_pv, cl0, cl1, cl2, cl3, cl4, cl5, cl6, cl7, cl8, cl9, bl_up2_at, bl_up2_nk, bl_up2_nx] at h76
                (first | exact absurd rfl h76 | exact absurd trivial h76 | exact absurd h76 (by decide))
            refine bl_go oX11_layBlocks 80 [7, 29, 74, 125, 199] rfl ?_
            refine ⟨km, _, bl_vs rm_16, Or.inl ⟨km16, (by first | exact (by rw [nm16]; exact vp_in_nI (by omega) (by omega)) | ((try dsimp only [bl_pv]); show vp_in _ (N _); rw [nm16]; simp (disch := omega) only [e16', zI_n, zI_o, zI_lit, zI_neg, zI_add, zI_sub, zI_mul, zI_lt, zI_le, zI_eq, zI_clamp, zI_in, zI_div, zI_rem, lg_lt0, lg_gt0, lg_eq0, lg_le0, lg_ge0, Int.toNat_natCast, ge_iff_le, gt_iff_lt, List.length_cons, List.length_nil, bl_up2_at, bl_up2_nk, bl_up2_nx] <;> omega)), fun h37 => ?_, fun h37 => ?_⟩⟩
            · try simp (disch := omega) only [e16', zI_n, zI_o, zI_lit, zI_neg, zI_add, zI_sub, zI_mul, zI_lt, zI_le, zI_eq, zI_clamp, zI_in, zI_div, zI_rem, lg_lt0, lg_gt0, lg_eq0, lg_le0, lg_ge0, Int.toNat_natCast, ge_iff_le, gt_iff_lt, List.length_cons, List.length_nil, bl_up2_at, bl_up2_nk, bl_up2_nx] at h37
              exfalso; first | omega | exact h37 trivial
            · try simp (disch := omega) only [e16', zI_n, zI_o, zI_lit, zI_neg, zI_add, zI_sub, zI_mul, zI_lt, zI_le, zI_eq, zI_clamp, zI_in, zI_div, zI_rem, lg_lt0, lg_gt0, lg_eq0, lg_le0, lg_ge0, Int.toNat_natCast, ge_iff_le, gt_iff_lt, List.length_cons, List.length_nil, bl_up2_at, bl_up2_nk, bl_up2_nx] at h37
              refine ⟨km, _, bl_vs rm_16, Or.inl ⟨km16, (by first | exact (by rw [nm16]; exact vp_in_nI (by omega) (by omega)) | ((try dsimp only [bl_pv]); show vp_in _ (N _); rw [nm16]; simp (disch := omega) only [e16', zI_n, zI_o, zI_lit, zI_neg, zI_add, zI_sub, zI_mul, zI_lt, zI_le, zI_eq, zI_clamp, zI_in, zI_div, zI_rem, lg_lt0, lg_gt0, lg_eq0, lg_le0, lg_ge0, Int.toNat_natCast, ge_iff_le, gt_iff_lt, List.length_cons, List.length_nil, bl_up2_at, bl_up2_nk, bl_up2_nx] <;> omega)), fun h48 => ?_, fun h48 => ?_⟩⟩
              · try simp (disch := omega) only [e16', zI_n, zI_o, zI_lit, zI_neg, zI_add, zI_sub, zI_mul, zI_lt, zI_le, zI_eq, zI_clamp, zI_in, zI_div, zI_rem, lg_lt0, lg_gt0, lg_eq0, lg_le0, lg_ge0, Int.toNat_natCast, ge_iff_le, gt_iff_lt, List.length_cons, List.length_nil, bl_up2_at, bl_up2_nk, bl_up2_nx] at h48
                exfalso; first | omega | exact h48 trivial
              · try simp (disch := omega) only [e16', zI_n, zI_o, zI_lit, zI_neg, zI_add, zI_sub, zI_mul, zI_lt, zI_le, zI_eq, zI_clamp, zI_in, zI_div, zI_rem, lg_lt0, lg_gt0, lg_eq0, lg_le0, lg_ge0, Int.toNat_natCast, ge_iff_le, gt_iff_lt, List.length_cons, List.length_nil, bl_up2_at, bl_up2_nk, bl_up2_nx] at h48
                refine ⟨km, _, bl_vs rm_18, bl_ka km18, (by first | exact (by rw [nm18]; exact vp_in_nI (by omega) (by omega)) | ((try dsimp only [bl_pv]); show vp_in _ (N _); rw [nm18]; simp (disch := omega) only [e16', zI_n, zI_o, zI_lit, zI_neg, zI_add, zI_sub, zI_mul, zI_lt, zI_le, zI_eq, zI_clamp, zI_in, zI_div, zI_rem, lg_lt0, lg_gt0, lg_eq0, lg_le0, lg_ge0, Int.toNat_natCast, ge_iff_le, gt_iff_lt, List.length_cons, List.length_nil, bl_up2_at, bl_up2_nk, bl_up2_nx] <;> omega)), _, bl_vs (by dsimp only; rw [ecr]; exact rms), Or.inl ⟨kms, (by first | exact (by rw [nms]; exact vp_in_nI (by omega) (by omega)) | ((try dsimp only [bl_pv]); show vp_in _ (N _); rw [nms]; simp (disch := omega) only [e16', zI_n, zI_o, zI_lit, zI_neg, zI_add, zI_sub, zI_mul, zI_lt, zI_le, zI_eq, zI_clamp, zI_in, zI_div, zI_rem, lg_lt0, lg_gt0, lg_eq0, lg_le0, lg_ge0, Int.toNat_natCast, ge_iff_le, gt_iff_lt, List.length_cons, List.length_nil, bl_up2_at, bl_up2_nk, bl_up2_nx] <;> omega)), fun h64 => ?_, fun h64 => ?_⟩⟩
                · try simp (disch := omega) only [bl_pv, cl0, cl1, cl2, cl3, cl4, cl5, cl6, cl7, cl8, cl9, bl_up2_at, bl_up2_nk, bl_up2_nx] at h64
                  first
                  | (exfalso; first | omega | exact h64 trivial)
                  | (try dsimp only [bl_pv]
                     exact L74)
                · try simp (disch := omega) only [bl_pv, cl0, cl1, cl2, cl3, cl4, cl5, cl6, cl7, cl8, cl9, bl_up2_at, bl_up2_nk, bl_up2_nx] at h64
                  exact absurd ((nI_eqk (b := 6) (by omega) (by omega)).mp (i1'.symm.trans h64)) h6
      refine bl_go oX11_layBlocks 80 [7, 29, 74, 125, 199] rfl ?_
      refine ⟨km, fun h12 => ?_, fun h12 => ?_⟩
      · try simp (disch := omega) only [e13, zI_n, zI_o, zI_lit, zI_neg, zI_add, zI_sub, zI_mul, zI_lt, zI_le, zI_eq, zI_clamp, zI_in, zI_div, zI_rem, lg_lt0, lg_gt0, lg_eq0, lg_le0, lg_ge0, Int.toNat_natCast, ge_iff_le, gt_iff_lt, List.length_cons, List.length_nil, bl_up2_at, bl_up2_nk, bl_up2_nx] at h12
        exfalso; first | omega | exact h12 trivial
      · try simp (disch := omega) only [e13, zI_n, zI_o, zI_lit, zI_neg, zI_add, zI_sub, zI_mul, zI_lt, zI_le, zI_eq, zI_clamp, zI_in, zI_div, zI_rem, lg_lt0, lg_gt0, lg_eq0, lg_le0, lg_ge0, Int.toNat_natCast, ge_iff_le, gt_iff_lt, List.length_cons, List.length_nil, bl_up2_at, bl_up2_nk, bl_up2_nx] at h12
        refine ⟨km, _, bl_vs rm_53, km53, (by first | exact (by rw [nm53]; exact vp_in_nI (by omega) (by omega)) | ((try dsimp only [bl_pv]); show vp_in _ (N _); rw [nm53]; simp (disch := omega) only [e13, zI_n, zI_o, zI_lit, zI_neg, zI_add, zI_sub, zI_mul, zI_lt, zI_le, zI_eq, zI_clamp, zI_in, zI_div, zI_rem, lg_lt0, lg_gt0, lg_eq0, lg_le0, lg_ge0, Int.toNat_natCast, ge_iff_le, gt_iff_lt, List.length_cons, List.length_nil, bl_up2_at, bl_up2_nk, bl_up2_nx] <;> omega)), ?_⟩
        try dsimp only [bl_pv]
        rw [ecr]
        refine L29 0 (by omega) _ _ _ _ rfl rfl rfl ⟨fun x x1 _ _ => bl_up2_ne x1, fun j j1 => bl_up2_nk j1⟩ ⟨bl_up2_at, fun j hj => absurd hj (Nat.not_lt_zero _)⟩
  refine bl_go oX11_layBlocks 80 [7, 29, 74, 125, 199] rfl ?_
  refine ⟨km, Or.inr (Or.inr ⟨rfl, rfl, _, rfl⟩), (fun h => by cases h), ?_⟩
  try dsimp only [bl_pv]
  refine L7 0 (by omega) _ _ rfl ⟨fun x x1 _ => bl_up2_ne x1, fun j j1 => bl_up2_nk (by omega)⟩ (fun j j1 => bl_up2_nk j1) (fun x x1 x2 => bl_up2_ne (by omega)) bl_up2_at (fun j hj => absurd hj (by omega))
end MODEL30
