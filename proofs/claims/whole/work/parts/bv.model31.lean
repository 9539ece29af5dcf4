/-! ===== Model: tries ===== -/
def bmD (I : Nat → Nat → Int32) (m : Nat) (D : bD) (T : Nat) : Prop := I m 13 = nI D.1 ∧ D.1 ≤ 4 ∧ I m 60 = nI T ∧ T ≤ 12 ∧ ∀ r, r < D.1 → bmR I m D r
def bmT (I : Nat → Nat → Int32) (m : Nat) (D : bD) (s : bs) : Prop := ∀ r, r < D.1 → I (m + 54) r = nI (s.1 r) ∧ I (m + 55) r = nI (s.2.1 r)
def bmB (I : Nat → Nat → Int32) (m T : Nat) (b : bB) : Prop := I m 61 = nI b.1 ∧ I m 62 = nI b.2.1 ∧ ∀ i, i < T → I (m + 58) i = b.2.2.1 i ∧ I (m + 59) i = b.2.2.2 i
/-- what tries may change -/
def trF (I I' : Nat → Nat → Int32) (m : Nat) : Prop := (∀ x, x ≠ m → (x < m + 54 ∨ m + 59 < x) → I' x = I x) ∧ ∀ j, j ≠ 61 → j ≠ 62 → I' m j = I m j
theorem trF.trans {I I1 I2 : Nat → Nat → Int32} {m : Nat} (h : trF I I1 m) (h2 : trF I1 I2 m) : trF I I2 m := ⟨fun x a b => (h2.1 x a b).trans (h.1 x a b), fun j a b => (h2.2 j a b).trans (h.2 j a b)⟩
theorem trF.refl {I : Nat → Nat → Int32} {m : Nat} : trF I I m := ⟨fun _ _ _ => rfl, fun _ _ _ => rfl⟩
theorem bmD.f {I I' : Nat → Nat → Int32} {m : Nat} {D : bD} {T : Nat} (h : bmD I m D T) (hF : trF I I' m) : bmD I' m D T := by
  obtain ⟨h1, h2, h3, h4, h5⟩ := h
  refine ⟨(hF.2 13 (by omega) (by omega)).trans h1, h2, (hF.2 60 (by omega) (by omega)).trans h3, h4, fun r hr => ?_⟩
  unfold bmR
  rw [hF.1 (m + 53) (by omega) (by omega), hF.1 (m + 120 + r) (by omega) (by omega), hF.1 (m + 130 + r) (by omega) (by omega)]
  exact h5 r hr
section MODEL31
variable {G : bl_G} {l : Launch} {d m T : Nat} {J : Nat → Nat → Int64} {R : Nat → Nat → Option Nat} {K N : Nat → Nat} {D : bD}
def bmI (I : Nat → Nat → Int32) (m : Nat) (D : bD) (T n : Nat) (s : bs) (p a : Nat → Int32) (b : bB) : Prop := bmD I m D T ∧ bmT I m D s ∧ (∀ i, i < n → I (m + 56) i = p i ∧ I (m + 57) i = a i) ∧ bmB I m T b
theorem c_Model_tries (hm : mdS R K N m) (hDs : bDs D) (k : Nat) : ∀ (n : Nat) (s : bs) (p a : Nat → Int32) (b : bB) (I : Nat → Nat → Int32) (x y : Int32), n + k = T → bOk D k s → bSm D k s → bmI I m D T n s p a b → b.1 ≤ 1000000 → x = nI n → y = nI s.2.2 → bl_MC G l (d + k) mX11_tries [.ref m, .int x, .int y] (I, J, R, K, N) (0, 0) (fun o σ' => o = .inl none ∧ ∃ I', σ' = (I', J, R, K, N) ∧ trF I I' m ∧ bmI I' m D T n s p a (srch D k n s p a b)) := by
  have km := hm.2.1
  obtain ⟨rm_51, km51, nm51⟩ := hm.f51
  obtain ⟨rm_52, km52, nm52⟩ := hm.f52
  obtain ⟨rm_53, km53, nm53⟩ := hm.f53
  obtain ⟨rm_54, km54, nm54⟩ := hm.f54
  obtain ⟨rm_55, km55, nm55⟩ := hm.f55
  obtain ⟨rm_56, km56, nm56⟩ := hm.f56
  obtain ⟨rm_57, km57, nm57⟩ := hm.f57
  obtain ⟨rm_58, km58, nm58⟩ := hm.f58
  obtain ⟨rm_59, km59, nm59⟩ := hm.f59
  induction k with
  | zero =>
    intro n s p a b I x y hn hk hs hI hb hx hy
    have hn' : n = T := by omega
    subst hn'
    obtain ⟨hD, hT, hO, hB⟩ := hI
    have hsm := bSm_k hs
    have h12 := hD.2.2.2.1
    have h4 := hD.2.1
    subst hx hy
    have hlr : ∀ r, r ≤ D.1 → lrf s.2.1 r ≤ 30000 := fun r hr => lrf_le (fun j hj => hsm.1 j (by omega))
    refine bl_MC_intro (by decide +kernel) rfl (Nat.le_of_ble_eq_true rfl) ?_
    have L73 : lrf s.2.1 D.1 < b.1 → ∀ i, i ≤ n → ∀ z e I1, z = nI i → trF I I1 m → bmT I1 m D s → (∀ i, i < n → I1 (m + 56) i = p i ∧ I1 (m + 57) i = a i) → I1 m 61 = nI (lrf s.2.1 D.1) → I1 m 62 = nI s.2.2 → (∀ j, j < i → I1 (m + 58) j = p j ∧ I1 (m + 59) j = a j) → bl_WP G l (d + 0) mX11_tries 73 [(4, .int z), (3, .int e), (0, .ref m), (1, .int (nI n)), (2, .int (nI s.2.2))] [] (I1, J, R, K, N) (0, 0) (fun o σ' => o = .inl none ∧ ∃ I', σ' = (I', J, R, K, N) ∧ trF I I' m ∧ bmI I' m D n n s p a (srch D 0 n s p a b)) := by
      intro hlt
      refine bl_for n ?_ (fun i hi ih => ?_)
      · intro z e I1 hz f1 f2 f3 f4 f5 f6; subst hz
        refine bl_go oX11_tries 80 [13, 73, 116, 164, 229, 251] rfl ?_
        refine ⟨fun h76 => ?_, fun h76 => ?_⟩
        · try simp (disch := omega) only [zI_n, zI_o, zI_lit, zI_neg, zI_add, zI_sub, zI_mul, zI_lt, zI_le, zI_eq, zI_clamp, zI_in, zI_div, zI_rem, lg_lt0, lg_gt0, lg_eq0, lg_le0, lg_ge0, Int.toNat_natCast, ge_iff_le, gt_iff_lt, List.length_cons, List.length_nil, bl_up2_at, bl_up2_nk, bl_up2_nx] at h76
          try show _ ∧ _
          try dsimp only [bl_pv]
          refine ⟨rfl, I1, rfl, f1, hD.f f1, f2, f3, ?_⟩
          show bmB I1 m n (if lrf s.2.1 D.1 < b.1 then (lrf s.2.1 D.1, s.2.2, p, a) else b)
          rw [if_pos hlt]; exact ⟨f4, f5, f6⟩
        · try simp (disch := omega) only [zI_n, zI_o, zI_lit, zI_neg, zI_add, zI_sub, zI_mul, zI_lt, zI_le, zI_eq, zI_clamp, zI_in, zI_div, zI_rem, lg_lt0, lg_gt0, lg_eq0, lg_le0, lg_ge0, Int.toNat_natCast, ge_iff_le, gt_iff_lt, List.length_cons, List.length_nil, bl_up2_at, bl_up2_nk, bl_up2_nx] at h76
          exfalso; first | omega | exact h76 trivial
      · intro z e I1 hz f1 f2 f3 f4 f5 f6; subst hz
        have eci : (nI i).toNatClampNeg = i := nI_clamp (by omega)
        obtain ⟨g1, g2⟩ := f3 i hi
        refine bl_go oX11_tries 80 [13, 73, 116, 164, 229, 251] rfl ?_
        refine ⟨fun h76 => ?_, fun h76 => ?_⟩
        · try simp (disch := omega) only [zI_n, zI_o, zI_lit, zI_neg, zI_add, zI_sub, zI_mul, zI_lt, zI_le, zI_eq, zI_clamp, zI_in, zI_div, zI_rem, lg_lt0, lg_gt0, lg_eq0, lg_le0, lg_ge0, Int.toNat_natCast, ge_iff_le, gt_iff_lt, List.length_cons, List.length_nil, bl_up2_at, bl_up2_nk, bl_up2_nx] at h76
          exfalso; first | omega | exact h76 trivial
        · try simp (disch := omega) only [zI_n, zI_o, zI_lit, zI_neg, zI_add, zI_sub, zI_mul, zI_lt, zI_le, zI_eq, zI_clamp, zI_in, zI_div, zI_rem, lg_lt0, lg_gt0, lg_eq0, lg_le0, lg_ge0, Int.toNat_natCast, ge_iff_le, gt_iff_lt, List.length_cons, List.length_nil, bl_up2_at, bl_up2_nk, bl_up2_nx] at h76
          refine ⟨km, _, bl_vs rm_58, km, _, bl_vs rm_56, Or.inl ⟨km56, (by first | exact (by rw [nm56]; exact vp_in_nI (by omega) (by omega)) | ((try dsimp only [bl_pv]); show vp_in _ (N _); rw [nm56]; simp (disch := omega) only [zI_n, zI_o, zI_lit, zI_neg, zI_add, zI_sub, zI_mul, zI_lt, zI_le, zI_eq, zI_clamp, zI_in, zI_div, zI_rem, lg_lt0, lg_gt0, lg_eq0, lg_le0, lg_ge0, Int.toNat_natCast, ge_iff_le, gt_iff_lt, List.length_cons, List.length_nil, bl_up2_at, bl_up2_nk, bl_up2_nx] <;> omega)), km58, (by first | exact (by rw [nm58]; exact vp_in_nI (by omega) (by omega)) | ((try dsimp only [bl_pv]); show vp_in _ (N _); rw [nm58]; simp (disch := omega) only [zI_n, zI_o, zI_lit, zI_neg, zI_add, zI_sub, zI_mul, zI_lt, zI_le, zI_eq, zI_clamp, zI_in, zI_div, zI_rem, lg_lt0, lg_gt0, lg_eq0, lg_le0, lg_ge0, Int.toNat_natCast, ge_iff_le, gt_iff_lt, List.length_cons, List.length_nil, bl_up2_at, bl_up2_nk, bl_up2_nx] <;> omega)), km, _, bl_vs rm_59, km, _, bl_vs rm_57, Or.inl ⟨km57, (by first | exact (by rw [nm57]; exact vp_in_nI (by omega) (by omega)) | ((try dsimp only [bl_pv]); show vp_in _ (N _); rw [nm57]; simp (disch := omega) only [zI_n, zI_o, zI_lit, zI_neg, zI_add, zI_sub, zI_mul, zI_lt, zI_le, zI_eq, zI_clamp, zI_in, zI_div, zI_rem, lg_lt0, lg_gt0, lg_eq0, lg_le0, lg_ge0, Int.toNat_natCast, ge_iff_le, gt_iff_lt, List.length_cons, List.length_nil, bl_up2_at, bl_up2_nk, bl_up2_nx] <;> omega)), km59, (by first | exact (by rw [nm59]; exact vp_in_nI (by omega) (by omega)) | ((try dsimp only [bl_pv]); show vp_in _ (N _); rw [nm59]; simp (disch := omega) only [zI_n, zI_o, zI_lit, zI_neg, zI_add, zI_sub, zI_mul, zI_lt, zI_le, zI_eq, zI_clamp, zI_in, zI_div, zI_rem, lg_lt0, lg_gt0, lg_eq0, lg_le0, lg_ge0, Int.toNat_natCast, ge_iff_le, gt_iff_lt, List.length_cons, List.length_nil, bl_up2_at, bl_up2_nk, bl_up2_nx] <;> omega)), ?_⟩⟩⟩
          try dsimp only [bl_pv]
          rw [eci]
          refine ih _ _ _ (nI_1 _) ⟨fun x x1 x2 => ?_, fun j j1 j2 => ?_⟩ (fun r hr => ?_) (fun j hj => ?_) ?_ ?_ (fun j hj => ?_)
          · rw [bl_up2_ne (by omega), bl_up2_ne (by omega)]; exact f1.1 x x1 x2
          · rw [bl_up2_ne (by omega), bl_up2_ne (by omega)]; exact f1.2 j j1 j2
          · rw [bl_up2_ne (by omega), bl_up2_ne (by omega), bl_up2_ne (by omega), bl_up2_ne (by omega)]; exact f2 r hr
          · rw [bl_up2_ne (by omega), bl_up2_ne (by omega), bl_up2_ne (by omega), bl_up2_ne (by omega)]; exact f3 j hj
          · rw [bl_up2_ne (by omega), bl_up2_ne (by omega)]; exact f4
          · rw [bl_up2_ne (by omega), bl_up2_ne (by omega)]; exact f5
          · rw [bl_up2_nx (show m + 58 ≠ m + 59 by omega)]
            by_cases ej : j = i
            · subst ej
              rw [bl_up2_at, bl_up2_at, bl_up2_nx (show m + 57 ≠ m + 58 by omega)]; exact ⟨g1, g2⟩
            · rw [bl_up2_nk ej, bl_up2_nk ej, bl_up2_nx (show m + 59 ≠ m + 58 by omega)]; exact f6 j (by omega)
    have L13 : ∀ r, r ≤ D.1 → ∀ z e, z = nI r → e = nI (lrf s.2.1 r) → bl_WP G l (d + 0) mX11_tries 13 [(4, .int z), (3, .int e), (0, .ref m), (1, .int (nI n)), (2, .int (nI s.2.2))] [] (I, J, R, K, N) (0, 0) (fun o σ' => o = .inl none ∧ ∃ I', σ' = (I', J, R, K, N) ∧ trF I I' m ∧ bmI I' m D n n s p a (srch D 0 n s p a b)) := by
      refine bl_for D.1 ?_ (fun r hr ih => ?_)
      · intro z e hz he; subst hz he
        have hl := hlr D.1 (Nat.le_refl _)
        have e13 := hD.1
        have e61 := hB.1
        refine bl_go oX11_tries 80 [13, 73, 116, 164, 229, 251] rfl ?_
        refine ⟨km, fun h19 => ?_, fun h19 => ?_⟩
        · try simp (disch := omega) only [e13, e61, zI_n, zI_o, zI_lit, zI_neg, zI_add, zI_sub, zI_mul, zI_lt, zI_le, zI_eq, zI_clamp, zI_in, zI_div, zI_rem, lg_lt0, lg_gt0, lg_eq0, lg_le0, lg_ge0, Int.toNat_natCast, ge_iff_le, gt_iff_lt, List.length_cons, List.length_nil, bl_up2_at, bl_up2_nk, bl_up2_nx] at h19
          refine ⟨km, fun h56 => ?_, fun h56 => ?_⟩
          · try simp (disch := omega) only [e13, e61, zI_n, zI_o, zI_lit, zI_neg, zI_add, zI_sub, zI_mul, zI_lt, zI_le, zI_eq, zI_clamp, zI_in, zI_div, zI_rem, lg_lt0, lg_gt0, lg_eq0, lg_le0, lg_ge0, Int.toNat_natCast, ge_iff_le, gt_iff_lt, List.length_cons, List.length_nil, bl_up2_at, bl_up2_nk, bl_up2_nx] at h56
            refine ⟨km, Or.inr (Or.inr ⟨rfl, rfl, _, rfl⟩), (fun h => by cases h), km, Or.inr (Or.inr ⟨rfl, rfl, _, rfl⟩), (fun h => by cases h), ?_⟩
            try dsimp only [bl_pv]
            refine L73 (by omega) 0 (by omega) _ _ _ rfl ⟨fun x x1 x2 => ?_, fun j j1 j2 => ?_⟩ (fun r hr => ?_) (fun j hj => ?_) ?_ ?_ (fun j hj => absurd hj (by omega))
            · rw [bl_up2_ne x1, bl_up2_ne x1]
            · rw [bl_up2_nk j2, bl_up2_nk j1]
            · rw [bl_up2_ne (by omega), bl_up2_ne (by omega), bl_up2_ne (by omega), bl_up2_ne (by omega)]; exact hT r hr
            · rw [bl_up2_ne (by omega), bl_up2_ne (by omega), bl_up2_ne (by omega), bl_up2_ne (by omega)]; exact hO j hj
            · rw [bl_up2_nk (by omega), bl_up2_at]
            · rw [bl_up2_at]
          · try simp (disch := omega) only [e13, e61, zI_n, zI_o, zI_lit, zI_neg, zI_add, zI_sub, zI_mul, zI_lt, zI_le, zI_eq, zI_clamp, zI_in, zI_div, zI_rem, lg_lt0, lg_gt0, lg_eq0, lg_le0, lg_ge0, Int.toNat_natCast, ge_iff_le, gt_iff_lt, List.length_cons, List.length_nil, bl_up2_at, bl_up2_nk, bl_up2_nx] at h56
            try show _ ∧ _
            try dsimp only [bl_pv]
            refine ⟨rfl, I, rfl, trF.refl, hD, hT, hO, ?_⟩
            show bmB I m n (if lrf s.2.1 D.1 < b.1 then (lrf s.2.1 D.1, s.2.2, p, a) else b)
            rw [if_neg (by omega)]; exact hB
        · try simp (disch := omega) only [e13, e61, zI_n, zI_o, zI_lit, zI_neg, zI_add, zI_sub, zI_mul, zI_lt, zI_le, zI_eq, zI_clamp, zI_in, zI_div, zI_rem, lg_lt0, lg_gt0, lg_eq0, lg_le0, lg_ge0, Int.toNat_natCast, ge_iff_le, gt_iff_lt, List.length_cons, List.length_nil, bl_up2_at, bl_up2_nk, bl_up2_nx] at h19
          exfalso; first | omega | exact h19 trivial
      · intro z e hz he; subst hz he
        have hl := hlr r (by omega)
        have hsr := hsm.1 r hr
        have e13 := hD.1
        have t2 := (hT r hr).2
        have ecr : (nI r).toNatClampNeg = r := nI_clamp (by omega)
        refine bl_go oX11_tries 80 [13, 73, 116, 164, 229, 251] rfl ?_
        refine ⟨km, fun h19 => ?_, fun h19 => ?_⟩
        · try simp (disch := omega) only [e13, t2, zI_n, zI_o, zI_lit, zI_neg, zI_add, zI_sub, zI_mul, zI_lt, zI_le, zI_eq, zI_clamp, zI_in, zI_div, zI_rem, lg_lt0, lg_gt0, lg_eq0, lg_le0, lg_ge0, Int.toNat_natCast, ge_iff_le, gt_iff_lt, List.length_cons, List.length_nil, bl_up2_at, bl_up2_nk, bl_up2_nx] at h19
          exfalso; first | omega | exact h19 trivial
        · try simp (disch := omega) only [e13, t2, zI_n, zI_o, zI_lit, zI_neg, zI_add, zI_sub, zI_mul, zI_lt, zI_le, zI_eq, zI_clamp, zI_in, zI_div, zI_rem, lg_lt0, lg_gt0, lg_eq0, lg_le0, lg_ge0, Int.toNat_natCast, ge_iff_le, gt_iff_lt, List.length_cons, List.length_nil, bl_up2_at, bl_up2_nk, bl_up2_nx] at h19
          refine ⟨km, _, bl_vs rm_55, Or.inl ⟨km55, (by first | exact (by rw [nm55]; exact vp_in_nI (by omega) (by omega)) | ((try dsimp only [bl_pv]); show vp_in _ (N _); rw [nm55]; simp (disch := omega) only [e13, t2, zI_n, zI_o, zI_lit, zI_neg, zI_add, zI_sub, zI_mul, zI_lt, zI_le, zI_eq, zI_clamp, zI_in, zI_div, zI_rem, lg_lt0, lg_gt0, lg_eq0, lg_le0, lg_ge0, Int.toNat_natCast, ge_iff_le, gt_iff_lt, List.length_cons, List.length_nil, bl_up2_at, bl_up2_nk, bl_up2_nx] <;> omega)), fun h30 => ?_, fun h30 => ?_⟩⟩
          · try simp (disch := omega) only [e13, t2, zI_n, zI_o, zI_lit, zI_neg, zI_add, zI_sub, zI_mul, zI_lt, zI_le, zI_eq, zI_clamp, zI_in, zI_div, zI_rem, lg_lt0, lg_gt0, lg_eq0, lg_le0, lg_ge0, Int.toNat_natCast, ge_iff_le, gt_iff_lt, List.length_cons, List.length_nil, bl_up2_at, bl_up2_nk, bl_up2_nx] at h30
            try dsimp only [bl_pv]
            refine ih _ _ (nI_1 _) ?_
            show _ = nI (max (lrf s.2.1 r) (s.2.1 r))
            first
            | (rw [show max (lrf s.2.1 r) (s.2.1 r) = lrf s.2.1 r by omega])
            | (rw [ecr, t2, show max (lrf s.2.1 r) (s.2.1 r) = s.2.1 r by omega])
          · try simp (disch := omega) only [e13, t2, zI_n, zI_o, zI_lit, zI_neg, zI_add, zI_sub, zI_mul, zI_lt, zI_le, zI_eq, zI_clamp, zI_in, zI_div, zI_rem, lg_lt0, lg_gt0, lg_eq0, lg_le0, lg_ge0, Int.toNat_natCast, ge_iff_le, gt_iff_lt, List.length_cons, List.length_nil, bl_up2_at, bl_up2_nk, bl_up2_nx] at h30
            refine ⟨km, _, bl_vs rm_55, Or.inl ⟨km55, (by first | exact (by rw [nm55]; exact vp_in_nI (by omega) (by omega)) | ((try dsimp only [bl_pv]); show vp_in _ (N _); rw [nm55]; simp (disch := omega) only [e13, t2, zI_n, zI_o, zI_lit, zI_neg, zI_add, zI_sub, zI_mul, zI_lt, zI_le, zI_eq, zI_clamp, zI_in, zI_div, zI_rem, lg_lt0, lg_gt0, lg_eq0, lg_le0, lg_ge0, Int.toNat_natCast, ge_iff_le, gt_iff_lt, List.length_cons, List.length_nil, bl_up2_at, bl_up2_nk, bl_up2_nx] <;> omega)), ?_⟩⟩
            try dsimp only [bl_pv]
            refine ih _ _ (nI_1 _) ?_
            show _ = nI (max (lrf s.2.1 r) (s.2.1 r))
            first
            | (rw [show max (lrf s.2.1 r) (s.2.1 r) = lrf s.2.1 r by omega])
            | (rw [ecr, t2, show max (lrf s.2.1 r) (s.2.1 r) = s.2.1 r by omega])
    have e60 := hD.2.2.1
    refine bl_go oX11_tries 80 [13, 73, 116, 164, 229, 251] rfl ?_
    refine ⟨km, fun h5 => ?_, fun h5 => ?_⟩
    · try simp (disch := omega) only [e60, zI_n, zI_o, zI_lit, zI_neg, zI_add, zI_sub, zI_mul, zI_lt, zI_le, zI_eq, zI_clamp, zI_in, zI_div, zI_rem, lg_lt0, lg_gt0, lg_eq0, lg_le0, lg_ge0, Int.toNat_natCast, ge_iff_le, gt_iff_lt, List.length_cons, List.length_nil, bl_up2_at, bl_up2_nk, bl_up2_nx] at h5
      exfalso; first | omega | exact h5 trivial
    · try simp (disch := omega) only [e60, zI_n, zI_o, zI_lit, zI_neg, zI_add, zI_sub, zI_mul, zI_lt, zI_le, zI_eq, zI_clamp, zI_in, zI_div, zI_rem, lg_lt0, lg_gt0, lg_eq0, lg_le0, lg_ge0, Int.toNat_natCast, ge_iff_le, gt_iff_lt, List.length_cons, List.length_nil, bl_up2_at, bl_up2_nk, bl_up2_nx] at h5
      try dsimp only [bl_pv]
      exact L13 0 (by omega) _ _ rfl rfl
  | succ k ih =>
    intro n s p a b I x y hn hk hs hI hb hx hy
    have h12 := hI.1.2.2.2.1
    have h4 := hI.1.2.1
    have hsm := bSm_k hs
    have hv := fun r => srf_v (g := fun r b => srch D k (n + 1) (pl D s r) (up1 p n (nI r)) (up1 a n (nI (bbg s r))) b) (c := fun r => decide (s.1 r < D.2.1 r)) (m := fun r => mnb D k (pl D s r)) (n := r) (fun r _ _ b hb => srch_v k (n + 1) (pl D s r) _ _ b hb) b (by omega)
    subst hx hy
    refine bl_MC_intro (by decide +kernel) rfl (Nat.le_of_ble_eq_true rfl) ?_
    have L116 : ∀ r, r ≤ D.1 → ∀ z I1, z = nI r → trF I I1 m → bmI I1 m D T n s p a (srf (fun r b => srch D k (n + 1) (pl D s r) (up1 p n (nI r)) (up1 a n (nI (bbg s r))) b) (fun r => decide (s.1 r < D.2.1 r)) r b) → bl_WP G l (d + (k + 1)) mX11_tries 116 [(3, .int z), (0, .ref m), (1, .int (nI n)), (2, .int (nI s.2.2))] [] (I1, J, R, K, N) (0, 0) (fun o σ' => o = .inl none ∧ ∃ I', σ' = (I', J, R, K, N) ∧ trF I I' m ∧ bmI I' m D T n s p a (srch D (k + 1) n s p a b)) := by
      refine bl_for D.1 ?_ (fun r hr ihr => ?_)
      · intro z I1 hz f1 f2; subst hz
        have e13 := f2.1.1
        refine bl_go oX11_tries 80 [13, 73, 116, 164, 229, 251] rfl ?_
        refine ⟨km, fun h121 => ?_, fun h121 => ?_⟩
        · try simp (disch := omega) only [e13, zI_n, zI_o, zI_lit, zI_neg, zI_add, zI_sub, zI_mul, zI_lt, zI_le, zI_eq, zI_clamp, zI_in, zI_div, zI_rem, lg_lt0, lg_gt0, lg_eq0, lg_le0, lg_ge0, Int.toNat_natCast, ge_iff_le, gt_iff_lt, List.length_cons, List.length_nil, bl_up2_at, bl_up2_nk, bl_up2_nx] at h121
          try show _ ∧ _
          try dsimp only [bl_pv]
          exact ⟨rfl, I1, rfl, f1, f2⟩
        · try simp (disch := omega) only [e13, zI_n, zI_o, zI_lit, zI_neg, zI_add, zI_sub, zI_mul, zI_lt, zI_le, zI_eq, zI_clamp, zI_in, zI_div, zI_rem, lg_lt0, lg_gt0, lg_eq0, lg_le0, lg_ge0, Int.toNat_natCast, ge_iff_le, gt_iff_lt, List.length_cons, List.length_nil, bl_up2_at, bl_up2_nk, bl_up2_nx] at h121
          exfalso; first | omega | exact h121 trivial
      · intro z I1 hz f1 f2; subst hz
        have e13 := f2.1.1
        obtain ⟨z1, z2, z3, z4⟩ := f2.1.2.2.2.2 r hr
        obtain ⟨t1, t2⟩ := f2.2.1 r hr
        have ecr : (nI r).toNatClampNeg = r := nI_clamp (by omega)
        have hsr := hk.1 r hr
        have hvr := hv r
        by_cases hne : s.1 r < D.2.1 r
        · have esr : srf (fun r b => srch D k (n + 1) (pl D s r) (up1 p n (nI r)) (up1 a n (nI (bbg s r))) b) (fun r => decide (s.1 r < D.2.1 r)) (r + 1) b = srch D k (n + 1) (pl D s r) (up1 p n (nI r)) (up1 a n (nI (bbg s r))) (srf (fun r b => srch D k (n + 1) (pl D s r) (up1 p n (nI r)) (up1 a n (nI (bbg s r))) b) (fun r => decide (s.1 r < D.2.1 r)) r b) := if_pos (decide_eq_true hne)
          have hok' := bOk_pl hk hr hne
          have hsm' := bSm_pl hDs hs hr
          obtain ⟨rmu, kmu, nmu⟩ := hm.g51 r (by omega)
          obtain ⟨rmr, kmr, nmr⟩ := hm.g52 r (by omega)
          have u1 := z3 (s.1 r) hne
          have u2 := z4 (s.1 r + 1) hne
          have hu1 := hDs.1 r (s.1 r)
          have hu2 := hDs.2 r (s.1 r + 1)
          have hs1 := hsm.1 r hr
          have hs2 := hsm.2
          have hbb : bbg s r ≤ 30000 := by unfold bbg; omega
          have hmd := mnb_due hDs k (pl D s r) hok' hsm' r hr
          rw [cgo_pl_self] at hmd
          have hsm1 := bSm_k hsm'
          generalize hcb : (srf (fun r b => srch D k (n + 1) (pl D s r) (up1 p n (nI r)) (up1 a n (nI (bbg s r))) b) (fun r => decide (s.1 r < D.2.1 r)) r b) = cb at *
          have L251 : ∀ I3, trF I1 I3 m → bmI I3 m D T (n + 1) (pl D s r) (up1 p n (nI r)) (up1 a n (nI (bbg s r))) (srch D k (n + 1) (pl D s r) (up1 p n (nI r)) (up1 a n (nI (bbg s r))) cb) → bl_WP G l (d + (k + 1)) mX11_tries 251 [(4, .int (nI (s.2.1 r))), (3, .int (nI r)), (0, .ref m), (1, .int (nI n)), (2, .int (nI s.2.2))] [] (I3, J, R, K, N) (0, 0) (fun o σ' => o = .inl none ∧ ∃ I', σ' = (I', J, R, K, N) ∧ trF I I' m ∧ bmI I' m D T n s p a (srch D (k + 1) n s p a b)) := by
            intro I3 g1 g2
            have y1 := (g2.2.1 r hr).1
            have y1' : I3 (m + 54) r = nI (s.1 r + 1) := by rw [y1]; show nI (up1 s.1 r _ r) = _; rw [up1_at]
            refine bl_go oX11_tries 80 [13, 73, 116, 164, 229, 251] rfl ?_
            refine ⟨km, _, bl_vs rm_54, ⟨rfl, rfl⟩, Or.inl ⟨km54, (by first | exact (by rw [nm54]; exact vp_in_nI (by omega) (by omega)) | ((try dsimp only [bl_pv]); show vp_in _ (N _); rw [nm54]; simp (disch := omega) only [zI_n, zI_o, zI_lit, zI_neg, zI_add, zI_sub, zI_mul, zI_lt, zI_le, zI_eq, zI_clamp, zI_in, zI_div, zI_rem, lg_lt0, lg_gt0, lg_eq0, lg_le0, lg_ge0, Int.toNat_natCast, ge_iff_le, gt_iff_lt, List.length_cons, List.length_nil, bl_up2_at, bl_up2_nk, bl_up2_nx] <;> omega)), km54, (by first | exact (by rw [nm54]; exact vp_in_nI (by omega) (by omega)) | ((try dsimp only [bl_pv]); show vp_in _ (N _); rw [nm54]; simp (disch := omega) only [zI_n, zI_o, zI_lit, zI_neg, zI_add, zI_sub, zI_mul, zI_lt, zI_le, zI_eq, zI_clamp, zI_in, zI_div, zI_rem, lg_lt0, lg_gt0, lg_eq0, lg_le0, lg_ge0, Int.toNat_natCast, ge_iff_le, gt_iff_lt, List.length_cons, List.length_nil, bl_up2_at, bl_up2_nk, bl_up2_nx] <;> omega)), km, _, bl_vs rm_55, km55, (by first | exact (by rw [nm55]; exact vp_in_nI (by omega) (by omega)) | ((try dsimp only [bl_pv]); show vp_in _ (N _); rw [nm55]; simp (disch := omega) only [zI_n, zI_o, zI_lit, zI_neg, zI_add, zI_sub, zI_mul, zI_lt, zI_le, zI_eq, zI_clamp, zI_in, zI_div, zI_rem, lg_lt0, lg_gt0, lg_eq0, lg_le0, lg_ge0, Int.toNat_natCast, ge_iff_le, gt_iff_lt, List.length_cons, List.length_nil, bl_up2_at, bl_up2_nk, bl_up2_nx] <;> omega)), ?_⟩⟩
            refine bl_lv [0, 2, 3, 4] rfl ?_
            try dsimp only [bl_pv]
            rw [ecr, y1', show (1 : Int32) = nI 1 from rfl, nI_subs (by omega), Nat.add_sub_cancel]
            refine ihr _ _ (nI_1 _) ⟨fun x x1 x2 => ?_, fun j j1 j2 => ?_⟩ ⟨(g2.1.f (I' := bl_up2 (bl_up2 I3 (m + 54) r (nI (s.1 r))) (m + 55) r (nI (s.2.1 r))) ⟨fun x x1 x2 => ?_, fun j j1 j2 => ?_⟩), fun j hj => ?_, fun j hj => ?_, ?_, ?_, fun j hj => ?_⟩
            · rw [bl_up2_ne (by omega), bl_up2_ne (by omega)]; exact (g1.1 x x1 x2).trans (f1.1 x x1 x2)
            · rw [bl_up2_ne (by omega), bl_up2_ne (by omega)]; exact (g1.2 j j1 j2).trans (f1.2 j j1 j2)
            · rw [bl_up2_ne (by omega), bl_up2_ne (by omega)]
            · rw [bl_up2_ne (by omega), bl_up2_ne (by omega)]
            · rw [bl_up2_nx (show m + 54 ≠ m + 55 by omega)]
              by_cases ej : j = r
              · subst ej; rw [bl_up2_at, bl_up2_at]; exact ⟨rfl, rfl⟩
              · rw [bl_up2_nk ej, bl_up2_nk ej, bl_up2_nx (show m + 55 ≠ m + 54 by omega)]
                have := g2.2.1 j hj
                rw [show (pl D s r).1 j = s.1 j from up1_ne ej, show (pl D s r).2.1 j = s.2.1 j from up1_ne ej] at this
                exact this
            · rw [bl_up2_nx (by omega), bl_up2_nx (by omega), bl_up2_nx (by omega), bl_up2_nx (by omega)]
              have := g2.2.2.1 j (by omega)
              rw [up1_ne (by omega), up1_ne (by omega)] at this
              exact this
            · rw [bl_up2_nx (by omega), bl_up2_nx (by omega), esr]; exact g2.2.2.2.1
            · rw [bl_up2_nx (by omega), bl_up2_nx (by omega), esr]; exact g2.2.2.2.2.1
            · rw [bl_up2_nx (by omega), bl_up2_nx (by omega), bl_up2_nx (by omega), bl_up2_nx (by omega), esr]; exact g2.2.2.2.2.2 j hj
          have L229 : ∀ I2 v w, w = nI (bbg s r + D.2.2.1 r (s.1 r)) → trF I1 I2 m → bmI I2 m D T (n + 1) (pl D s r) (up1 p n (nI r)) (up1 a n (nI (bbg s r))) cb → bl_WP G l (d + (k + 1)) mX11_tries 229 [(6, .int w), (5, .int v), (4, .int (nI (s.2.1 r))), (3, .int (nI r)), (0, .ref m), (1, .int (nI n)), (2, .int (nI s.2.2))] [] (I2, J, R, K, N) (0, 0) (fun o σ' => o = .inl none ∧ ∃ I', σ' = (I', J, R, K, N) ∧ trF I I' m ∧ bmI I' m D T n s p a (srch D (k + 1) n s p a b)) := by
            intro I2 v w hw g1 g2; subst hw
            have y2 : I2 (m + 55) r = nI (bbg s r + D.2.2.1 r (s.1 r) + D.2.2.2 r (s.1 r + 1)) := by rw [(g2.2.1 r hr).2]; show nI (up1 s.2.1 r _ r) = _; rw [up1_at]
            have y61 := g2.2.2.2.1
            refine bl_go oX11_tries 80 [13, 73, 116, 164, 229, 251] rfl ?_
            refine ⟨km, _, bl_vs rm_55, Or.inl ⟨km55, (by first | exact (by rw [nm55]; exact vp_in_nI (by omega) (by omega)) | ((try dsimp only [bl_pv]); show vp_in _ (N _); rw [nm55]; simp (disch := omega) only [y2, y61, zI_n, zI_o, zI_lit, zI_neg, zI_add, zI_sub, zI_mul, zI_lt, zI_le, zI_eq, zI_clamp, zI_in, zI_div, zI_rem, lg_lt0, lg_gt0, lg_eq0, lg_le0, lg_ge0, Int.toNat_natCast, ge_iff_le, gt_iff_lt, List.length_cons, List.length_nil, bl_up2_at, bl_up2_nk, bl_up2_nx] <;> omega)), km, fun h239 => ?_, fun h239 => ?_⟩⟩
            · try simp (disch := omega) only [y2, y61, zI_n, zI_o, zI_lit, zI_neg, zI_add, zI_sub, zI_mul, zI_lt, zI_le, zI_eq, zI_clamp, zI_in, zI_div, zI_rem, lg_lt0, lg_gt0, lg_eq0, lg_le0, lg_ge0, Int.toNat_natCast, ge_iff_le, gt_iff_lt, List.length_cons, List.length_nil, bl_up2_at, bl_up2_nk, bl_up2_nx] at h239
              refine bl_lv [2, 3, 4, 5, 6] rfl ?_
              try dsimp only [bl_pv]
              first
              | exact L251 _ (g1.trans h1) h2
              | (refine L251 _ g1 ?_
                 rw [srch_p k (n + 1) (pl D s r) _ _ cb (by omega)]
                 exact g2)
            · try simp (disch := omega) only [y2, y61, zI_n, zI_o, zI_lit, zI_neg, zI_add, zI_sub, zI_mul, zI_lt, zI_le, zI_eq, zI_clamp, zI_in, zI_div, zI_rem, lg_lt0, lg_gt0, lg_eq0, lg_le0, lg_ge0, Int.toNat_natCast, ge_iff_le, gt_iff_lt, List.length_cons, List.length_nil, bl_up2_at, bl_up2_nk, bl_up2_nx] at h239
              refine ⟨rfl, rfl, km, (Nat.le_of_ble_eq_true rfl), (0, 0), Nat.le_of_ble_eq_true rfl, Nat.le_of_ble_eq_true rfl, bl_MC_mono (ih (n + 1) (pl D s r) (up1 p n (nI r)) (up1 a n (nI (bbg s r))) cb I2 _ _ (by omega) hok' hsm' g2 (by omega) (nI_1 _) rfl) (fun o248 σ248 q248 => ?_)⟩
              try dsimp only [bl_pv] at q248
              obtain ⟨rfl, I3, rfl, h1, h2⟩ := q248
              refine bl_lv [2, 3, 4, 5, 6] rfl ?_
              try dsimp only [bl_pv]
              first
              | exact L251 _ (g1.trans h1) h2
              | (refine L251 _ g1 ?_
                 rw [srch_p k (n + 1) (pl D s r) _ _ cb (by omega)]
                 exact g2)
          have L164 : ∀ v, v = nI (bbg s r) → bl_WP G l (d + (k + 1)) mX11_tries 164 [(5, .int v), (4, .int (nI (s.2.1 r))), (3, .int (nI r)), (0, .ref m), (1, .int (nI n)), (2, .int (nI s.2.2))] [] (I1, J, R, K, N) (0, 0) (fun o σ' => o = .inl none ∧ ∃ I', σ' = (I', J, R, K, N) ∧ trF I I' m ∧ bmI I' m D T n s p a (srch D (k + 1) n s p a b)) := by
            intro v hv; subst hv
            have ecn : (nI n).toNatClampNeg = n := nI_clamp (by omega)
            have ecs : (nI (s.1 r)).toNatClampNeg = s.1 r := nI_clamp (by omega)
            have ecs1 : (nI (s.1 r + 1)).toNatClampNeg = s.1 r + 1 := nI_clamp (by omega)
            have eu : I1 (m + 120 + r) (I1 (m + 54) (nI r).toNatClampNeg).toNatClampNeg = nI (D.2.2.1 r (s.1 r)) := by rw [ecr, t1, ecs]; exact u1
            have t1' : ∀ u v, bl_up2 (bl_up2 I1 (m + 56) n u) (m + 57) n v (m + 54) r = nI (s.1 r) := fun u v => by rw [bl_up2_nx (by omega), bl_up2_nx (by omega)]; exact t1
            refine bl_go oX11_tries 80 [13, 73, 116, 164, 229, 251] rfl ?_
            refine ⟨km, _, bl_vs rm_51, bl_ka km51, (by first | exact (by rw [nm51]; exact vp_in_nI (by omega) (by omega)) | ((try dsimp only [bl_pv]); show vp_in _ (N _); rw [nm51]; simp (disch := omega) only [zI_n, zI_o, zI_lit, zI_neg, zI_add, zI_sub, zI_mul, zI_lt, zI_le, zI_eq, zI_clamp, zI_in, zI_div, zI_rem, lg_lt0, lg_gt0, lg_eq0, lg_le0, lg_ge0, Int.toNat_natCast, ge_iff_le, gt_iff_lt, List.length_cons, List.length_nil, bl_up2_at, bl_up2_nk, bl_up2_nx] <;> omega)), _, bl_vs (by dsimp only; rw [ecr]; exact rmu), km, _, bl_vs rm_54, Or.inl ⟨km54, (by first | exact (by rw [nm54]; exact vp_in_nI (by omega) (by omega)) | ((try dsimp only [bl_pv]); show vp_in _ (N _); rw [nm54]; simp (disch := omega) only [zI_n, zI_o, zI_lit, zI_neg, zI_add, zI_sub, zI_mul, zI_lt, zI_le, zI_eq, zI_clamp, zI_in, zI_div, zI_rem, lg_lt0, lg_gt0, lg_eq0, lg_le0, lg_ge0, Int.toNat_natCast, ge_iff_le, gt_iff_lt, List.length_cons, List.length_nil, bl_up2_at, bl_up2_nk, bl_up2_nx] <;> omega)), Or.inl ⟨kmu, (by (try dsimp only [bl_pv]); rw [nmu, ecr, t1]; exact vp_in_nI (by omega) (by omega)), km, _, bl_vs rm_56, km56, (by first | exact (by rw [nm56]; exact vp_in_nI (by omega) (by omega)) | ((try dsimp only [bl_pv]); show vp_in _ (N _); rw [nm56]; simp (disch := omega) only [zI_n, zI_o, zI_lit, zI_neg, zI_add, zI_sub, zI_mul, zI_lt, zI_le, zI_eq, zI_clamp, zI_in, zI_div, zI_rem, lg_lt0, lg_gt0, lg_eq0, lg_le0, lg_ge0, Int.toNat_natCast, ge_iff_le, gt_iff_lt, List.length_cons, List.length_nil, bl_up2_at, bl_up2_nk, bl_up2_nx] <;> omega)), km, _, bl_vs rm_57, km57, (by first | exact (by rw [nm57]; exact vp_in_nI (by omega) (by omega)) | ((try dsimp only [bl_pv]); show vp_in _ (N _); rw [nm57]; simp (disch := omega) only [zI_n, zI_o, zI_lit, zI_neg, zI_add, zI_sub, zI_mul, zI_lt, zI_le, zI_eq, zI_clamp, zI_in, zI_div, zI_rem, lg_lt0, lg_gt0, lg_eq0, lg_le0, lg_ge0, Int.toNat_natCast, ge_iff_le, gt_iff_lt, List.length_cons, List.length_nil, bl_up2_at, bl_up2_nk, bl_up2_nx] <;> omega)), km, _, bl_vs rm_54, ⟨rfl, rfl⟩, Or.inl ⟨km54, (by first | exact (by rw [nm54]; exact vp_in_nI (by omega) (by omega)) | ((try dsimp only [bl_pv]); show vp_in _ (N _); rw [nm54]; simp (disch := omega) only [zI_n, zI_o, zI_lit, zI_neg, zI_add, zI_sub, zI_mul, zI_lt, zI_le, zI_eq, zI_clamp, zI_in, zI_div, zI_rem, lg_lt0, lg_gt0, lg_eq0, lg_le0, lg_ge0, Int.toNat_natCast, ge_iff_le, gt_iff_lt, List.length_cons, List.length_nil, bl_up2_at, bl_up2_nk, bl_up2_nx] <;> omega)), km54, (by first | exact (by rw [nm54]; exact vp_in_nI (by omega) (by omega)) | ((try dsimp only [bl_pv]); show vp_in _ (N _); rw [nm54]; simp (disch := omega) only [zI_n, zI_o, zI_lit, zI_neg, zI_add, zI_sub, zI_mul, zI_lt, zI_le, zI_eq, zI_clamp, zI_in, zI_div, zI_rem, lg_lt0, lg_gt0, lg_eq0, lg_le0, lg_ge0, Int.toNat_natCast, ge_iff_le, gt_iff_lt, List.length_cons, List.length_nil, bl_up2_at, bl_up2_nk, bl_up2_nx] <;> omega)), km, _, bl_vs rm_55, km, _, bl_vs rm_52, bl_ka km52, (by first | exact (by rw [nm52]; exact vp_in_nI (by omega) (by omega)) | ((try dsimp only [bl_pv]); show vp_in _ (N _); rw [nm52]; simp (disch := omega) only [zI_n, zI_o, zI_lit, zI_neg, zI_add, zI_sub, zI_mul, zI_lt, zI_le, zI_eq, zI_clamp, zI_in, zI_div, zI_rem, lg_lt0, lg_gt0, lg_eq0, lg_le0, lg_ge0, Int.toNat_natCast, ge_iff_le, gt_iff_lt, List.length_cons, List.length_nil, bl_up2_at, bl_up2_nk, bl_up2_nx] <;> omega)), _, bl_vs (by dsimp only [bl_pv]; rw [ecr]; exact rmr), km, _, bl_vs rm_54, Or.inl ⟨km54, (by first | exact (by rw [nm54]; exact vp_in_nI (by omega) (by omega)) | ((try dsimp only [bl_pv]); show vp_in _ (N _); rw [nm54]; simp (disch := omega) only [zI_n, zI_o, zI_lit, zI_neg, zI_add, zI_sub, zI_mul, zI_lt, zI_le, zI_eq, zI_clamp, zI_in, zI_div, zI_rem, lg_lt0, lg_gt0, lg_eq0, lg_le0, lg_ge0, Int.toNat_natCast, ge_iff_le, gt_iff_lt, List.length_cons, List.length_nil, bl_up2_at, bl_up2_nk, bl_up2_nx] <;> omega)), Or.inl ⟨kmr, (by (try dsimp only [bl_pv]); rw [nmr, ecn, ecr, t1', bl_up2_at, nI_1]; exact vp_in_nI (by omega) (by omega)), km55, (by first | exact (by rw [nm55]; exact vp_in_nI (by omega) (by omega)) | ((try dsimp only [bl_pv]); show vp_in _ (N _); rw [nm55]; simp (disch := omega) only [zI_n, zI_o, zI_lit, zI_neg, zI_add, zI_sub, zI_mul, zI_lt, zI_le, zI_eq, zI_clamp, zI_in, zI_div, zI_rem, lg_lt0, lg_gt0, lg_eq0, lg_le0, lg_ge0, Int.toNat_natCast, ge_iff_le, gt_iff_lt, List.length_cons, List.length_nil, bl_up2_at, bl_up2_nk, bl_up2_nx] <;> omega)), ?_⟩⟩⟩⟩⟩⟩
            try dsimp only [bl_pv]
            rw [eu, ecn, ecr, t1', bl_up2_at (f := bl_up2 (bl_up2 I1 (m + 56) n (nI r)) (m + 57) n (nI (bbg s r))), nI_1, ecs1]
            rw [bl_up2_nx (show m + 130 + r ≠ m + 54 by omega), bl_up2_nx (show m + 130 + r ≠ m + 57 by omega), bl_up2_nx (show m + 130 + r ≠ m + 56 by omega), u2]
            rw [show nI (bbg s r) + nI (D.2.2.1 r (s.1 r)) = nI (bbg s r + D.2.2.1 r (s.1 r)) from (Int32.ofNat_add _ _).symm]
            rw [show nI (bbg s r + D.2.2.1 r (s.1 r)) + nI (D.2.2.2 r (s.1 r + 1)) = nI (bbg s r + D.2.2.1 r (s.1 r) + D.2.2.2 r (s.1 r + 1)) from (Int32.ofNat_add _ _).symm]
            refine L229 _ _ _ rfl ⟨fun x x1 x2 => ?_, fun j j1 j2 => ?_⟩ ⟨f2.1.f ⟨fun x x1 x2 => ?_, fun j j1 j2 => ?_⟩, fun j hj => ?_, fun j hj => ?_, ?_, ?_, fun j hj => ?_⟩
            · simp (disch := omega) only [bl_up2_ne]
            · simp (disch := omega) only [bl_up2_nx]
            · simp (disch := omega) only [bl_up2_ne]
            · simp (disch := omega) only [bl_up2_nx]
            · show _ = nI (up1 s.1 r _ j) ∧ _ = nI (up1 s.2.1 r _ j)
              by_cases ej : j = r
              · subst ej
                simp (disch := omega) only [bl_up2_at, bl_up2_nx, up1_at]
                exact ⟨trivial, trivial⟩
              · rw [up1_ne ej, up1_ne ej]
                simp (disch := omega) only [bl_up2_nk, bl_up2_nx]
                exact f2.2.1 j hj
            · by_cases ej : j = n
              · subst ej
                simp (disch := omega) only [bl_up2_at, bl_up2_nx, up1_at]
                exact ⟨trivial, trivial⟩
              · rw [up1_ne ej, up1_ne ej]
                simp (disch := omega) only [bl_up2_nk, bl_up2_nx]
                exact f2.2.2.1 j (by omega)
            · simp (disch := omega) only [bl_up2_nx]; exact f2.2.2.2.1
            · simp (disch := omega) only [bl_up2_nx]; exact f2.2.2.2.2.1
            · simp (disch := omega) only [bl_up2_nx]; exact f2.2.2.2.2.2 j hj
          refine bl_go oX11_tries 80 [13, 73, 116, 164, 229, 251] rfl ?_
          refine ⟨km, fun h121 => ?_, fun h121 => ?_⟩
          · try simp (disch := omega) only [e13, t1, z2, t2, zI_n, zI_o, zI_lit, zI_neg, zI_add, zI_sub, zI_mul, zI_lt, zI_le, zI_eq, zI_clamp, zI_in, zI_div, zI_rem, lg_lt0, lg_gt0, lg_eq0, lg_le0, lg_ge0, Int.toNat_natCast, ge_iff_le, gt_iff_lt, List.length_cons, List.length_nil, bl_up2_at, bl_up2_nk, bl_up2_nx] at h121
            exfalso; first | omega | exact h121 trivial
          · try simp (disch := omega) only [e13, t1, z2, t2, zI_n, zI_o, zI_lit, zI_neg, zI_add, zI_sub, zI_mul, zI_lt, zI_le, zI_eq, zI_clamp, zI_in, zI_div, zI_rem, lg_lt0, lg_gt0, lg_eq0, lg_le0, lg_ge0, Int.toNat_natCast, ge_iff_le, gt_iff_lt, List.length_cons, List.length_nil, bl_up2_at, bl_up2_nk, bl_up2_nx] at h121
            refine ⟨km, _, bl_vs rm_54, Or.inl ⟨km54, (by first | exact (by rw [nm54]; exact vp_in_nI (by omega) (by omega)) | ((try dsimp only [bl_pv]); show vp_in _ (N _); rw [nm54]; simp (disch := omega) only [e13, t1, z2, t2, zI_n, zI_o, zI_lit, zI_neg, zI_add, zI_sub, zI_mul, zI_lt, zI_le, zI_eq, zI_clamp, zI_in, zI_div, zI_rem, lg_lt0, lg_gt0, lg_eq0, lg_le0, lg_ge0, Int.toNat_natCast, ge_iff_le, gt_iff_lt, List.length_cons, List.length_nil, bl_up2_at, bl_up2_nk, bl_up2_nx] <;> omega)), km, _, bl_vs rm_53, Or.inl ⟨km53, (by first | exact (by rw [nm53]; exact vp_in_nI (by omega) (by omega)) | ((try dsimp only [bl_pv]); show vp_in _ (N _); rw [nm53]; simp (disch := omega) only [e13, t1, z2, t2, zI_n, zI_o, zI_lit, zI_neg, zI_add, zI_sub, zI_mul, zI_lt, zI_le, zI_eq, zI_clamp, zI_in, zI_div, zI_rem, lg_lt0, lg_gt0, lg_eq0, lg_le0, lg_ge0, Int.toNat_natCast, ge_iff_le, gt_iff_lt, List.length_cons, List.length_nil, bl_up2_at, bl_up2_nk, bl_up2_nx] <;> omega)), fun h136 => ?_, fun h136 => ?_⟩⟩⟩
            · try simp (disch := omega) only [e13, t1, z2, t2, zI_n, zI_o, zI_lit, zI_neg, zI_add, zI_sub, zI_mul, zI_lt, zI_le, zI_eq, zI_clamp, zI_in, zI_div, zI_rem, lg_lt0, lg_gt0, lg_eq0, lg_le0, lg_ge0, Int.toNat_natCast, ge_iff_le, gt_iff_lt, List.length_cons, List.length_nil, bl_up2_at, bl_up2_nk, bl_up2_nx] at h136
              refine ⟨km, _, bl_vs rm_55, Or.inl ⟨km55, (by first | exact (by rw [nm55]; exact vp_in_nI (by omega) (by omega)) | ((try dsimp only [bl_pv]); show vp_in _ (N _); rw [nm55]; simp (disch := omega) only [e13, t1, z2, t2, zI_n, zI_o, zI_lit, zI_neg, zI_add, zI_sub, zI_mul, zI_lt, zI_le, zI_eq, zI_clamp, zI_in, zI_div, zI_rem, lg_lt0, lg_gt0, lg_eq0, lg_le0, lg_ge0, Int.toNat_natCast, ge_iff_le, gt_iff_lt, List.length_cons, List.length_nil, bl_up2_at, bl_up2_nk, bl_up2_nx] <;> omega)), fun h153 => ?_, fun h153 => ?_⟩⟩
              · try simp (disch := omega) only [e13, t1, z2, t2, zI_n, zI_o, zI_lit, zI_neg, zI_add, zI_sub, zI_mul, zI_lt, zI_le, zI_eq, zI_clamp, zI_in, zI_div, zI_rem, lg_lt0, lg_gt0, lg_eq0, lg_le0, lg_ge0, Int.toNat_natCast, ge_iff_le, gt_iff_lt, List.length_cons, List.length_nil, bl_up2_at, bl_up2_nk, bl_up2_nx] at h153
                try dsimp only [bl_pv]
                rw [ecr, t2]
                refine L164 _ ?_
                unfold bbg
                first
                | (rw [show max s.2.2 (s.2.1 r) = s.2.1 r by omega])
                | (rw [show max s.2.2 (s.2.1 r) = s.2.2 by omega])
              · try simp (disch := omega) only [e13, t1, z2, t2, zI_n, zI_o, zI_lit, zI_neg, zI_add, zI_sub, zI_mul, zI_lt, zI_le, zI_eq, zI_clamp, zI_in, zI_div, zI_rem, lg_lt0, lg_gt0, lg_eq0, lg_le0, lg_ge0, Int.toNat_natCast, ge_iff_le, gt_iff_lt, List.length_cons, List.length_nil, bl_up2_at, bl_up2_nk, bl_up2_nx] at h153
                try dsimp only [bl_pv]
                rw [ecr, t2]
                refine L164 _ ?_
                unfold bbg
                first
                | (rw [show max s.2.2 (s.2.1 r) = s.2.1 r by omega])
                | (rw [show max s.2.2 (s.2.1 r) = s.2.2 by omega])
            · try simp (disch := omega) only [e13, t1, z2, t2, zI_n, zI_o, zI_lit, zI_neg, zI_add, zI_sub, zI_mul, zI_lt, zI_le, zI_eq, zI_clamp, zI_in, zI_div, zI_rem, lg_lt0, lg_gt0, lg_eq0, lg_le0, lg_ge0, Int.toNat_natCast, ge_iff_le, gt_iff_lt, List.length_cons, List.length_nil, bl_up2_at, bl_up2_nk, bl_up2_nx] at h136
              exfalso; first | omega | exact h136 trivial
        · have esr : srf (fun r b => srch D k (n + 1) (pl D s r) (up1 p n (nI r)) (up1 a n (nI (bbg s r))) b) (fun r => decide (s.1 r < D.2.1 r)) (r + 1) b = (srf (fun r b => srch D k (n + 1) (pl D s r) (up1 p n (nI r)) (up1 a n (nI (bbg s r))) b) (fun r => decide (s.1 r < D.2.1 r)) r b) := if_neg (fun q => hne (of_decide_eq_true q))
          refine bl_go oX11_tries 80 [13, 73, 116, 164, 229, 251] rfl ?_
          refine ⟨km, fun h121 => ?_, fun h121 => ?_⟩
          · try simp (disch := omega) only [e13, t1, z2, zI_n, zI_o, zI_lit, zI_neg, zI_add, zI_sub, zI_mul, zI_lt, zI_le, zI_eq, zI_clamp, zI_in, zI_div, zI_rem, lg_lt0, lg_gt0, lg_eq0, lg_le0, lg_ge0, Int.toNat_natCast, ge_iff_le, gt_iff_lt, List.length_cons, List.length_nil, bl_up2_at, bl_up2_nk, bl_up2_nx] at h121
            exfalso; first | omega | exact h121 trivial
          · try simp (disch := omega) only [e13, t1, z2, zI_n, zI_o, zI_lit, zI_neg, zI_add, zI_sub, zI_mul, zI_lt, zI_le, zI_eq, zI_clamp, zI_in, zI_div, zI_rem, lg_lt0, lg_gt0, lg_eq0, lg_le0, lg_ge0, Int.toNat_natCast, ge_iff_le, gt_iff_lt, List.length_cons, List.length_nil, bl_up2_at, bl_up2_nk, bl_up2_nx] at h121
            refine ⟨km, _, bl_vs rm_54, Or.inl ⟨km54, (by first | exact (by rw [nm54]; exact vp_in_nI (by omega) (by omega)) | ((try dsimp only [bl_pv]); show vp_in _ (N _); rw [nm54]; simp (disch := omega) only [e13, t1, z2, zI_n, zI_o, zI_lit, zI_neg, zI_add, zI_sub, zI_mul, zI_lt, zI_le, zI_eq, zI_clamp, zI_in, zI_div, zI_rem, lg_lt0, lg_gt0, lg_eq0, lg_le0, lg_ge0, Int.toNat_natCast, ge_iff_le, gt_iff_lt, List.length_cons, List.length_nil, bl_up2_at, bl_up2_nk, bl_up2_nx] <;> omega)), km, _, bl_vs rm_53, Or.inl ⟨km53, (by first | exact (by rw [nm53]; exact vp_in_nI (by omega) (by omega)) | ((try dsimp only [bl_pv]); show vp_in _ (N _); rw [nm53]; simp (disch := omega) only [e13, t1, z2, zI_n, zI_o, zI_lit, zI_neg, zI_add, zI_sub, zI_mul, zI_lt, zI_le, zI_eq, zI_clamp, zI_in, zI_div, zI_rem, lg_lt0, lg_gt0, lg_eq0, lg_le0, lg_ge0, Int.toNat_natCast, ge_iff_le, gt_iff_lt, List.length_cons, List.length_nil, bl_up2_at, bl_up2_nk, bl_up2_nx] <;> omega)), fun h136 => ?_, fun h136 => ?_⟩⟩⟩
            · try simp (disch := omega) only [e13, t1, z2, zI_n, zI_o, zI_lit, zI_neg, zI_add, zI_sub, zI_mul, zI_lt, zI_le, zI_eq, zI_clamp, zI_in, zI_div, zI_rem, lg_lt0, lg_gt0, lg_eq0, lg_le0, lg_ge0, Int.toNat_natCast, ge_iff_le, gt_iff_lt, List.length_cons, List.length_nil, bl_up2_at, bl_up2_nk, bl_up2_nx] at h136
              exfalso; first | omega | exact h136 trivial
            · try simp (disch := omega) only [e13, t1, z2, zI_n, zI_o, zI_lit, zI_neg, zI_add, zI_sub, zI_mul, zI_lt, zI_le, zI_eq, zI_clamp, zI_in, zI_div, zI_rem, lg_lt0, lg_gt0, lg_eq0, lg_le0, lg_ge0, Int.toNat_natCast, ge_iff_le, gt_iff_lt, List.length_cons, List.length_nil, bl_up2_at, bl_up2_nk, bl_up2_nx] at h136
              try dsimp only [bl_pv]
              refine ihr _ _ (nI_1 _) f1 ?_
              rw [esr]; exact f2
    have e60 := hI.1.2.2.1
    refine bl_go oX11_tries 80 [13, 73, 116, 164, 229, 251] rfl ?_
    refine ⟨km, fun h5 => ?_, fun h5 => ?_⟩
    · try simp (disch := omega) only [e60, zI_n, zI_o, zI_lit, zI_neg, zI_add, zI_sub, zI_mul, zI_lt, zI_le, zI_eq, zI_clamp, zI_in, zI_div, zI_rem, lg_lt0, lg_gt0, lg_eq0, lg_le0, lg_ge0, Int.toNat_natCast, ge_iff_le, gt_iff_lt, List.length_cons, List.length_nil, bl_up2_at, bl_up2_nk, bl_up2_nx] at h5
      try dsimp only [bl_pv]
      exact L116 0 (by omega) _ _ rfl trF.refl hI
    · try simp (disch := omega) only [e60, zI_n, zI_o, zI_lit, zI_neg, zI_add, zI_sub, zI_mul, zI_lt, zI_le, zI_eq, zI_clamp, zI_in, zI_div, zI_rem, lg_lt0, lg_gt0, lg_eq0, lg_le0, lg_ge0, Int.toNat_natCast, ge_iff_le, gt_iff_lt, List.length_cons, List.length_nil, bl_up2_at, bl_up2_nk, bl_up2_nx] at h5
      exfalso; first | omega | exact h5 trivial
end MODEL31
