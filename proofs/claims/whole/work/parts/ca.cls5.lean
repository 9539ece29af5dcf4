/-! ===== ButterLeaves: what else is asked ===== -/
abbrev xL2 : List String := [bl_NSE, bl_IAE]
abbrev xLi : List String := [bl_IAE]
section CLS5
variable {G : bl_G} {l : Launch} {d : Nat} {I I' : Nat → Nat → Int32} {J J' : Nat → Nat → Int64} {R : Nat → Nat → Option Nat} {K N : Nat → Nat} {S : cS} {h : Nat} {x y w a b : Int32}
theorem fwU_ge {rc : sq} {u0 : Nat} (n : Nat) : u0 ≤ fwU rc u0 n := by
  induction n with
  | zero => exact Nat.le_refl _
  | succ n ih => exact Nat.le_trans ih (Nat.le_add_right _ _)
theorem clI.longs (hI : clI (I, J, R, K, N) S h) (hF : ∀ y, 1000 ≤ y → J' y = J y) : clI (I, J', R, K, N) S h := by
  obtain ⟨a1, a2, a3, a4, a5, a6, a7, a8, a9, a10⟩ := hI
  refine ⟨a1, a2, a3, a4, a5, a6, a7, fun r hr => ?_, a9, a10⟩
  obtain ⟨b1, b2, b3, b4⟩ := a8 r hr
  refine ⟨b1, b2, ?_, b4⟩
  rcases b3 with c | ⟨c1, c2, c3⟩
  · exact Or.inl c
  · exact Or.inr ⟨c1, c2, fun k hk => (c3 k hk).nm (fun y hy => ⟨rfl, hF y (by unfold slN at hy; omega)⟩)⟩

theorem c_BL_kinds (hlt : l.stackTraces = false) (hI : clI (I, J, R, K, N) S h) (hO : csO S) : bl_MC G l (d + 6) mX10_kinds [.ref 100, .int x, .int y] (I, J, R, K, N) (2, 12) (fun o s' => ∃ I' J' R', s' = (I', J', R', K, N) ∧ clI s' S h ∧ cfF (I, J, R, K, N) s' ∧ xO xL3 (askE S.1 x y) (.int (nI (kdV (aSl S.1 (rn x) (rn y))))) o) := by
  obtain ⟨⟨kx, ⟨rx_0, rx_1, rx_2, rx_3, rx_4, rx_5, rx_6, rx_7⟩, ⟨kxr, nxr⟩, ⟨kxn, nxn⟩, kxb, ⟨kxi, nxi⟩, ⟨kxj, nxj⟩⟩, hTp, hUn, hBn, hK1, hK2, hSt, hStr⟩ := hI.1
  dsimp only at kx rx_4
  by_cases hE : askE S.1 x y = 0
  · obtain ⟨r, k, hr, rfl, er, hk, rfl, ek⟩ := askE_kO hO hE
    obtain ⟨hok, hB⟩ := askE_okO hO hE
    have hsp : aSl S.1 (rn (nI r)) (rn (nI k)) = aSl S.1 r k := by rw [er, ek]
    rw [hsp] at hok hB
    have hD := aD_20 hO r
    have hc4 := hO.2.2.1
    obtain ⟨m1, m2, m3, m4⟩ := (hI.2.2.2.2.2.2.2.1 r hr).1
    have hsl := (m2.2.2.2.2.2.2.2.2 k (by omega)).2
    have hsl' := hsl
    obtain ⟨hsr, kslb, rslb_0, rslb_1, hsA, hsD⟩ := hsl
    have ksla := hsA.2.1
    have ksld := hsD.2.1
    have krq := m2.2.1
    have rrq_1 := m2.2.2.2.1
    have rrq_2 := m2.2.2.2.2.1
    obtain ⟨krqg, nrqg⟩ := m2.2.2.2.2.2.2.1
    obtain ⟨krqw, nrqw⟩ := m2.2.2.2.2.2.2.2.1
    have eck : (nI k).toNatClampNeg = k := nI_clamp (by omega)
    dsimp only at kslb rslb_0 rslb_1 hsA hsD ksla ksld krq rrq_1 rrq_2 krqg nrqg krqw nrqw
    obtain ⟨kxu, ⟨rxu_0, rxu_1, rxu_2⟩, ⟨kxua, nxua⟩, ⟨kxub, nxub⟩, ⟨kxuc, nxuc⟩⟩ := hUn
    dsimp only at kxu rxu_0 rxu_1 rxu_2 kxua nxua kxub nxub kxuc nxuc
    refine bl_MC_intro (by decide +kernel) rfl (Nat.le_of_ble_eq_true rfl) ?_
    refine bl_go oX10_kinds 80 [] rfl ?_
    refine ⟨kx, _, bl_vs rx_4, rfl, rfl, kx, (Nat.le_of_ble_eq_true rfl), (2, 12), Nat.le_of_ble_eq_true rfl, Nat.le_of_ble_eq_true rfl, bl_MC_mono (c_BL_slabOfT (d := d) (r := r) (k := k) hI hO hr rfl hk rfl) (fun o7 σ7 q7 => ?_)⟩
    try dsimp only [bl_pv] at q7
    obtain ⟨I1, J1, rfl, f1, f2, rfl, f3⟩ := q7
    refine bl_go oX10_kinds 80 [] rfl ?_
    refine ⟨rfl, rfl, kxu, (Nat.le_of_ble_eq_true rfl), (0, 0), Nat.le_of_ble_eq_true rfl, Nat.le_of_ble_eq_true rfl, bl_MC_mono (c_Unlike_products (d := d + 3) (S := aSl S.1 r k) hsl' f3 kxu rxu_0 rxu_1 rxu_2 kxua nxua kxub nxub kxuc nxuc (by omega)) (fun o10 σ10 q10 => ?_)⟩
    try dsimp only [bl_pv] at q10
    obtain ⟨rfl, J2, rfl, f4⟩ := q10
    refine bl_go oX10_kinds 80 [] rfl ?_
    refine ⟨(fun h => by cases h), ?_⟩
    try show _ ∧ _
    try dsimp only [bl_pv]
    refine ⟨I1, J2, R, rfl, f1.longs (fun y hy => f4 y (by omega) (by omega) (by omega)), f2.trans (fun y h1 h2 => ⟨rfl, f4 y (by omega) (by omega) (by omega), rfl, rfl, rfl⟩), Or.inl ⟨hE, ?_⟩⟩
    rw [hsp]; rfl
  · skip
    refine bl_MC_intro (by decide +kernel) rfl (Nat.le_of_ble_eq_true rfl) ?_
    refine bl_go oX10_kinds 80 [] rfl ?_
    refine ⟨kx, _, bl_vs rx_4, rfl, rfl, kx, (Nat.le_of_ble_eq_true rfl), (2, 12), Nat.le_of_ble_eq_true rfl, Nat.le_of_ble_eq_true rfl, ?_⟩
    refine bl_MC_mono (c_BL_slabOfF (d := d) hlt hI hO hE) (fun o s' q => ?_)
    obtain ⟨I1, J1, rfl, f1, f2, f3⟩ := q
    rcases f3 (.int 0) with ⟨e, -⟩ | ⟨e, c, e1, e2, rfl⟩
    · exact absurd e hE
    · exact Or.inl ⟨rfl, I1, J1, R, rfl, f1, f2, Or.inr ⟨e, c, e1, e2, rfl⟩⟩
theorem c_BL_behind (hlt : l.stackTraces = false) (hI : clI (I, J, R, K, N) S h) (hO : csO S) : bl_MC G l (d + 6) mX10_behind [.ref 100, .int x, .int y, .int w] (I, J, R, K, N) (5, 30) (fun o s' => ∃ I' J' R', s' = (I', J', R', K, N) ∧ clI s' S h ∧ cfF (I, J, R, K, N) s' ∧ xO xL3 (askW S.1 x y w 3) (.int (if w = 0 then nI (aSl S.1 (rn x) (rn y)).1.1 else if w = 1 then nI (aSl S.1 (rn x) (rn y)).2.1.1 else if w = 2 then nI (fwU (S.1.2.2.2.1 (rn x)) S.1.2.2.2.2 (rn y)) - nI S.1.2.2.2.2 else fwW S.1.1 S.1.2.1 (S.1.2.2.2.1 (rn x)) S.1.2.2.2.2 (rn y))) o) := by
  obtain ⟨⟨kx, ⟨rx_0, rx_1, rx_2, rx_3, rx_4, rx_5, rx_6, rx_7⟩, ⟨kxr, nxr⟩, ⟨kxn, nxn⟩, kxb, ⟨kxi, nxi⟩, ⟨kxj, nxj⟩⟩, hTp, hUn, hBn, hK1, hK2, hSt, hStr⟩ := hI.1
  dsimp only at kx
  by_cases hE : askE S.1 x y = 0
  · obtain ⟨r, k, hr, rfl, er, hk, rfl, ek⟩ := askE_kO hO hE
    obtain ⟨hok, hB⟩ := askE_okO hO hE
    have hsp : aSl S.1 (rn (nI r)) (rn (nI k)) = aSl S.1 r k := by rw [er, ek]
    rw [hsp] at hok hB
    have hD := aD_20 hO r
    have hc4 := hO.2.2.1
    obtain ⟨m1, m2, m3, m4⟩ := (hI.2.2.2.2.2.2.2.1 r hr).1
    have hsl := (m2.2.2.2.2.2.2.2.2 k (by omega)).2
    have hsl' := hsl
    obtain ⟨hsr, kslb, rslb_0, rslb_1, hsA, hsD⟩ := hsl
    have ksla := hsA.2.1
    have ksld := hsD.2.1
    have krq := m2.2.1
    have rrq_1 := m2.2.2.2.1
    have rrq_2 := m2.2.2.2.2.1
    obtain ⟨krqg, nrqg⟩ := m2.2.2.2.2.2.2.1
    obtain ⟨krqw, nrqw⟩ := m2.2.2.2.2.2.2.2.1
    have eck : (nI k).toNatClampNeg = k := nI_clamp (by omega)
    dsimp only at kslb rslb_0 rslb_1 hsA hsD ksla ksld krq rrq_1 rrq_2 krqg nrqg krqw nrqw
    by_cases hw : 0 ≤ w ∧ w ≤ 3
    · have hW := askW_t (w := w) hE hw
      obtain ⟨v, hv, rfl⟩ := i32_nat (b := 3) (by omega) hw.1 hw.2
      have hge := fwU_ge (rc := S.1.2.2.2.1 r) (u0 := S.1.2.2.2.2) k
      refine bl_MC_intro (by decide +kernel) rfl (Nat.le_of_ble_eq_true rfl) ?_
      refine bl_go oX10_behind 80 [] rfl ?_
      refine ⟨rfl, rfl, kx, (Nat.le_of_ble_eq_true rfl), (2, 12), Nat.le_of_ble_eq_true rfl, Nat.le_of_ble_eq_true rfl, bl_MC_mono (c_BL_slabOfT (d := d) (r := r) (k := k) hI hO hr rfl hk rfl) (fun o3 σ3 q3 => ?_)⟩
      try dsimp only [bl_pv] at q3
      obtain ⟨I1, J1, rfl, f1, f2, rfl, f3⟩ := q3
      refine bl_go oX10_behind 80 [] rfl ?_
      refine ⟨rfl, (Nat.le_of_ble_eq_true rfl), (1, 6), Nat.le_of_ble_eq_true rfl, Nat.le_of_ble_eq_true rfl, bl_MC_mono (c_BL_needWhatT (d := d + 5) hw) (fun o10 σ10 q10 => ?_)⟩
      try dsimp only [bl_pv] at q10
      obtain ⟨rfl, rfl⟩ := q10
      refine bl_go oX10_behind 80 [] rfl ?_
      refine ⟨fun h14 => ?_, fun j14 o14 ho14 h14 _ => ?_⟩
      · try simp (disch := omega) only [zI_n, zI_o, zI_lit, zI_neg, zI_add, zI_sub, zI_mul, zI_lt, zI_le, zI_eq, zI_clamp, zI_in, zI_div, zI_rem, lg_lt0, lg_gt0, lg_eq0, lg_le0, lg_ge0, Int.toNat_natCast, ge_iff_le, gt_iff_lt, List.length_cons, List.length_nil, bl_up2_at, bl_up2_nk, bl_up2_nx, zI_toInt] at h14
        first
        | (exfalso; first | omega | exact h14 trivial)
        | (refine ⟨rfl, rfl, kx, (Nat.le_of_ble_eq_true rfl), (2, 12), Nat.le_of_ble_eq_true rfl, Nat.le_of_ble_eq_true rfl, bl_MC_mono (c_BL_warmRunOf (d := d) (r := r) f1 hO hr rfl) (fun o71 σ71 q71 => ?_)⟩
           try dsimp only [bl_pv] at q71
           obtain ⟨I2, J2, R2, rfl, u1, u2, rfl, u3, u4, u5, u6, u7⟩ := q71
           have rrq_2 : R2 (400 + 10 * r) 2 = some (400 + 10 * r + 3) := by rw [u7 _ (by omega)]; exact rrq_2
           refine bl_go oX10_behind 80 [] rfl ?_
           refine ⟨krq, _, bl_vs rrq_2, Or.inl ⟨krqw, (by (try dsimp only [bl_pv]); rw [nrqw]; exact vp_in_nI (by omega) (by omega)), (fun h => by cases h), ?_⟩⟩
           try show _ ∧ _
           try dsimp only [bl_pv]
           have e0 : v = 3 := by omega
           subst e0
           refine ⟨I2, J2, R2, rfl, u1, f2.trans u2, Or.inl ⟨hW, ?_⟩⟩
           rw [if_neg (by decide), if_neg (by decide), if_neg (by decide), er, ek, eck, (u6 k hk).2])
      · try simp (disch := omega) only [zI_n, zI_o, zI_lit, zI_neg, zI_add, zI_sub, zI_mul, zI_lt, zI_le, zI_eq, zI_clamp, zI_in, zI_div, zI_rem, lg_lt0, lg_gt0, lg_eq0, lg_le0, lg_ge0, Int.toNat_natCast, ge_iff_le, gt_iff_lt, List.length_cons, List.length_nil, bl_up2_at, bl_up2_nk, bl_up2_nx, zI_toInt] at h14
        match j14, ho14, h14 with
        | 0, ho14, h14 =>
          cases ho14
          first
          | (exfalso; omega)
          | (refine ⟨kslb, _, bl_vs rslb_0, ksla, (fun h => by cases h), ?_⟩
             try show _ ∧ _
             try dsimp only [bl_pv]
             have e0 : v = 0 := by omega
             subst e0
             refine ⟨I1, J1, R, rfl, f1, f2, Or.inl ⟨hW, ?_⟩⟩
             rw [if_pos (show nI 0 = 0 from rfl), hsp, f3.1.1])
        | 1, ho14, h14 =>
          cases ho14
          first
          | (exfalso; omega)
          | (refine ⟨kslb, _, bl_vs rslb_1, ksld, (fun h => by cases h), ?_⟩
             try show _ ∧ _
             try dsimp only [bl_pv]
             have e0 : v = 1 := by omega
             subst e0
             refine ⟨I1, J1, R, rfl, f1, f2, Or.inl ⟨hW, ?_⟩⟩
             rw [if_neg (by decide), if_pos (show nI 1 = 1 from rfl), hsp, f3.2.1.1])
        | 2, ho14, h14 =>
          cases ho14
          first
          | (exfalso; omega)
          | (refine ⟨rfl, rfl, kx, (Nat.le_of_ble_eq_true rfl), (2, 12), Nat.le_of_ble_eq_true rfl, Nat.le_of_ble_eq_true rfl, bl_MC_mono (c_BL_warmRunOf (d := d) (r := r) f1 hO hr rfl) (fun o60 σ60 q60 => ?_)⟩
             try dsimp only [bl_pv] at q60
             obtain ⟨I2, J2, R2, rfl, u1, u2, rfl, u3, u4, u5, u6, u7⟩ := q60
             have rrq_1 : R2 (400 + 10 * r) 1 = some (400 + 10 * r + 2) := by rw [u7 _ (by omega)]; exact rrq_1
             refine bl_go oX10_behind 80 [] rfl ?_
             refine ⟨krq, _, bl_vs rrq_1, Or.inl ⟨krqg, (by (try dsimp only [bl_pv]); rw [nrqg]; exact vp_in_nI (by omega) (by omega)), (fun h => by cases h), ?_⟩⟩
             try show _ ∧ _
             try dsimp only [bl_pv]
             have e0 : v = 2 := by omega
             subst e0
             refine ⟨I2, J2, R2, rfl, u1, f2.trans u2, Or.inl ⟨hW, ?_⟩⟩
             rw [if_neg (by decide), if_neg (by decide), if_pos (show nI 2 = 2 from rfl), er, ek, eck, (u6 k hk).1, nI_subs hge])
        | _ + 3, ho14, _ => exact absurd ho14 (by simp)
    · have hW := askW_f (w := w) hE hw
      refine bl_MC_intro (by decide +kernel) rfl (Nat.le_of_ble_eq_true rfl) ?_
      refine bl_go oX10_behind 80 [] rfl ?_
      refine ⟨rfl, rfl, kx, (Nat.le_of_ble_eq_true rfl), (2, 12), Nat.le_of_ble_eq_true rfl, Nat.le_of_ble_eq_true rfl, bl_MC_mono (c_BL_slabOfT (d := d) (r := r) (k := k) hI hO hr rfl hk rfl) (fun o3 σ3 q3 => ?_)⟩
      try dsimp only [bl_pv] at q3
      obtain ⟨I1, J1, rfl, f1, f2, rfl, f3⟩ := q3
      refine bl_go oX10_behind 80 [] rfl ?_
      refine ⟨rfl, (Nat.le_of_ble_eq_true rfl), (1, 6), Nat.le_of_ble_eq_true rfl, Nat.le_of_ble_eq_true rfl, ?_⟩
      refine bl_MC_mono (c_BL_needWhatF (d := d + 5) hlt hw) (fun o s' q => ?_)
      obtain ⟨rfl, rfl⟩ := q
      exact Or.inl ⟨rfl, I1, J1, R, rfl, f1, f2, Or.inr ⟨2, bl_IAE, hW, rfl, rfl⟩⟩
  · have hW := askW_n (w := w) (hi := 3) hE
    refine bl_MC_intro (by decide +kernel) rfl (Nat.le_of_ble_eq_true rfl) ?_
    refine bl_go oX10_behind 80 [] rfl ?_
    refine ⟨rfl, rfl, kx, (Nat.le_of_ble_eq_true rfl), (2, 12), Nat.le_of_ble_eq_true rfl, Nat.le_of_ble_eq_true rfl, ?_⟩
    refine bl_MC_mono (c_BL_slabOfF (d := d) hlt hI hO hE) (fun o s' q => ?_)
    obtain ⟨I1, J1, rfl, f1, f2, f3⟩ := q
    rcases f3 (.int 0) with ⟨e, -⟩ | ⟨e, c, e1, e2, rfl⟩
    · exact absurd e hE
    · exact Or.inl ⟨rfl, I1, J1, R, rfl, f1, f2, Or.inr ⟨e, c, (hW.trans e1), e2, rfl⟩⟩
theorem c_BL_steps (hlt : l.stackTraces = false) (hI : clI (I, J, R, K, N) S h) (hO : csO S) : bl_MC G l (d + 6) mX10_steps [.ref 100, .int x, .int w] (I, J, R, K, N) (3, 18) (fun o s' => ∃ I' J' R', s' = (I', J', R', K, N) ∧ clI s' S h ∧ cfF (I, J, R, K, N) s' ∧ xO xL2 (stsE S.1 x w) (.int (if w = 0 then nI (S.1.2.2.2.1 (rn x)).1 else nI (aD S.1 (rn x)))) o) := by
  obtain ⟨⟨kx, ⟨rx_0, rx_1, rx_2, rx_3, rx_4, rx_5, rx_6, rx_7⟩, ⟨kxr, nxr⟩, ⟨kxn, nxn⟩, kxb, ⟨kxi, nxi⟩, ⟨kxj, nxj⟩⟩, hTp, hUn, hBn, hK1, hK2, hSt, hStr⟩ := hI.1
  have hc := hO.2.2.1
  dsimp only at kx
  by_cases hz : rb S.1.2.2.1 x = true
  · obtain ⟨r, hr, rfl, er⟩ := rb_n (by omega) hz
    by_cases hw : 0 ≤ w ∧ w ≤ 1
    · have hW : stsE S.1 (nI r) w = 0 := by unfold stsE; rw [if_pos hz, if_pos (wb_t hw)]
      have hc4 := hO.2.2.1
      have hD := aD_20 hO r
      obtain ⟨⟨m1, m2, m3, m4⟩, hrc, hro⟩ := hI.2.2.2.2.2.2.2.1 r hr
      have krp := m1.1
      have krq := m2.2.1
      dsimp only at krp krq hrc
      obtain ⟨v, hv, rfl⟩ := i32_nat (b := 1) (by omega) hw.1 hw.2
      refine bl_MC_intro (by decide +kernel) rfl (Nat.le_of_ble_eq_true rfl) ?_
      refine bl_go oX10_steps 80 [] rfl ?_
      refine ⟨rfl, rfl, kx, (Nat.le_of_ble_eq_true rfl), (1, 6), Nat.le_of_ble_eq_true rfl, Nat.le_of_ble_eq_true rfl, bl_MC_mono (c_BL_recipeOfT (d := d + 5) (r := r) hI hr hc rfl) (fun o2 σ2 q2 => ?_)⟩
      try dsimp only [bl_pv] at q2
      obtain ⟨rfl, rfl⟩ := q2
      refine bl_go oX10_steps 80 [] rfl ?_
      refine ⟨rfl, (Nat.le_of_ble_eq_true rfl), (1, 6), Nat.le_of_ble_eq_true rfl, Nat.le_of_ble_eq_true rfl, bl_MC_mono (c_BL_needWhatT (d := d + 5) hw) (fun o8 σ8 q8 => ?_)⟩
      try dsimp only [bl_pv] at q8
      obtain ⟨rfl, rfl⟩ := q8
      refine bl_go oX10_steps 80 [] rfl ?_
      refine ⟨fun h12 => ?_, fun h12 => ?_⟩
      · try simp (disch := omega) only [zI_n, zI_o, zI_lit, zI_neg, zI_add, zI_sub, zI_mul, zI_lt, zI_le, zI_eq, zI_clamp, zI_in, zI_div, zI_rem, lg_lt0, lg_gt0, lg_eq0, lg_le0, lg_ge0, Int.toNat_natCast, ge_iff_le, gt_iff_lt, List.length_cons, List.length_nil, bl_up2_at, bl_up2_nk, bl_up2_nx] at h12
        first
        | (exfalso; first | omega | exact h12 trivial)
        | (refine ⟨rfl, rfl, kx, (Nat.le_of_ble_eq_true rfl), (1, 6), Nat.le_of_ble_eq_true rfl, Nat.le_of_ble_eq_true rfl, bl_MC_mono (c_BL_runOfT (d := d + 1) (r := r) hI hO hr rfl) (fun o24 σ24 q24 => ?_)⟩
           try dsimp only [bl_pv] at q24
           obtain ⟨rfl, I1, J1, rfl, f1, f2, f3⟩ := q24
           have hro1 := (f1.2.2.2.2.2.2.2.1 r hr).2.2
           dsimp only at hro1
           obtain ⟨-, g1, g2⟩ := hro1.1.resolve_left (fun e => by rw [f3] at e; exact absurd e (by decide))
           refine bl_go oX10_steps 80 [] rfl ?_
           refine ⟨krq, (fun h => by cases h), ?_⟩
           try show _ ∧ _
           try dsimp only [bl_pv]
           first
           | (have e0 : v = 0 := by omega
              subst e0
              refine ⟨I, J, R, rfl, hI, cfF.refl, Or.inl ⟨hW, ?_⟩⟩
              rw [if_pos (show nI 0 = 0 from rfl), er, hrc.1])
           | (have e0 : v = 1 := by omega
              subst e0
              refine ⟨I1, J1, R, rfl, f1, f2, Or.inl ⟨hW, ?_⟩⟩
              rw [if_neg (by decide), er, g1]))
      · try simp (disch := omega) only [zI_n, zI_o, zI_lit, zI_neg, zI_add, zI_sub, zI_mul, zI_lt, zI_le, zI_eq, zI_clamp, zI_in, zI_div, zI_rem, lg_lt0, lg_gt0, lg_eq0, lg_le0, lg_ge0, Int.toNat_natCast, ge_iff_le, gt_iff_lt, List.length_cons, List.length_nil, bl_up2_at, bl_up2_nk, bl_up2_nx] at h12
        first
        | (exfalso; first | omega | exact h12 trivial)
        | (refine ⟨krp, (fun h => by cases h), ?_⟩
           try show _ ∧ _
           try dsimp only [bl_pv]
           first
           | (have e0 : v = 0 := by omega
              subst e0
              refine ⟨I, J, R, rfl, hI, cfF.refl, Or.inl ⟨hW, ?_⟩⟩
              rw [if_pos (show nI 0 = 0 from rfl), er, hrc.1])
           | (have e0 : v = 1 := by omega
              subst e0
              refine ⟨I1, J1, R, rfl, f1, f2, Or.inl ⟨hW, ?_⟩⟩
              rw [if_neg (by decide), er, g1]))
    · have hW : stsE S.1 (nI r) w = 2 := by unfold stsE; rw [if_pos hz, if_neg (wb_f hw)]
      refine bl_MC_intro (by decide +kernel) rfl (Nat.le_of_ble_eq_true rfl) ?_
      refine bl_go oX10_steps 80 [] rfl ?_
      refine ⟨rfl, rfl, kx, (Nat.le_of_ble_eq_true rfl), (1, 6), Nat.le_of_ble_eq_true rfl, Nat.le_of_ble_eq_true rfl, bl_MC_mono (c_BL_recipeOfT (d := d + 5) (r := r) hI hr hc rfl) (fun o2 σ2 q2 => ?_)⟩
      try dsimp only [bl_pv] at q2
      obtain ⟨rfl, rfl⟩ := q2
      refine bl_go oX10_steps 80 [] rfl ?_
      refine ⟨rfl, (Nat.le_of_ble_eq_true rfl), (1, 6), Nat.le_of_ble_eq_true rfl, Nat.le_of_ble_eq_true rfl, ?_⟩
      refine bl_MC_mono (c_BL_needWhatF (d := d + 5) hlt hw) (fun o s' q => ?_)
      obtain ⟨rfl, rfl⟩ := q
      exact Or.inl ⟨rfl, I, J, R, rfl, hI, cfF.refl, Or.inr ⟨1, bl_IAE, hW, rfl, rfl⟩⟩
  · have hW : stsE S.1 x w = 1 := by unfold stsE; rw [if_neg hz]
    refine bl_MC_intro (by decide +kernel) rfl (Nat.le_of_ble_eq_true rfl) ?_
    refine bl_go oX10_steps 80 [] rfl ?_
    refine ⟨rfl, rfl, kx, (Nat.le_of_ble_eq_true rfl), (1, 6), Nat.le_of_ble_eq_true rfl, Nat.le_of_ble_eq_true rfl, ?_⟩
    refine bl_MC_mono (c_BL_recipeOfF (d := d + 5) hlt hI hc hz) (fun o s' q => ?_)
    obtain ⟨rfl, rfl⟩ := q
    exact Or.inl ⟨rfl, I, J, R, rfl, hI, cfF.refl, Or.inr ⟨0, bl_NSE, hW, rfl, rfl⟩⟩
theorem c_BL_wrong (hlt : l.stackTraces = false) (hI : clI (I, J, R, K, N) S h) (hO : csO S) : bl_MC G l (d + 6) mX10_wrong [.ref 100, .int x, .int w] (I, J, R, K, N) (4, 24) (fun o s' => ∃ I' J' R', s' = (I', J', R', K, N) ∧ clI s' S h ∧ cfF (I, J, R, K, N) s' ∧ xO xL2 (wrE S.1 x w) (.int (wrV S.1 (rn x) w)) o) := by
  obtain ⟨⟨kx, ⟨rx_0, rx_1, rx_2, rx_3, rx_4, rx_5, rx_6, rx_7⟩, ⟨kxr, nxr⟩, ⟨kxn, nxn⟩, kxb, ⟨kxi, nxi⟩, ⟨kxj, nxj⟩⟩, hTp, hUn, hBn, hK1, hK2, hSt, hStr⟩ := hI.1
  have hc := hO.2.2.1
  dsimp only at kx
  by_cases hz : rb S.1.2.2.1 x = true
  · obtain ⟨r, hr, rfl, er⟩ := rb_n (by omega) hz
    by_cases hw : 0 ≤ w ∧ w ≤ 2
    · have hW : wrE S.1 (nI r) w = 0 := by unfold wrE; rw [if_pos hz, if_pos (wb_t hw)]
      have hc4 := hO.2.2.1
      have hD := aD_20 hO r
      obtain ⟨⟨m1, m2, m3, m4⟩, hrc, hro⟩ := hI.2.2.2.2.2.2.2.1 r hr
      have krp := m1.1
      have krq := m2.2.1
      dsimp only at krp krq hrc
      obtain ⟨v, hv, rfl⟩ := i32_nat (b := 2) (by omega) hw.1 hw.2
      refine bl_MC_intro (by decide +kernel) rfl (Nat.le_of_ble_eq_true rfl) ?_
      refine bl_go oX10_wrong 80 [] rfl ?_
      refine ⟨rfl, rfl, kx, (Nat.le_of_ble_eq_true rfl), (1, 6), Nat.le_of_ble_eq_true rfl, Nat.le_of_ble_eq_true rfl, bl_MC_mono (c_BL_recipeOfT (d := d + 5) (r := r) hI hr hc rfl) (fun o2 σ2 q2 => ?_)⟩
      try dsimp only [bl_pv] at q2
      obtain ⟨rfl, rfl⟩ := q2
      refine bl_go oX10_wrong 80 [] rfl ?_
      refine ⟨rfl, (Nat.le_of_ble_eq_true rfl), (1, 6), Nat.le_of_ble_eq_true rfl, Nat.le_of_ble_eq_true rfl, bl_MC_mono (c_BL_needWhatT (d := d + 5) hw) (fun o8 σ8 q8 => ?_)⟩
      try dsimp only [bl_pv] at q8
      obtain ⟨rfl, rfl⟩ := q8
      refine bl_go oX10_wrong 80 [] rfl ?_
      refine ⟨rfl, rfl, kx, (Nat.le_of_ble_eq_true rfl), (2, 12), Nat.le_of_ble_eq_true rfl, Nat.le_of_ble_eq_true rfl, bl_MC_mono (c_BL_warmRunOf (d := d) (r := r) hI hO hr rfl) (fun o13 σ13 q13 => ?_)⟩
      try dsimp only [bl_pv] at q13
      obtain ⟨I2, J2, R2, rfl, u1, u2, rfl, u3, u4, u5, u6, u7⟩ := q13
      have hrc2 := (u1.2.2.2.2.2.2.2.1 r hr).2.1
      dsimp only at hrc2
      refine bl_go oX10_wrong 80 [] rfl ?_
      refine ⟨fun h20 => ?_, fun h20 => ?_⟩
      · try simp (disch := omega) only [zI_n, zI_o, zI_lit, zI_neg, zI_add, zI_sub, zI_mul, zI_lt, zI_le, zI_eq, zI_clamp, zI_in, zI_div, zI_rem, lg_lt0, lg_gt0, lg_eq0, lg_le0, lg_ge0, Int.toNat_natCast, ge_iff_le, gt_iff_lt, List.length_cons, List.length_nil, bl_up2_at, bl_up2_nk, bl_up2_nx] at h20
        first
        | (exfalso; first | omega | exact h20 trivial)
        | (refine ⟨fun h46 => ?_, fun h46 => ?_⟩
           · try simp (disch := omega) only [zI_n, zI_o, zI_lit, zI_neg, zI_add, zI_sub, zI_mul, zI_lt, zI_le, zI_eq, zI_clamp, zI_in, zI_div, zI_rem, lg_lt0, lg_gt0, lg_eq0, lg_le0, lg_ge0, Int.toNat_natCast, ge_iff_le, gt_iff_lt, List.length_cons, List.length_nil, bl_up2_at, bl_up2_nk, bl_up2_nx] at h46
             first
             | (exfalso; first | omega | exact h46 trivial)
             | (refine ⟨krq, (fun h => by cases h), ?_⟩
                try show _ ∧ _
                try dsimp only [bl_pv]
                refine ⟨I2, J2, R2, rfl, u1, u2, Or.inl ⟨hW, ?_⟩⟩
                unfold wrV
                rw [er]
                first
                | (have e0 : v = 0 := by omega
                   subst e0
                   rw [if_pos (show nI 0 = 0 from rfl), u4])
                | (have e0 : v = 1 := by omega
                   subst e0
                   rw [if_neg (by decide), if_pos (show nI 1 = 1 from rfl), u5]))
           · try simp (disch := omega) only [zI_n, zI_o, zI_lit, zI_neg, zI_add, zI_sub, zI_mul, zI_lt, zI_le, zI_eq, zI_clamp, zI_in, zI_div, zI_rem, lg_lt0, lg_gt0, lg_eq0, lg_le0, lg_ge0, Int.toNat_natCast, ge_iff_le, gt_iff_lt, List.length_cons, List.length_nil, bl_up2_at, bl_up2_nk, bl_up2_nx] at h46
             first
             | (exfalso; first | omega | exact h46 trivial)
             | (refine ⟨krq, (fun h => by cases h), ?_⟩
                try show _ ∧ _
                try dsimp only [bl_pv]
                refine ⟨I2, J2, R2, rfl, u1, u2, Or.inl ⟨hW, ?_⟩⟩
                unfold wrV
                rw [er]
                first
                | (have e0 : v = 0 := by omega
                   subst e0
                   rw [if_pos (show nI 0 = 0 from rfl), u4])
                | (have e0 : v = 1 := by omega
                   subst e0
                   rw [if_neg (by decide), if_pos (show nI 1 = 1 from rfl), u5])))
      · try simp (disch := omega) only [zI_n, zI_o, zI_lit, zI_neg, zI_add, zI_sub, zI_mul, zI_lt, zI_le, zI_eq, zI_clamp, zI_in, zI_div, zI_rem, lg_lt0, lg_gt0, lg_eq0, lg_le0, lg_ge0, Int.toNat_natCast, ge_iff_le, gt_iff_lt, List.length_cons, List.length_nil, bl_up2_at, bl_up2_nk, bl_up2_nx] at h20
        first
        | (exfalso; first | omega | exact h20 trivial)
        | (refine ⟨krq, krp, fun h32 => ?_, fun h32 => ?_⟩
           · try simp (disch := omega) only [bl_pv, cl0, cl1, cl2, cl3, cl4, cl5, cl6, cl7, cl8, cl9, bl_up2_at, bl_up2_nk, bl_up2_nx] at h32
             first
             | (exfalso; first | omega | exact h32 trivial)
             | (refine ⟨(fun h => by cases h), ?_⟩
                try show _ ∧ _
                try dsimp only [bl_pv]
                have e0 : v = 2 := by omega
                subst e0
                rw [u3, hrc2.1, nI_lek (by omega) (by omega)] at h32
                refine ⟨I2, J2, R2, rfl, u1, u2, Or.inl ⟨hW, ?_⟩⟩
                unfold wrV
                rw [if_neg (by decide), if_neg (by decide), er]
                first
                | (rw [if_neg (by omega)]; rfl)
                | (rw [if_pos (by omega), u3]))
           · try simp (disch := omega) only [bl_pv, cl0, cl1, cl2, cl3, cl4, cl5, cl6, cl7, cl8, cl9, bl_up2_at, bl_up2_nk, bl_up2_nx] at h32
             first
             | (exfalso; first | omega | exact h32 trivial)
             | (refine ⟨krq, (fun h => by cases h), ?_⟩
                try show _ ∧ _
                try dsimp only [bl_pv]
                have e0 : v = 2 := by omega
                subst e0
                rw [u3, hrc2.1, nI_lek (by omega) (by omega)] at h32
                refine ⟨I2, J2, R2, rfl, u1, u2, Or.inl ⟨hW, ?_⟩⟩
                unfold wrV
                rw [if_neg (by decide), if_neg (by decide), er]
                first
                | (rw [if_neg (by omega)]; rfl)
                | (rw [if_pos (by omega), u3])))
    · have hW : wrE S.1 (nI r) w = 2 := by unfold wrE; rw [if_pos hz, if_neg (wb_f hw)]
      refine bl_MC_intro (by decide +kernel) rfl (Nat.le_of_ble_eq_true rfl) ?_
      refine bl_go oX10_wrong 80 [] rfl ?_
      refine ⟨rfl, rfl, kx, (Nat.le_of_ble_eq_true rfl), (1, 6), Nat.le_of_ble_eq_true rfl, Nat.le_of_ble_eq_true rfl, bl_MC_mono (c_BL_recipeOfT (d := d + 5) (r := r) hI hr hc rfl) (fun o2 σ2 q2 => ?_)⟩
      try dsimp only [bl_pv] at q2
      obtain ⟨rfl, rfl⟩ := q2
      refine bl_go oX10_wrong 80 [] rfl ?_
      refine ⟨rfl, (Nat.le_of_ble_eq_true rfl), (1, 6), Nat.le_of_ble_eq_true rfl, Nat.le_of_ble_eq_true rfl, ?_⟩
      refine bl_MC_mono (c_BL_needWhatF (d := d + 5) hlt hw) (fun o s' q => ?_)
      obtain ⟨rfl, rfl⟩ := q
      exact Or.inl ⟨rfl, I, J, R, rfl, hI, cfF.refl, Or.inr ⟨1, bl_IAE, hW, rfl, rfl⟩⟩
  · have hW : wrE S.1 x w = 1 := by unfold wrE; rw [if_neg hz]
    refine bl_MC_intro (by decide +kernel) rfl (Nat.le_of_ble_eq_true rfl) ?_
    refine bl_go oX10_wrong 80 [] rfl ?_
    refine ⟨rfl, rfl, kx, (Nat.le_of_ble_eq_true rfl), (1, 6), Nat.le_of_ble_eq_true rfl, Nat.le_of_ble_eq_true rfl, ?_⟩
    refine bl_MC_mono (c_BL_recipeOfF (d := d + 5) hlt hI hc hz) (fun o s' q => ?_)
    obtain ⟨rfl, rfl⟩ := q
    exact Or.inl ⟨rfl, I, J, R, rfl, hI, cfF.refl, Or.inr ⟨0, bl_NSE, hW, rfl, rfl⟩⟩
end CLS5
