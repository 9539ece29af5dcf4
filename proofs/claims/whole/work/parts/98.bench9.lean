/-! ===== Bench: find ===== -/
def bdD (n : Nat) (rcs : Nat → sq) : bD := (n, fun r => (bkD (rcs r)).1, fun r => (bkD (rcs r)).2.1, fun r => (bkD (rcs r)).2.2)
def sqV (rc : sq) : Prop := rc.1 ≤ 20 ∧ sqO rc
theorem sqV.u {rc : sq} (h : sqV rc) : ∀ k, k < rc.1 → rc.2.2 k ≤ 36 := fun k hk => (h.2 k hk).2.1
theorem bkD_K {rc : sq} (h : sqV rc) : bkK (bkD rc) rc.1 := bkE_K (bkF_K h.u rc.1 (Nat.le_refl _))
theorem bdD_s {n : Nat} {rcs : Nat → sq} (h : ∀ r, sqV (rcs r)) : bDs (bdD n rcs) := by
  refine ⟨fun r b => ?_, fun r b => ?_⟩
  · have a := ((bkD_K (h r)).2.2.1 b).1
    have b' := (h r).1
    show (bkD (rcs r)).2.1 b ≤ 720
    omega
  · have a := ((bkD_K (h r)).2.2.1 b).2
    have b' := (h r).1
    show (bkD (rcs r)).2.2 b ≤ 720
    omega
/-- how many blocks, the best order -/
def bTot (n : Nat) (rcs : Nat → sq) : Nat := smf (bdD n rcs).2.1 n
def bBest (n : Nat) (rcs : Nat → sq) : bB := srch (bdD n rcs) (bTot n rcs) 0 (bs0 (bdD n rcs)) (fun _ => 0) (fun _ => 0) (1000000, 0, fun _ => 0, fun _ => 0)
def bWork (n : Nat) (rcs : Nat → sq) : Nat := wlb (bdD n rcs) (bs0 (bdD n rcs))
/-- what find has found -/
def bnR (I : Nat → Nat → Int32) (q n : Nat) (rcs : Nat → sq) : Prop := I q 16 = nI (bTot n rcs) ∧ (bTot n rcs ≤ 12 → bnB I q (bTot n rcs) (bBest n rcs) ∧ I q 14 = nI (bWork n rcs))
section BENCH9
variable {G : bl_G} {l : Launch} {d q v n : Nat} {I : Nat → Nat → Int32} {J : Nat → Nat → Int64} {R : Nat → Nat → Option Nat} {K N : Nat → Nat} {rcs : Nat → sq} {pn : Nat → Nat}
theorem c_Bench_findKnown {x : Int32} (kq : K q = 1) (hk : I q 18 = 1) : bl_MC G l d mX0_find [.ref q, .ref v, .int x] (I, J, R, K, N) (0, 0) (fun o σ' => o = .inl none ∧ σ' = (I, J, R, K, N)) := by
  refine bl_MC_intro (by decide +kernel) rfl (Nat.le_of_ble_eq_true rfl) ?_
  refine bl_go oX0_find 80 [] rfl ?_
  refine ⟨kq, fun h4 => ?_, fun h4 => ?_⟩
  · try simp (disch := omega) only [bl_pv, cl0, cl1, cl2, cl3, cl4, cl5, cl6, cl7, cl8, cl9, bl_up2_at, bl_up2_nk, bl_up2_nx] at h4
    exact absurd (h4.symm.trans hk).symm (by decide)
  · try simp (disch := omega) only [bl_pv, cl0, cl1, cl2, cl3, cl4, cl5, cl6, cl7, cl8, cl9, bl_up2_at, bl_up2_nk, bl_up2_nx] at h4
    try show _ ∧ _
    try dsimp only [bl_pv]
    exact ⟨rfl, rfl⟩
def fdF (I I' : Nat → Nat → Int32) (q : Nat) : Prop := ∀ x, (x < q ∨ q + 12 < x) → I' x = I x
/-- row r of the blocks -/
def fdR (I : Nat → Nat → Int32) (q : Nat) (D : bD) (r : Nat) : Prop := D.2.1 r ≤ 20 ∧ I (q + 4) r = nI (D.2.1 r) ∧ (∀ b, b < D.2.1 r → I (q + 1) (r * 22 + b) = nI (D.2.2.1 r b)) ∧ ∀ b, b ≤ D.2.1 r → I (q + 2) (r * 22 + b) = nI (D.2.2.2 r b) ∧ I (q + 3) (r * 22 + b) = nI (duc D r (D.2.1 r - b))
theorem c_Bench_find {x : Int32} (hq : bnS R K N q) (hv : K v = 22 ∧ N v = 4) (hR : ∀ r, r < n → R v r = some (pn r) ∧ rcS R K N (pn r) ∧ rcC I (pn r) (rcs r) ∧ (pn r + 2 < q ∨ q + 12 < pn r)) (hV : ∀ r, sqV (rcs r)) (hn : n ≤ 4) (hx : x = nI n) (hk : I q 18 = 0) : bl_MC G l (d + 30) mX0_find [.ref q, .ref v, .int x] (I, J, R, K, N) (0, 0) (fun o σ' => o = .inl none ∧ ∃ I', σ' = (I', J, R, K, N) ∧ fdF I I' q ∧ I' q 18 = 1 ∧ bnR I' q n rcs) := by
  have hq' := hq
  obtain ⟨hq0, kq, ⟨rq_0, rq_1, rq_2, rq_3, rq_4, rq_5, rq_6, rq_7, rq_8, rq_9, rq_10, rq_11⟩, ⟨kq1, kq2, kq3, kq4, kq5, kq6, kq7, kq8, kq9, kq10, kq11, kq12⟩, ⟨nq1, nq2, nq3, nq4, nq5, nq6, nq7, nq8, nq9, nq10, nq11, nq12⟩⟩ := hq
  obtain ⟨kv, nv⟩ := hv
  have hDs : bDs (bdD n rcs) := bdD_s hV
  have hsz : ∀ r, (bdD n rcs).2.1 r ≤ 20 := fun r => by
    have a := (bkD_K (hV r)).1
    have b := (hV r).1
    show (bkD (rcs r)).1 ≤ 20
    omega
  have hTs : ∀ r, r ≤ n → smf (bdD n rcs).2.1 r ≤ 20 * r := by
    intro r hr
    induction r with
    | zero => exact Nat.le_refl _
    | succ r ih =>
      have a := ih (by omega)
      have b := hsz r
      show smf _ r + (bdD n rcs).2.1 r ≤ _
      omega
  have hT80 := hTs n (Nat.le_refl _)
  subst hx
  refine bl_MC_intro (by decide +kernel) rfl (Nat.le_of_ble_eq_true rfl) ?_
  have L2 : bTot n rcs ≤ 12 → ∀ i, i ≤ 256 → ∀ z I1, z = nI i → fdF I I1 q → I1 q 18 = 1 → bnD I1 q (bdD n rcs) (bTot n rcs) → I1 q 14 = nI (bWork n rcs) → (∀ j, j < i → I1 (q + 10) j = nI 0) → bl_WP G l (d + 30) mX0_find 74 [(3, .int z), (0, .ref q)] [] (I1, J, R, K, N) (0, 0) (fun o σ' => o = .inl none ∧ ∃ I', σ' = (I', J, R, K, N) ∧ fdF I I' q ∧ I' q 18 = 1 ∧ bnR I' q n rcs) := by
    intro hT12
    refine bl_for 256 ?_ (fun i hi ih => ?_)
    · intro z I1 hz hF h18 hD h14 hC; subst hz
      have hok : bOk (bdD n rcs) (bTot n rcs) (bs0 (bdD n rcs)) := bOk_0
      have hsm : bSm (bdD n rcs) (bTot n rcs) (bs0 (bdD n rcs)) := bSm_0 hDs hT12
      refine bl_go oX0_find 80 [34, 74] rfl ?_
      refine ⟨fun h78 => ?_, fun h78 => ?_⟩
      · try simp (disch := omega) only [zI_n, zI_o, zI_lit, zI_neg, zI_add, zI_sub, zI_mul, zI_lt, zI_le, zI_eq, zI_clamp, zI_in, zI_div, zI_rem, lg_lt0, lg_gt0, lg_eq0, lg_le0, lg_ge0, Int.toNat_natCast, ge_iff_le, gt_iff_lt, List.length_cons, List.length_nil, bl_up2_at, bl_up2_nk, bl_up2_nx] at h78
        refine ⟨rfl, rfl, kq, (Nat.le_of_ble_eq_true rfl), (0, 0), Nat.le_of_ble_eq_true rfl, Nat.le_of_ble_eq_true rfl, bl_MC_mono (c_Bench_quickDone (d := d + 28) hq' hD hDs rfl) (fun o96 σ96 q96 => ?_)⟩
        try dsimp only [bl_pv] at q96
        obtain ⟨⟨w, rfl, hw1, hw2⟩, I2, rfl, hG2⟩ := q96
        have hD2 := hD.g hG2
        refine bl_go oX0_find 80 [34, 74] rfl ?_
        refine ⟨kq, Or.inr (Or.inr ⟨rfl, rfl, _, rfl⟩), (fun h => by cases h), kq, Or.inr (Or.inr ⟨rfl, rfl, _, rfl⟩), (fun h => by cases h), rfl, rfl, kq, (Nat.le_of_ble_eq_true rfl), (0, 0), Nat.le_of_ble_eq_true rfl, Nat.le_of_ble_eq_true rfl, bl_MC_mono (c_Bench_goBack (d := d + 29) hq' (hD2.same (I' := (bl_up2 (bl_up2 I2 q 17 (nI w + 1)) q 15 0)) (by rw [bl_up2_nk (by omega), bl_up2_nk (by omega)]) (by rw [bl_up2_nk (by omega), bl_up2_nk (by omega)]) (by rw [bl_up2_ne (by omega), bl_up2_ne (by omega)]) (by rw [bl_up2_ne (by omega), bl_up2_ne (by omega)]) (by rw [bl_up2_ne (by omega), bl_up2_ne (by omega)]) (by rw [bl_up2_ne (by omega), bl_up2_ne (by omega)]))) (fun o110 σ110 q110 => ?_)⟩
        try dsimp only [bl_pv] at q110
        obtain ⟨rfl, I3, rfl, hG3, hT3, h3⟩ := q110
        have hD3 : bnD I3 q (bdD n rcs) (bTot n rcs) := (hD2.same (I' := (bl_up2 (bl_up2 I2 q 17 (nI w + 1)) q 15 0)) (by rw [bl_up2_nk (by omega), bl_up2_nk (by omega)]) (by rw [bl_up2_nk (by omega), bl_up2_nk (by omega)]) (by rw [bl_up2_ne (by omega), bl_up2_ne (by omega)]) (by rw [bl_up2_ne (by omega), bl_up2_ne (by omega)]) (by rw [bl_up2_ne (by omega), bl_up2_ne (by omega)]) (by rw [bl_up2_ne (by omega), bl_up2_ne (by omega)])).g hG3
        have g14 : I3 q 14 = nI (bWork n rcs) := by
          rw [hG3.2 14 (by decide)]
          rw [bl_up2_nk (by omega), bl_up2_nk (by omega), hG2.2 14 (by decide)]; exact h14
        have g18 : I3 q 18 = 1 := by
          rw [hG3.2 18 (by decide)]
          rw [bl_up2_nk (by omega), bl_up2_nk (by omega), hG2.2 18 (by decide)]; exact h18
        have g13 : I3 q 13 = nI (bWork n rcs) := by
          rw [h3]
          rw [bl_up2_nk (by omega), bl_up2_nk (by omega), hG2.2 14 (by decide)]; exact h14
        have g17 : I3 q 17 = nI (w + 1) := by
          rw [hG3.2 17 (by decide)]
          rw [bl_up2_nk (by omega), bl_up2_at, nI_1]
        have g15 : I3 q 15 = nI 0 := by
          rw [hG3.2 15 (by decide)]
          rw [bl_up2_at]; rfl
        have gx : ∀ x, x ≠ q → x ≠ q + 5 → x ≠ q + 6 → I3 x = I1 x := fun x x1 x2 x3 => by
          rw [hG3.1 x x1 x2 x3]
          rw [bl_up2_ne x1, bl_up2_ne x1, hG2.1 x x1 x2 x3]
        have hC3 : bnC I3 q 0 := fun p hp => ⟨0, by rw [gx _ (by omega) (by omega) (by omega)]; exact hC p hp, Nat.le_refl _⟩
        have hV3 : bnV I3 q (bdD n rcs) (bTot n rcs) 0 (w + 1) := fun k s _ _ _ hp i _ c hc hI hic _ => by
          rw [gx _ (by omega) (by omega) (by omega), hC _ hp] at hI
          have := congrArg Int32.toNatClampNeg hI
          rw [nI_clamp (by omega), nI_clamp hc] at this
          omega
        have hPN := c_Bench_placeNext (G := G) (l := l) (J := J) (d := d + 24 - 2 * bTot n rcs) hq' hDs (bTot n rcs) 0 (bs0 (bdD n rcs)) (fun _ => 0) (fun _ => 0) (w + 1, 0, I3 (q + 11), I3 (q + 12)) 0 I3 0 0 (Nat.zero_add _) hok hsm ⟨hD3, hT3, g13, fun i hi => absurd hi (Nat.not_lt_zero _), ⟨g17, g15, fun _ _ => ⟨rfl, rfl⟩⟩, hV3, hC3⟩ (by show w + 1 ≤ _; omega) (by have := cNN_sm hT12; omega) rfl rfl
        rw [show d + 24 - 2 * bTot n rcs + 2 * bTot n rcs + 5 = d + 29 by omega] at hPN
        refine bl_go oX0_find 80 [34, 74] rfl ?_
        refine ⟨rfl, rfl, kq, (Nat.le_of_ble_eq_true rfl), (0, 0), Nat.le_of_ble_eq_true rfl, Nat.le_of_ble_eq_true rfl, bl_MC_mono (hPN) (fun o116 σ116 q116 => ?_)⟩
        try dsimp only [bl_pv] at q116
        obtain ⟨rfl, I4, rfl, hF4, -, hI4⟩ := q116
        refine bl_go oX0_find 80 [34, 74] rfl ?_
        try show _ ∧ _
        try dsimp only [bl_pv]
        refine ⟨rfl, I4, rfl, fun x hx => ?_, ?_, hI4.1.2.2.1, fun _ => ⟨?_, ?_⟩⟩
        · rw [hF4.1 x (by omega), gx x (by omega) (by omega) (by omega)]; exact hF x hx
        · rw [hF4.2 18 (by omega) (by omega) (by omega)]; exact g18
        · have e : srch (bdD n rcs) (bTot n rcs) 0 (bs0 (bdD n rcs)) (fun _ => 0) (fun _ => 0) (w + 1, 0, I3 (q + 11), I3 (q + 12)) = bBest n rcs := by
            have hm := mnb_sm hDs _ _ hok hsm
            refine srch_q _ _ _ _ _ _ _ ?_ ?_ ?_ ?_
            · show _ < w + 1; omega
            · show _ < 1000000; omega
            · show w + 1 ≤ _; omega
            · show 1000000 ≤ 1000000000; omega
          rw [← e]; exact hI4.2.2.2.2.1
        · rw [hF4.2 14 (by omega) (by omega) (by omega)]; exact g14
      · try simp (disch := omega) only [zI_n, zI_o, zI_lit, zI_neg, zI_add, zI_sub, zI_mul, zI_lt, zI_le, zI_eq, zI_clamp, zI_in, zI_div, zI_rem, lg_lt0, lg_gt0, lg_eq0, lg_le0, lg_ge0, Int.toNat_natCast, ge_iff_le, gt_iff_lt, List.length_cons, List.length_nil, bl_up2_at, bl_up2_nk, bl_up2_nx] at h78
        exfalso; omega
    · intro z I1 hz hF h18 hD h14 hC; subst hz
      have ec : (nI i).toNatClampNeg = i := nI_clamp (by omega)
      refine bl_go oX0_find 80 [34, 74] rfl ?_
      refine ⟨fun h78 => ?_, fun h78 => ?_⟩
      · try simp (disch := omega) only [zI_n, zI_o, zI_lit, zI_neg, zI_add, zI_sub, zI_mul, zI_lt, zI_le, zI_eq, zI_clamp, zI_in, zI_div, zI_rem, lg_lt0, lg_gt0, lg_eq0, lg_le0, lg_ge0, Int.toNat_natCast, ge_iff_le, gt_iff_lt, List.length_cons, List.length_nil, bl_up2_at, bl_up2_nk, bl_up2_nx] at h78
        exfalso; omega
      · try simp (disch := omega) only [zI_n, zI_o, zI_lit, zI_neg, zI_add, zI_sub, zI_mul, zI_lt, zI_le, zI_eq, zI_clamp, zI_in, zI_div, zI_rem, lg_lt0, lg_gt0, lg_eq0, lg_le0, lg_ge0, Int.toNat_natCast, ge_iff_le, gt_iff_lt, List.length_cons, List.length_nil, bl_up2_at, bl_up2_nk, bl_up2_nx] at h78
        refine ⟨kq, _, bl_vs rq_9, kq10, (by first | exact (by rw [nq10]; exact vp_in_nI (by omega) (by omega)) | ((try dsimp only [bl_pv]); show vp_in _ (N _); rw [nq10]; simp (disch := omega) only [zI_n, zI_o, zI_lit, zI_neg, zI_add, zI_sub, zI_mul, zI_lt, zI_le, zI_eq, zI_clamp, zI_in, zI_div, zI_rem, lg_lt0, lg_gt0, lg_eq0, lg_le0, lg_ge0, Int.toNat_natCast, ge_iff_le, gt_iff_lt, List.length_cons, List.length_nil, bl_up2_at, bl_up2_nk, bl_up2_nx] <;> omega)), ?_⟩
        try dsimp only [bl_pv]
        rw [ec]
        refine ih _ _ (nI_1 _) (fun x hx => ?_) ?_ (hD.same ?_ ?_ ?_ ?_ ?_ ?_) ?_ (fun j hj => ?_)
        · rw [bl_up2_ne (by omega)]; exact hF x hx
        · rw [bl_up2_ne (by omega)]; exact h18
        · rw [bl_up2_ne (by omega)]
        · rw [bl_up2_ne (by omega)]
        · rw [bl_up2_ne (by omega)]
        · rw [bl_up2_ne (by omega)]
        · rw [bl_up2_ne (by omega)]
        · rw [bl_up2_ne (by omega)]
        · rw [bl_up2_ne (by omega)]; exact h14
        · by_cases e : j = i
          · subst e; rw [bl_up2_at]; rfl
          · rw [bl_up2_nk e]; exact hC j (by omega)
  have L1 : ∀ r, r ≤ n → ∀ z I1, z = nI r → fdF I I1 q → I1 q 18 = 1 → I1 q 12 = nI n → (∀ j, j < r → fdR I1 q (bdD n rcs) j) → I1 q 16 = nI (smf (bdD n rcs).2.1 r) → I1 q 14 = nI (smf (fun r => wrc (bdD n rcs) r ((bdD n rcs).2.1 r)) r) → bl_WP G l (d + 30) mX0_find 34 [(3, .int z), (0, .ref q), (1, .ref v)] [] (I1, J, R, K, N) (0, 0) (fun o σ' => o = .inl none ∧ ∃ I', σ' = (I', J, R, K, N) ∧ fdF I I' q ∧ I' q 18 = 1 ∧ bnR I' q n rcs) := by
    refine bl_for n ?_ (fun r hr ih => ?_)
    · intro z I1 hz hF h18 h12 hrow h16 h14; subst hz
      refine bl_go oX0_find 80 [34, 74] rfl ?_
      refine ⟨kq, fun h39 => ?_, fun h39 => ?_⟩
      · try simp (disch := omega) only [h12, h16, zI_n, zI_o, zI_lit, zI_neg, zI_add, zI_sub, zI_mul, zI_lt, zI_le, zI_eq, zI_clamp, zI_in, zI_div, zI_rem, lg_lt0, lg_gt0, lg_eq0, lg_le0, lg_ge0, Int.toNat_natCast, ge_iff_le, gt_iff_lt, List.length_cons, List.length_nil, bl_up2_at, bl_up2_nk, bl_up2_nx] at h39
        first
        | (exfalso; first | omega | exact h39 trivial)
        | (refine ⟨kq, fun h68 => ?_, fun h68 => ?_⟩
           · try simp (disch := omega) only [h12, h16, zI_n, zI_o, zI_lit, zI_neg, zI_add, zI_sub, zI_mul, zI_lt, zI_le, zI_eq, zI_clamp, zI_in, zI_div, zI_rem, lg_lt0, lg_gt0, lg_eq0, lg_le0, lg_ge0, Int.toNat_natCast, ge_iff_le, gt_iff_lt, List.length_cons, List.length_nil, bl_up2_at, bl_up2_nk, bl_up2_nx] at h68
             first
             | (exfalso; first | omega | exact h68 trivial)
             | (refine bl_lv [0, 1] rfl ?_
                try dsimp only [bl_pv]
                exact L2 (by show smf (bdD n rcs).2.1 n ≤ 12; omega) 0 (by omega) _ I1 rfl hF h18 ⟨h12, hn, h16, (by show smf (bdD n rcs).2.1 n ≤ 12; omega), hrow⟩ h14 (fun j hj => absurd hj (by omega)))
           · try simp (disch := omega) only [h12, h16, zI_n, zI_o, zI_lit, zI_neg, zI_add, zI_sub, zI_mul, zI_lt, zI_le, zI_eq, zI_clamp, zI_in, zI_div, zI_rem, lg_lt0, lg_gt0, lg_eq0, lg_le0, lg_ge0, Int.toNat_natCast, ge_iff_le, gt_iff_lt, List.length_cons, List.length_nil, bl_up2_at, bl_up2_nk, bl_up2_nx] at h68
             first
             | (exfalso; first | omega | exact h68 trivial)
             | (try show _ ∧ _
                try dsimp only [bl_pv]
                exact ⟨rfl, I1, rfl, hF, h18, h16, fun h => absurd h (by show ¬ smf (bdD n rcs).2.1 n ≤ 12; omega)⟩))
      · try simp (disch := omega) only [h12, h16, zI_n, zI_o, zI_lit, zI_neg, zI_add, zI_sub, zI_mul, zI_lt, zI_le, zI_eq, zI_clamp, zI_in, zI_div, zI_rem, lg_lt0, lg_gt0, lg_eq0, lg_le0, lg_ge0, Int.toNat_natCast, ge_iff_le, gt_iff_lt, List.length_cons, List.length_nil, bl_up2_at, bl_up2_nk, bl_up2_nx] at h39
        exfalso; omega
    · intro z I1 hz hF h18 h12 hrow h16 h14; subst hz
      have ec : (nI r).toNatClampNeg = r := nI_clamp (by omega)
      obtain ⟨r1, r2, r3, r4⟩ := hR r hr
      have hrn : R v (nI r).toNatClampNeg = some (pn r) := by rw [ec]; exact r1
      have hrc1 : rcC I1 (pn r) (rcs r) := by
        unfold rcC
        rw [hF _ (by omega), hF _ (by omega), hF _ (by omega)]; exact r3
      refine bl_go oX0_find 80 [34, 74] rfl ?_
      refine ⟨kq, fun h39 => ?_, fun h39 => ?_⟩
      · try simp (disch := omega) only [h12, zI_n, zI_o, zI_lit, zI_neg, zI_add, zI_sub, zI_mul, zI_lt, zI_le, zI_eq, zI_clamp, zI_in, zI_div, zI_rem, lg_lt0, lg_gt0, lg_eq0, lg_le0, lg_ge0, Int.toNat_natCast, ge_iff_le, gt_iff_lt, List.length_cons, List.length_nil, bl_up2_at, bl_up2_nk, bl_up2_nx] at h39
        exfalso; omega
      · try simp (disch := omega) only [h12, zI_n, zI_o, zI_lit, zI_neg, zI_add, zI_sub, zI_mul, zI_lt, zI_le, zI_eq, zI_clamp, zI_in, zI_div, zI_rem, lg_lt0, lg_gt0, lg_eq0, lg_le0, lg_ge0, Int.toNat_natCast, ge_iff_le, gt_iff_lt, List.length_cons, List.length_nil, bl_up2_at, bl_up2_nk, bl_up2_nx] at h39
        refine ⟨bl_ka kv, (by first | exact (by rw [nv]; exact vp_in_nI (by omega) (by omega)) | ((try dsimp only [bl_pv]); show vp_in _ (N _); rw [nv]; simp (disch := omega) only [h12, zI_n, zI_o, zI_lit, zI_neg, zI_add, zI_sub, zI_mul, zI_lt, zI_le, zI_eq, zI_clamp, zI_in, zI_div, zI_rem, lg_lt0, lg_gt0, lg_eq0, lg_le0, lg_ge0, Int.toNat_natCast, ge_iff_le, gt_iff_lt, List.length_cons, List.length_nil, bl_up2_at, bl_up2_nk, bl_up2_nx] <;> omega)), _, bl_vs (hrn), bl_ka kv, (by first | exact (by rw [nv]; exact vp_in_nI (by omega) (by omega)) | ((try dsimp only [bl_pv]); show vp_in _ (N _); rw [nv]; simp (disch := omega) only [h12, zI_n, zI_o, zI_lit, zI_neg, zI_add, zI_sub, zI_mul, zI_lt, zI_le, zI_eq, zI_clamp, zI_in, zI_div, zI_rem, lg_lt0, lg_gt0, lg_eq0, lg_le0, lg_ge0, Int.toNat_natCast, ge_iff_le, gt_iff_lt, List.length_cons, List.length_nil, bl_up2_at, bl_up2_nk, bl_up2_nx] <;> omega)), _, bl_vs (hrn), rfl, rfl, kq, (Nat.le_of_ble_eq_true rfl), (0, 0), Nat.le_of_ble_eq_true rfl, Nat.le_of_ble_eq_true rfl, bl_MC_mono (c_Bench_partInBlocks (d := d + 28) (D := bdD n rcs) (rc := rcs r) (r := r) hq' r2 r4 hrc1 ⟨rfl, rfl, rfl⟩ (by omega) h14 h16 rfl) (fun o53 σ53 q53 => ?_)⟩
        try dsimp only [bl_pv] at q53
        obtain ⟨rfl, I2, rfl, z1, z2, z3, z4, z5, z6, z7, z8⟩ := q53
        refine bl_go oX0_find 80 [34, 74] rfl ?_
        try dsimp only [bl_pv]
        refine ih _ I2 (nI_1 _) (fun x hx => ?_) ?_ ?_ (fun j hj => ?_) z6 z5
        · rw [z1 x (by omega) (by omega) (by omega) (by omega) (by omega)]; exact hF x hx
        · rw [z2 18 (by omega) (by omega)]; exact h18
        · rw [z2 12 (by omega) (by omega)]; exact h12
        · by_cases e : j = r
          · subst e
            exact ⟨hsz j, z7, fun b hb => (z8 b (Nat.le_of_lt hb)).1, fun b hb => ⟨(z8 b hb).2.1, (z8 b hb).2.2⟩⟩
          · obtain ⟨y1, y2, y3, y4⟩ := hrow j (by omega)
            refine ⟨y1, by rw [z4 j e]; exact y2, fun b hb => ?_, fun b hb => ?_⟩
            · rw [(z3 _ (by omega)).1]; exact y3 b hb
            · rw [(z3 _ (by omega)).2.1, (z3 _ (by omega)).2.2]; exact y4 b hb
  refine bl_go oX0_find 80 [34, 74] rfl ?_
  refine ⟨kq, fun h4 => ?_, fun h4 => ?_⟩
  · try simp (disch := omega) only [bl_pv, cl0, cl1, cl2, cl3, cl4, cl5, cl6, cl7, cl8, cl9, bl_up2_at, bl_up2_nk, bl_up2_nx] at h4
    first
    | (exfalso; first | omega | exact h4 trivial)
    | (refine ⟨kq, Or.inr (Or.inr ⟨rfl, rfl, _, rfl⟩), (fun _ => by first | exact Or.inl rfl | exact Or.inr rfl), (Nat.le_of_ble_eq_true rfl), kq, Or.inr (Or.inr ⟨rfl, rfl, _, rfl⟩), (fun h => by cases h), kq, Or.inr (Or.inr ⟨rfl, rfl, _, rfl⟩), (fun h => by cases h), kq, Or.inr (Or.inr ⟨rfl, rfl, _, rfl⟩), (fun h => by cases h), ?_⟩
       refine bl_lv [0, 1, 2] rfl ?_
       try dsimp only [bl_pv]
       refine L1 0 (by omega) _ _ rfl (fun x hx => ?_) ?_ ?_ (fun j hj => absurd hj (by omega)) ?_ ?_
       · simp (disch := omega) only [bl_up2_ne]
       · simp (disch := omega) only [bl_up2_nk, bl_up2_at]
       · simp (disch := omega) only [bl_up2_nk, bl_up2_at]
         exact (nI_min rfl rfl (show n < _ by omega) (show 4 < _ by omega)).trans (by rw [show min n 4 = n by omega])
       · simp (disch := omega) only [bl_up2_nk, bl_up2_at]; rfl
       · rw [bl_up2_at]; rfl)
  · try simp (disch := omega) only [bl_pv, cl0, cl1, cl2, cl3, cl4, cl5, cl6, cl7, cl8, cl9, bl_up2_at, bl_up2_nk, bl_up2_nx] at h4
    exact absurd hk h4
theorem c_Bench_idleUnits (kq : K q = 1) : bl_MC G l d mX0_idleUnits [.ref q] (I, J, R, K, N) (0, 0) (fun o σ' => o = .inl (some (.int (I q 15 - I q 14))) ∧ σ' = (I, J, R, K, N)) := by
  refine bl_MC_intro (by decide +kernel) rfl (Nat.le_of_ble_eq_true rfl) ?_
  refine bl_go oX0_idleUnits 80 [] rfl ?_
  refine ⟨kq, kq, (fun h => by cases h), ?_⟩
  try show _ ∧ _
  try dsimp only [bl_pv]
  exact ⟨rfl, rfl⟩
end BENCH9
