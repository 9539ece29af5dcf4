/-! ===== Bench: placeNext, placeBlock ===== -/
theorem wrc_le {D : bD} (hD : bDs D) (r : Nat) : ∀ m, wrc D r m ≤ 720 * m
  | 0 => Nat.le_refl _
  | m + 1 => by
    have := wrc_le hD r m
    have := hD.1 r (D.2.1 r - (m + 1))
    show D.2.2.1 r (D.2.1 r - (m + 1)) + wrc D r m ≤ _
    omega
theorem wlb_le {D : bD} {s : bs} (hD : bDs D) (h4 : D.1 ≤ 4) (hz : ∀ r, r < D.1 → D.2.1 r ≤ 20) : wlb D s ≤ 57600 := by
  unfold wlb
  have : ∀ n, n ≤ D.1 → smf (fun r => wrc D r (D.2.1 r - s.1 r)) n ≤ 14400 * n := by
    intro n hn
    induction n with
    | zero => exact Nat.le_refl _
    | succ n ih =>
      have a := ih (by omega)
      have b := wrc_le hD n (D.2.1 n - s.1 n)
      have c := hz n (by omega)
      show smf _ n + wrc D n (D.2.1 n - s.1 n) ≤ _
      omega
  have := this D.1 (Nat.le_refl _)
  omega
theorem nI_subs {a b : Nat} (h : b ≤ a) : nI a - nI b = nI (a - b) := (Int32.ofNat_sub _ _ h).symm
theorem bOk_prt {D : bD} {k k' : Nat} {s s' : bs} (h : bOk D k s) (h' : bOk D k' s') (e : prt D s.1 D.1 = prt D s'.1 D.1) : (∀ r, r < D.1 → s.1 r = s'.1 r) ∧ k = k' := by
  have a := prt_inj h.1 h'.1 e
  refine ⟨a, ?_⟩
  rw [← h.2, ← h'.2]
  exact Nat.le_antisymm (smf_le (fun r hr => by rw [a r hr]; exact Nat.le_refl _)) (smf_le (fun r hr => by rw [a r hr]; exact Nat.le_refl _))
theorem bnC.mono {I : Nat → Nat → Int32} {q c c' : Nat} (h : bnC I q c) (hc : c ≤ c') : bnC I q c' := fun p hp => by
  obtain ⟨x, x1, x2⟩ := h p hp
  exact ⟨x, x1, by omega⟩
section BENCH4
variable {G : bl_G} {l : Launch} {d q T : Nat} {J : Nat → Nat → Int64} {R : Nat → Nat → Option Nat} {K N : Nat → Nat} {D : bD}
theorem c_Bench_placeBlock {k n r : Nat} {s : bs} {p a : Nat → Int32} {b : bB} {c : Nat} {I : Nat → Nat → Int32} {x y z : Int32} (hq : bnS R K N q) (hDs : bDs D)
    (hN : ∀ (s : bs) (p a : Nat → Int32) (b : bB) (c : Nat) (I : Nat → Nat → Int32) (x y : Int32), n + 1 + k = T → bOk D k s → bSm D k s → bnI I q D T (n + 1) s p a b c → b.1 ≤ 1000000 → c + cNN k < 2000000000 → x = nI (n + 1) → y = nI s.2.2 → bl_MC G l (d + 2 * k + 5) mX0_placeNext [.ref q, .int x, .int y] (I, J, R, K, N) (0, 0) (fun o σ' => o = .inl none ∧ ∃ I', σ' = (I', J, R, K, N) ∧ bnF I I' q ∧ bnK I I' q D T (n + 1) ∧ bnI I' q D T (n + 1) s p a (srch D k (n + 1) s p a b) (c + cNN k)))
    (hn : n + (k + 1) = T) (hk : bOk D (k + 1) s) (hs : bSm D (k + 1) s) (hI : bnI I q D T n s p a b c) (hb : b.1 ≤ 1000000) (hc : c + 1 + cNN k < 2000000000) (hx : x = nI n) (hy : y = nI s.2.2) (hz : z = nI r) (hr : r < D.1) (hrn : s.1 r < D.2.1 r) :
    bl_MC G l (d + 2 * k + 6) mX0_placeBlock [.ref q, .int x, .int y, .int z] (I, J, R, K, N) (0, 0) (fun o σ' => o = .inl none ∧ ∃ I', σ' = (I', J, R, K, N) ∧ bnF I I' q ∧ bnK I I' q D T n ∧ bnI I' q D T n s p a (srch D k (n + 1) (pl D s r) (up1 p n (nI r)) (up1 a n (nI (bbg s r))) b) (c + 1 + cNN k)) := by
  have hq' := hq
  obtain ⟨hq0, kq, ⟨rq_0, rq_1, rq_2, rq_3, rq_4, rq_5, rq_6, rq_7, rq_8, rq_9, rq_10, rq_11⟩, ⟨kq1, kq2, kq3, kq4, kq5, kq6, kq7, kq8, kq9, kq10, kq11, kq12⟩, ⟨nq1, nq2, nq3, nq4, nq5, nq6, nq7, nq8, nq9, nq10, nq11, nq12⟩⟩ := hq
  obtain ⟨hD, hT, hw, hp, hB, hV, hC⟩ := hI
  have h12 := hD.1
  have h4 := hD.2.1
  have hT12 := hD.2.2.2.1
  obtain ⟨g1, g2, g3, g4⟩ := hD.2.2.2.2 r hr
  obtain ⟨t1, t2⟩ := hT r hr
  have hk' := bOk_pl hk hr hrn
  have hs' := bSm_pl hDs hs hr
  have hb3 := (bSm_k hs').2
  have hb4 := (bSm_k hs).1 r hr
  have hb5 := (bSm_k hs).2
  have hwl := wlb_pl (s := s) hr hrn
  have hwb := wlb_le (s := s) hDs h4 (fun r hr => (hD.2.2.2.2 r hr).1)
  have hsr := hk.1 r hr
  have u1 := hDs.1 r (s.1 r)
  have u2 := hDs.2 r (s.1 r + 1)
  have ebg : bbg s r ≤ 30000 := by unfold bbg; omega
  have e2 : (pl D s r).2.2 = bbg s r + D.2.2.1 r (s.1 r) := rfl
  have e3 : (pl D s r).1 r = s.1 r + 1 := up1_at
  have e4 : (pl D s r).2.1 r = bbg s r + D.2.2.1 r (s.1 r) + D.2.2.2 r (s.1 r + 1) := up1_at
  have e5 : ∀ j, j ≠ r → (pl D s r).1 j = s.1 j := fun j hj => up1_ne hj
  have e6 : ∀ j, j ≠ r → (pl D s r).2.1 j = s.2.1 j := fun j hj => up1_ne hj
  generalize hb' : srch D k (n + 1) (pl D s r) (up1 p n (nI r)) (up1 a n (nI (bbg s r))) b = b'
  have hbv : b'.1 = min b.1 (mnb D k (pl D s r)) := by rw [← hb']; exact srch_v k (n + 1) _ _ _ b (by omega)
  have ecr : (nI r).toNatClampNeg = r := nI_clamp (by omega)
  have ecp : (nI (r * 22 + s.1 r)).toNatClampNeg = r * 22 + s.1 r := nI_clamp (by omega)
  have ecn : (nI n).toNatClampNeg = n := nI_clamp (by omega)
  subst hx hy hz
  clear hs
  refine bl_MC_intro (by decide +kernel) rfl (Nat.le_of_ble_eq_true rfl) ?_
  have L131 : ∀ I2 v4 v5, v4 = nI (r * 22 + s.1 r) → v5 = nI (s.2.1 r) → bnT I2 q D (pl D s r) → I2 q 13 = nI (wlb D (pl D s r)) → (∀ i, i < n → I2 (q + 7) i = p i ∧ I2 (q + 8) i = a i) → bnB I2 q T b' → bnV I2 q D T n b'.1 → bnC I2 q (c + 1 + cNN k) → bnF I I2 q → bnK I I2 q D T n → bl_WP G l (d + 2 * k + 6) mX0_placeBlock 131 [(5, .int v5), (4, .int v4), (0, .ref q), (3, .int (nI r))] [] (I2, J, R, K, N) (0, 0) (fun o σ' => o = .inl none ∧ ∃ I', σ' = (I', J, R, K, N) ∧ bnF I I' q ∧ bnK I I' q D T n ∧ bnI I' q D T n s p a b' (c + 1 + cNN k)) := by
    intro I2 v4 v5 hv4 hv5 f1 f2 f3 f4 f5 f6 f7 f8
    subst hv4 hv5
    have hD2 := hD.f f7
    obtain ⟨-, -, g3', -⟩ := hD2.2.2.2.2 r hr
    have fr := f1 r hr
    rw [e3] at fr
    refine bl_go oX0_placeBlock 80 [85, 131] rfl ?_
    refine ⟨rfl, kq, kq, _, bl_vs rq_0, Or.inl ⟨kq1, (by (try dsimp only [bl_pv]); show vp_in _ (N _); rw [nq1]; exact vp_in_nI (by omega) (by omega)), kq, Or.inr (Or.inr ⟨rfl, rfl, _, rfl⟩), (fun h => by cases h), kq, _, bl_vs rq_5, kq6, (by first | exact (by rw [nq6]; exact vp_in_nI (by omega) (by omega)) | ((try dsimp only [bl_pv]); show vp_in _ (N _); rw [nq6]; simp (disch := omega) only [zI_n, zI_o, zI_lit, zI_neg, zI_add, zI_sub, zI_mul, zI_lt, zI_le, zI_eq, zI_clamp, zI_in, zI_div, zI_rem, lg_lt0, lg_gt0, lg_eq0, lg_le0, lg_ge0, Int.toNat_natCast, ge_iff_le, gt_iff_lt, List.length_cons, List.length_nil, bl_up2_at, bl_up2_nk, bl_up2_nx] <;> omega)), kq, _, bl_vs rq_4, ⟨rfl, rfl⟩, Or.inl ⟨kq5, (by first | exact (by rw [nq5]; exact vp_in_nI (by omega) (by omega)) | ((try dsimp only [bl_pv]); show vp_in _ (N _); rw [nq5]; simp (disch := omega) only [zI_n, zI_o, zI_lit, zI_neg, zI_add, zI_sub, zI_mul, zI_lt, zI_le, zI_eq, zI_clamp, zI_in, zI_div, zI_rem, lg_lt0, lg_gt0, lg_eq0, lg_le0, lg_ge0, Int.toNat_natCast, ge_iff_le, gt_iff_lt, List.length_cons, List.length_nil, bl_up2_at, bl_up2_nk, bl_up2_nx] <;> omega)), kq5, (by first | exact (by rw [nq5]; exact vp_in_nI (by omega) (by omega)) | ((try dsimp only [bl_pv]); show vp_in _ (N _); rw [nq5]; simp (disch := omega) only [zI_n, zI_o, zI_lit, zI_neg, zI_add, zI_sub, zI_mul, zI_lt, zI_le, zI_eq, zI_clamp, zI_in, zI_div, zI_rem, lg_lt0, lg_gt0, lg_eq0, lg_le0, lg_ge0, Int.toNat_natCast, ge_iff_le, gt_iff_lt, List.length_cons, List.length_nil, bl_up2_at, bl_up2_nk, bl_up2_nx] <;> omega)), ?_⟩⟩⟩
    try show _ ∧ _
    try dsimp only [bl_pv]
    have hu : I2 (q + 1) (r * 22 + s.1 r) = nI (D.2.2.1 r (s.1 r)) := g3' _ hrn
    refine ⟨rfl, _, rfl, ⟨fun x hx => ?_, fun j j1 j2 j3 => ?_⟩, fun k1 s1 hk1 ho1 hp1 => ?_, ?_⟩
    · rw [bl_up2_ne (by omega), bl_up2_ne (by omega), bl_up2_ne (by omega)]; exact f7.1 x hx
    · rw [bl_up2_ne (by omega), bl_up2_ne (by omega), bl_up2_nk j1]; exact f7.2 j j1 j2 j3
    · rw [bl_up2_ne (by omega), bl_up2_ne (by omega), bl_up2_ne (by omega)]
      obtain ⟨k2, k3⟩ := f8 k1 s1 hk1 ho1 hp1
      refine ⟨k2, fun i hi r' hr' => ?_⟩
      rw [bl_up2_ne (by omega), bl_up2_ne (by omega), bl_up2_ne (by omega)]; exact k3 i hi r' hr'
    · refine ⟨hD2.same ?_ ?_ ?_ ?_ ?_ ?_, ?_, ?_, ?_, ⟨?_, ?_, ?_⟩, f5.same ?_ ?_, ?_⟩
      · rw [bl_up2_ne (by omega), bl_up2_ne (by omega), bl_up2_nk (by omega)]
      · rw [bl_up2_ne (by omega), bl_up2_ne (by omega), bl_up2_nk (by omega)]
      · rw [bl_up2_ne (by omega), bl_up2_ne (by omega), bl_up2_ne (by omega)]
      · rw [bl_up2_ne (by omega), bl_up2_ne (by omega), bl_up2_ne (by omega)]
      · rw [bl_up2_ne (by omega), bl_up2_ne (by omega), bl_up2_ne (by omega)]
      · rw [bl_up2_ne (by omega), bl_up2_ne (by omega), bl_up2_ne (by omega)]
      · intro j hj
        rw [ecr, bl_up2_ne (show q + 6 ≠ q + 5 by omega)]
        by_cases e : j = r
        · subst e
          rw [bl_up2_at, bl_up2_at, bl_up2_ne (show q + 5 ≠ q + 6 by omega), bl_up2_ne (show q + 5 ≠ q by omega), fr.1]
          exact ⟨by rw [show (1 : Int32) = nI 1 from rfl, nI_subs (by omega)]; rfl, rfl⟩
        · rw [bl_up2_nk e, bl_up2_nk e, bl_up2_nk e, bl_up2_ne (show q + 5 ≠ q by omega), bl_up2_ne (show q + 6 ≠ q by omega)]
          have := f1 j hj
          rw [e5 j e, e6 j e] at this; exact this
      · rw [bl_up2_ne (by omega), bl_up2_ne (by omega), bl_up2_at, f2, ecp, hu, nI_add, hwl]
      · intro i hi
        rw [bl_up2_ne (by omega), bl_up2_ne (by omega), bl_up2_ne (by omega), bl_up2_ne (by omega), bl_up2_ne (by omega), bl_up2_ne (by omega)]; exact f3 i hi
      · rw [bl_up2_ne (by omega), bl_up2_ne (by omega), bl_up2_nk (by omega)]; exact f4.1
      · rw [bl_up2_ne (by omega), bl_up2_ne (by omega), bl_up2_nk (by omega)]; exact f4.2.1
      · intro i hi
        rw [bl_up2_ne (by omega), bl_up2_ne (by omega), bl_up2_ne (by omega), bl_up2_ne (by omega), bl_up2_ne (by omega), bl_up2_ne (by omega)]; exact f4.2.2 i hi
      · rw [bl_up2_ne (by omega), bl_up2_ne (by omega), bl_up2_ne (by omega)]
      · rw [bl_up2_ne (by omega), bl_up2_ne (by omega), bl_up2_ne (by omega)]
      · unfold bnC; rw [bl_up2_ne (by omega), bl_up2_ne (by omega), bl_up2_ne (by omega)]; exact f6
  have L85 : ∀ I1 v4 v5 v6 v7, v4 = nI (r * 22 + s.1 r) → v5 = nI (s.2.1 r) → v6 = nI (bbg s r) → v7 = nI (pl D s r).2.2 → bnT I1 q D (pl D s r) → I1 q 13 = nI (wlb D (pl D s r)) → (∀ x, x ≠ q → x ≠ q + 5 → x ≠ q + 6 → I1 x = I x) → (∀ j, j ≠ 13 → I1 q j = I q j) → bl_WP G l (d + 2 * k + 6) mX0_placeBlock 85 [(7, .int v7), (6, .int v6), (5, .int v5), (4, .int v4), (0, .ref q), (1, .int (nI n)), (3, .int (nI r))] [] (I1, J, R, K, N) (0, 0) (fun o σ' => o = .inl none ∧ ∃ I', σ' = (I', J, R, K, N) ∧ bnF I I' q ∧ bnK I I' q D T n ∧ bnI I' q D T n s p a b' (c + 1 + cNN k)) := by
    intro I1 v4 v5 v6 v7 hv4 hv5 hv6 hv7 hT1 hw1 f1 f2
    subst hv4 hv5 hv6 hv7
    have hF1 : bnF I I1 q := ⟨fun x hx => f1 x (by omega) (by omega) (by omega), fun j j1 _ _ => f2 j j1⟩
    have hD1 := hD.f hF1
    have hp1 : ∀ i, i < n → I1 (q + 7) i = p i ∧ I1 (q + 8) i = a i := fun i hi => by
      rw [f1 _ (by omega) (by omega) (by omega), f1 _ (by omega) (by omega) (by omega)]; exact hp i hi
    have hB1 : bnB I1 q T b := by
      refine ⟨(f2 17 (by omega)).trans hB.1, (f2 15 (by omega)).trans hB.2.1, fun i hi => ?_⟩
      rw [f1 _ (by omega) (by omega) (by omega), f1 _ (by omega) (by omega) (by omega)]; exact hB.2.2 i hi
    have hV1 : bnV I1 q D T n b.1 := hV.same (f1 _ (by omega) (by omega) (by omega)) (f1 _ (by omega) (by omega) (by omega))
    have hC1 : bnC I1 q c := by unfold bnC; rw [f1 _ (by omega) (by omega) (by omega)]; exact hC
    have hK1 : bnK I I1 q D T n := fun _ _ _ _ _ => ⟨by rw [f1 _ (by omega) (by omega) (by omega)], fun _ _ _ _ => by rw [f1 _ (by omega) (by omega) (by omega)]⟩
    have hb17 := hB1.1
    have hld := ldn_le hDs hk' hs'
    have hmsm := mnb_sm hDs k _ hk' hs'
    have hns : ¬ b.1 ≤ mnb D k (pl D s r) ∨ b' = b := by
      by_cases h : b.1 ≤ mnb D k (pl D s r)
      · exact Or.inr (hb' ▸ srch_p k (n + 1) _ _ _ b h)
      · exact Or.inl h
    have hdone : b.1 ≤ mnb D k (pl D s r) → bl_WP G l (d + 2 * k + 6) mX0_placeBlock 131 [(5, .int (nI (s.2.1 r))), (4, .int (nI (r * 22 + s.1 r))), (0, .ref q), (3, .int (nI r))] [] (I1, J, R, K, N) (0, 0) (fun o σ' => o = .inl none ∧ ∃ I', σ' = (I', J, R, K, N) ∧ bnF I I' q ∧ bnK I I' q D T n ∧ bnI I' q D T n s p a b' (c + 1 + cNN k)) := by
      intro h
      have e : b' = b := hb' ▸ srch_p k (n + 1) _ _ _ b h
      refine L131 I1 _ _ rfl rfl hT1 hw1 hp1 (by rw [e]; exact hB1) (by rw [e]; exact hV1) (hC1.mono (by omega)) hF1 hK1
    refine bl_go oX0_placeBlock 80 [85, 131] rfl ?_
    refine ⟨rfl, rfl, kq, (Nat.le_of_ble_eq_true rfl), (0, 0), Nat.le_of_ble_eq_true rfl, Nat.le_of_ble_eq_true rfl, bl_MC_mono (c_Bench_leastDone (d := d + 2 * k + 4) hq' hD1 hDs hT1 hk' hs' rfl hw1 (by omega)) (fun o88 σ88 q88 => ?_)⟩
    try dsimp only [bl_pv] at q88
    obtain ⟨rfl, rfl⟩ := q88
    refine bl_go oX0_placeBlock 80 [85, 131] rfl ?_
    refine ⟨kq, fun h95 => ?_, fun h95 => ?_⟩
    · try simp (disch := omega) only [hb17, zI_n, zI_o, zI_lit, zI_neg, zI_add, zI_sub, zI_mul, zI_lt, zI_le, zI_eq, zI_clamp, zI_in, zI_div, zI_rem, lg_lt0, lg_gt0, lg_eq0, lg_le0, lg_ge0, Int.toNat_natCast, ge_iff_le, gt_iff_lt, List.length_cons, List.length_nil, bl_up2_at, bl_up2_nk, bl_up2_nx] at h95
      refine bl_lv [2, 3, 4, 6] rfl ?_
      try dsimp only [bl_pv]
      first
      | (have hq4 := hK4
         refine L131 I4 _ _ rfl rfl hT4 hw4 (fun i hi => ?_) hB4 ?_ hC4 (hF1.trans (hF2.trans (bnF.trans ⟨fun x hx => by rw [bl_up2_ne (by omega), bl_up2_ne (by omega)], fun j _ _ _ => by rw [bl_up2_ne (by omega), bl_up2_ne (by omega)]⟩ hF4))) ?_
         · have := hp4 i (by omega)
           rw [up1_ne (by omega), up1_ne (by omega)] at this; exact this
         · intro k1 s1 h1 h2 h3 h4' i hi c1 hc1 hI1 hic hle
           by_cases hd : k1 + (n + 1) < T
           · exact hV4 k1 s1 hd h2 h3 h4' i hi c1 hc1 hI1 hic hle
           · obtain ⟨z1, z2⟩ := hK4 k1 s1 (by omega) h2 h4'
             rw [bl_up2_ne (by omega), bl_up2_ne (by omega)] at z1
             rw [z1] at hI1
             have hle' : ∀ r', r' < D.1 → I2 (q + 9) ((prt D s1.1 D.1 * 2 + i) * 4 + r') ≤ nI (cgo D s1 r') := fun r' hr' => by
               have := hle r' hr'
               rw [z2 i hi r' hr', bl_up2_ne (by omega), bl_up2_ne (by omega)] at this; exact this
             rcases o4 _ h4' i hi c1 hc1 hI1 hic with ⟨e, x5⟩ | ⟨c2, x2, x3, x4, x5⟩
             · obtain ⟨y1, y2⟩ := bOk_prt h2 hk' e
               subst y2
               have hdm := mnb_dom hDs k1 (pl D s r) s1 hk' hs' h2 h3 (fun r' hr' => (y1 r' hr').symm) (fun r' hr' => by
                 have w1 := hle' r' hr'
                 rw [x5 r' hr'] at w1
                 have w2 := cgo_le hs' hr'
                 have w3 := cgo_le h3 hr'
                 rw [zI_n, zI_n, zI_le (by omega) (by omega) (by omega) (by omega)] at w1
                 omega)
               omega
             · have := hV1 k1 s1 (by omega) h2 h3 h4' i hi c2 x2 x3 x4 (fun r' hr' => by rw [← x5 r' hr']; exact hle' r' hr')
               omega
         · refine (hK1.trans hK2 (Nat.le_refl _)).trans (m := n + 1) (fun k1 s1 h1 h2 h3 => ?_) (by omega)
           obtain ⟨z1, z2⟩ := hK4 k1 s1 h1 h2 h3
           rw [bl_up2_ne (by omega), bl_up2_ne (by omega)] at z1
           refine ⟨z1, fun i hi r' hr' => ?_⟩
           have := z2 i hi r' hr'
           rw [bl_up2_ne (by omega), bl_up2_ne (by omega)] at this; exact this)
      | exact hdone (by omega)
      | exact hdone (hV1 k (pl D s r) (by omega) hk' hs' o2 i1 o3 x1 o4 o5 o6 o7)
    · try simp (disch := omega) only [hb17, zI_n, zI_o, zI_lit, zI_neg, zI_add, zI_sub, zI_mul, zI_lt, zI_le, zI_eq, zI_clamp, zI_in, zI_div, zI_rem, lg_lt0, lg_gt0, lg_eq0, lg_le0, lg_ge0, Int.toNat_natCast, ge_iff_le, gt_iff_lt, List.length_cons, List.length_nil, bl_up2_at, bl_up2_nk, bl_up2_nx] at h95
      refine ⟨rfl, rfl, kq, (Nat.le_of_ble_eq_true rfl), (0, 0), Nat.le_of_ble_eq_true rfl, Nat.le_of_ble_eq_true rfl, bl_MC_mono (c_Bench_outdone (d := d + 2 * k + 3) hq' hD1 hT1 hk' hs' rfl hC1 (by omega)) (fun o101 σ101 q101 => ?_)⟩
      rcases q101 with ⟨i1, x1, rfl, rfl, o2, o3, o4, o5, o6, o7⟩ | ⟨I2, rfl, rfl, o2, o3, o4, o5⟩
      · refine bl_go oX0_placeBlock 80 [85, 131] rfl ?_
        refine ⟨fun h104 => ?_, fun h104 => ?_⟩
        · try simp (disch := omega) only [hb17, zI_n, zI_o, zI_lit, zI_neg, zI_add, zI_sub, zI_mul, zI_lt, zI_le, zI_eq, zI_clamp, zI_in, zI_div, zI_rem, lg_lt0, lg_gt0, lg_eq0, lg_le0, lg_ge0, Int.toNat_natCast, ge_iff_le, gt_iff_lt, List.length_cons, List.length_nil, bl_up2_at, bl_up2_nk, bl_up2_nx] at h104
          first
          | (exfalso; first | omega | exact h104 trivial)
          | (refine bl_lv [2, 3, 4, 6] rfl ?_
             try dsimp only [bl_pv]
             first
             | (have hq4 := hK4
                refine L131 I4 _ _ rfl rfl hT4 hw4 (fun i hi => ?_) hB4 ?_ hC4 (hF1.trans (hF2.trans (bnF.trans ⟨fun x hx => by rw [bl_up2_ne (by omega), bl_up2_ne (by omega)], fun j _ _ _ => by rw [bl_up2_ne (by omega), bl_up2_ne (by omega)]⟩ hF4))) ?_
                · have := hp4 i (by omega)
                  rw [up1_ne (by omega), up1_ne (by omega)] at this; exact this
                · intro k1 s1 h1 h2 h3 h4' i hi c1 hc1 hI1 hic hle
                  by_cases hd : k1 + (n + 1) < T
                  · exact hV4 k1 s1 hd h2 h3 h4' i hi c1 hc1 hI1 hic hle
                  · obtain ⟨z1, z2⟩ := hK4 k1 s1 (by omega) h2 h4'
                    rw [bl_up2_ne (by omega), bl_up2_ne (by omega)] at z1
                    rw [z1] at hI1
                    have hle' : ∀ r', r' < D.1 → I2 (q + 9) ((prt D s1.1 D.1 * 2 + i) * 4 + r') ≤ nI (cgo D s1 r') := fun r' hr' => by
                      have := hle r' hr'
                      rw [z2 i hi r' hr', bl_up2_ne (by omega), bl_up2_ne (by omega)] at this; exact this
                    rcases o4 _ h4' i hi c1 hc1 hI1 hic with ⟨e, x5⟩ | ⟨c2, x2, x3, x4, x5⟩
                    · obtain ⟨y1, y2⟩ := bOk_prt h2 hk' e
                      subst y2
                      have hdm := mnb_dom hDs k1 (pl D s r) s1 hk' hs' h2 h3 (fun r' hr' => (y1 r' hr').symm) (fun r' hr' => by
                        have w1 := hle' r' hr'
                        rw [x5 r' hr'] at w1
                        have w2 := cgo_le hs' hr'
                        have w3 := cgo_le h3 hr'
                        rw [zI_n, zI_n, zI_le (by omega) (by omega) (by omega) (by omega)] at w1
                        omega)
                      omega
                    · have := hV1 k1 s1 (by omega) h2 h3 h4' i hi c2 x2 x3 x4 (fun r' hr' => by rw [← x5 r' hr']; exact hle' r' hr')
                      omega
                · refine (hK1.trans hK2 (Nat.le_refl _)).trans (m := n + 1) (fun k1 s1 h1 h2 h3 => ?_) (by omega)
                  obtain ⟨z1, z2⟩ := hK4 k1 s1 h1 h2 h3
                  rw [bl_up2_ne (by omega), bl_up2_ne (by omega)] at z1
                  refine ⟨z1, fun i hi r' hr' => ?_⟩
                  have := z2 i hi r' hr'
                  rw [bl_up2_ne (by omega), bl_up2_ne (by omega)] at this; exact this)
             | exact hdone (by omega)
             | exact hdone (hV1 k (pl D s r) (by omega) hk' hs' o2 i1 o3 x1 o4 o5 o6 o7))
        · try simp (disch := omega) only [hb17, zI_n, zI_o, zI_lit, zI_neg, zI_add, zI_sub, zI_mul, zI_lt, zI_le, zI_eq, zI_clamp, zI_in, zI_div, zI_rem, lg_lt0, lg_gt0, lg_eq0, lg_le0, lg_ge0, Int.toNat_natCast, ge_iff_le, gt_iff_lt, List.length_cons, List.length_nil, bl_up2_at, bl_up2_nk, bl_up2_nx] at h104
          first
          | (exfalso; first | omega | exact h104 trivial)
          | (have hpp : ∀ i, i < n + 1 → (bl_up2 (bl_up2 I2 (q + 7) n (nI r)) (q + 8) n (nI (bbg s r))) (q + 7) i = up1 p n (nI r) i ∧ (bl_up2 (bl_up2 I2 (q + 7) n (nI r)) (q + 8) n (nI (bbg s r))) (q + 8) i = up1 a n (nI (bbg s r)) i := by
               intro i hi
               rw [bl_up2_ne (show q + 7 ≠ q + 8 by omega)]
               by_cases e : i = n
               · subst e; rw [bl_up2_at, bl_up2_at, up1_at, up1_at]; exact ⟨rfl, rfl⟩
               · rw [bl_up2_nk e, bl_up2_nk e, up1_ne e, up1_ne e, bl_up2_ne (show q + 8 ≠ q + 7 by omega), o2 _ (by omega) (by omega), o2 _ (by omega) (by omega)]
                 exact hp1 i (by omega)
             have hBB : bnB (bl_up2 (bl_up2 I2 (q + 7) n (nI r)) (q + 8) n (nI (bbg s r))) q T b := by
               refine ⟨?_, ?_, fun i hi => ?_⟩
               · rw [bl_up2_ne (by omega), bl_up2_ne (by omega), o2 _ (by omega) (by omega)]; exact hB1.1
               · rw [bl_up2_ne (by omega), bl_up2_ne (by omega), o2 _ (by omega) (by omega)]; exact hB1.2.1
               · rw [bl_up2_ne (by omega), bl_up2_ne (by omega), bl_up2_ne (by omega), bl_up2_ne (by omega), o2 _ (by omega) (by omega), o2 _ (by omega) (by omega)]; exact hB1.2.2 i hi
             have hVV : bnV (bl_up2 (bl_up2 I2 (q + 7) n (nI r)) (q + 8) n (nI (bbg s r))) q D T (n + 1) b.1 := by
               intro k1 s1 h1 h2 h3 h4' i hi c1 hc1 hI1 hic hle
               rw [bl_up2_ne (by omega), bl_up2_ne (by omega)] at hI1
               have hle' : ∀ r', r' < D.1 → I2 (q + 9) ((prt D s1.1 D.1 * 2 + i) * 4 + r') ≤ nI (cgo D s1 r') := fun r' hr' => by
                 have := hle r' hr'
                 rw [bl_up2_ne (by omega), bl_up2_ne (by omega)] at this; exact this
               rcases o4 _ h4' i hi c1 hc1 hI1 hic with ⟨e, -⟩ | ⟨c2, x2, x3, x4, x5⟩
               · have := (bOk_prt h2 hk' e).2
                 omega
               · exact hV1 k1 s1 (by omega) h2 h3 h4' i hi c2 x2 x3 x4 (fun r' hr' => by rw [← x5 r' hr']; exact hle' r' hr')
             refine ⟨kq, _, bl_vs rq_6, kq7, (by first | exact (by rw [nq7]; exact vp_in_nI (by omega) (by omega)) | ((try dsimp only [bl_pv]); show vp_in _ (N _); rw [nq7]; simp (disch := omega) only [hb17, zI_n, zI_o, zI_lit, zI_neg, zI_add, zI_sub, zI_mul, zI_lt, zI_le, zI_eq, zI_clamp, zI_in, zI_div, zI_rem, lg_lt0, lg_gt0, lg_eq0, lg_le0, lg_ge0, Int.toNat_natCast, ge_iff_le, gt_iff_lt, List.length_cons, List.length_nil, bl_up2_at, bl_up2_nk, bl_up2_nx] <;> omega)), kq, _, bl_vs rq_7, kq8, (by first | exact (by rw [nq8]; exact vp_in_nI (by omega) (by omega)) | ((try dsimp only [bl_pv]); show vp_in _ (N _); rw [nq8]; simp (disch := omega) only [hb17, zI_n, zI_o, zI_lit, zI_neg, zI_add, zI_sub, zI_mul, zI_lt, zI_le, zI_eq, zI_clamp, zI_in, zI_div, zI_rem, lg_lt0, lg_gt0, lg_eq0, lg_le0, lg_ge0, Int.toNat_natCast, ge_iff_le, gt_iff_lt, List.length_cons, List.length_nil, bl_up2_at, bl_up2_nk, bl_up2_nx] <;> omega)), ?_⟩
             rw [ecn]
             refine ⟨rfl, rfl, kq, (Nat.le_of_ble_eq_true rfl), (0, 0), Nat.le_of_ble_eq_true rfl, Nat.le_of_ble_eq_true rfl, bl_MC_mono (hN (pl D s r) (up1 p n (nI r)) (up1 a n (nI (bbg s r))) b (c + 1) (bl_up2 (bl_up2 I2 (q + 7) n (nI r)) (q + 8) n (nI (bbg s r))) _ _ (by omega) hk' hs' ⟨(hD1.f hF2).same (by rw [bl_up2_ne (by omega), bl_up2_ne (by omega)]) (by rw [bl_up2_ne (by omega), bl_up2_ne (by omega)]) (by rw [bl_up2_ne (by omega), bl_up2_ne (by omega)]) (by rw [bl_up2_ne (by omega), bl_up2_ne (by omega)]) (by rw [bl_up2_ne (by omega), bl_up2_ne (by omega)]) (by rw [bl_up2_ne (by omega), bl_up2_ne (by omega)]), hT1.same (by rw [bl_up2_ne (by omega), bl_up2_ne (by omega)]; exact o2 _ (by omega) (by omega)) (by rw [bl_up2_ne (by omega), bl_up2_ne (by omega)]; exact o2 _ (by omega) (by omega)), by rw [bl_up2_ne (by omega), bl_up2_ne (by omega), o2 _ (by omega) (by omega)]; exact hw1, hpp, hBB, hVV, by unfold bnC; rw [bl_up2_ne (by omega), bl_up2_ne (by omega)]; exact o3⟩ hb (by omega) (nI_1 n) rfl) (fun o128 σ128 q128 => ?_)⟩
             try dsimp only [bl_pv] at q128
             obtain ⟨rfl, I4, rfl, hF4, hK4, hD4, hT4, hw4, hp4, hB4, hV4, hC4⟩ := q128
             rw [hb'] at hB4 hV4
             refine bl_lv [2, 3, 4, 6] rfl ?_
             try dsimp only [bl_pv]
             first
             | (have hq4 := hK4
                refine L131 I4 _ _ rfl rfl hT4 hw4 (fun i hi => ?_) hB4 ?_ hC4 (hF1.trans (hF2.trans (bnF.trans ⟨fun x hx => by rw [bl_up2_ne (by omega), bl_up2_ne (by omega)], fun j _ _ _ => by rw [bl_up2_ne (by omega), bl_up2_ne (by omega)]⟩ hF4))) ?_
                · have := hp4 i (by omega)
                  rw [up1_ne (by omega), up1_ne (by omega)] at this; exact this
                · intro k1 s1 h1 h2 h3 h4' i hi c1 hc1 hI1 hic hle
                  by_cases hd : k1 + (n + 1) < T
                  · exact hV4 k1 s1 hd h2 h3 h4' i hi c1 hc1 hI1 hic hle
                  · obtain ⟨z1, z2⟩ := hK4 k1 s1 (by omega) h2 h4'
                    rw [bl_up2_ne (by omega), bl_up2_ne (by omega)] at z1
                    rw [z1] at hI1
                    have hle' : ∀ r', r' < D.1 → I2 (q + 9) ((prt D s1.1 D.1 * 2 + i) * 4 + r') ≤ nI (cgo D s1 r') := fun r' hr' => by
                      have := hle r' hr'
                      rw [z2 i hi r' hr', bl_up2_ne (by omega), bl_up2_ne (by omega)] at this; exact this
                    rcases o4 _ h4' i hi c1 hc1 hI1 hic with ⟨e, x5⟩ | ⟨c2, x2, x3, x4, x5⟩
                    · obtain ⟨y1, y2⟩ := bOk_prt h2 hk' e
                      subst y2
                      have hdm := mnb_dom hDs k1 (pl D s r) s1 hk' hs' h2 h3 (fun r' hr' => (y1 r' hr').symm) (fun r' hr' => by
                        have w1 := hle' r' hr'
                        rw [x5 r' hr'] at w1
                        have w2 := cgo_le hs' hr'
                        have w3 := cgo_le h3 hr'
                        rw [zI_n, zI_n, zI_le (by omega) (by omega) (by omega) (by omega)] at w1
                        omega)
                      omega
                    · have := hV1 k1 s1 (by omega) h2 h3 h4' i hi c2 x2 x3 x4 (fun r' hr' => by rw [← x5 r' hr']; exact hle' r' hr')
                      omega
                · refine (hK1.trans hK2 (Nat.le_refl _)).trans (m := n + 1) (fun k1 s1 h1 h2 h3 => ?_) (by omega)
                  obtain ⟨z1, z2⟩ := hK4 k1 s1 h1 h2 h3
                  rw [bl_up2_ne (by omega), bl_up2_ne (by omega)] at z1
                  refine ⟨z1, fun i hi r' hr' => ?_⟩
                  have := z2 i hi r' hr'
                  rw [bl_up2_ne (by omega), bl_up2_ne (by omega)] at this; exact this)
             | exact hdone (by omega)
             | exact hdone (hV1 k (pl D s r) (by omega) hk' hs' o2 i1 o3 x1 o4 o5 o6 o7))
      · have hF2 : bnF I1 I2 q := ⟨fun x hx => o2 x (by omega) (by omega), fun j _ _ _ => by rw [o2 q (by omega) (by omega)]⟩
        have hK2 : bnK I1 I2 q D T n := fun k1 s1 h1 h2 h3 => by
          have hne : prt D s1.1 D.1 ≠ prt D (pl D s r).1 D.1 := fun e => by
            have := (bOk_prt h2 hk' e).2
            omega
          obtain ⟨a1, a2⟩ := o5 _ h3 hne
          exact ⟨a1, fun i hi r' hr' => a2 i hi r' (by omega)⟩
        refine bl_go oX0_placeBlock 80 [85, 131] rfl ?_
        refine ⟨fun h104 => ?_, fun h104 => ?_⟩
        · try simp (disch := omega) only [hb17, zI_n, zI_o, zI_lit, zI_neg, zI_add, zI_sub, zI_mul, zI_lt, zI_le, zI_eq, zI_clamp, zI_in, zI_div, zI_rem, lg_lt0, lg_gt0, lg_eq0, lg_le0, lg_ge0, Int.toNat_natCast, ge_iff_le, gt_iff_lt, List.length_cons, List.length_nil, bl_up2_at, bl_up2_nk, bl_up2_nx] at h104
          first
          | (exfalso; first | omega | exact h104 trivial)
          | (refine bl_lv [2, 3, 4, 6] rfl ?_
             try dsimp only [bl_pv]
             first
             | (have hq4 := hK4
                refine L131 I4 _ _ rfl rfl hT4 hw4 (fun i hi => ?_) hB4 ?_ hC4 (hF1.trans (hF2.trans (bnF.trans ⟨fun x hx => by rw [bl_up2_ne (by omega), bl_up2_ne (by omega)], fun j _ _ _ => by rw [bl_up2_ne (by omega), bl_up2_ne (by omega)]⟩ hF4))) ?_
                · have := hp4 i (by omega)
                  rw [up1_ne (by omega), up1_ne (by omega)] at this; exact this
                · intro k1 s1 h1 h2 h3 h4' i hi c1 hc1 hI1 hic hle
                  by_cases hd : k1 + (n + 1) < T
                  · exact hV4 k1 s1 hd h2 h3 h4' i hi c1 hc1 hI1 hic hle
                  · obtain ⟨z1, z2⟩ := hK4 k1 s1 (by omega) h2 h4'
                    rw [bl_up2_ne (by omega), bl_up2_ne (by omega)] at z1
                    rw [z1] at hI1
                    have hle' : ∀ r', r' < D.1 → I2 (q + 9) ((prt D s1.1 D.1 * 2 + i) * 4 + r') ≤ nI (cgo D s1 r') := fun r' hr' => by
                      have := hle r' hr'
                      rw [z2 i hi r' hr', bl_up2_ne (by omega), bl_up2_ne (by omega)] at this; exact this
                    rcases o4 _ h4' i hi c1 hc1 hI1 hic with ⟨e, x5⟩ | ⟨c2, x2, x3, x4, x5⟩
                    · obtain ⟨y1, y2⟩ := bOk_prt h2 hk' e
                      subst y2
                      have hdm := mnb_dom hDs k1 (pl D s r) s1 hk' hs' h2 h3 (fun r' hr' => (y1 r' hr').symm) (fun r' hr' => by
                        have w1 := hle' r' hr'
                        rw [x5 r' hr'] at w1
                        have w2 := cgo_le hs' hr'
                        have w3 := cgo_le h3 hr'
                        rw [zI_n, zI_n, zI_le (by omega) (by omega) (by omega) (by omega)] at w1
                        omega)
                      omega
                    · have := hV1 k1 s1 (by omega) h2 h3 h4' i hi c2 x2 x3 x4 (fun r' hr' => by rw [← x5 r' hr']; exact hle' r' hr')
                      omega
                · refine (hK1.trans hK2 (Nat.le_refl _)).trans (m := n + 1) (fun k1 s1 h1 h2 h3 => ?_) (by omega)
                  obtain ⟨z1, z2⟩ := hK4 k1 s1 h1 h2 h3
                  rw [bl_up2_ne (by omega), bl_up2_ne (by omega)] at z1
                  refine ⟨z1, fun i hi r' hr' => ?_⟩
                  have := z2 i hi r' hr'
                  rw [bl_up2_ne (by omega), bl_up2_ne (by omega)] at this; exact this)
             | exact hdone (by omega)
             | exact hdone (hV1 k (pl D s r) (by omega) hk' hs' o2 i1 o3 x1 o4 o5 o6 o7))
        · try simp (disch := omega) only [hb17, zI_n, zI_o, zI_lit, zI_neg, zI_add, zI_sub, zI_mul, zI_lt, zI_le, zI_eq, zI_clamp, zI_in, zI_div, zI_rem, lg_lt0, lg_gt0, lg_eq0, lg_le0, lg_ge0, Int.toNat_natCast, ge_iff_le, gt_iff_lt, List.length_cons, List.length_nil, bl_up2_at, bl_up2_nk, bl_up2_nx] at h104
          first
          | (exfalso; first | omega | exact h104 trivial)
          | (have hpp : ∀ i, i < n + 1 → (bl_up2 (bl_up2 I2 (q + 7) n (nI r)) (q + 8) n (nI (bbg s r))) (q + 7) i = up1 p n (nI r) i ∧ (bl_up2 (bl_up2 I2 (q + 7) n (nI r)) (q + 8) n (nI (bbg s r))) (q + 8) i = up1 a n (nI (bbg s r)) i := by
               intro i hi
               rw [bl_up2_ne (show q + 7 ≠ q + 8 by omega)]
               by_cases e : i = n
               · subst e; rw [bl_up2_at, bl_up2_at, up1_at, up1_at]; exact ⟨rfl, rfl⟩
               · rw [bl_up2_nk e, bl_up2_nk e, up1_ne e, up1_ne e, bl_up2_ne (show q + 8 ≠ q + 7 by omega), o2 _ (by omega) (by omega), o2 _ (by omega) (by omega)]
                 exact hp1 i (by omega)
             have hBB : bnB (bl_up2 (bl_up2 I2 (q + 7) n (nI r)) (q + 8) n (nI (bbg s r))) q T b := by
               refine ⟨?_, ?_, fun i hi => ?_⟩
               · rw [bl_up2_ne (by omega), bl_up2_ne (by omega), o2 _ (by omega) (by omega)]; exact hB1.1
               · rw [bl_up2_ne (by omega), bl_up2_ne (by omega), o2 _ (by omega) (by omega)]; exact hB1.2.1
               · rw [bl_up2_ne (by omega), bl_up2_ne (by omega), bl_up2_ne (by omega), bl_up2_ne (by omega), o2 _ (by omega) (by omega), o2 _ (by omega) (by omega)]; exact hB1.2.2 i hi
             have hVV : bnV (bl_up2 (bl_up2 I2 (q + 7) n (nI r)) (q + 8) n (nI (bbg s r))) q D T (n + 1) b.1 := by
               intro k1 s1 h1 h2 h3 h4' i hi c1 hc1 hI1 hic hle
               rw [bl_up2_ne (by omega), bl_up2_ne (by omega)] at hI1
               have hle' : ∀ r', r' < D.1 → I2 (q + 9) ((prt D s1.1 D.1 * 2 + i) * 4 + r') ≤ nI (cgo D s1 r') := fun r' hr' => by
                 have := hle r' hr'
                 rw [bl_up2_ne (by omega), bl_up2_ne (by omega)] at this; exact this
               rcases o4 _ h4' i hi c1 hc1 hI1 hic with ⟨e, -⟩ | ⟨c2, x2, x3, x4, x5⟩
               · have := (bOk_prt h2 hk' e).2
                 omega
               · exact hV1 k1 s1 (by omega) h2 h3 h4' i hi c2 x2 x3 x4 (fun r' hr' => by rw [← x5 r' hr']; exact hle' r' hr')
             refine ⟨kq, _, bl_vs rq_6, kq7, (by first | exact (by rw [nq7]; exact vp_in_nI (by omega) (by omega)) | ((try dsimp only [bl_pv]); show vp_in _ (N _); rw [nq7]; simp (disch := omega) only [hb17, zI_n, zI_o, zI_lit, zI_neg, zI_add, zI_sub, zI_mul, zI_lt, zI_le, zI_eq, zI_clamp, zI_in, zI_div, zI_rem, lg_lt0, lg_gt0, lg_eq0, lg_le0, lg_ge0, Int.toNat_natCast, ge_iff_le, gt_iff_lt, List.length_cons, List.length_nil, bl_up2_at, bl_up2_nk, bl_up2_nx] <;> omega)), kq, _, bl_vs rq_7, kq8, (by first | exact (by rw [nq8]; exact vp_in_nI (by omega) (by omega)) | ((try dsimp only [bl_pv]); show vp_in _ (N _); rw [nq8]; simp (disch := omega) only [hb17, zI_n, zI_o, zI_lit, zI_neg, zI_add, zI_sub, zI_mul, zI_lt, zI_le, zI_eq, zI_clamp, zI_in, zI_div, zI_rem, lg_lt0, lg_gt0, lg_eq0, lg_le0, lg_ge0, Int.toNat_natCast, ge_iff_le, gt_iff_lt, List.length_cons, List.length_nil, bl_up2_at, bl_up2_nk, bl_up2_nx] <;> omega)), ?_⟩
             rw [ecn]
             refine ⟨rfl, rfl, kq, (Nat.le_of_ble_eq_true rfl), (0, 0), Nat.le_of_ble_eq_true rfl, Nat.le_of_ble_eq_true rfl, bl_MC_mono (hN (pl D s r) (up1 p n (nI r)) (up1 a n (nI (bbg s r))) b (c + 1) (bl_up2 (bl_up2 I2 (q + 7) n (nI r)) (q + 8) n (nI (bbg s r))) _ _ (by omega) hk' hs' ⟨(hD1.f hF2).same (by rw [bl_up2_ne (by omega), bl_up2_ne (by omega)]) (by rw [bl_up2_ne (by omega), bl_up2_ne (by omega)]) (by rw [bl_up2_ne (by omega), bl_up2_ne (by omega)]) (by rw [bl_up2_ne (by omega), bl_up2_ne (by omega)]) (by rw [bl_up2_ne (by omega), bl_up2_ne (by omega)]) (by rw [bl_up2_ne (by omega), bl_up2_ne (by omega)]), hT1.same (by rw [bl_up2_ne (by omega), bl_up2_ne (by omega)]; exact o2 _ (by omega) (by omega)) (by rw [bl_up2_ne (by omega), bl_up2_ne (by omega)]; exact o2 _ (by omega) (by omega)), by rw [bl_up2_ne (by omega), bl_up2_ne (by omega), o2 _ (by omega) (by omega)]; exact hw1, hpp, hBB, hVV, by unfold bnC; rw [bl_up2_ne (by omega), bl_up2_ne (by omega)]; exact o3⟩ hb (by omega) (nI_1 n) rfl) (fun o128 σ128 q128 => ?_)⟩
             try dsimp only [bl_pv] at q128
             obtain ⟨rfl, I4, rfl, hF4, hK4, hD4, hT4, hw4, hp4, hB4, hV4, hC4⟩ := q128
             rw [hb'] at hB4 hV4
             refine bl_lv [2, 3, 4, 6] rfl ?_
             try dsimp only [bl_pv]
             first
             | (have hq4 := hK4
                refine L131 I4 _ _ rfl rfl hT4 hw4 (fun i hi => ?_) hB4 ?_ hC4 (hF1.trans (hF2.trans (bnF.trans ⟨fun x hx => by rw [bl_up2_ne (by omega), bl_up2_ne (by omega)], fun j _ _ _ => by rw [bl_up2_ne (by omega), bl_up2_ne (by omega)]⟩ hF4))) ?_
                · have := hp4 i (by omega)
                  rw [up1_ne (by omega), up1_ne (by omega)] at this; exact this
                · intro k1 s1 h1 h2 h3 h4' i hi c1 hc1 hI1 hic hle
                  by_cases hd : k1 + (n + 1) < T
                  · exact hV4 k1 s1 hd h2 h3 h4' i hi c1 hc1 hI1 hic hle
                  · obtain ⟨z1, z2⟩ := hK4 k1 s1 (by omega) h2 h4'
                    rw [bl_up2_ne (by omega), bl_up2_ne (by omega)] at z1
                    rw [z1] at hI1
                    have hle' : ∀ r', r' < D.1 → I2 (q + 9) ((prt D s1.1 D.1 * 2 + i) * 4 + r') ≤ nI (cgo D s1 r') := fun r' hr' => by
                      have := hle r' hr'
                      rw [z2 i hi r' hr', bl_up2_ne (by omega), bl_up2_ne (by omega)] at this; exact this
                    rcases o4 _ h4' i hi c1 hc1 hI1 hic with ⟨e, x5⟩ | ⟨c2, x2, x3, x4, x5⟩
                    · obtain ⟨y1, y2⟩ := bOk_prt h2 hk' e
                      subst y2
                      have hdm := mnb_dom hDs k1 (pl D s r) s1 hk' hs' h2 h3 (fun r' hr' => (y1 r' hr').symm) (fun r' hr' => by
                        have w1 := hle' r' hr'
                        rw [x5 r' hr'] at w1
                        have w2 := cgo_le hs' hr'
                        have w3 := cgo_le h3 hr'
                        rw [zI_n, zI_n, zI_le (by omega) (by omega) (by omega) (by omega)] at w1
                        omega)
                      omega
                    · have := hV1 k1 s1 (by omega) h2 h3 h4' i hi c2 x2 x3 x4 (fun r' hr' => by rw [← x5 r' hr']; exact hle' r' hr')
                      omega
                · refine (hK1.trans hK2 (Nat.le_refl _)).trans (m := n + 1) (fun k1 s1 h1 h2 h3 => ?_) (by omega)
                  obtain ⟨z1, z2⟩ := hK4 k1 s1 h1 h2 h3
                  rw [bl_up2_ne (by omega), bl_up2_ne (by omega)] at z1
                  refine ⟨z1, fun i hi r' hr' => ?_⟩
                  have := z2 i hi r' hr'
                  rw [bl_up2_ne (by omega), bl_up2_ne (by omega)] at this; exact this)
             | exact hdone (by omega)
             | exact hdone (hV1 k (pl D s r) (by omega) hk' hs' o2 i1 o3 x1 o4 o5 o6 o7))
  have em : nI r * 22 + I (q + 5) (nI r).toNatClampNeg = nI (r * 22 + s.1 r) := by rw [ecr, t1, ← nI_add, ← nI_mulc]; rfl
  have hu : I (q + 1) (r * 22 + s.1 r) = nI (D.2.2.1 r (s.1 r)) := g3 _ hrn
  have hu2 : I (q + 2) (r * 22 + s.1 r + 1) = nI (D.2.2.2 r (s.1 r + 1)) := (g4 (s.1 r + 1) (by omega)).1
  have emx : (if nI s.2.2 < I (q + 6) (nI r).toNatClampNeg then I (q + 6) (nI r).toNatClampNeg else nI s.2.2) = nI (bbg s r) := nI_max rfl (by rw [ecr]; exact t2) (by omega) (by omega)
  have ecp1 : (nI (r * 22 + s.1 r) + 1).toNatClampNeg = r * 22 + s.1 r + 1 := by rw [nI_1]; exact nI_clamp (by omega)
  refine bl_go oX0_placeBlock 80 [85, 131] rfl ?_
  refine ⟨kq, _, bl_vs rq_4, Or.inl ⟨kq5, (by first | exact (by rw [nq5]; exact vp_in_nI (by omega) (by omega)) | ((try dsimp only [bl_pv]); show vp_in _ (N _); rw [nq5]; simp (disch := omega) only [zI_n, zI_o, zI_lit, zI_neg, zI_add, zI_sub, zI_mul, zI_lt, zI_le, zI_eq, zI_clamp, zI_in, zI_div, zI_rem, lg_lt0, lg_gt0, lg_eq0, lg_le0, lg_ge0, Int.toNat_natCast, ge_iff_le, gt_iff_lt, List.length_cons, List.length_nil, bl_up2_at, bl_up2_nk, bl_up2_nx] <;> omega)), kq, _, bl_vs rq_5, Or.inl ⟨kq6, (by first | exact (by rw [nq6]; exact vp_in_nI (by omega) (by omega)) | ((try dsimp only [bl_pv]); show vp_in _ (N _); rw [nq6]; simp (disch := omega) only [zI_n, zI_o, zI_lit, zI_neg, zI_add, zI_sub, zI_mul, zI_lt, zI_le, zI_eq, zI_clamp, zI_in, zI_div, zI_rem, lg_lt0, lg_gt0, lg_eq0, lg_le0, lg_ge0, Int.toNat_natCast, ge_iff_le, gt_iff_lt, List.length_cons, List.length_nil, bl_up2_at, bl_up2_nk, bl_up2_nx] <;> omega)), (Nat.le_of_ble_eq_true rfl), kq, _, bl_vs rq_0, Or.inl ⟨kq1, (by (try dsimp only [bl_pv]); show vp_in _ (N _); rw [nq1, em]; exact vp_in_nI (by omega) (by omega)), kq, _, bl_vs rq_4, ⟨rfl, rfl⟩, Or.inl ⟨kq5, (by first | exact (by rw [nq5]; exact vp_in_nI (by omega) (by omega)) | ((try dsimp only [bl_pv]); show vp_in _ (N _); rw [nq5]; simp (disch := omega) only [zI_n, zI_o, zI_lit, zI_neg, zI_add, zI_sub, zI_mul, zI_lt, zI_le, zI_eq, zI_clamp, zI_in, zI_div, zI_rem, lg_lt0, lg_gt0, lg_eq0, lg_le0, lg_ge0, Int.toNat_natCast, ge_iff_le, gt_iff_lt, List.length_cons, List.length_nil, bl_up2_at, bl_up2_nk, bl_up2_nx] <;> omega)), kq5, (by first | exact (by rw [nq5]; exact vp_in_nI (by omega) (by omega)) | ((try dsimp only [bl_pv]); show vp_in _ (N _); rw [nq5]; simp (disch := omega) only [zI_n, zI_o, zI_lit, zI_neg, zI_add, zI_sub, zI_mul, zI_lt, zI_le, zI_eq, zI_clamp, zI_in, zI_div, zI_rem, lg_lt0, lg_gt0, lg_eq0, lg_le0, lg_ge0, Int.toNat_natCast, ge_iff_le, gt_iff_lt, List.length_cons, List.length_nil, bl_up2_at, bl_up2_nk, bl_up2_nx] <;> omega)), kq, _, bl_vs rq_5, kq, _, bl_vs rq_1, Or.inl ⟨kq2, (by (try dsimp only [bl_pv]); show vp_in _ (N _); rw [nq2, em, nI_1]; exact vp_in_nI (by omega) (by omega)), kq6, (by first | exact (by rw [nq6]; exact vp_in_nI (by omega) (by omega)) | ((try dsimp only [bl_pv]); show vp_in _ (N _); rw [nq6]; simp (disch := omega) only [zI_n, zI_o, zI_lit, zI_neg, zI_add, zI_sub, zI_mul, zI_lt, zI_le, zI_eq, zI_clamp, zI_in, zI_div, zI_rem, lg_lt0, lg_gt0, lg_eq0, lg_le0, lg_ge0, Int.toNat_natCast, ge_iff_le, gt_iff_lt, List.length_cons, List.length_nil, bl_up2_at, bl_up2_nk, bl_up2_nx] <;> omega)), rfl, kq, kq, _, bl_vs rq_0, Or.inl ⟨kq1, (by (try dsimp only [bl_pv]); show vp_in _ (N _); rw [nq1, em]; exact vp_in_nI (by omega) (by omega)), kq, Or.inr (Or.inr ⟨rfl, rfl, _, rfl⟩), (fun h => by cases h), ?_⟩⟩⟩⟩⟩⟩⟩
  refine bl_lv [0, 1, 2, 3, 4, 5, 7] rfl ?_
  try dsimp only [bl_pv]
  refine L85 _ _ _ _ _ em (by rw [ecr]; exact t2) emx ?_ ?_ ?_ ?_ ?_
  · rw [emx, em, ecp, hu, nI_add]; rfl
  · intro j hj
    rw [emx, em, ecp, ecp1, ecr, bl_up2_ne (show q + 5 ≠ q by omega), bl_up2_ne (show q + 5 ≠ q + 6 by omega), bl_up2_ne (show q + 6 ≠ q by omega)]
    by_cases e : j = r
    · subst e
      rw [bl_up2_at, bl_up2_at, e3, e4, t1, hu, bl_up2_ne (show q + 2 ≠ q + 5 by omega), hu2, nI_1, nI_add, nI_add]
      exact ⟨rfl, rfl⟩
    · rw [bl_up2_nk e, bl_up2_nk e, bl_up2_ne (show q + 6 ≠ q + 5 by omega), e5 j e, e6 j e]
      exact hT j hj
  · rw [bl_up2_at, em, ecp, bl_up2_ne (show q ≠ q + 6 by omega), bl_up2_ne (show q ≠ q + 5 by omega), bl_up2_ne (show q + 1 ≠ q + 6 by omega), bl_up2_ne (show q + 1 ≠ q + 5 by omega), hw, hu, nI_subs (by omega)]
    congr 1; omega
  · intro x x1 x2 x3; rw [bl_up2_ne x1, bl_up2_ne x3, bl_up2_ne x2]
  · intro j hj; rw [bl_up2_nk hj, bl_up2_ne (by omega), bl_up2_ne (by omega)]
end BENCH4
