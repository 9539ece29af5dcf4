/-! ===== Bench: marks ===== -/
/-- marks below those counts keep what is not so good away -/
def bnV (I : Nat → Nat → Int32) (q : Nat) (D : bD) (T n B : Nat) : Prop := ∀ k s, k + n < T → bOk D k s → bSm D k s → prt D s.1 D.1 < 256 → ∀ i, i < 2 → ∀ c, c < 2147483648 → I (q + 10) (prt D s.1 D.1) = nI c → i < c → (∀ r, r < D.1 → I (q + 9) ((prt D s.1 D.1 * 2 + i) * 4 + r) ≤ nI (cgo D s r)) → B ≤ mnb D k s
def bnC (I : Nat → Nat → Int32) (q c : Nat) : Prop := ∀ p, p < 256 → ∃ x, I (q + 10) p = nI x ∧ x ≤ c
/-- I' has, beside the marks of I, at most one more, at p, of the state s -/
def bnU (I I' : Nat → Nat → Int32) (q : Nat) (D : bD) (s : bs) : Prop := ∀ p, p < 256 → ∀ i, i < 2 → ∀ c', c' < 2147483648 → I' (q + 10) p = nI c' → i < c' → (p = prt D s.1 D.1 ∧ ∀ r, r < D.1 → I' (q + 9) ((p * 2 + i) * 4 + r) = nI (cgo D s r)) ∨ (∃ c, c < 2147483648 ∧ I (q + 10) p = nI c ∧ i < c ∧ ∀ r, r < D.1 → I' (q + 9) ((p * 2 + i) * 4 + r) = I (q + 9) ((p * 2 + i) * 4 + r))
/-- marks of what is done of n blocks or fewer are as they were -/
def bnK (I I' : Nat → Nat → Int32) (q : Nat) (D : bD) (T n : Nat) : Prop := ∀ k s, T ≤ k + n → bOk D k s → prt D s.1 D.1 < 256 → I' (q + 10) (prt D s.1 D.1) = I (q + 10) (prt D s.1 D.1) ∧ ∀ i, i < 2 → ∀ r, r < D.1 → I' (q + 9) ((prt D s.1 D.1 * 2 + i) * 4 + r) = I (q + 9) ((prt D s.1 D.1 * 2 + i) * 4 + r)
section BENCH2
variable {G : bl_G} {l : Launch} {d q T k : Nat} {I : Nat → Nat → Int32} {J : Nat → Nat → Int64} {R : Nat → Nat → Option Nat} {K N : Nat → Nat} {D : bD} {s : bs}
theorem prt_le (hk : ∀ r, r < D.1 → s.1 r ≤ D.2.1 r ∧ D.2.1 r ≤ 20) : ∀ n, n ≤ D.1 → prt D s.1 n + 1 ≤ 21 ^ n
  | 0, _ => Nat.le_refl _
  | n + 1, h => by
    have a := prt_le hk n (by omega)
    obtain ⟨b, c⟩ := hk n (by omega)
    have e := Nat.mul_le_mul a (show D.2.1 n + 1 ≤ 21 by omega)
    rw [Nat.succ_mul] at e
    show prt D s.1 n * (D.2.1 n + 1) + s.1 n + 1 ≤ 21 ^ n * 21
    omega
theorem prt_sm (h4 : D.1 ≤ 4) (hk : ∀ r, r < D.1 → s.1 r ≤ D.2.1 r ∧ D.2.1 r ≤ 20) {n : Nat} (hn : n ≤ D.1) : prt D s.1 n < 194481 := by
  have a := prt_le hk n hn
  have b : 21 ^ n ≤ 21 ^ 4 := Nat.pow_le_pow_right (by decide) (by omega)
  have c : (21 : Nat) ^ 4 = 194481 := by decide
  omega
theorem bnD.same {I' : Nat → Nat → Int32} (h : bnD I q D T) (h0 : I' q 12 = I q 12) (h6 : I' q 16 = I q 16) (h1 : I' (q + 1) = I (q + 1)) (h2 : I' (q + 2) = I (q + 2)) (h3 : I' (q + 3) = I (q + 3)) (h4 : I' (q + 4) = I (q + 4)) : bnD I' q D T := by
  unfold bnD
  rw [h0, h6, h1, h2, h3, h4]; exact h
theorem bnT.same {I' : Nat → Nat → Int32} (h : bnT I q D s) (h5 : I' (q + 5) = I (q + 5)) (h6 : I' (q + 6) = I (q + 6)) : bnT I' q D s := by
  unfold bnT
  rw [h5, h6]; exact h
theorem c_Bench_outdone {c : Nat} {y : Int32} (hq : bnS R K N q) (hD : bnD I q D T) (hT : bnT I q D s) (hk : bOk D k s) (hs : bSm D k s) (hy : y = nI s.2.2) (hc : bnC I q c) (hcb : c < 2000000000) : bl_MC G l (d + 2) mX0_outdone [.ref q, .int y] (I, J, R, K, N) (0, 0) (fun o σ' => (∃ i x, o = .inl (some (.int 1)) ∧ σ' = (I, J, R, K, N) ∧ prt D s.1 D.1 < 256 ∧ i < 2 ∧ x < 2147483648 ∧ I (q + 10) (prt D s.1 D.1) = nI x ∧ i < x ∧ ∀ r, r < D.1 → I (q + 9) ((prt D s.1 D.1 * 2 + i) * 4 + r) ≤ nI (cgo D s r)) ∨ (∃ I', o = .inl (some (.int 0)) ∧ σ' = (I', J, R, K, N) ∧ (∀ x, x ≠ q + 9 → x ≠ q + 10 → I' x = I x) ∧ bnC I' q (c + 1) ∧ bnU I I' q D s ∧ (∀ p, p < 256 → p ≠ prt D s.1 D.1 → I' (q + 10) p = I (q + 10) p ∧ ∀ i, i < 2 → ∀ r, r < 4 → I' (q + 9) ((p * 2 + i) * 4 + r) = I (q + 9) ((p * 2 + i) * 4 + r)))) := by
  have hq' := hq
  obtain ⟨hq0, kq, ⟨rq_0, rq_1, rq_2, rq_3, rq_4, rq_5, rq_6, rq_7, rq_8, rq_9, rq_10, rq_11⟩, ⟨kq1, kq2, kq3, kq4, kq5, kq6, kq7, kq8, kq9, kq10, kq11, kq12⟩, ⟨nq1, nq2, nq3, nq4, nq5, nq6, nq7, nq8, nq9, nq10, nq11, nq12⟩⟩ := hq
  have h4 := hD.2.1
  have h12 := hD.1
  subst hy
  have hkk : ∀ r, r < D.1 → s.1 r ≤ D.2.1 r ∧ D.2.1 r ≤ 20 := fun r hr => ⟨hk.1 r hr, (hD.2.2.2.2 r hr).1⟩
  generalize hP : prt D s.1 D.1 = P
  have hPs : P < 194481 := by rw [← hP]; exact prt_sm h4 hkk (Nat.le_refl _)
  have ecP : (nI P).toNatClampNeg = P := nI_clamp (by omega)
  refine bl_MC_intro (by decide +kernel) rfl (Nat.le_of_ble_eq_true rfl) ?_
  have L3 : P < 256 → ∀ x, x ≤ c → I (q + 10) P = nI x → ∀ r, r ≤ D.1 → ∀ z y3 I1, z = nI r → y3 = nI ((P * 2 + x % 2) * 4) → (∀ y, y ≠ q + 9 → y ≠ q + 10 → I1 y = I y) → (∀ p, I1 (q + 10) p = if p = P then nI (x + 1) else I (q + 10) p) → (∀ j, I1 (q + 9) j = if (P * 2 + x % 2) * 4 ≤ j ∧ j < (P * 2 + x % 2) * 4 + r then nI (cgo D s (j - (P * 2 + x % 2) * 4)) else I (q + 9) j) → bl_WP G l (d + 2) mX0_outdone 117 [(4, .int z), (3, .int y3), (2, .int (nI P)), (0, .ref q), (1, .int (nI s.2.2))] [] (I1, J, R, K, N) (0, 0) (fun o σ' => (∃ i x, o = .inl (some (.int 1)) ∧ σ' = (I, J, R, K, N) ∧ P < 256 ∧ i < 2 ∧ x < 2147483648 ∧ I (q + 10) P = nI x ∧ i < x ∧ ∀ r, r < D.1 → I (q + 9) ((P * 2 + i) * 4 + r) ≤ nI (cgo D s r)) ∨ (∃ I', o = .inl (some (.int 0)) ∧ σ' = (I', J, R, K, N) ∧ (∀ x, x ≠ q + 9 → x ≠ q + 10 → I' x = I x) ∧ bnC I' q (c + 1) ∧ bnU I I' q D s ∧ (∀ p, p < 256 → p ≠ P → I' (q + 10) p = I (q + 10) p ∧ ∀ i, i < 2 → ∀ r, r < 4 → I' (q + 9) ((p * 2 + i) * 4 + r) = I (q + 9) ((p * 2 + i) * 4 + r)))) := by
    intro hP256 x hx hIx
    refine bl_for D.1 ?_ (fun r hr ih => ?_)
    · intro z y3 I1 hz hy3 f1 f2 f3; subst hz hy3
      have g12 : I1 q 12 = nI D.1 := by rw [f1 q (by omega) (by omega)]; exact h12
      refine bl_go oX0_outdone 80 [4, 51, 117, 89] rfl ?_
      refine ⟨kq, fun h123 => ?_, fun h123 => ?_⟩
      · try simp (disch := omega) only [g12, zI_n, zI_o, zI_lit, zI_neg, zI_add, zI_sub, zI_mul, zI_lt, zI_le, zI_eq, zI_clamp, zI_in, zI_div, zI_rem, lg_lt0, lg_gt0, lg_eq0, lg_le0, lg_ge0, Int.toNat_natCast, ge_iff_le, gt_iff_lt, List.length_cons, List.length_nil, bl_up2_at, bl_up2_nk, bl_up2_nx] at h123
        refine ⟨(fun _ => by first | exact Or.inl rfl | exact Or.inr rfl), ?_⟩
        try show _ ∧ _
        try dsimp only [bl_pv]
        refine Or.inr ⟨I1, rfl, rfl, f1, ?_, ?_, ?_⟩
        · intro p hp
          by_cases e : p = P
          · exact ⟨x + 1, by rw [f2, if_pos e], by omega⟩
          · obtain ⟨y, y1, y2⟩ := hc p hp
            exact ⟨y, by rw [f2, if_neg e]; exact y1, by omega⟩
        · intro p hp i hi c' hc' hI hic
          by_cases e : p = P
          · subst e
            rw [f2, if_pos rfl] at hI
            have hc2 : c' = x + 1 := by
              have := congrArg Int32.toNatClampNeg hI
              rw [nI_clamp (by omega), nI_clamp (by omega)] at this; omega
            by_cases ei : i = x % 2
            · refine Or.inl ⟨hP.symm, fun r hr => ?_⟩
              rw [f3, if_pos (by subst ei; omega)]
              congr 2; subst ei; omega
            · refine Or.inr ⟨x, by omega, hIx, by omega, fun r hr => ?_⟩
              rw [f3, if_neg (by omega)]
          · rw [f2, if_neg e] at hI
            refine Or.inr ⟨c', hc', hI, hic, fun r hr => ?_⟩
            rw [f3, if_neg (by omega)]
        · intro p hp e
          refine ⟨by rw [f2, if_neg e], fun i hi r hr => ?_⟩
          rw [f3, if_neg (by omega)]
      · try simp (disch := omega) only [g12, zI_n, zI_o, zI_lit, zI_neg, zI_add, zI_sub, zI_mul, zI_lt, zI_le, zI_eq, zI_clamp, zI_in, zI_div, zI_rem, lg_lt0, lg_gt0, lg_eq0, lg_le0, lg_ge0, Int.toNat_natCast, ge_iff_le, gt_iff_lt, List.length_cons, List.length_nil, bl_up2_at, bl_up2_nk, bl_up2_nx] at h123
        exfalso; omega
    · intro z y3 I1 hz hy3 f1 f2 f3; subst hz hy3
      have g12 : I1 q 12 = nI D.1 := by rw [f1 q (by omega) (by omega)]; exact h12
      have hD1 : bnD I1 q D T := hD.same (by rw [f1 q (by omega) (by omega)]) (by rw [f1 q (by omega) (by omega)]) (f1 _ (by omega) (by omega)) (f1 _ (by omega) (by omega)) (f1 _ (by omega) (by omega)) (f1 _ (by omega) (by omega))
      have hT1 : bnT I1 q D s := hT.same (f1 _ (by omega) (by omega)) (f1 _ (by omega) (by omega))
      have ea : (nI ((P * 2 + x % 2) * 4) + nI r).toNatClampNeg = (P * 2 + x % 2) * 4 + r := by rw [nI_add]; exact nI_clamp (by omega)
      refine bl_go oX0_outdone 80 [4, 51, 117, 89] rfl ?_
      refine ⟨kq, fun h123 => ?_, fun h123 => ?_⟩
      · try simp (disch := omega) only [g12, zI_n, zI_o, zI_lit, zI_neg, zI_add, zI_sub, zI_mul, zI_lt, zI_le, zI_eq, zI_clamp, zI_in, zI_div, zI_rem, lg_lt0, lg_gt0, lg_eq0, lg_le0, lg_ge0, Int.toNat_natCast, ge_iff_le, gt_iff_lt, List.length_cons, List.length_nil, bl_up2_at, bl_up2_nk, bl_up2_nx] at h123
        exfalso; omega
      · try simp (disch := omega) only [g12, zI_n, zI_o, zI_lit, zI_neg, zI_add, zI_sub, zI_mul, zI_lt, zI_le, zI_eq, zI_clamp, zI_in, zI_div, zI_rem, lg_lt0, lg_gt0, lg_eq0, lg_le0, lg_ge0, Int.toNat_natCast, ge_iff_le, gt_iff_lt, List.length_cons, List.length_nil, bl_up2_at, bl_up2_nk, bl_up2_nx] at h123
        refine ⟨kq, _, bl_vs rq_8, rfl, rfl, kq, (Nat.le_of_ble_eq_true rfl), (0, 0), Nat.le_of_ble_eq_true rfl, Nat.le_of_ble_eq_true rfl, bl_MC_mono (c_Bench_canGoOn (d := d + 1) hq' hD1 hT1 hk hs rfl rfl hr) (fun o138 σ138 q138 => ?_)⟩
        try dsimp only [bl_pv] at q138
        obtain ⟨rfl, rfl⟩ := q138
        refine bl_go oX0_outdone 80 [4, 51, 117, 89] rfl ?_
        refine ⟨kq9, (by (try dsimp only [bl_pv]); show vp_in _ (N _); rw [nq9, nI_add]; exact vp_in_nI (by omega) (by omega)), ?_⟩
        try dsimp only [bl_pv]
        rw [ea]
        refine ih _ _ _ (nI_1 _) rfl (fun y y1 y2 => ?_) (fun p => ?_) (fun j => ?_)
        · rw [bl_up2_ne y1]; exact f1 y y1 y2
        · rw [bl_up2_ne (by omega)]; exact f2 p
        · by_cases e : j = (P * 2 + x % 2) * 4 + r
          · subst e
            rw [bl_up2_at, if_pos (by omega), Nat.add_sub_cancel_left]
          · rw [bl_up2_nk e, f3]
            by_cases e2 : (P * 2 + x % 2) * 4 ≤ j ∧ j < (P * 2 + x % 2) * 4 + r
            · rw [if_pos e2, if_pos (by omega)]
            · rw [if_neg e2, if_neg (by omega)]
  have L89 : P < 256 → ∀ y, bl_WP G l (d + 2) mX0_outdone 89 [(3, .int y), (2, .int (nI P)), (0, .ref q), (1, .int (nI s.2.2))] [] (I, J, R, K, N) (0, 0) (fun o σ' => (∃ i x, o = .inl (some (.int 1)) ∧ σ' = (I, J, R, K, N) ∧ P < 256 ∧ i < 2 ∧ x < 2147483648 ∧ I (q + 10) P = nI x ∧ i < x ∧ ∀ r, r < D.1 → I (q + 9) ((P * 2 + i) * 4 + r) ≤ nI (cgo D s r)) ∨ (∃ I', o = .inl (some (.int 0)) ∧ σ' = (I', J, R, K, N) ∧ (∀ x, x ≠ q + 9 → x ≠ q + 10 → I' x = I x) ∧ bnC I' q (c + 1) ∧ bnU I I' q D s ∧ (∀ p, p < 256 → p ≠ P → I' (q + 10) p = I (q + 10) p ∧ ∀ i, i < 2 → ∀ r, r < 4 → I' (q + 9) ((p * 2 + i) * 4 + r) = I (q + 9) ((p * 2 + i) * 4 + r)))) := by
    intro hP256 y
    obtain ⟨x, hx, hxc⟩ := hc P hP256
    have em : (nI P * 2 + (nI x - nI x / 2 * 2)) * 4 = nI ((P * 2 + x % 2) * 4) := by
      simp (disch := omega) only [zI_n, zI_o, zI_lit, zI_neg, zI_add, zI_sub, zI_mul, zI_lt, zI_le, zI_eq, zI_clamp, zI_in, zI_div, zI_rem, lg_lt0, lg_gt0, lg_eq0, lg_le0, lg_ge0, Int.toNat_natCast, ge_iff_le, gt_iff_lt, List.length_cons, List.length_nil, bl_up2_at, bl_up2_nk, bl_up2_nx]
      congr 1
      omega
    refine bl_go oX0_outdone 80 [4, 51, 117, 89] rfl ?_
    refine ⟨kq, _, bl_vs rq_9, Or.inl ⟨kq10, (by (try dsimp only [bl_pv]); show vp_in _ (N _); rw [nq10]; exact vp_in_nI (by omega) (by omega)), (by decide), kq, _, bl_vs rq_9, ⟨rfl, rfl⟩, Or.inl ⟨kq10, (by (try dsimp only [bl_pv]); show vp_in _ (N _); rw [nq10]; exact vp_in_nI (by omega) (by omega)), kq10, (by (try dsimp only [bl_pv]); show vp_in _ (N _); rw [nq10]; exact vp_in_nI (by omega) (by omega)), ?_⟩⟩⟩
    try dsimp only [bl_pv]
    refine L3 hP256 x hxc hx 0 (by omega) _ _ _ rfl ?_ ?_ ?_ ?_
    · rw [ecP, hx]; exact em
    · intro y y1 y2; exact bl_up2_ne y2
    · intro p
      rw [ecP, hx, nI_1]
      by_cases e : p = P
      · subst e; rw [bl_up2_at, if_pos rfl]
      · rw [bl_up2_nk e, if_neg e]
    · intro j
      rw [bl_up2_ne (by omega), if_neg (by omega)]
  have L2 : P < 256 → ∀ i, i ≤ 2 → ∀ z, z = nI i → bl_WP G l (d + 2) mX0_outdone 51 [(3, .int z), (2, .int (nI P)), (0, .ref q), (1, .int (nI s.2.2))] [] (I, J, R, K, N) (0, 0) (fun o σ' => (∃ i x, o = .inl (some (.int 1)) ∧ σ' = (I, J, R, K, N) ∧ P < 256 ∧ i < 2 ∧ x < 2147483648 ∧ I (q + 10) P = nI x ∧ i < x ∧ ∀ r, r < D.1 → I (q + 9) ((P * 2 + i) * 4 + r) ≤ nI (cgo D s r)) ∨ (∃ I', o = .inl (some (.int 0)) ∧ σ' = (I', J, R, K, N) ∧ (∀ x, x ≠ q + 9 → x ≠ q + 10 → I' x = I x) ∧ bnC I' q (c + 1) ∧ bnU I I' q D s ∧ (∀ p, p < 256 → p ≠ P → I' (q + 10) p = I (q + 10) p ∧ ∀ i, i < 2 → ∀ r, r < 4 → I' (q + 9) ((p * 2 + i) * 4 + r) = I (q + 9) ((p * 2 + i) * 4 + r)))) := by
    intro hP256
    obtain ⟨x, hx, hxc⟩ := hc P hP256
    refine bl_for 2 ?_ (fun i hi ih => ?_)
    · intro z hz; subst hz
      refine bl_go oX0_outdone 80 [4, 51, 117, 89] rfl ?_
      refine ⟨fun h53 => ?_, fun h53 => ?_⟩
      · try simp (disch := omega) only [zI_n, zI_o, zI_lit, zI_neg, zI_add, zI_sub, zI_mul, zI_lt, zI_le, zI_eq, zI_clamp, zI_in, zI_div, zI_rem, lg_lt0, lg_gt0, lg_eq0, lg_le0, lg_ge0, Int.toNat_natCast, ge_iff_le, gt_iff_lt, List.length_cons, List.length_nil, bl_up2_at, bl_up2_nk, bl_up2_nx] at h53
        try dsimp only [bl_pv]
        exact L89 hP256 _
      · try simp (disch := omega) only [zI_n, zI_o, zI_lit, zI_neg, zI_add, zI_sub, zI_mul, zI_lt, zI_le, zI_eq, zI_clamp, zI_in, zI_div, zI_rem, lg_lt0, lg_gt0, lg_eq0, lg_le0, lg_ge0, Int.toNat_natCast, ge_iff_le, gt_iff_lt, List.length_cons, List.length_nil, bl_up2_at, bl_up2_nk, bl_up2_nx] at h53
        exfalso; omega
    · intro z hz; subst hz
      have em : (nI P * 2 + nI i) * 4 = nI ((P * 2 + i) * 4) := by
        simp (disch := omega) only [zI_n, zI_o, zI_lit, zI_neg, zI_add, zI_sub, zI_mul, zI_lt, zI_le, zI_eq, zI_clamp, zI_in, zI_div, zI_rem, lg_lt0, lg_gt0, lg_eq0, lg_le0, lg_ge0, Int.toNat_natCast, ge_iff_le, gt_iff_lt, List.length_cons, List.length_nil, bl_up2_at, bl_up2_nk, bl_up2_nx]
        congr 1
      refine bl_go oX0_outdone 80 [4, 51, 117, 89] rfl ?_
      refine ⟨fun h53 => ?_, fun h53 => ?_⟩
      · try simp (disch := omega) only [ecP, hx, zI_n, zI_o, zI_lit, zI_neg, zI_add, zI_sub, zI_mul, zI_lt, zI_le, zI_eq, zI_clamp, zI_in, zI_div, zI_rem, lg_lt0, lg_gt0, lg_eq0, lg_le0, lg_ge0, Int.toNat_natCast, ge_iff_le, gt_iff_lt, List.length_cons, List.length_nil, bl_up2_at, bl_up2_nk, bl_up2_nx] at h53
        exfalso; omega
      · try simp (disch := omega) only [ecP, hx, zI_n, zI_o, zI_lit, zI_neg, zI_add, zI_sub, zI_mul, zI_lt, zI_le, zI_eq, zI_clamp, zI_in, zI_div, zI_rem, lg_lt0, lg_gt0, lg_eq0, lg_le0, lg_ge0, Int.toNat_natCast, ge_iff_le, gt_iff_lt, List.length_cons, List.length_nil, bl_up2_at, bl_up2_nk, bl_up2_nx] at h53
        refine ⟨kq, _, bl_vs rq_9, Or.inl ⟨kq10, (by (try dsimp only [bl_pv]); show vp_in _ (N _); rw [nq10]; exact vp_in_nI (by omega) (by omega)), fun h63 => ?_, fun h63 => ?_⟩⟩
        · try simp (disch := omega) only [ecP, hx, zI_n, zI_o, zI_lit, zI_neg, zI_add, zI_sub, zI_mul, zI_lt, zI_le, zI_eq, zI_clamp, zI_in, zI_div, zI_rem, lg_lt0, lg_gt0, lg_eq0, lg_le0, lg_ge0, Int.toNat_natCast, ge_iff_le, gt_iff_lt, List.length_cons, List.length_nil, bl_up2_at, bl_up2_nk, bl_up2_nx] at h63
          try dsimp only [bl_pv]
          exact L89 hP256 _
        · try simp (disch := omega) only [ecP, hx, zI_n, zI_o, zI_lit, zI_neg, zI_add, zI_sub, zI_mul, zI_lt, zI_le, zI_eq, zI_clamp, zI_in, zI_div, zI_rem, lg_lt0, lg_gt0, lg_eq0, lg_le0, lg_ge0, Int.toNat_natCast, ge_iff_le, gt_iff_lt, List.length_cons, List.length_nil, bl_up2_at, bl_up2_nk, bl_up2_nx] at h63
          refine ⟨rfl, rfl, kq, (Nat.le_of_ble_eq_true rfl), (0, 0), Nat.le_of_ble_eq_true rfl, Nat.le_of_ble_eq_true rfl, bl_MC_mono (c_Bench_isNoLater (d := d) hq' hD hT hk hs em (by omega) rfl) (fun o75 σ75 q75 => ?_)⟩
          try dsimp only [bl_pv] at q75
          obtain ⟨⟨v, rfl, hv⟩, rfl⟩ := q75
          refine bl_go oX0_outdone 80 [4, 51, 117, 89] rfl ?_
          refine ⟨fun h78 => ?_, fun h78 => ?_⟩
          · try simp (disch := omega) only [bl_pv, cl0, cl1, cl2, cl3, cl4, cl5, cl6, cl7, cl8, cl9, bl_up2_at, bl_up2_nk, bl_up2_nx] at h78
            try dsimp only [bl_pv]
            exact ih _ (nI_1 _)
          · try simp (disch := omega) only [bl_pv, cl0, cl1, cl2, cl3, cl4, cl5, cl6, cl7, cl8, cl9, bl_up2_at, bl_up2_nk, bl_up2_nx] at h78
            refine ⟨(fun _ => by first | exact Or.inl rfl | exact Or.inr rfl), ?_⟩
            try show _ ∧ _
            try dsimp only [bl_pv]
            have hv1 : ∀ r, r < D.1 → I (q + 9) ((P * 2 + i) * 4 + r) ≤ nI (cgo D s r) := by
              rcases hv with ⟨_, h⟩ | ⟨h, _⟩
              · exact h
              · exact absurd h h78
            exact Or.inl ⟨i, x, rfl, rfl, hP256, hi, by omega, hx, by omega, hv1⟩
  have L1 : ∀ r, r ≤ D.1 → ∀ z y, z = nI r → y = nI (prt D s.1 r) → bl_WP G l (d + 2) mX0_outdone 4 [(3, .int z), (2, .int y), (0, .ref q), (1, .int (nI s.2.2))] [] (I, J, R, K, N) (0, 0) (fun o σ' => (∃ i x, o = .inl (some (.int 1)) ∧ σ' = (I, J, R, K, N) ∧ P < 256 ∧ i < 2 ∧ x < 2147483648 ∧ I (q + 10) P = nI x ∧ i < x ∧ ∀ r, r < D.1 → I (q + 9) ((P * 2 + i) * 4 + r) ≤ nI (cgo D s r)) ∨ (∃ I', o = .inl (some (.int 0)) ∧ σ' = (I', J, R, K, N) ∧ (∀ x, x ≠ q + 9 → x ≠ q + 10 → I' x = I x) ∧ bnC I' q (c + 1) ∧ bnU I I' q D s ∧ (∀ p, p < 256 → p ≠ P → I' (q + 10) p = I (q + 10) p ∧ ∀ i, i < 2 → ∀ r, r < 4 → I' (q + 9) ((p * 2 + i) * 4 + r) = I (q + 9) ((p * 2 + i) * 4 + r)))) := by
    refine bl_for D.1 ?_ (fun r hr ih => ?_)
    · intro z y hz hy; subst hz; rw [hP] at hy; subst hy
      refine bl_go oX0_outdone 80 [4, 51, 117, 89] rfl ?_
      refine ⟨kq, fun h9 => ?_, fun h9 => ?_⟩
      · try simp (disch := omega) only [h12, zI_n, zI_o, zI_lit, zI_neg, zI_add, zI_sub, zI_mul, zI_lt, zI_le, zI_eq, zI_clamp, zI_in, zI_div, zI_rem, lg_lt0, lg_gt0, lg_eq0, lg_le0, lg_ge0, Int.toNat_natCast, ge_iff_le, gt_iff_lt, List.length_cons, List.length_nil, bl_up2_at, bl_up2_nk, bl_up2_nx] at h9
        first
        | (exfalso; first | omega | exact h9 trivial)
        | (refine ⟨fun h37 => ?_, fun h37 => ?_⟩
           · try simp (disch := omega) only [h12, zI_n, zI_o, zI_lit, zI_neg, zI_add, zI_sub, zI_mul, zI_lt, zI_le, zI_eq, zI_clamp, zI_in, zI_div, zI_rem, lg_lt0, lg_gt0, lg_eq0, lg_le0, lg_ge0, Int.toNat_natCast, ge_iff_le, gt_iff_lt, List.length_cons, List.length_nil, bl_up2_at, bl_up2_nk, bl_up2_nx] at h37
             exfalso; omega
           · try simp (disch := omega) only [h12, zI_n, zI_o, zI_lit, zI_neg, zI_add, zI_sub, zI_mul, zI_lt, zI_le, zI_eq, zI_clamp, zI_in, zI_div, zI_rem, lg_lt0, lg_gt0, lg_eq0, lg_le0, lg_ge0, Int.toNat_natCast, ge_iff_le, gt_iff_lt, List.length_cons, List.length_nil, bl_up2_at, bl_up2_nk, bl_up2_nx] at h37
             first
             | (exfalso; first | omega | exact h37 trivial)
             | (refine ⟨fun h44 => ?_, fun h44 => ?_⟩
                · try simp (disch := omega) only [h12, zI_n, zI_o, zI_lit, zI_neg, zI_add, zI_sub, zI_mul, zI_lt, zI_le, zI_eq, zI_clamp, zI_in, zI_div, zI_rem, lg_lt0, lg_gt0, lg_eq0, lg_le0, lg_ge0, Int.toNat_natCast, ge_iff_le, gt_iff_lt, List.length_cons, List.length_nil, bl_up2_at, bl_up2_nk, bl_up2_nx] at h44
                  first
                  | (exfalso; first | omega | exact h44 trivial)
                  | (try dsimp only [bl_pv]
                     exact L2 (by omega) 0 (by omega) _ rfl)
                · try simp (disch := omega) only [h12, zI_n, zI_o, zI_lit, zI_neg, zI_add, zI_sub, zI_mul, zI_lt, zI_le, zI_eq, zI_clamp, zI_in, zI_div, zI_rem, lg_lt0, lg_gt0, lg_eq0, lg_le0, lg_ge0, Int.toNat_natCast, ge_iff_le, gt_iff_lt, List.length_cons, List.length_nil, bl_up2_at, bl_up2_nk, bl_up2_nx] at h44
                  first
                  | (exfalso; first | omega | exact h44 trivial)
                  | (refine ⟨(fun _ => by first | exact Or.inl rfl | exact Or.inr rfl), ?_⟩
                     try show _ ∧ _
                     try dsimp only [bl_pv]
                     refine Or.inr ⟨I, rfl, rfl, fun _ _ _ => rfl, fun p hp => ?_, fun p hp i hi c' hc' hI hic => ?_, fun p hp e => ⟨rfl, fun _ _ _ _ => rfl⟩⟩
                     · obtain ⟨y, y1, y2⟩ := hc p hp
                       exact ⟨y, y1, by omega⟩
                     · exact Or.inr ⟨c', hc', hI, hic, fun _ _ => rfl⟩)))
      · try simp (disch := omega) only [h12, zI_n, zI_o, zI_lit, zI_neg, zI_add, zI_sub, zI_mul, zI_lt, zI_le, zI_eq, zI_clamp, zI_in, zI_div, zI_rem, lg_lt0, lg_gt0, lg_eq0, lg_le0, lg_ge0, Int.toNat_natCast, ge_iff_le, gt_iff_lt, List.length_cons, List.length_nil, bl_up2_at, bl_up2_nk, bl_up2_nx] at h9
        exfalso; omega
    · intro z y hz hy; subst hz hy
      have ec : (nI r).toNatClampNeg = r := nI_clamp (by omega)
      obtain ⟨g1, g2, -⟩ := hD.2.2.2.2 r hr
      obtain ⟨t1, t2⟩ := hT r hr
      refine bl_go oX0_outdone 80 [4, 51, 117, 89] rfl ?_
      refine ⟨kq, fun h9 => ?_, fun h9 => ?_⟩
      · try simp (disch := omega) only [h12, zI_n, zI_o, zI_lit, zI_neg, zI_add, zI_sub, zI_mul, zI_lt, zI_le, zI_eq, zI_clamp, zI_in, zI_div, zI_rem, lg_lt0, lg_gt0, lg_eq0, lg_le0, lg_ge0, Int.toNat_natCast, ge_iff_le, gt_iff_lt, List.length_cons, List.length_nil, bl_up2_at, bl_up2_nk, bl_up2_nx] at h9
        exfalso; omega
      · try simp (disch := omega) only [h12, zI_n, zI_o, zI_lit, zI_neg, zI_add, zI_sub, zI_mul, zI_lt, zI_le, zI_eq, zI_clamp, zI_in, zI_div, zI_rem, lg_lt0, lg_gt0, lg_eq0, lg_le0, lg_ge0, Int.toNat_natCast, ge_iff_le, gt_iff_lt, List.length_cons, List.length_nil, bl_up2_at, bl_up2_nk, bl_up2_nx] at h9
        refine ⟨kq, _, bl_vs rq_3, Or.inl ⟨kq4, (by first | exact (by rw [nq4]; exact vp_in_nI (by omega) (by omega)) | ((try dsimp only [bl_pv]); show vp_in _ (N _); rw [nq4]; simp (disch := omega) only [h12, zI_n, zI_o, zI_lit, zI_neg, zI_add, zI_sub, zI_mul, zI_lt, zI_le, zI_eq, zI_clamp, zI_in, zI_div, zI_rem, lg_lt0, lg_gt0, lg_eq0, lg_le0, lg_ge0, Int.toNat_natCast, ge_iff_le, gt_iff_lt, List.length_cons, List.length_nil, bl_up2_at, bl_up2_nk, bl_up2_nx] <;> omega)), kq, _, bl_vs rq_4, Or.inl ⟨kq5, (by first | exact (by rw [nq5]; exact vp_in_nI (by omega) (by omega)) | ((try dsimp only [bl_pv]); show vp_in _ (N _); rw [nq5]; simp (disch := omega) only [h12, zI_n, zI_o, zI_lit, zI_neg, zI_add, zI_sub, zI_mul, zI_lt, zI_le, zI_eq, zI_clamp, zI_in, zI_div, zI_rem, lg_lt0, lg_gt0, lg_eq0, lg_le0, lg_ge0, Int.toNat_natCast, ge_iff_le, gt_iff_lt, List.length_cons, List.length_nil, bl_up2_at, bl_up2_nk, bl_up2_nx] <;> omega)), ?_⟩⟩⟩
        try dsimp only [bl_pv]
        refine ih _ _ (nI_1 _) ?_
        rw [ec, g2, t1, nI_1, show nI (prt D s.1 r) * nI (D.2.1 r + 1) = nI (prt D s.1 r * (D.2.1 r + 1)) from (Int32.ofNat_mul _ _).symm, nI_add]; rfl
  refine bl_go oX0_outdone 80 [4, 51, 117, 89] rfl ?_
  try dsimp only [bl_pv]
  exact L1 0 (by omega) _ _ rfl rfl
end BENCH2
