/-! ===== Bench: the search ===== -/
def bnB (I : Nat → Nat → Int32) (q T : Nat) (b : bB) : Prop := I q 17 = nI b.1 ∧ I q 15 = nI b.2.1 ∧ ∀ i, i < T → I (q + 11) i = b.2.2.1 i ∧ I (q + 12) i = b.2.2.2 i
/-- all that holds as n blocks are placed -/
def bnI (I : Nat → Nat → Int32) (q : Nat) (D : bD) (T n : Nat) (s : bs) (p a : Nat → Int32) (b : bB) (c : Nat) : Prop := bnD I q D T ∧ bnT I q D s ∧ I q 13 = nI (wlb D s) ∧ (∀ i, i < n → I (q + 7) i = p i ∧ I (q + 8) i = a i) ∧ bnB I q T b ∧ bnV I q D T n b.1 ∧ bnC I q c
/-- what may change in the search -/
def bnF (I I' : Nat → Nat → Int32) (q : Nat) : Prop := (∀ x, (x < q ∨ q + 12 < x ∨ (q + 1 ≤ x ∧ x ≤ q + 4)) → I' x = I x) ∧ ∀ j, j ≠ 13 → j ≠ 15 → j ≠ 17 → I' q j = I q j
def cNN : Nat → Nat
  | 0 => 0
  | k + 1 => 4 * (1 + cNN k)
theorem cNN_le : ∀ k, cNN k + 2 ≤ 2 * 4 ^ k
  | 0 => by decide
  | k + 1 => by
    have := cNN_le k
    show 4 * (1 + cNN k) + 2 ≤ 2 * (4 ^ k * 4)
    omega
theorem cNN_sm {k : Nat} (h : k ≤ 12) : cNN k ≤ 40000000 := by
  have a := cNN_le k
  have b : 4 ^ k ≤ 4 ^ 12 := Nat.pow_le_pow_right (by decide) h
  have c : (4 : Nat) ^ 12 = 16777216 := by decide
  omega
theorem bnF.trans {I I' I'' : Nat → Nat → Int32} {q : Nat} (h : bnF I I' q) (h' : bnF I' I'' q) : bnF I I'' q := ⟨fun x hx => (h'.1 x hx).trans (h.1 x hx), fun j a b c => (h'.2 j a b c).trans (h.2 j a b c)⟩
theorem bnF.rfl' {I : Nat → Nat → Int32} {q : Nat} : bnF I I q := ⟨fun _ _ => rfl, fun _ _ _ _ => rfl⟩
theorem bnK.trans {I I' I'' : Nat → Nat → Int32} {q : Nat} {D : bD} {T n m : Nat} (h : bnK I I' q D T n) (h' : bnK I' I'' q D T m) (hm : n ≤ m) : bnK I I'' q D T n := fun k s hk ho hp => by
  obtain ⟨a1, a2⟩ := h k s hk ho hp
  obtain ⟨b1, b2⟩ := h' k s (by omega) ho hp
  exact ⟨b1.trans a1, fun i hi r hr => (b2 i hi r hr).trans (a2 i hi r hr)⟩
theorem bnD.f {I I' : Nat → Nat → Int32} {q T : Nat} {D : bD} (h : bnD I q D T) (hF : bnF I I' q) : bnD I' q D T := h.same (hF.2 12 (by decide) (by decide) (by decide)) (hF.2 16 (by decide) (by decide) (by decide)) (hF.1 _ (by omega)) (hF.1 _ (by omega)) (hF.1 _ (by omega)) (hF.1 _ (by omega))
theorem bnV.mono {I : Nat → Nat → Int32} {q T n m B B' : Nat} {D : bD} (h : bnV I q D T n B) (hn : n ≤ m) (hB : B' ≤ B) : bnV I q D T m B' := fun k s hk ho hs hp i hi c hc hI hic hr => Nat.le_trans hB (h k s (by omega) ho hs hp i hi c hc hI hic hr)
theorem bnV.same {I I' : Nat → Nat → Int32} {q T n B : Nat} {D : bD} (h : bnV I q D T n B) (h9 : I' (q + 9) = I (q + 9)) (h10 : I' (q + 10) = I (q + 10)) : bnV I' q D T n B := by
  unfold bnV at *
  rw [h9, h10]; exact h
section BENCH3
variable {G : bl_G} {l : Launch} {d q T k n : Nat} {I : Nat → Nat → Int32} {J : Nat → Nat → Int64} {R : Nat → Nat → Option Nat} {K N : Nat → Nat} {D : bD} {s : bs} {p a : Nat → Int32} {b : bB} {c : Nat}
theorem c_Bench_keepOrder {y : Int32} (hq : bnS R K N q) (hI : bnI I q D T T s p a b c) (hk : bOk D 0 s) (hs : bSm D 0 s) (hb : b.1 < 2147483648) (hy : y = nI s.2.2) : bl_MC G l (d + 1) mX0_keepOrder [.ref q, .int y] (I, J, R, K, N) (0, 0) (fun o σ' => o = .inl none ∧ ∃ I', σ' = (I', J, R, K, N) ∧ bnF I I' q ∧ bnK I I' q D T T ∧ bnI I' q D T T s p a (srch D 0 T s p a b) c) := by
  have hq' := hq
  obtain ⟨hq0, kq, ⟨rq_0, rq_1, rq_2, rq_3, rq_4, rq_5, rq_6, rq_7, rq_8, rq_9, rq_10, rq_11⟩, ⟨kq1, kq2, kq3, kq4, kq5, kq6, kq7, kq8, kq9, kq10, kq11, kq12⟩, ⟨nq1, nq2, nq3, nq4, nq5, nq6, nq7, nq8, nq9, nq10, nq11, nq12⟩⟩ := hq
  obtain ⟨hD, hT, hw, hp, ⟨hb1, hb2, hb3⟩, hV, hC⟩ := hI
  have h12 := hD.1
  have h4 := hD.2.1
  have h16 := hD.2.2.1
  have hT12 := hD.2.2.2.1
  have hsm := (bSm_k hs).1
  have hlr : lrf s.2.1 D.1 ≤ 30000 := lrf_le hsm
  subst hy
  refine bl_MC_intro (by decide +kernel) rfl (Nat.le_of_ble_eq_true rfl) ?_
  have L : lrf s.2.1 D.1 < b.1 → ∀ i, i ≤ T → ∀ x I1, x = nI i → (∀ y, y ≠ q → y ≠ q + 11 → y ≠ q + 12 → I1 y = I y) → (∀ j, j ≠ 17 → j ≠ 15 → I1 q j = I q j) → I1 q 17 = nI (lrf s.2.1 D.1) → I1 q 15 = nI s.2.2 → (∀ j, j < i → I1 (q + 11) j = p j ∧ I1 (q + 12) j = a j) → bl_WP G l (d + 1) mX0_keepOrder 26 [(3, .int x), (0, .ref q)] [] (I1, J, R, K, N) (0, 0) (fun o σ' => o = .inl none ∧ ∃ I', σ' = (I', J, R, K, N) ∧ bnF I I' q ∧ bnK I I' q D T T ∧ bnI I' q D T T s p a (srch D 0 T s p a b) c) := by
    intro hlt
    refine bl_for T ?_ (fun i hi ih => ?_)
    · intro x I1 hx f1 f2 f3 f4 f5; subst hx
      have g16 : I1 q 16 = nI T := (f2 16 (by omega) (by omega)).trans h16
      refine bl_go oX0_keepOrder 80 [26] rfl ?_
      refine ⟨kq, fun h31 => ?_, fun h31 => ?_⟩
      · try simp (disch := omega) only [g16, zI_n, zI_o, zI_lit, zI_neg, zI_add, zI_sub, zI_mul, zI_lt, zI_le, zI_eq, zI_clamp, zI_in, zI_div, zI_rem, lg_lt0, lg_gt0, lg_eq0, lg_le0, lg_ge0, Int.toNat_natCast, ge_iff_le, gt_iff_lt, List.length_cons, List.length_nil, bl_up2_at, bl_up2_nk, bl_up2_nx] at h31
        try show _ ∧ _
        try dsimp only [bl_pv]
        have es : srch D 0 T s p a b = (lrf s.2.1 D.1, s.2.2, p, a) := by
          show (if lrf s.2.1 D.1 < b.1 then _ else _) = _
          rw [if_pos hlt]
        have hF : bnF I I1 q := ⟨fun x hx => f1 x (by omega) (by omega) (by omega), fun j j1 j2 j3 => f2 j j3 j2⟩
        rw [es]
        refine ⟨rfl, I1, rfl, hF, fun k s' _ _ _ => ⟨by rw [f1 _ (by omega) (by omega) (by omega)], fun i hi r hr => by rw [f1 _ (by omega) (by omega) (by omega)]⟩, hD.f hF, hT.same (f1 _ (by omega) (by omega) (by omega)) (f1 _ (by omega) (by omega) (by omega)), (f2 13 (by omega) (by omega)).trans hw, ?_, ⟨f3, f4, f5⟩, ?_, ?_⟩
        · intro j hj; rw [f1 _ (by omega) (by omega) (by omega), f1 _ (by omega) (by omega) (by omega)]; exact hp j hj
        · exact (hV.mono (Nat.le_refl _) (Nat.le_of_lt hlt)).same (f1 _ (by omega) (by omega) (by omega)) (f1 _ (by omega) (by omega) (by omega))
        · unfold bnC; rw [f1 _ (by omega) (by omega) (by omega)]; exact hC
      · try simp (disch := omega) only [g16, zI_n, zI_o, zI_lit, zI_neg, zI_add, zI_sub, zI_mul, zI_lt, zI_le, zI_eq, zI_clamp, zI_in, zI_div, zI_rem, lg_lt0, lg_gt0, lg_eq0, lg_le0, lg_ge0, Int.toNat_natCast, ge_iff_le, gt_iff_lt, List.length_cons, List.length_nil, bl_up2_at, bl_up2_nk, bl_up2_nx] at h31
        exfalso; omega
    · intro x I1 hx f1 f2 f3 f4 f5; subst hx
      have g16 : I1 q 16 = nI T := (f2 16 (by omega) (by omega)).trans h16
      have ec : (nI i).toNatClampNeg = i := nI_clamp (by omega)
      have e7 : I1 (q + 7) i = p i := by rw [f1 _ (by omega) (by omega) (by omega)]; exact (hp i hi).1
      have e8 : I1 (q + 8) i = a i := by rw [f1 _ (by omega) (by omega) (by omega)]; exact (hp i hi).2
      refine bl_go oX0_keepOrder 80 [26] rfl ?_
      refine ⟨kq, fun h31 => ?_, fun h31 => ?_⟩
      · try simp (disch := omega) only [g16, zI_n, zI_o, zI_lit, zI_neg, zI_add, zI_sub, zI_mul, zI_lt, zI_le, zI_eq, zI_clamp, zI_in, zI_div, zI_rem, lg_lt0, lg_gt0, lg_eq0, lg_le0, lg_ge0, Int.toNat_natCast, ge_iff_le, gt_iff_lt, List.length_cons, List.length_nil, bl_up2_at, bl_up2_nk, bl_up2_nx] at h31
        exfalso; omega
      · try simp (disch := omega) only [g16, zI_n, zI_o, zI_lit, zI_neg, zI_add, zI_sub, zI_mul, zI_lt, zI_le, zI_eq, zI_clamp, zI_in, zI_div, zI_rem, lg_lt0, lg_gt0, lg_eq0, lg_le0, lg_ge0, Int.toNat_natCast, ge_iff_le, gt_iff_lt, List.length_cons, List.length_nil, bl_up2_at, bl_up2_nk, bl_up2_nx] at h31
        refine ⟨fun h37 => ?_, fun h37 => ?_⟩
        · try simp (disch := omega) only [g16, zI_n, zI_o, zI_lit, zI_neg, zI_add, zI_sub, zI_mul, zI_lt, zI_le, zI_eq, zI_clamp, zI_in, zI_div, zI_rem, lg_lt0, lg_gt0, lg_eq0, lg_le0, lg_ge0, Int.toNat_natCast, ge_iff_le, gt_iff_lt, List.length_cons, List.length_nil, bl_up2_at, bl_up2_nk, bl_up2_nx] at h37
          exfalso; omega
        · try simp (disch := omega) only [g16, zI_n, zI_o, zI_lit, zI_neg, zI_add, zI_sub, zI_mul, zI_lt, zI_le, zI_eq, zI_clamp, zI_in, zI_div, zI_rem, lg_lt0, lg_gt0, lg_eq0, lg_le0, lg_ge0, Int.toNat_natCast, ge_iff_le, gt_iff_lt, List.length_cons, List.length_nil, bl_up2_at, bl_up2_nk, bl_up2_nx] at h37
          refine ⟨kq, _, bl_vs rq_10, kq, _, bl_vs rq_6, Or.inl ⟨kq7, (by first | exact (by rw [nq7]; exact vp_in_nI (by omega) (by omega)) | ((try dsimp only [bl_pv]); show vp_in _ (N _); rw [nq7]; simp (disch := omega) only [g16, zI_n, zI_o, zI_lit, zI_neg, zI_add, zI_sub, zI_mul, zI_lt, zI_le, zI_eq, zI_clamp, zI_in, zI_div, zI_rem, lg_lt0, lg_gt0, lg_eq0, lg_le0, lg_ge0, Int.toNat_natCast, ge_iff_le, gt_iff_lt, List.length_cons, List.length_nil, bl_up2_at, bl_up2_nk, bl_up2_nx] <;> omega)), kq11, (by first | exact (by rw [nq11]; exact vp_in_nI (by omega) (by omega)) | ((try dsimp only [bl_pv]); show vp_in _ (N _); rw [nq11]; simp (disch := omega) only [g16, zI_n, zI_o, zI_lit, zI_neg, zI_add, zI_sub, zI_mul, zI_lt, zI_le, zI_eq, zI_clamp, zI_in, zI_div, zI_rem, lg_lt0, lg_gt0, lg_eq0, lg_le0, lg_ge0, Int.toNat_natCast, ge_iff_le, gt_iff_lt, List.length_cons, List.length_nil, bl_up2_at, bl_up2_nk, bl_up2_nx] <;> omega)), kq, _, bl_vs rq_11, kq, _, bl_vs rq_7, Or.inl ⟨kq8, (by first | exact (by rw [nq8]; exact vp_in_nI (by omega) (by omega)) | ((try dsimp only [bl_pv]); show vp_in _ (N _); rw [nq8]; simp (disch := omega) only [g16, zI_n, zI_o, zI_lit, zI_neg, zI_add, zI_sub, zI_mul, zI_lt, zI_le, zI_eq, zI_clamp, zI_in, zI_div, zI_rem, lg_lt0, lg_gt0, lg_eq0, lg_le0, lg_ge0, Int.toNat_natCast, ge_iff_le, gt_iff_lt, List.length_cons, List.length_nil, bl_up2_at, bl_up2_nk, bl_up2_nx] <;> omega)), kq12, (by first | exact (by rw [nq12]; exact vp_in_nI (by omega) (by omega)) | ((try dsimp only [bl_pv]); show vp_in _ (N _); rw [nq12]; simp (disch := omega) only [g16, zI_n, zI_o, zI_lit, zI_neg, zI_add, zI_sub, zI_mul, zI_lt, zI_le, zI_eq, zI_clamp, zI_in, zI_div, zI_rem, lg_lt0, lg_gt0, lg_eq0, lg_le0, lg_ge0, Int.toNat_natCast, ge_iff_le, gt_iff_lt, List.length_cons, List.length_nil, bl_up2_at, bl_up2_nk, bl_up2_nx] <;> omega)), ?_⟩⟩⟩
          try dsimp only [bl_pv]
          rw [ec]
          refine ih _ _ (nI_1 _) (fun y y1 y2 y3 => ?_) (fun j j1 j2 => ?_) ?_ ?_ (fun j hj => ?_)
          · rw [bl_up2_ne y3, bl_up2_ne y2]; exact f1 y y1 y2 y3
          · rw [bl_up2_ne (by omega), bl_up2_ne (by omega)]; exact f2 j j1 j2
          · rw [bl_up2_ne (by omega), bl_up2_ne (by omega)]; exact f3
          · rw [bl_up2_ne (by omega), bl_up2_ne (by omega)]; exact f4
          · rw [bl_up2_ne (show q + 11 ≠ q + 12 by omega), bl_up2_ne (show q + 8 ≠ q + 11 by omega)]
            by_cases e : j = i
            · subst e; rw [bl_up2_at, bl_up2_at]; exact ⟨e7, e8⟩
            · rw [bl_up2_nk e, bl_up2_nk e, bl_up2_ne (show q + 12 ≠ q + 11 by omega)]; exact f5 j (by omega)
  refine bl_go oX0_keepOrder 80 [26] rfl ?_
  refine ⟨rfl, rfl, kq, (Nat.le_of_ble_eq_true rfl), (0, 0), Nat.le_of_ble_eq_true rfl, Nat.le_of_ble_eq_true rfl, bl_MC_mono (c_Bench_lastReady (d := d) hq' h12 h4 (fun r hr => (hT r hr).2) hsm) (fun o1 σ1 q1 => ?_)⟩
  try dsimp only [bl_pv] at q1
  obtain ⟨rfl, rfl⟩ := q1
  refine bl_go oX0_keepOrder 80 [26] rfl ?_
  refine ⟨kq, fun h10 => ?_, fun h10 => ?_⟩
  · try simp (disch := omega) only [hb1, zI_n, zI_o, zI_lit, zI_neg, zI_add, zI_sub, zI_mul, zI_lt, zI_le, zI_eq, zI_clamp, zI_in, zI_div, zI_rem, lg_lt0, lg_gt0, lg_eq0, lg_le0, lg_ge0, Int.toNat_natCast, ge_iff_le, gt_iff_lt, List.length_cons, List.length_nil, bl_up2_at, bl_up2_nk, bl_up2_nx] at h10
    first
    | (exfalso; first | omega | exact h10 trivial)
    | (refine ⟨kq, Or.inr (Or.inr ⟨rfl, rfl, _, rfl⟩), (fun h => by cases h), kq, Or.inr (Or.inr ⟨rfl, rfl, _, rfl⟩), (fun h => by cases h), ?_⟩
       refine bl_lv [0, 2] rfl ?_
       try dsimp only [bl_pv]
       refine L (by omega) 0 (by omega) _ _ rfl (fun y y1 y2 y3 => ?_) (fun j j1 j2 => ?_) ?_ ?_ (fun j hj => absurd hj (by omega))
       · rw [bl_up2_ne y1, bl_up2_ne y1]
       · rw [bl_up2_nk j2, bl_up2_nk j1]
       · rw [bl_up2_nk (by omega), bl_up2_at]
       · rw [bl_up2_at])
  · try simp (disch := omega) only [hb1, zI_n, zI_o, zI_lit, zI_neg, zI_add, zI_sub, zI_mul, zI_lt, zI_le, zI_eq, zI_clamp, zI_in, zI_div, zI_rem, lg_lt0, lg_gt0, lg_eq0, lg_le0, lg_ge0, Int.toNat_natCast, ge_iff_le, gt_iff_lt, List.length_cons, List.length_nil, bl_up2_at, bl_up2_nk, bl_up2_nx] at h10
    first
    | (exfalso; first | omega | exact h10 trivial)
    | (try show _ ∧ _
       try dsimp only [bl_pv]
       have es : srch D 0 T s p a b = b := by
         show (if lrf s.2.1 D.1 < b.1 then _ else _) = _
         rw [if_neg (by omega)]
       rw [es]
       exact ⟨rfl, I, rfl, bnF.rfl', fun _ _ _ _ _ => ⟨rfl, fun _ _ _ _ => rfl⟩, hD, hT, hw, hp, ⟨hb1, hb2, hb3⟩, hV, hC⟩)
end BENCH3
