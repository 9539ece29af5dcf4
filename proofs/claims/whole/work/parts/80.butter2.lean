/-! ===== Butter.follow, latestStart ===== -/
/-- the unit and the warmth behind k steps -/
def fwU (rc : sq) (u0 : Nat) : Nat → Nat
  | 0 => u0
  | k + 1 => fwU rc u0 k + st_un (rc.2.1 k) (rc.2.2 k)
def fwW (tf : Nat → Nat) (dg : Nat → Int32) (rc : sq) (u0 : Nat) : Nat → Int32
  | 0 => 10 * nI (tf 4)
  | k + 1 => tkw tf dg (rc.2.1 k) (fwW tf dg rc u0 k) (fwU rc u0 k) (st_un (rc.2.1 k) (rc.2.2 k))
def fwB (tf : Nat → Nat) (dg : Nat → Int32) (rc : sq) (u0 k : Nat) : Bool := tkb tf (rc.2.1 k) (fwW tf dg rc u0 k)
def fwR (tf : Nat → Nat) (dg : Nat → Int32) (rc : sq) (u0 k : Nat) : Bool := tkr tf dg (rc.2.1 k) (fwW tf dg rc u0 k) (fwU rc u0 k) (st_un (rc.2.1 k) (rc.2.2 k))
/-- the first one below n that p holds of, or -1 -/
def fst1 (p : Nat → Bool) : Nat → Int32
  | 0 => zI (-1)
  | n + 1 => if p n = true ∧ fst1 p n = zI (-1) then nI n else fst1 p n
theorem st_un_le {k v : Nat} (hv : v ≤ 36) : st_un k v ≤ 36 := by unfold st_un; split <;> (try split) <;> (try split) <;> omega
theorem fwU_le {rc : sq} {u0 : Nat} {n : Nat} (h : ∀ k, k < n → rc.2.2 k ≤ 36) : fwU rc u0 n ≤ u0 + 36 * n ∧ u0 ≤ fwU rc u0 n := by
  induction n with
  | zero => exact ⟨Nat.le_refl _, Nat.le_refl _⟩
  | succ n ih =>
    have a := ih (fun k hk => h k (by omega))
    have b : st_un (rc.2.1 n) (rc.2.2 n) ≤ 36 := st_un_le (h n (by omega))
    show fwU rc u0 n + st_un (rc.2.1 n) (rc.2.2 n) ≤ _ ∧ _ ≤ fwU rc u0 n + st_un (rc.2.1 n) (rc.2.2 n)
    omega
section UPS
variable {R : Nat → Nat → Option Nat} {K N : Nat → Nat} {q j : Nat} {x : Option Nat}
theorem kiS.up {a : Nat} (h : kiS R K N a) (hq : q ≠ a) : kiS (bl_up2 R q j x) K N a := by
  unfold kiS at *
  rw [bl_up2_ne (fun e => hq e.symm)]; exact h
theorem rcS.up {a : Nat} (h : rcS R K N a) (hq : q ≠ a) : rcS (bl_up2 R q j x) K N a := by
  unfold rcS at *
  rw [bl_up2_ne (fun e => hq e.symm)]; exact h
theorem sdS.up {a : Nat} (h : sdS R K N a) (hq : q ≠ a) : sdS (bl_up2 R q j x) K N a := by
  unfold sdS at *
  rw [bl_up2_ne (fun e => hq e.symm)]; exact h
theorem slS.up {a : Nat} (h : slS R K N a) (hq : q < 900) : slS (bl_up2 R q j x) K N a := by
  have hr := h.1
  obtain ⟨h0, h1, h2, h3, h4, h5⟩ := h
  refine ⟨h0, h1, ?_, ?_, h4.up (by omega), h5.up (by omega)⟩
  · rw [bl_up2_ne (by omega)]; exact h2
  · rw [bl_up2_ne (by omega)]; exact h3
theorem rnS.up {a β : Nat} (h : rnS R K N a β) (hq : q < 900) (hqa : q ≠ a ∧ q ≠ a + 1) : rnS (bl_up2 R q j x) K N a β := by
  obtain ⟨h0, h1, h2, h3, h4, h5, h6, h7, h8⟩ := h
  refine ⟨h0, h1, ?_, ?_, ?_, h5, h6, h7, fun k hk => ⟨?_, (h8 k hk).2.up hq⟩⟩
  · rw [bl_up2_ne (by omega)]; exact h2
  · rw [bl_up2_ne (by omega)]; exact h3
  · rw [bl_up2_ne (by omega)]; exact h4
  · rw [bl_up2_ne (by omega)]; exact (h8 k hk).1
end UPS
section BUTTER2
variable {G : bl_G} {l : Launch} {d q a p r β : Nat} {I : Nat → Nat → Int32} {J : Nat → Nat → Int64} {R : Nat → Nat → Option Nat} {K N : Nat → Nat} {tf : Nat → Nat} {dg : Nat → Int32}
theorem c_Butter_follow {rc : sq} {u0 n : Nat} {x : Int32} (kq : K q = 2) (hqn : q < 900) (ha : kiS R K N a) (hC : kiC I a tf dg) (hp : rcS R K N p) (hrc : rcC I p rc) (hr : rnS R K N r β) (hn : I r 3 = nI n) (hnr : n ≤ rc.1) (hx : x = nI u0) (hu : u0 < 288) (hqa : q ≠ a ∧ q ≠ a + 1 ∧ q ≠ a + 3) (hqp : q ≠ p ∧ q ≠ p + 1 ∧ q ≠ p + 2) (hqr : q ≠ r ∧ q ≠ r + 1 ∧ q ≠ r + 2 ∧ q ≠ r + 3) (har : a + 3 < r ∨ r + 3 < a) (hpr : p + 2 < r ∨ r + 3 < p) : bl_MC G l (d + 2) mX1_follow [.ref q, .ref a, .ref p, .int x, .ref r] (I, J, R, K, N) (0, 0) (fun o σ' => o = .inl none ∧ ∃ I', σ' = (I', J, bl_up2 R q 0 (some a), K, N) ∧ (∀ y, y ≠ q → y ≠ r → y ≠ r + 2 → y ≠ r + 3 → I' y = I y) ∧ (∀ j, j ≠ 4 → j ≠ 5 → j ≠ 8 → I' r j = I r j) ∧ I' r 4 = fst1 (fwB tf dg rc u0) n ∧ I' r 5 = fst1 (fwR tf dg rc u0) n ∧ I' r 8 = 1 ∧ ∀ j, j ≤ n → I' (r + 2) j = nI (fwU rc u0 j - u0) ∧ I' (r + 3) j = fwW tf dg rc u0 j) := by
  have hrc20 := hrc.2.1
  have ha1 : kiS (bl_up2 R q 0 (some a)) K N a := ha.up hqa.1
  have hp1 : rcS (bl_up2 R q 0 (some a)) K N p := hp.up hqp.1
  have hr1 : rnS (bl_up2 R q 0 (some a)) K N r β := hr.up hqn ⟨hqr.1, hqr.2.1⟩
  have hra : (bl_up2 R q 0 (some a)) q 0 = some a := bl_up2_at
  have hst : ∀ k, k < n → rc.2.1 k ≤ 7 ∧ rc.2.2 k ≤ 36 := fun k hk => (hrc.2.2 k (by omega)).2.2
  have kp := hp.1
  have hFU : ∀ k, k ≤ n → fwU rc u0 k ≤ u0 + 36 * k ∧ u0 ≤ fwU rc u0 k := fun k hk => fwU_le (fun j hj => (hst j (by omega)).2)
  subst hx
  refine bl_MC_intro (by decide +kernel) rfl (Nat.le_of_ble_eq_true rfl) ?_
  generalize hR1 : bl_up2 R q 0 (some a) = R1 at *
  obtain ⟨kp', rp_0, rp_1, kpk, npk, kpn, npn⟩ := hp1
  obtain ⟨hrr, kr, rr_0, rr_1, rr_2, -, ⟨krg, nrg⟩, ⟨krw, nrw⟩, -⟩ := hr1
  have L : ∀ k, k ≤ n → ∀ z I1, z = nI k → (∀ y, y ≠ q → y ≠ r → y ≠ r + 2 → y ≠ r + 3 → I1 y = I y) → (∀ j, j ≠ 4 → j ≠ 5 → j ≠ 8 → I1 r j = I r j) → I1 r 4 = fst1 (fwB tf dg rc u0) k → I1 r 5 = fst1 (fwR tf dg rc u0) k → (∀ j, j ≤ k → I1 (r + 2) j = nI (fwU rc u0 j - u0) ∧ I1 (r + 3) j = fwW tf dg rc u0 j) → I1 q 1 = nI (fwU rc u0 k) → I1 q 2 = fwW tf dg rc u0 k → bl_WP G l (d + 2) mX1_follow 40 [(5, .int z), (0, .ref q), (1, .ref a), (2, .ref p), (3, .int (nI u0)), (4, .ref r)] [] (I1, J, R1, K, N) (0, 0) (fun o σ' => o = .inl none ∧ ∃ I', σ' = (I', J, R1, K, N) ∧ (∀ y, y ≠ q → y ≠ r → y ≠ r + 2 → y ≠ r + 3 → I' y = I y) ∧ (∀ j, j ≠ 4 → j ≠ 5 → j ≠ 8 → I' r j = I r j) ∧ I' r 4 = fst1 (fwB tf dg rc u0) n ∧ I' r 5 = fst1 (fwR tf dg rc u0) n ∧ I' r 8 = 1 ∧ ∀ j, j ≤ n → I' (r + 2) j = nI (fwU rc u0 j - u0) ∧ I' (r + 3) j = fwW tf dg rc u0 j) := by
    refine bl_for n ?_ (fun k hk ih => ?_)
    · intro z I1 hz f1 f2 f3 f4 f5 f6 f7; subst hz
      have z3 : I1 r 3 = nI n := (f2 3 (by omega) (by omega) (by omega)).trans hn
      refine bl_go oX1_follow 80 [40, 127] rfl ?_
      refine ⟨kr, fun h47 => ?_, fun h47 => ?_⟩
      · try simp (disch := omega) only [z3, zI_n, zI_o, zI_lit, zI_neg, zI_add, zI_sub, zI_mul, zI_lt, zI_le, zI_eq, zI_clamp, zI_in, zI_div, zI_rem, lg_lt0, lg_gt0, lg_eq0, lg_le0, lg_ge0, Int.toNat_natCast, ge_iff_le, gt_iff_lt, List.length_cons, List.length_nil, bl_up2_at, bl_up2_nk, bl_up2_nx] at h47
        refine ⟨kr, Or.inr (Or.inr ⟨rfl, rfl, _, rfl⟩), (fun _ => by first | exact Or.inl rfl | exact Or.inr rfl), ?_⟩
        try show _ ∧ _
        try dsimp only [bl_pv]
        refine ⟨rfl, _, rfl, fun y y1 y2 y3 y4 => ?_, fun j j4 j5 j8 => ?_, ?_, ?_, bl_up2_at, fun j hj => ?_⟩
        · rw [bl_up2_ne y2]; exact f1 y y1 y2 y3 y4
        · rw [bl_up2_nk j8]; exact f2 j j4 j5 j8
        · rw [bl_up2_nk (by omega)]; exact f3
        · rw [bl_up2_nk (by omega)]; exact f4
        · rw [bl_up2_ne (by omega), bl_up2_ne (by omega)]; exact f5 j hj
      · try simp (disch := omega) only [z3, zI_n, zI_o, zI_lit, zI_neg, zI_add, zI_sub, zI_mul, zI_lt, zI_le, zI_eq, zI_clamp, zI_in, zI_div, zI_rem, lg_lt0, lg_gt0, lg_eq0, lg_le0, lg_ge0, Int.toNat_natCast, ge_iff_le, gt_iff_lt, List.length_cons, List.length_nil, bl_up2_at, bl_up2_nk, bl_up2_nx] at h47
        exfalso; omega
    · intro z I1 hz f1 f2 f3 f4 f5 f6 f7; subst hz
      have z3 : I1 r 3 = nI n := (f2 3 (by omega) (by omega) (by omega)).trans hn
      have ec : (nI k).toNatClampNeg = k := nI_clamp (by omega)
      have ec1 : (nI k + 1).toNatClampNeg = k + 1 := by rw [nI_1]; exact nI_clamp (by omega)
      obtain ⟨s1, s2⟩ := hst k hk
      have un := st_un_le (k := rc.2.1 k) s2
      have hU := hFU k (by omega)
      have hU1 := hFU (k + 1) (by omega)
      have hC1 : kiC I1 a tf dg := ⟨fun j hj => by rw [f1 _ (by omega) (by omega) (by omega) (by omega)]; exact hC.1 j hj, fun j hj => by rw [f1 _ (by omega) (by omega) (by omega) (by omega)]; exact hC.2 j hj⟩
      have hrc1 : rcC I1 p rc := by
        refine ⟨?_, hrc.2.1, fun j hj => ?_⟩
        · rw [f1 _ (by omega) (by omega) (by omega) (by omega)]; exact hrc.1
        · rw [f1 (p + 1) (by omega) (by omega) (by omega) (by omega), f1 (p + 2) (by omega) (by omega) (by omega) (by omega)]; exact hrc.2.2 j hj
      have L2 : ∀ I2, (∀ y, y ≠ q → y ≠ r → y ≠ r + 2 → y ≠ r + 3 → I2 y = I y) → (∀ j, j ≠ 4 → j ≠ 5 → j ≠ 8 → I2 r j = I r j) → I2 r 4 = fst1 (fwB tf dg rc u0) (k + 1) → I2 r 5 = fst1 (fwR tf dg rc u0) k → (∀ j, j ≤ k + 1 → I2 (r + 2) j = nI (fwU rc u0 j - u0) ∧ I2 (r + 3) j = fwW tf dg rc u0 j) → I2 q 1 = nI (fwU rc u0 (k + 1)) → I2 q 2 = fwW tf dg rc u0 (k + 1) → I2 q 4 = bI (fwR tf dg rc u0 k) → bl_WP G l (d + 2) mX1_follow 127 [(5, .int (nI k)), (0, .ref q), (1, .ref a), (2, .ref p), (3, .int (nI u0)), (4, .ref r)] [] (I2, J, R1, K, N) (0, 0) (fun o σ' => o = .inl none ∧ ∃ I', σ' = (I', J, R1, K, N) ∧ (∀ y, y ≠ q → y ≠ r → y ≠ r + 2 → y ≠ r + 3 → I' y = I y) ∧ (∀ j, j ≠ 4 → j ≠ 5 → j ≠ 8 → I' r j = I r j) ∧ I' r 4 = fst1 (fwB tf dg rc u0) n ∧ I' r 5 = fst1 (fwR tf dg rc u0) n ∧ I' r 8 = 1 ∧ ∀ j, j ≤ n → I' (r + 2) j = nI (fwU rc u0 j - u0) ∧ I' (r + 3) j = fwW tf dg rc u0 j) := by
        intro I2 g1 g2 g3 g4 g5 g6 g7 g8
        have hs : fst1 (fwR tf dg rc u0) (k + 1) = if fwR tf dg rc u0 k = true ∧ fst1 (fwR tf dg rc u0) k = zI (-1) then nI k else fst1 (fwR tf dg rc u0) k := rfl
        refine bl_go oX1_follow 80 [40, 127] rfl ?_
        refine ⟨kq, fun h131 => ?_, fun h131 => ?_⟩
        · try simp (disch := omega) only [bl_pv, cl0, cl1, cl2, cl3, cl4, cl5, cl6, cl7, cl8, cl9, bl_up2_at, bl_up2_nk, bl_up2_nx] at h131
          try dsimp only [bl_pv]
          first
          | (refine ih _ _ (nI_1 _) g1 g2 g3 ?_ g5 g6 g7
             rw [hs, if_neg ?_]
             · exact g4
             · intro hh
               first
               | (rw [g8, bI_0] at h131; rw [h131] at hh; exact absurd hh.1 (by decide))
               | exact h140 (g4.trans hh.2))
          | (refine ih _ _ (nI_1 _) ?_ ?_ ?_ ?_ ?_ ?_ ?_
             · intro y y1 y2 y3 y4; rw [bl_up2_ne y2]; exact g1 y y1 y2 y3 y4
             · intro j j4 j5 j8; rw [bl_up2_nk j5]; exact g2 j j4 j5 j8
             · rw [bl_up2_nk (by omega)]; exact g3
             · rw [bl_up2_at, hs, if_pos]
               refine ⟨?_, g4.symm.trans h140⟩
               rw [g8] at h131
               cases hb : fwR tf dg rc u0 k
               · exact absurd (by rw [hb]; rfl) h131
               · rfl
             · intro j hj; rw [bl_up2_ne (by omega), bl_up2_ne (by omega)]; exact g5 j hj
             · rw [bl_up2_ne (by omega)]; exact g6
             · rw [bl_up2_ne (by omega)]; exact g7)
        · try simp (disch := omega) only [bl_pv, cl0, cl1, cl2, cl3, cl4, cl5, cl6, cl7, cl8, cl9, bl_up2_at, bl_up2_nk, bl_up2_nx] at h131
          refine ⟨kr, fun h140 => ?_, fun h140 => ?_⟩
          · try simp (disch := omega) only [bl_pv, cl0, cl1, cl2, cl3, cl4, cl5, cl6, cl7, cl8, cl9, bl_up2_at, bl_up2_nk, bl_up2_nx] at h140
            try dsimp only [bl_pv]
            first
            | (refine ih _ _ (nI_1 _) g1 g2 g3 ?_ g5 g6 g7
               rw [hs, if_neg ?_]
               · exact g4
               · intro hh
                 first
                 | (rw [g8, bI_0] at h131; rw [h131] at hh; exact absurd hh.1 (by decide))
                 | exact h140 (g4.trans hh.2))
            | (refine ih _ _ (nI_1 _) ?_ ?_ ?_ ?_ ?_ ?_ ?_
               · intro y y1 y2 y3 y4; rw [bl_up2_ne y2]; exact g1 y y1 y2 y3 y4
               · intro j j4 j5 j8; rw [bl_up2_nk j5]; exact g2 j j4 j5 j8
               · rw [bl_up2_nk (by omega)]; exact g3
               · rw [bl_up2_at, hs, if_pos]
                 refine ⟨?_, g4.symm.trans h140⟩
                 rw [g8] at h131
                 cases hb : fwR tf dg rc u0 k
                 · exact absurd (by rw [hb]; rfl) h131
                 · rfl
               · intro j hj; rw [bl_up2_ne (by omega), bl_up2_ne (by omega)]; exact g5 j hj
               · rw [bl_up2_ne (by omega)]; exact g6
               · rw [bl_up2_ne (by omega)]; exact g7)
          · try simp (disch := omega) only [bl_pv, cl0, cl1, cl2, cl3, cl4, cl5, cl6, cl7, cl8, cl9, bl_up2_at, bl_up2_nk, bl_up2_nx] at h140
            refine ⟨kr, Or.inr (Or.inr ⟨rfl, rfl, _, rfl⟩), (fun h => by cases h), ?_⟩
            try dsimp only [bl_pv]
            first
            | (refine ih _ _ (nI_1 _) g1 g2 g3 ?_ g5 g6 g7
               rw [hs, if_neg ?_]
               · exact g4
               · intro hh
                 first
                 | (rw [g8, bI_0] at h131; rw [h131] at hh; exact absurd hh.1 (by decide))
                 | exact h140 (g4.trans hh.2))
            | (refine ih _ _ (nI_1 _) ?_ ?_ ?_ ?_ ?_ ?_ ?_
               · intro y y1 y2 y3 y4; rw [bl_up2_ne y2]; exact g1 y y1 y2 y3 y4
               · intro j j4 j5 j8; rw [bl_up2_nk j5]; exact g2 j j4 j5 j8
               · rw [bl_up2_nk (by omega)]; exact g3
               · rw [bl_up2_at, hs, if_pos]
                 refine ⟨?_, g4.symm.trans h140⟩
                 rw [g8] at h131
                 cases hb : fwR tf dg rc u0 k
                 · exact absurd (by rw [hb]; rfl) h131
                 · rfl
               · intro j hj; rw [bl_up2_ne (by omega), bl_up2_ne (by omega)]; exact g5 j hj
               · rw [bl_up2_ne (by omega)]; exact g6
               · rw [bl_up2_ne (by omega)]; exact g7)
      refine bl_go oX1_follow 80 [40, 127] rfl ?_
      refine ⟨kr, fun h47 => ?_, fun h47 => ?_⟩
      · try simp (disch := omega) only [z3, zI_n, zI_o, zI_lit, zI_neg, zI_add, zI_sub, zI_mul, zI_lt, zI_le, zI_eq, zI_clamp, zI_in, zI_div, zI_rem, lg_lt0, lg_gt0, lg_eq0, lg_le0, lg_ge0, Int.toNat_natCast, ge_iff_le, gt_iff_lt, List.length_cons, List.length_nil, bl_up2_at, bl_up2_nk, bl_up2_nx] at h47
        exfalso; omega
      · try simp (disch := omega) only [z3, zI_n, zI_o, zI_lit, zI_neg, zI_add, zI_sub, zI_mul, zI_lt, zI_le, zI_eq, zI_clamp, zI_in, zI_div, zI_rem, lg_lt0, lg_gt0, lg_eq0, lg_le0, lg_ge0, Int.toNat_natCast, ge_iff_le, gt_iff_lt, List.length_cons, List.length_nil, bl_up2_at, bl_up2_nk, bl_up2_nx] at h47
        refine ⟨fun h54 => ?_, fun h54 => ?_⟩
        · try simp (disch := omega) only [z3, zI_n, zI_o, zI_lit, zI_neg, zI_add, zI_sub, zI_mul, zI_lt, zI_le, zI_eq, zI_clamp, zI_in, zI_div, zI_rem, lg_lt0, lg_gt0, lg_eq0, lg_le0, lg_ge0, Int.toNat_natCast, ge_iff_le, gt_iff_lt, List.length_cons, List.length_nil, bl_up2_at, bl_up2_nk, bl_up2_nx] at h54
          exfalso; omega
        · try simp (disch := omega) only [z3, zI_n, zI_o, zI_lit, zI_neg, zI_add, zI_sub, zI_mul, zI_lt, zI_le, zI_eq, zI_clamp, zI_in, zI_div, zI_rem, lg_lt0, lg_gt0, lg_eq0, lg_le0, lg_ge0, Int.toNat_natCast, ge_iff_le, gt_iff_lt, List.length_cons, List.length_nil, bl_up2_at, bl_up2_nk, bl_up2_nx] at h54
          refine ⟨kp, _, bl_vs rp_0, Or.inl ⟨kpk, (by first | exact (by rw [npk]; exact vp_in_nI (by omega) (by omega)) | ((try dsimp only [bl_pv]); show vp_in _ (N _); rw [npk]; simp (disch := omega) only [z3, zI_n, zI_o, zI_lit, zI_neg, zI_add, zI_sub, zI_mul, zI_lt, zI_le, zI_eq, zI_clamp, zI_in, zI_div, zI_rem, lg_lt0, lg_gt0, lg_eq0, lg_le0, lg_ge0, Int.toNat_natCast, ge_iff_le, gt_iff_lt, List.length_cons, List.length_nil, bl_up2_at, bl_up2_nk, bl_up2_nx] <;> omega)), rfl, rfl, kp, (Nat.le_of_ble_eq_true rfl), (0, 0), Nat.le_refl _, Nat.le_refl _, bl_MC_mono (c_Recipe_unitsOf (d := d + 1) ⟨kp, rp_0, rp_1, kpk, npk, kpn, npn⟩ hrc1 (k := k) (by omega)) (fun o68 σ68 q68 => ?_)⟩⟩
          try dsimp only [bl_pv] at q68
          obtain ⟨rfl, rfl⟩ := q68
          refine bl_go oX1_follow 80 [40, 127] rfl ?_
          refine ⟨rfl, rfl, kq, (Nat.le_of_ble_eq_true rfl), (0, 0), Nat.le_refl _, Nat.le_refl _, bl_MC_mono (c_Butter_take (d := d) (k := rc.2.1 k) (n := st_un (rc.2.1 k) (rc.2.2 k)) (u := fwU rc u0 k) kq hra ha1 hC1 hqa (by rw [ec]; exact (hrc1.2.2 k (by omega)).1) rfl s1 un (by omega) f6 f7) (fun o71 σ71 q71 => ?_)⟩
          try dsimp only [bl_pv] at q71
          obtain ⟨rfl, I2, rfl, t1, t2, t3, t4, t5⟩ := q71
          refine bl_go oX1_follow 80 [40, 127] rfl ?_
          refine ⟨kr, _, bl_vs rr_1, kq, krg, (by first | exact (by rw [nrg]; exact vp_in_nI (by omega) (by omega)) | ((try dsimp only [bl_pv]); show vp_in _ (N _); rw [nrg]; simp (disch := omega) only [z3, zI_n, zI_o, zI_lit, zI_neg, zI_add, zI_sub, zI_mul, zI_lt, zI_le, zI_eq, zI_clamp, zI_in, zI_div, zI_rem, lg_lt0, lg_gt0, lg_eq0, lg_le0, lg_ge0, Int.toNat_natCast, ge_iff_le, gt_iff_lt, List.length_cons, List.length_nil, bl_up2_at, bl_up2_nk, bl_up2_nx] <;> omega)), kr, _, bl_vs rr_2, kq, krw, (by first | exact (by rw [nrw]; exact vp_in_nI (by omega) (by omega)) | ((try dsimp only [bl_pv]); show vp_in _ (N _); rw [nrw]; simp (disch := omega) only [z3, zI_n, zI_o, zI_lit, zI_neg, zI_add, zI_sub, zI_mul, zI_lt, zI_le, zI_eq, zI_clamp, zI_in, zI_div, zI_rem, lg_lt0, lg_gt0, lg_eq0, lg_le0, lg_ge0, Int.toNat_natCast, ge_iff_le, gt_iff_lt, List.length_cons, List.length_nil, bl_up2_at, bl_up2_nk, bl_up2_nx] <;> omega)), kq, fun h108 => ?_, fun h108 => ?_⟩
          · try simp (disch := omega) only [bl_pv, cl0, cl1, cl2, cl3, cl4, cl5, cl6, cl7, cl8, cl9, bl_up2_at, bl_up2_nk, bl_up2_nx] at h108
            try dsimp only [bl_pv]
            have hs : fst1 (fwB tf dg rc u0) (k + 1) = if fwB tf dg rc u0 k = true ∧ fst1 (fwB tf dg rc u0) k = zI (-1) then nI k else fst1 (fwB tf dg rc u0) k := rfl
            have hr4 : I2 r 4 = fst1 (fwB tf dg rc u0) k := by rw [t1 r (by omega)]; exact f3
            refine L2 _ (fun y y1 y2 y3 y4 => ?_) (fun j j4 j5 j8 => ?_) ?_ ?_ (fun j hj => ?_) ?_ ?_ ?_
            · simp (disch := omega) only [bl_up2_ne]; rw [t1 y y1]; exact f1 y y1 y2 y3 y4
            · simp (disch := omega) only [bl_pv, cl0, cl1, cl2, cl3, cl4, cl5, cl6, cl7, cl8, cl9, bl_up2_at, bl_up2_nk, bl_up2_nx]; rw [t1 r (by omega)]; exact f2 j j4 j5 j8
            · simp (disch := omega) only [bl_pv, cl0, cl1, cl2, cl3, cl4, cl5, cl6, cl7, cl8, cl9, bl_up2_at, bl_up2_nk, bl_up2_nx]
              first
              | (rw [hs, if_pos]
                 refine ⟨?_, hr4.symm.trans h117⟩
                 rw [t4] at h108
                 cases hb : fwB tf dg rc u0 k
                 · exact absurd (by show bI (fwB tf dg rc u0 k) = 0; rw [hb]; rfl) h108
                 · rfl)
              | (rw [hs, if_neg]
                 · exact hr4
                 · intro hh
                   first
                   | (rw [t4, bI_0] at h108; exact absurd (hh.1.symm.trans h108) (by decide))
                   | exact h117 (hr4.trans hh.2))
            · simp (disch := omega) only [bl_pv, cl0, cl1, cl2, cl3, cl4, cl5, cl6, cl7, cl8, cl9, bl_up2_at, bl_up2_nk, bl_up2_nx]; rw [t1 r (by omega)]; exact f4
            · by_cases e : j = k + 1
              · subst e
                simp (disch := omega) only [bl_up2_nx, ec1, bl_up2_at, t2, t3]
                refine ⟨?_, rfl⟩
                show nI (fwU rc u0 (k + 1)) - nI u0 = _
                exact (Int32.ofNat_sub _ _ hU1.2).symm
              · have e1 : j ≠ (nI k + 1).toNatClampNeg := by rw [ec1]; exact e
                simp (disch := first | assumption | omega) only [bl_up2_nx, bl_up2_nk]
                rw [t1 _ (by omega), t1 _ (by omega)]; exact f5 j (by omega)
            · simp (disch := omega) only [bl_up2_nx]; exact t2
            · simp (disch := omega) only [bl_up2_nx]; exact t3
            · simp (disch := omega) only [bl_up2_nx]; exact t5
          · try simp (disch := omega) only [bl_pv, cl0, cl1, cl2, cl3, cl4, cl5, cl6, cl7, cl8, cl9, bl_up2_at, bl_up2_nk, bl_up2_nx] at h108
            refine ⟨kr, fun h117 => ?_, fun h117 => ?_⟩
            · try simp (disch := omega) only [bl_pv, cl0, cl1, cl2, cl3, cl4, cl5, cl6, cl7, cl8, cl9, bl_up2_at, bl_up2_nk, bl_up2_nx] at h117
              try dsimp only [bl_pv]
              have hs : fst1 (fwB tf dg rc u0) (k + 1) = if fwB tf dg rc u0 k = true ∧ fst1 (fwB tf dg rc u0) k = zI (-1) then nI k else fst1 (fwB tf dg rc u0) k := rfl
              have hr4 : I2 r 4 = fst1 (fwB tf dg rc u0) k := by rw [t1 r (by omega)]; exact f3
              refine L2 _ (fun y y1 y2 y3 y4 => ?_) (fun j j4 j5 j8 => ?_) ?_ ?_ (fun j hj => ?_) ?_ ?_ ?_
              · simp (disch := omega) only [bl_up2_ne]; rw [t1 y y1]; exact f1 y y1 y2 y3 y4
              · simp (disch := omega) only [bl_pv, cl0, cl1, cl2, cl3, cl4, cl5, cl6, cl7, cl8, cl9, bl_up2_at, bl_up2_nk, bl_up2_nx]; rw [t1 r (by omega)]; exact f2 j j4 j5 j8
              · simp (disch := omega) only [bl_pv, cl0, cl1, cl2, cl3, cl4, cl5, cl6, cl7, cl8, cl9, bl_up2_at, bl_up2_nk, bl_up2_nx]
                first
                | (rw [hs, if_pos]
                   refine ⟨?_, hr4.symm.trans h117⟩
                   rw [t4] at h108
                   cases hb : fwB tf dg rc u0 k
                   · exact absurd (by show bI (fwB tf dg rc u0 k) = 0; rw [hb]; rfl) h108
                   · rfl)
                | (rw [hs, if_neg]
                   · exact hr4
                   · intro hh
                     first
                     | (rw [t4, bI_0] at h108; exact absurd (hh.1.symm.trans h108) (by decide))
                     | exact h117 (hr4.trans hh.2))
              · simp (disch := omega) only [bl_pv, cl0, cl1, cl2, cl3, cl4, cl5, cl6, cl7, cl8, cl9, bl_up2_at, bl_up2_nk, bl_up2_nx]; rw [t1 r (by omega)]; exact f4
              · by_cases e : j = k + 1
                · subst e
                  simp (disch := omega) only [bl_up2_nx, ec1, bl_up2_at, t2, t3]
                  refine ⟨?_, rfl⟩
                  show nI (fwU rc u0 (k + 1)) - nI u0 = _
                  exact (Int32.ofNat_sub _ _ hU1.2).symm
                · have e1 : j ≠ (nI k + 1).toNatClampNeg := by rw [ec1]; exact e
                  simp (disch := first | assumption | omega) only [bl_up2_nx, bl_up2_nk]
                  rw [t1 _ (by omega), t1 _ (by omega)]; exact f5 j (by omega)
              · simp (disch := omega) only [bl_up2_nx]; exact t2
              · simp (disch := omega) only [bl_up2_nx]; exact t3
              · simp (disch := omega) only [bl_up2_nx]; exact t5
            · try simp (disch := omega) only [bl_pv, cl0, cl1, cl2, cl3, cl4, cl5, cl6, cl7, cl8, cl9, bl_up2_at, bl_up2_nk, bl_up2_nx] at h117
              refine ⟨kr, Or.inr (Or.inr ⟨rfl, rfl, _, rfl⟩), (fun h => by cases h), ?_⟩
              try dsimp only [bl_pv]
              have hs : fst1 (fwB tf dg rc u0) (k + 1) = if fwB tf dg rc u0 k = true ∧ fst1 (fwB tf dg rc u0) k = zI (-1) then nI k else fst1 (fwB tf dg rc u0) k := rfl
              have hr4 : I2 r 4 = fst1 (fwB tf dg rc u0) k := by rw [t1 r (by omega)]; exact f3
              refine L2 _ (fun y y1 y2 y3 y4 => ?_) (fun j j4 j5 j8 => ?_) ?_ ?_ (fun j hj => ?_) ?_ ?_ ?_
              · simp (disch := omega) only [bl_up2_ne]; rw [t1 y y1]; exact f1 y y1 y2 y3 y4
              · simp (disch := omega) only [bl_pv, cl0, cl1, cl2, cl3, cl4, cl5, cl6, cl7, cl8, cl9, bl_up2_at, bl_up2_nk, bl_up2_nx]; rw [t1 r (by omega)]; exact f2 j j4 j5 j8
              · simp (disch := omega) only [bl_pv, cl0, cl1, cl2, cl3, cl4, cl5, cl6, cl7, cl8, cl9, bl_up2_at, bl_up2_nk, bl_up2_nx]
                first
                | (rw [hs, if_pos]
                   refine ⟨?_, hr4.symm.trans h117⟩
                   rw [t4] at h108
                   cases hb : fwB tf dg rc u0 k
                   · exact absurd (by show bI (fwB tf dg rc u0 k) = 0; rw [hb]; rfl) h108
                   · rfl)
                | (rw [hs, if_neg]
                   · exact hr4
                   · intro hh
                     first
                     | (rw [t4, bI_0] at h108; exact absurd (hh.1.symm.trans h108) (by decide))
                     | exact h117 (hr4.trans hh.2))
              · simp (disch := omega) only [bl_pv, cl0, cl1, cl2, cl3, cl4, cl5, cl6, cl7, cl8, cl9, bl_up2_at, bl_up2_nk, bl_up2_nx]; rw [t1 r (by omega)]; exact f4
              · by_cases e : j = k + 1
                · subst e
                  simp (disch := omega) only [bl_up2_nx, ec1, bl_up2_at, t2, t3]
                  refine ⟨?_, rfl⟩
                  show nI (fwU rc u0 (k + 1)) - nI u0 = _
                  exact (Int32.ofNat_sub _ _ hU1.2).symm
                · have e1 : j ≠ (nI k + 1).toNatClampNeg := by rw [ec1]; exact e
                  simp (disch := first | assumption | omega) only [bl_up2_nx, bl_up2_nk]
                  rw [t1 _ (by omega), t1 _ (by omega)]; exact f5 j (by omega)
              · simp (disch := omega) only [bl_up2_nx]; exact t2
              · simp (disch := omega) only [bl_up2_nx]; exact t3
              · simp (disch := omega) only [bl_up2_nx]; exact t5
  refine bl_go oX1_follow 80 [40, 127] rfl ?_
  refine ⟨rfl, rfl, kq, (Nat.le_of_ble_eq_true rfl), (0, 0), Nat.le_refl _, Nat.le_refl _, bl_MC_mono (c_Butter_start (d := d + 1) kq ha hC hqa rfl) (fun o3 σ3 q3 => ?_)⟩
  try dsimp only [bl_pv] at q3
  obtain ⟨rfl, I2, rfl, t1, t2, t3⟩ := q3
  rw [hR1]
  refine bl_go oX1_follow 80 [40, 127] rfl ?_
  refine ⟨kr, Or.inr (Or.inr ⟨rfl, rfl, _, rfl⟩), (fun h => by cases h), kr, Or.inr (Or.inr ⟨rfl, rfl, _, rfl⟩), (fun h => by cases h), kr, _, bl_vs rr_1, krg, (by first | exact (by rw [nrg]; exact vp_in_nI (by omega) (by omega)) | ((try dsimp only [bl_pv]); show vp_in _ (N _); rw [nrg]; simp (disch := omega) only [zI_n, zI_o, zI_lit, zI_neg, zI_add, zI_sub, zI_mul, zI_lt, zI_le, zI_eq, zI_clamp, zI_in, zI_div, zI_rem, lg_lt0, lg_gt0, lg_eq0, lg_le0, lg_ge0, Int.toNat_natCast, ge_iff_le, gt_iff_lt, List.length_cons, List.length_nil, bl_up2_at, bl_up2_nk, bl_up2_nx] <;> omega)), kr, _, bl_vs rr_2, kq, krw, (by first | exact (by rw [nrw]; exact vp_in_nI (by omega) (by omega)) | ((try dsimp only [bl_pv]); show vp_in _ (N _); rw [nrw]; simp (disch := omega) only [zI_n, zI_o, zI_lit, zI_neg, zI_add, zI_sub, zI_mul, zI_lt, zI_le, zI_eq, zI_clamp, zI_in, zI_div, zI_rem, lg_lt0, lg_gt0, lg_eq0, lg_le0, lg_ge0, Int.toNat_natCast, ge_iff_le, gt_iff_lt, List.length_cons, List.length_nil, bl_up2_at, bl_up2_nk, bl_up2_nx] <;> omega)), ?_⟩
  try dsimp only [bl_pv]
  refine L 0 (by omega) _ _ rfl (fun y y1 y2 y3 y4 => ?_) (fun j j4 j5 j8 => ?_) ?_ ?_ (fun j hj => ?_) ?_ ?_
  · simp (disch := omega) only [bl_up2_ne]; exact t1 y y1
  · simp (disch := omega) only [bl_pv, cl0, cl1, cl2, cl3, cl4, cl5, cl6, cl7, cl8, cl9, bl_up2_at, bl_up2_nk, bl_up2_nx]; rw [t1 r (by omega)]
  · simp (disch := omega) only [bl_pv, cl0, cl1, cl2, cl3, cl4, cl5, cl6, cl7, cl8, cl9, bl_up2_at, bl_up2_nk, bl_up2_nx]; rfl
  · simp (disch := omega) only [bl_pv, cl0, cl1, cl2, cl3, cl4, cl5, cl6, cl7, cl8, cl9, bl_up2_at, bl_up2_nk, bl_up2_nx]; rfl
  · have hj0 : j = 0 := by omega
    subst hj0
    simp (disch := omega) only [bl_pv, cl0, cl1, cl2, cl3, cl4, cl5, cl6, cl7, cl8, cl9, bl_up2_at, bl_up2_nk, bl_up2_nx]
    exact ⟨by rw [show fwU rc u0 0 - u0 = 0 from Nat.sub_self u0]; rfl, t3⟩
  · simp (disch := omega) only [bl_pv, cl0, cl1, cl2, cl3, cl4, cl5, cl6, cl7, cl8, cl9, bl_up2_at, bl_up2_nk, bl_up2_nx]; exact t2
  · simp (disch := omega) only [bl_pv, cl0, cl1, cl2, cl3, cl4, cl5, cl6, cl7, cl8, cl9, bl_up2_at, bl_up2_nk, bl_up2_nx]; exact t3
end BUTTER2
