/-! ===== Passes: spreadState, emptySlot ===== -/
def pI (I : Nat → Nat → Int32) (q : Nat) (E : psE) (now dn : Nat) : Prop := pIB I q E ∧ pIC I q E now dn ∧ pIR I q ∧ pEb E
/-- and what comes of the state p, w at now, by the waits below n -/
def eSp (E : psE) (P : pP) (p now w c n : Nat) : psE := fun p' u' w' c' => E p' u' w' c' ∨ (p' = p + 1 ∧ ∃ x, x < n ∧ stp P x now w = some (u', w') ∧ c' = c + x)
theorem eSp_0 {E : psE} {P : pP} {p now w c : Nat} : eSp E P p now w c 0 = E := by
  funext p' u' w' c'
  exact propext ⟨fun h => h.elim id (fun ⟨_, x, hx, _⟩ => absurd hx (Nat.not_lt_zero _)), Or.inl⟩
theorem eSp_n {E : psE} {P : pP} {p now w c n : Nat} (h : stp P n now w = none) : eSp E P p now w c (n + 1) = eSp E P p now w c n := by
  funext p' u' w' c'
  refine propext ⟨fun h' => h'.elim Or.inl (fun ⟨a, x, hx, hs, hc⟩ => Or.inr ⟨a, x, ?_, hs, hc⟩), fun h' => h'.elim Or.inl (fun ⟨a, x, hx, hs, hc⟩ => Or.inr ⟨a, x, by omega, hs, hc⟩)⟩
  by_cases e : x = n
  · rw [e, h] at hs; cases hs
  · omega
theorem eSp_s {E : psE} {P : pP} {p now w c n u z : Nat} (h : stp P n now w = some (u, z)) : eSp E P p now w c (n + 1) = eAdd (eSp E P p now w c n) (p + 1) u z (c + n) := by
  funext p' u' w' c'
  refine propext ⟨fun h' => ?_, fun h' => ?_⟩
  · rcases h' with h' | ⟨a, x, hx, hs, hc⟩
    · exact Or.inl (Or.inl h')
    · by_cases e : x = n
      · subst e
        rw [h] at hs; cases hs
        exact Or.inr ⟨a, rfl, rfl, hc⟩
      · exact Or.inl (Or.inr ⟨a, x, by omega, hs, hc⟩)
  · rcases h' with (h' | ⟨a, x, hx, hs, hc⟩) | ⟨rfl, rfl, rfl, rfl⟩
    · exact Or.inl h'
    · exact Or.inr ⟨a, x, by omega, hs, hc⟩
    · exact Or.inr ⟨rfl, n, by omega, h, rfl⟩
theorem eSp_to {E : psE} {P : pP} {p now w c n m : Nat} (hnm : n ≤ m) (h : ∀ x, n ≤ x → x < m → stp P x now w = none) : eSp E P p now w c n = eSp E P p now w c m := by
  obtain ⟨k, rfl⟩ : ∃ k, m = n + k := ⟨m - n, by omega⟩
  clear hnm
  induction k with
  | zero => rfl
  | succ k ih =>
    rw [ih (fun x a b => h x a (by omega)), ← Nat.add_assoc, eSp_n (h (n + k) (by omega) (by omega))]
theorem wts_none {P : pP} {b : Bool} {u w n : Nat} (h : wts P b u w n = none) : ∀ k, wts P b u w (n + k) = none
  | 0 => h
  | k + 1 => by
    show wts P b u w ((n + k) + 1) = none
    unfold wts
    rw [wts_none h k]
theorem stp_rest {P : pP} {k u w : Nat} (hk : k ≤ 12) : stp P k u w = match wts P true u w k with
    | none => none
    | some y => match pss P (u + k) y with
      | none => none
      | some z => some (u + k + 3, z) := by
  unfold stp
  rw [decide_eq_true hk, if_neg (by omega)]
  rfl
theorem stp_stand {P : pP} {k u w : Nat} (hk : 1 ≤ k) : stp P (12 + k) u w = match wts P false u w k with
    | none => none
    | some y => match pss P (u + k) y with
      | none => none
      | some z => some (u + k + 3, z) := by
  unfold stp
  rw [decide_eq_false (by omega), if_pos (by omega), Nat.add_sub_cancel_left]
  rfl
section PASSES2
variable {G : bl_G} {l : Launch} {d q now dn : Nat} {I : Nat → Nat → Int32} {J : Nat → Nat → Int64} {R : Nat → Nat → Option Nat} {K N : Nat → Nat} {E : psE} {P : pP}
theorem c_Passes_rf {p u w c : Nat} {x1 x2 x3 x4 : Int32} (hq : psS R K N q) (hD : psD I q P) (hP : pPok P) (hI : pI I q E now dn) (hp : p ≤ 5) (hw : w ≤ 400) (hc : c < 244140625) (hu1 : now ≤ u) (hu2 : u ≤ now + 12) (hu3 : now ≤ 120) (h1 : x1 = nI p) (h2 : x2 = nI u) (h3 : x3 = nI w) (h4 : x4 = nI c) : bl_MC G l (d + 1) mX3_rollAndFold [.ref q, .int x1, .int x2, .int x3, .int x4] (I, J, R, K, N) (0, 0) (fun o σ' => o = .inl none ∧ ∃ I' E', σ' = (I', J, R, K, N) ∧ psF I I' q ∧ pI I' q E' now dn ∧ ((pss P u w = none ∧ E' = E) ∨ ∃ z, pss P u w = some z ∧ E' = eAdd E (p + 1) (u + 3) z c)) :=
  bl_MC_mono (c_Passes_rollAndFold hq hD hP hI.1 hI.2.1 hI.2.2.1 hI.2.2.2 hp hw hc hu1 hu2 hu3 h1 h2 h3 h4) (fun o σ' ⟨a, I', E', b, c, d1, e, f, g, h⟩ => ⟨a, I', E', b, c, ⟨d1, e, f, g⟩, h⟩)
theorem c_Passes_spreadState {p w c : Nat} {x1 x2 x3 : Int32} (hq : psS R K N q) (hD : psD I q P) (hP : pPok P) (hI : pI I q E now dn) (hn : I q 6 = nI now) (hp : p ≤ 5) (hw : w ≤ 400) (hc : c + 25 ≤ 244140625) (hu3 : now ≤ 120) (h1 : x1 = nI p) (h2 : x2 = nI w) (h3 : x3 = nI c) : bl_MC G l (d + 2) mX3_spreadState [.ref q, .int x1, .int x2, .int x3] (I, J, R, K, N) (0, 0) (fun o σ' => o = .inl none ∧ ∃ I', σ' = (I', J, R, K, N) ∧ psF I I' q ∧ pI I' q (eSp E P p now w c 25) now dn) := by
  have hq' := hq
  obtain ⟨hq0, kq, ⟨rq_0, rq_1, rq_2, rq_3, rq_4, rq_5⟩, ⟨kq1, kq2, kq3, kq4, kq5, kq6⟩, ⟨nq1, nq2, nq3, nq4, nq5, nq6⟩⟩ := hq
  have hP' := hP
  obtain ⟨P1, P2, P3, P4, P5⟩ := hP
  subst h1 h2 h3
  refine bl_MC_intro (by decide +kernel) rfl (Nat.le_of_ble_eq_true rfl) ?_
  have L163 : ∀ I1, psF I I1 q → pI I1 q (eSp E P p now w c 25) now dn → bl_WP G l (d + 2) mX3_spreadState 163 [] [] (I1, J, R, K, N) (0, 0) (fun o σ' => o = .inl none ∧ ∃ I', σ' = (I', J, R, K, N) ∧ psF I I' q ∧ pI I' q (eSp E P p now w c 25) now dn) := by
    intro I1 hF h1
    refine bl_go oX3_spreadState 80 [17, 38, 74, 80, 124, 163] rfl ?_
    try show _ ∧ _
    try dsimp only [bl_pv]
    exact ⟨rfl, I1, rfl, hF, h1⟩
  have L80 : ∀ m k, m + k = 13 → 1 ≤ k → ∀ z v y I1, z = nI k → v = nI y → y ≤ 400 → wts P false now w (k - 1) = some y → psF I I1 q → pI I1 q (eSp E P p now w c (12 + k)) now dn → bl_WP G l (d + 2) mX3_spreadState 80 [(6, .int z), (5, .int v), (0, .ref q), (1, .int (nI p)), (2, .int (nI w)), (3, .int (nI c))] [] (I1, J, R, K, N) (0, 0) (fun o σ' => o = .inl none ∧ ∃ I', σ' = (I', J, R, K, N) ∧ psF I I' q ∧ pI I' q (eSp E P p now w c 25) now dn) := by
    intro m
    induction m with
    | zero =>
      intro k hk k1 z v y I1 hz hv hy hwt hF h1
      have e13 : k = 13 := by omega
      subst e13 hz hv
      refine bl_go oX3_spreadState 80 [17, 38, 74, 80, 124, 163] rfl ?_
      refine ⟨fun h84 => ?_, fun h84 => ?_⟩
      · try simp (disch := omega) only [zI_n, zI_o, zI_lit, zI_neg, zI_add, zI_sub, zI_mul, zI_lt, zI_le, zI_eq, zI_clamp, zI_in, zI_div, zI_rem, lg_lt0, lg_gt0, lg_eq0, lg_le0, lg_ge0, Int.toNat_natCast, ge_iff_le, gt_iff_lt, List.length_cons, List.length_nil, bl_up2_at, bl_up2_nk, bl_up2_nx] at h84
        refine bl_lv [] rfl ?_
        try dsimp only [bl_pv]
        exact L163 I1 hF h1
      · try simp (disch := omega) only [zI_n, zI_o, zI_lit, zI_neg, zI_add, zI_sub, zI_mul, zI_lt, zI_le, zI_eq, zI_clamp, zI_in, zI_div, zI_rem, lg_lt0, lg_gt0, lg_eq0, lg_le0, lg_ge0, Int.toNat_natCast, ge_iff_le, gt_iff_lt, List.length_cons, List.length_nil, bl_up2_at, bl_up2_nk, bl_up2_nx] at h84
        exfalso; omega
    | succ m ih =>
      intro k hk k1 z v y I1 hz hv hy hwt hF h1
      obtain ⟨j, rfl⟩ : ∃ j, k = j + 1 := ⟨k - 1, by omega⟩
      rw [Nat.add_sub_cancel] at hwt
      subst hz hv
      have hD1 := hD.f hF
      have g6 : I1 q 6 = nI now := by rw [hF q (by omega)]; exact hn
      have g9 := hD1.2.2.1
      have r0 := P5 (now + j)
      have bw : wgo P false now j y ≤ 400 := tw_le hy r0 (Or.inr rfl)
      have ews : wts P false now w (j + 1) = if P.2.2.1 < wgo P false now j y then none else some (wgo P false now j y) := by
        show (match wts P false now w j with | none => none | some x => _) = _
        rw [hwt]
      have L124 : ∀ v, v = nI (wgo P false now j y) → bl_WP G l (d + 2) mX3_spreadState 124 [(6, .int (nI (j + 1))), (5, .int v), (0, .ref q), (1, .int (nI p)), (2, .int (nI w)), (3, .int (nI c))] [] (I1, J, R, K, N) (0, 0) (fun o σ' => o = .inl none ∧ ∃ I', σ' = (I', J, R, K, N) ∧ psF I I' q ∧ pI I' q (eSp E P p now w c 25) now dn) := by
        intro v hv
        subst hv
        refine bl_go oX3_spreadState 80 [17, 38, 74, 80, 124, 163] rfl ?_
        refine ⟨kq, fun h130 => ?_, fun h130 => ?_⟩
        · try simp (disch := omega) only [g9, zI_n, zI_o, zI_lit, zI_neg, zI_add, zI_sub, zI_mul, zI_lt, zI_le, zI_eq, zI_clamp, zI_in, zI_div, zI_rem, lg_lt0, lg_gt0, lg_eq0, lg_le0, lg_ge0, Int.toNat_natCast, ge_iff_le, gt_iff_lt, List.length_cons, List.length_nil, bl_up2_at, bl_up2_nk, bl_up2_nx] at h130
          first
          | (exfalso; first | omega | exact h130 trivial)
          | (refine ⟨kq, rfl, rfl, kq, (Nat.le_of_ble_eq_true rfl), (0, 0), Nat.le_of_ble_eq_true rfl, Nat.le_of_ble_eq_true rfl, bl_MC_mono (c_Passes_rf (d := d) hq' hD1 hP' h1 hp bw (c := c + (12 + (j + 1))) (u := now + (j + 1)) (by omega) (by omega) (by omega) hu3 rfl (by dsimp only; rw [g6, nI_add]) rfl (by rw [show (12 : Int32) = nI 12 from rfl, nI_add, nI_add, Nat.add_assoc])) (fun o154 σ154 q154 => ?_)⟩
             try dsimp only [bl_pv] at q154
             obtain ⟨rfl, I2, E2, rfl, hF2, hI2, hE2⟩ := q154
             have hso : wts P false now w (j + 1) = some (wgo P false now j y) := by rw [ews, if_neg (by omega)]
             refine bl_go oX3_spreadState 80 [17, 38, 74, 80, 124, 163] rfl ?_
             try dsimp only [bl_pv]
             refine ih (j + 1 + 1) (by omega) (by omega) _ _ (wgo P false now j y) I2 (nI_1 _) rfl bw ?_ (hF.trans hF2) ?_
             · rw [Nat.add_sub_cancel]; exact hso
             · have e2 : E2 = eSp E P p now w c (12 + (j + 1) + 1) := by
                 rcases hE2 with ⟨a, b⟩ | ⟨z, a, b⟩
                 · rw [eSp_n (by rw [stp_stand (by omega), hso]; simp only [a])]; exact b
                 · rw [eSp_s (u := now + (j + 1) + 3) (z := z) (by rw [stp_stand (by omega), hso]; simp only [a])]; exact b
               rw [e2] at hI2; exact hI2)
        · try simp (disch := omega) only [g9, zI_n, zI_o, zI_lit, zI_neg, zI_add, zI_sub, zI_mul, zI_lt, zI_le, zI_eq, zI_clamp, zI_in, zI_div, zI_rem, lg_lt0, lg_gt0, lg_eq0, lg_le0, lg_ge0, Int.toNat_natCast, ge_iff_le, gt_iff_lt, List.length_cons, List.length_nil, bl_up2_at, bl_up2_nk, bl_up2_nx] at h130
          first
          | (exfalso; first | omega | exact h130 trivial)
          | (refine bl_lv [] rfl ?_
             try dsimp only [bl_pv]
             have hno : wts P false now w (j + 1) = none := by rw [ews, if_pos (by omega)]
             refine L163 I1 hF ?_
             rw [← eSp_to (n := 12 + (j + 1)) (m := 25) (by omega) (fun x x1 x2 => ?_)]
             · exact h1
             · obtain ⟨i, rfl⟩ : ∃ i, x = 12 + (j + 1 + i) := ⟨x - 12 - (j + 1), by omega⟩
               rw [stp_stand (by omega), wts_none hno i])
      refine bl_go oX3_spreadState 80 [17, 38, 74, 80, 124, 163] rfl ?_
      refine ⟨fun h84 => ?_, fun h84 => ?_⟩
      · try simp (disch := omega) only [g6, zI_n, zI_o, zI_lit, zI_neg, zI_add, zI_sub, zI_mul, zI_lt, zI_le, zI_eq, zI_clamp, zI_in, zI_div, zI_rem, lg_lt0, lg_gt0, lg_eq0, lg_le0, lg_ge0, Int.toNat_natCast, ge_iff_le, gt_iff_lt, List.length_cons, List.length_nil, bl_up2_at, bl_up2_nk, bl_up2_nx] at h84
        exfalso; omega
      · try simp (disch := omega) only [g6, zI_n, zI_o, zI_lit, zI_neg, zI_add, zI_sub, zI_mul, zI_lt, zI_le, zI_eq, zI_clamp, zI_in, zI_div, zI_rem, lg_lt0, lg_gt0, lg_eq0, lg_le0, lg_ge0, Int.toNat_natCast, ge_iff_le, gt_iff_lt, List.length_cons, List.length_nil, bl_up2_at, bl_up2_nk, bl_up2_nx] at h84
        refine ⟨kq, fun h96 => ?_, fun h96 => ?_⟩
        · try simp (disch := omega) only [g6, zI_n, zI_o, zI_lit, zI_neg, zI_add, zI_sub, zI_mul, zI_lt, zI_le, zI_eq, zI_clamp, zI_in, zI_div, zI_rem, lg_lt0, lg_gt0, lg_eq0, lg_le0, lg_ge0, Int.toNat_natCast, ge_iff_le, gt_iff_lt, List.length_cons, List.length_nil, bl_up2_at, bl_up2_nk, bl_up2_nx] at h96
          refine bl_lv [] rfl ?_
          try dsimp only [bl_pv]
          refine L163 I1 hF ?_
          rw [← eSp_to (n := 12 + (j + 1)) (m := 25) (by omega) (fun x x1 x2 => ?_)]
          · exact h1
          · obtain ⟨i, rfl⟩ : ∃ i, x = 12 + (j + 1 + i) := ⟨x - 12 - (j + 1), by omega⟩
            rw [stp_stand (by omega)]
            cases hq : wts P false now w (j + 1 + i) with
            | none => rfl
            | some y' =>
              have hp0 : pss P (now + (j + 1 + i)) y' = none := by unfold pss; rw [if_pos (by omega)]
              simp only [hp0]
        · try simp (disch := omega) only [g6, zI_n, zI_o, zI_lit, zI_neg, zI_add, zI_sub, zI_mul, zI_lt, zI_le, zI_eq, zI_clamp, zI_in, zI_div, zI_rem, lg_lt0, lg_gt0, lg_eq0, lg_le0, lg_ge0, Int.toNat_natCast, ge_iff_le, gt_iff_lt, List.length_cons, List.length_nil, bl_up2_at, bl_up2_nk, bl_up2_nx] at h96
          refine ⟨kq, _, bl_vs rq_5, kq, Or.inl ⟨kq6, (by (try dsimp only [bl_pv]); show vp_in _ (N _); rw [nq6, g6, nI_add, show (1 : Int32) = nI 1 from rfl, nI_subs (by omega)]; exact vp_in_nI (by omega) (by omega)), (by decide), ?_⟩⟩
          refine bl_lv [1, 0, 2, 3, 4, 5] rfl ?_
          try dsimp only [bl_pv]
          refine L124 _ ?_
          have ei : (I1 q 6 + nI (j + 1) - 1).toNatClampNeg = now + j := by
            rw [g6, nI_add, show (1 : Int32) = nI 1 from rfl, nI_subs (by omega), show now + (j + 1) - 1 = now + j by omega]; exact nI_clamp (by omega)
          rw [ei, hD1.2.2.2.2 (now + j) (by omega)]
          exact tw_I (by omega) (by omega) (Or.inr rfl)
  have L74 : ∀ I1, psF I I1 q → pI I1 q (eSp E P p now w c 13) now dn → bl_WP G l (d + 2) mX3_spreadState 74 [(0, .ref q), (1, .int (nI p)), (2, .int (nI w)), (3, .int (nI c))] [] (I1, J, R, K, N) (0, 0) (fun o σ' => o = .inl none ∧ ∃ I', σ' = (I', J, R, K, N) ∧ psF I I' q ∧ pI I' q (eSp E P p now w c 25) now dn) := by
    intro I1 hF h1
    refine bl_go oX3_spreadState 80 [17, 38, 74, 80, 124, 163] rfl ?_
    try dsimp only [bl_pv]
    exact L80 12 1 rfl (Nat.le_refl _) _ _ w I1 rfl rfl hw rfl hF h1
  have L17 : ∀ m k, m + k = 13 → 1 ≤ k → ∀ z v y I1, z = nI k → v = nI y → y ≤ 400 → wts P true now w (k - 1) = some y → psF I I1 q → pI I1 q (eSp E P p now w c k) now dn → bl_WP G l (d + 2) mX3_spreadState 17 [(5, .int z), (4, .int v), (0, .ref q), (1, .int (nI p)), (2, .int (nI w)), (3, .int (nI c))] [] (I1, J, R, K, N) (0, 0) (fun o σ' => o = .inl none ∧ ∃ I', σ' = (I', J, R, K, N) ∧ psF I I' q ∧ pI I' q (eSp E P p now w c 25) now dn) := by
    intro m
    induction m with
    | zero =>
      intro k hk k1 z v y I1 hz hv hy hwt hF h1
      have e13 : k = 13 := by omega
      subst e13 hz hv
      refine bl_go oX3_spreadState 80 [17, 38, 74, 80, 124, 163] rfl ?_
      refine ⟨fun h21 => ?_, fun h21 => ?_⟩
      · try simp (disch := omega) only [zI_n, zI_o, zI_lit, zI_neg, zI_add, zI_sub, zI_mul, zI_lt, zI_le, zI_eq, zI_clamp, zI_in, zI_div, zI_rem, lg_lt0, lg_gt0, lg_eq0, lg_le0, lg_ge0, Int.toNat_natCast, ge_iff_le, gt_iff_lt, List.length_cons, List.length_nil, bl_up2_at, bl_up2_nk, bl_up2_nx] at h21
        refine bl_lv [2, 3, 4, 5] rfl ?_
        try dsimp only [bl_pv]
        exact L74 I1 hF h1
      · try simp (disch := omega) only [zI_n, zI_o, zI_lit, zI_neg, zI_add, zI_sub, zI_mul, zI_lt, zI_le, zI_eq, zI_clamp, zI_in, zI_div, zI_rem, lg_lt0, lg_gt0, lg_eq0, lg_le0, lg_ge0, Int.toNat_natCast, ge_iff_le, gt_iff_lt, List.length_cons, List.length_nil, bl_up2_at, bl_up2_nk, bl_up2_nx] at h21
        exfalso; omega
    | succ m ih =>
      intro k hk k1 z v y I1 hz hv hy hwt hF h1
      obtain ⟨j, rfl⟩ : ∃ j, k = j + 1 := ⟨k - 1, by omega⟩
      rw [Nat.add_sub_cancel] at hwt
      subst hz hv
      have hD1 := hD.f hF
      have g6 : I1 q 6 = nI now := by rw [hF q (by omega)]; exact hn
      have g9 := hD1.2.2.1
      have g7 := hD1.1
      have bw : wgo P true now j y ≤ 400 := tw_le hy P1 (Or.inl rfl)
      have ews : wts P true now w (j + 1) = if P.2.2.1 < wgo P true now j y then none else some (wgo P true now j y) := by
        show (match wts P true now w j with | none => none | some x => _) = _
        rw [hwt]
      have L38 : ∀ v, v = nI (wgo P true now j y) → bl_WP G l (d + 2) mX3_spreadState 38 [(5, .int (nI (j + 1))), (4, .int v), (0, .ref q), (1, .int (nI p)), (2, .int (nI w)), (3, .int (nI c))] [] (I1, J, R, K, N) (0, 0) (fun o σ' => o = .inl none ∧ ∃ I', σ' = (I', J, R, K, N) ∧ psF I I' q ∧ pI I' q (eSp E P p now w c 25) now dn) := by
        intro v hv
        subst hv
        refine bl_go oX3_spreadState 80 [17, 38, 74, 80, 124, 163] rfl ?_
        refine ⟨kq, fun h44 => ?_, fun h44 => ?_⟩
        · try simp (disch := omega) only [g9, zI_n, zI_o, zI_lit, zI_neg, zI_add, zI_sub, zI_mul, zI_lt, zI_le, zI_eq, zI_clamp, zI_in, zI_div, zI_rem, lg_lt0, lg_gt0, lg_eq0, lg_le0, lg_ge0, Int.toNat_natCast, ge_iff_le, gt_iff_lt, List.length_cons, List.length_nil, bl_up2_at, bl_up2_nk, bl_up2_nx] at h44
          first
          | (exfalso; first | omega | exact h44 trivial)
          | (refine ⟨kq, rfl, rfl, kq, (Nat.le_of_ble_eq_true rfl), (0, 0), Nat.le_of_ble_eq_true rfl, Nat.le_of_ble_eq_true rfl, bl_MC_mono (c_Passes_rf (d := d) hq' hD1 hP' h1 hp bw (c := c + (j + 1)) (u := now + (j + 1)) (by omega) (by omega) (by omega) hu3 rfl (by dsimp only; rw [g6, nI_add]) rfl (by rw [nI_add])) (fun o65 σ65 q65 => ?_)⟩
             try dsimp only [bl_pv] at q65
             obtain ⟨rfl, I2, E2, rfl, hF2, hI2, hE2⟩ := q65
             have hso : wts P true now w (j + 1) = some (wgo P true now j y) := by rw [ews, if_neg (by omega)]
             refine bl_go oX3_spreadState 80 [17, 38, 74, 80, 124, 163] rfl ?_
             try dsimp only [bl_pv]
             refine ih (j + 1 + 1) (by omega) (by omega) _ _ (wgo P true now j y) I2 (nI_1 _) rfl bw ?_ (hF.trans hF2) ?_
             · rw [Nat.add_sub_cancel]; exact hso
             · have e2 : E2 = eSp E P p now w c (j + 1 + 1) := by
                 rcases hE2 with ⟨a, b⟩ | ⟨z, a, b⟩
                 · rw [eSp_n (by rw [stp_rest (by omega), hso]; simp only [a])]; exact b
                 · rw [eSp_s (u := now + (j + 1) + 3) (z := z) (by rw [stp_rest (by omega), hso]; simp only [a])]; exact b
               rw [e2] at hI2; exact hI2)
        · try simp (disch := omega) only [g9, zI_n, zI_o, zI_lit, zI_neg, zI_add, zI_sub, zI_mul, zI_lt, zI_le, zI_eq, zI_clamp, zI_in, zI_div, zI_rem, lg_lt0, lg_gt0, lg_eq0, lg_le0, lg_ge0, Int.toNat_natCast, ge_iff_le, gt_iff_lt, List.length_cons, List.length_nil, bl_up2_at, bl_up2_nk, bl_up2_nx] at h44
          first
          | (exfalso; first | omega | exact h44 trivial)
          | (refine bl_lv [2, 3, 4, 5] rfl ?_
             try dsimp only [bl_pv]
             have hno : wts P true now w (j + 1) = none := by rw [ews, if_pos (by omega)]
             refine L74 I1 hF ?_
             rw [← eSp_to (n := j + 1) (m := 13) (by omega) (fun x x1 x2 => ?_)]
             · exact h1
             · obtain ⟨i, rfl⟩ : ∃ i, x = j + 1 + i := ⟨x - (j + 1), by omega⟩
               rw [stp_rest (by omega), wts_none hno i])
      refine bl_go oX3_spreadState 80 [17, 38, 74, 80, 124, 163] rfl ?_
      refine ⟨fun h21 => ?_, fun h21 => ?_⟩
      · try simp (disch := omega) only [zI_n, zI_o, zI_lit, zI_neg, zI_add, zI_sub, zI_mul, zI_lt, zI_le, zI_eq, zI_clamp, zI_in, zI_div, zI_rem, lg_lt0, lg_gt0, lg_eq0, lg_le0, lg_ge0, Int.toNat_natCast, ge_iff_le, gt_iff_lt, List.length_cons, List.length_nil, bl_up2_at, bl_up2_nk, bl_up2_nx] at h21
        exfalso; omega
      · try simp (disch := omega) only [zI_n, zI_o, zI_lit, zI_neg, zI_add, zI_sub, zI_mul, zI_lt, zI_le, zI_eq, zI_clamp, zI_in, zI_div, zI_rem, lg_lt0, lg_gt0, lg_eq0, lg_le0, lg_ge0, Int.toNat_natCast, ge_iff_le, gt_iff_lt, List.length_cons, List.length_nil, bl_up2_at, bl_up2_nk, bl_up2_nx] at h21
        refine ⟨kq, (by decide), ?_⟩
        refine bl_lv [1, 0, 2, 3, 4, 5] rfl ?_
        try dsimp only [bl_pv]
        refine L38 _ ?_
        rw [g7]
        exact tw_I (by omega) (by omega) (Or.inl rfl)
  refine bl_go oX3_spreadState 80 [17, 38, 74, 80, 124, 163] rfl ?_
  refine ⟨kq, rfl, rfl, kq, (Nat.le_of_ble_eq_true rfl), (0, 0), Nat.le_of_ble_eq_true rfl, Nat.le_of_ble_eq_true rfl, bl_MC_mono (c_Passes_rf (d := d) hq' hD hP' hI hp hw (c := c) (u := now) (by omega) (by omega) (by omega) hu3 rfl hn rfl rfl) (fun o8 σ8 q8 => ?_)⟩
  try dsimp only [bl_pv] at q8
  obtain ⟨rfl, I2, E2, rfl, hF2, hI2, hE2⟩ := q8
  refine bl_go oX3_spreadState 80 [17, 38, 74, 80, 124, 163] rfl ?_
  try dsimp only [bl_pv]
  refine L17 12 1 rfl (Nat.le_refl _) _ _ w I2 rfl rfl hw rfl hF2 ?_
  have e2 : E2 = eSp E P p now w c (0 + 1) := by
    have hso : wts P true now w 0 = some w := rfl
    rcases hE2 with ⟨a, b⟩ | ⟨z, a, b⟩
    · rw [eSp_n (by rw [stp_rest (by omega), hso]; simp only [Nat.add_zero, a]), eSp_0]; exact b
    · rw [eSp_s (u := now + 0 + 3) (z := z) (by rw [stp_rest (by omega), hso]; simp only [Nat.add_zero, a]), eSp_0]; exact b
  rw [e2] at hI2; exact hI2
end PASSES2
