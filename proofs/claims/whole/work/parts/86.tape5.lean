/-! ===== Tape: a recipe's text, feeding, opening ===== -/
def sLo (c : Nat) : Nat := ([2, 2, 0, 1, 1, 0, 1, 1] : List Nat).getD c 0
def sHi (c : Nat) : Nat := ([4, 4, 0, 9, 9, 0, 36, 36] : List Nat).getD c 0
/-- the number behind a step's word -/
def psn (B : Nat → Int32) (n c i : Nat) : pr (Nat × Nat) := if sHi c = 0 then .inl (0, i) else pnum B n (sLo c) (sHi c) i
def prec (B : Nat → Int32) (n : Nat) : Nat → sq → Nat → pr sq
  | 0, _, _ => .inr (0, 0)
  | f + 1, S, i => if n ≤ skB B n i then (if 0 < S.1 then .inl S else .inr (1, n))
    else if skd B (skB B n i) (skW B n (skB B n i)) = zI (-1) then .inr (1, skB B n i)
    else if 20 ≤ S.1 then .inr (3, skB B n i)
    else pbd (psn B n (skd B (skB B n i) (skW B n (skB B n i))).toNatClampNeg (skW B n (skB B n i))) fun a => pbd (pend B n a.2) fun j => prec B n f (bl_sn S (skd B (skB B n i) (skW B n (skB B n i))).toNatClampNeg a.1) j
/-- all steps are such as can be told -/
def sqO (S : sq) : Prop := ∀ k, k < S.1 → st_ok (S.2.1 k) (S.2.2 k)
theorem bl_sn_ok {S : sq} {k v : Nat} (h : sqO S) (hk : st_ok k v) : sqO (bl_sn S k v) := by
  intro j hj
  have hj' : j < S.1 + 1 := hj
  show st_ok (if j = S.1 then k else S.2.1 j) (if j = S.1 then v else S.2.2 j)
  by_cases e : j = S.1
  · rw [if_pos e, if_pos e]; exact hk
  · rw [if_neg e, if_neg e]; exact h j (by omega)
theorem psn_ok {B : Nat → Int32} {n c i v e : Nat} (hc : c ≤ 7) (hi : i ≤ n) (hp : psn B n c i = .inl (v, e)) : e ≤ n ∧ st_ok c v := by
  have eL : ∀ c : Nat, c < 8 → sHi c ≤ 36 ∧ (c ≤ 1 → 2 ≤ sLo c ∧ sHi c ≤ 4 ∧ sHi c ≠ 0) ∧ (c = 3 ∨ c = 4 → 1 ≤ sLo c ∧ sHi c ≤ 9 ∧ sHi c ≠ 0) := by decide +kernel
  obtain ⟨e1, e2, e3⟩ := eL c (by omega)
  unfold psn at hp
  split at hp
  · rename_i h0
    cases hp
    refine ⟨hi, hc, by omega, fun h => ?_, fun h => ?_⟩
    · exact absurd h0 (e2 h).2.2
    · exact absurd h0 (e3 h).2.2
  · obtain ⟨p1, p2, p3⟩ := pnum_le hi hp
    refine ⟨p1, hc, by omega, fun h => ?_, fun h => ?_⟩
    · have := e2 h; omega
    · have := e3 h; omega
theorem rcC_tp {I : Nat → Nat → Int32} {t q : Nat} {h fk fp en at' wa : Int32} {S : sq} (hq : q ≠ t ∧ q + 1 ≠ t ∧ q + 2 ≠ t) : rcC (tpI I t h fk fp en at' wa) q S ↔ rcC I q S := by
  unfold rcC
  rw [tpI_ne hq.1, tpI_ne hq.2.1, tpI_ne hq.2.2]
/-- a memory that differs from a tape's only elsewhere is a tape's -/
def tpB (I I' : Nat → Nat → Int32) (t : Nat) : Nat → Nat → Int32 := fun x => if x = t then I t else I' x
theorem tpB_t {I I' : Nat → Nat → Int32} {t : Nat} : tpB I I' t t = I t := by simp [tpB]
theorem tpB_ne {I I' : Nat → Nat → Int32} {t x : Nat} (h : x ≠ t) : tpB I I' t x = I' x := by simp [tpB, h]
theorem tpI_of {I I' : Nat → Nat → Int32} {t : Nat} {h fk fp en at' wa : Int32} (e : I' t = tpI I t h fk fp en at' wa t) : I' = tpI (tpB I I' t) t h fk fp en at' wa := by
  funext x j
  by_cases ex : x = t
  · subst ex
    rw [e]
    unfold tpI
    rw [if_pos rfl, if_pos rfl, tpB_t]
  · rw [tpI_ne ex, tpB_ne ex]
section TAPE5
variable {G : bl_G} {l : Launch} {d t q u3 u4 : Nat} {I : Nat → Nat → Int32} {J : Nat → Nat → Int64} {R : Nat → Nat → Option Nat} {K N : Nat → Nat} {h fk fp wa : Int32} {n i : Nat}
theorem c_Tape_recLoop (ht : tpS R K N t) (hq : rcS R K N q) (hqt : q + 2 < t ∨ t + 1 < q) (hst : ∀ j, j < 17 → K (950 + j) = 110 + j) (ku3 : K u3 = 103) (ku4 : K u4 = 104) (hn : n ≤ 400) : ∀ f S, S.1 + f = 20 → ∀ i, i ≤ n → ∀ I1 wa x, x = nI S.1 → rcC I1 q S → sqO S → (∀ x, x ≠ q → x ≠ q + 1 → x ≠ q + 2 → I1 x = I x) → bl_WP G l (d + 3) mX8_readRecipe 7 [(2, .int x), (0, .ref t), (1, .ref q)] [] (tpI I1 t h fk fp (nI n) (nI i) wa, J, R, K, N) (0, 0) (fun o σ' => (∃ S' I' at' wa', prec (I (t + 1)) n (f + 1) S i = .inl S' ∧ o = .inl (some (.int 1)) ∧ σ' = (tpI I' t h fk fp (nI n) at' wa', J, R, K, N) ∧ (∀ x, x ≠ q → x ≠ q + 1 → x ≠ q + 2 → I' x = I x) ∧ rcC I' q S' ∧ sqO S') ∨ (∃ k p I' at' wa', prec (I (t + 1)) n (f + 1) S i = .inr (k, p) ∧ o = .inl (some (.int 0)) ∧ σ' = (tpI I' t h (nI k) (nI p) (nI n) at' wa', J, R, K, N) ∧ (∀ x, x ≠ q → x ≠ q + 1 → x ≠ q + 2 → I' x = I x))) := by
  have kt := ht.2.1
  have hq' := hq
  obtain ⟨kq, -⟩ := hq
  have eL : ∀ c : Nat, c < 8 → ([2, 2, 0, 1, 1, 0, 1, 1] : List Int32).getD c 0 = nI (sLo c) ∧ ([4, 4, 0, 9, 9, 0, 36, 36] : List Int32).getD c 0 = nI (sHi c) ∧ sLo c ≤ sHi c ∧ sHi c ≤ 36 := by decide +kernel
  intro f
  induction f with
  | zero =>
    intro S hS i hi I1 wa x hx hC hO hF
    subst hx
    have hB : I1 (t + 1) = I (t + 1) := hF _ (by omega) (by omega) (by omega)
    have ep : prec (I (t + 1)) n (0 + 1) S i = if n ≤ skB (I (t + 1)) n i then (if 0 < S.1 then .inl S else .inr (1, n)) else if skd (I (t + 1)) (skB (I (t + 1)) n i) (skW (I (t + 1)) n (skB (I (t + 1)) n i)) = zI (-1) then .inr (1, skB (I (t + 1)) n i) else if 20 ≤ S.1 then .inr (3, skB (I (t + 1)) n i) else pbd (psn (I (t + 1)) n (skd (I (t + 1)) (skB (I (t + 1)) n i) (skW (I (t + 1)) n (skB (I (t + 1)) n i))).toNatClampNeg (skW (I (t + 1)) n (skB (I (t + 1)) n i))) fun a => pbd (pend (I (t + 1)) n a.2) fun j => prec (I (t + 1)) n 0 (bl_sn S (skd (I (t + 1)) (skB (I (t + 1)) n i) (skW (I (t + 1)) n (skB (I (t + 1)) n i))).toNatClampNeg a.1) j := rfl
    have hp : skB (I (t + 1)) n i ≤ n := skB_le hi
    have hw1 : skW (I (t + 1)) n (skB (I (t + 1)) n i) ≤ n := skW_le hp
    have hw2 := skW_ge (I (t + 1)) n (skB (I (t + 1)) n i)
    rw [ep]
    have hW := c_Tape_readWord (d := d + 1) (l := l) (G := G) (J := J) (h := h) (fk := fk) (fp := fp) (wa := wa) (I := I1) ht hn hi
    rw [hB] at hW
    generalize hpe : skB (I (t + 1)) n i = p at *
    generalize hwe : skW (I (t + 1)) n p = e at *
    have hR := c_Tape_stepRead (d := d + 1) (l := l) (G := G) (J := J) (h := h) (fk := fk) (fp := fp) (en := nI n) (I := I1) (p := p) (e := e) ht hst hw2 (by omega)
    rw [hB] at hR
    refine bl_go oX8_readRecipe 80 [7] rfl ?_
    refine ⟨fun h10 => ?_, fun h10 => ?_⟩
    · try simp (disch := omega) only [tp4, tp6, zI_n, zI_o, zI_lit, zI_neg, zI_add, zI_sub, zI_mul, zI_lt, zI_le, zI_eq, zI_clamp, zI_in, zI_div, zI_rem, lg_lt0, lg_gt0, lg_eq0, lg_le0, lg_ge0, Int.toNat_natCast, ge_iff_le, gt_iff_lt, List.length_cons, List.length_nil, bl_up2_at, bl_up2_nk, bl_up2_nx] at h10
      first
      | (exfalso; first | omega | exact h10 trivial)
      | (refine ⟨(fun _ => by first | exact Or.inl rfl | exact Or.inr rfl), ?_⟩
         try show _ ∧ _
         try dsimp only [bl_pv]
         fail /- ret143 -/)
    · try simp (disch := omega) only [tp4, tp6, zI_n, zI_o, zI_lit, zI_neg, zI_add, zI_sub, zI_mul, zI_lt, zI_le, zI_eq, zI_clamp, zI_in, zI_div, zI_rem, lg_lt0, lg_gt0, lg_eq0, lg_le0, lg_ge0, Int.toNat_natCast, ge_iff_le, gt_iff_lt, List.length_cons, List.length_nil, bl_up2_at, bl_up2_nk, bl_up2_nx] at h10
      first
      | (exfalso; first | omega | exact h10 trivial)
      | (refine ⟨rfl, rfl, kt, (Nat.le_of_ble_eq_true rfl), (0, 0), Nat.le_of_ble_eq_true rfl, Nat.le_of_ble_eq_true rfl, bl_MC_mono (hW) (fun o14 σ14 q14 => ?_)⟩
         try dsimp only [bl_pv] at q14
         obtain ⟨rfl, rfl⟩ := q14
         refine bl_go oX8_readRecipe 80 [7] rfl ?_
         refine ⟨kt, kt, fun h25 => ?_, fun h25 => ?_⟩
         · try simp (disch := omega) only [tp4, tp6, zI_n, zI_o, zI_lit, zI_neg, zI_add, zI_sub, zI_mul, zI_lt, zI_le, zI_eq, zI_clamp, zI_in, zI_div, zI_rem, lg_lt0, lg_gt0, lg_eq0, lg_le0, lg_ge0, Int.toNat_natCast, ge_iff_le, gt_iff_lt, List.length_cons, List.length_nil, bl_up2_at, bl_up2_nk, bl_up2_nx] at h25
           first
           | (exfalso; first | omega | exact h25 trivial)
           | (refine ⟨rfl, rfl, kt, (Nat.le_of_ble_eq_true rfl), (0, 0), Nat.le_of_ble_eq_true rfl, Nat.le_of_ble_eq_true rfl, bl_MC_mono (hR) (fun o51 σ51 q51 => ?_)⟩
              try dsimp only [bl_pv] at q51
              obtain ⟨rfl, rfl⟩ := q51
              rcases skd_rng (I (t + 1)) p e with hk | ⟨kk, k1, hk⟩
              · rw [hk]
                refine bl_go oX8_readRecipe 80 [7] rfl ?_
                refine ⟨fun h57 => ?_, fun h57 => ?_⟩
                · try simp (disch := omega) only [tp4, tp6, zI_n, zI_o, zI_lit, zI_neg, zI_add, zI_sub, zI_mul, zI_lt, zI_le, zI_eq, zI_clamp, zI_in, zI_div, zI_rem, lg_lt0, lg_gt0, lg_eq0, lg_le0, lg_ge0, Int.toNat_natCast, ge_iff_le, gt_iff_lt, List.length_cons, List.length_nil, bl_up2_at, bl_up2_nk, bl_up2_nx] at h57
                  first
                  | (exfalso; first | omega | exact h57 trivial)
                  | (refine ⟨fun h73 => ?_, fun h73 => ?_⟩
                     · try simp (disch := omega) only [tp4, tp6, zI_n, zI_o, zI_lit, zI_neg, zI_add, zI_sub, zI_mul, zI_lt, zI_le, zI_eq, zI_clamp, zI_in, zI_div, zI_rem, lg_lt0, lg_gt0, lg_eq0, lg_le0, lg_ge0, Int.toNat_natCast, ge_iff_le, gt_iff_lt, List.length_cons, List.length_nil, bl_up2_at, bl_up2_nk, bl_up2_nx] at h73
                       exfalso; omega
                     · try simp (disch := omega) only [tp4, tp6, zI_n, zI_o, zI_lit, zI_neg, zI_add, zI_sub, zI_mul, zI_lt, zI_le, zI_eq, zI_clamp, zI_in, zI_div, zI_rem, lg_lt0, lg_gt0, lg_eq0, lg_le0, lg_ge0, Int.toNat_natCast, ge_iff_le, gt_iff_lt, List.length_cons, List.length_nil, bl_up2_at, bl_up2_nk, bl_up2_nx] at h73
                       first
                       | (exfalso; first | omega | exact h73 trivial)
                       | (refine ⟨kt, rfl, rfl, kt, (Nat.le_of_ble_eq_true rfl), (0, 0), Nat.le_of_ble_eq_true rfl, Nat.le_of_ble_eq_true rfl, bl_MC_mono (c_Tape_refuse (d := d + 2) kt) (fun o82 σ82 q82 => ?_)⟩
                          try dsimp only [bl_pv] at q82
                          obtain ⟨rfl, rfl⟩ := q82
                          refine bl_go oX8_readRecipe 80 [7] rfl ?_
                          refine ⟨(fun _ => by first | exact Or.inl rfl | exact Or.inr rfl), ?_⟩
                          try show _ ∧ _
                          try dsimp only [bl_pv]
                          refine Or.inr ⟨3, p, I1, _, _, by rw [if_neg (by omega), if_neg (by simp (disch := omega) only [zI_n, zI_o, zI_lit, zI_neg, zI_add, zI_sub, zI_mul, zI_lt, zI_le, zI_eq, zI_clamp, zI_in, zI_div, zI_rem, lg_lt0, lg_gt0, lg_eq0, lg_le0, lg_ge0, Int.toNat_natCast, ge_iff_le, gt_iff_lt, List.length_cons, List.length_nil, bl_up2_at, bl_up2_nk, bl_up2_nx]; omega), if_pos (by omega)], rfl, by rw [tp6]; rfl, hF⟩))
                · try simp (disch := omega) only [tp4, tp6, zI_n, zI_o, zI_lit, zI_neg, zI_add, zI_sub, zI_mul, zI_lt, zI_le, zI_eq, zI_clamp, zI_in, zI_div, zI_rem, lg_lt0, lg_gt0, lg_eq0, lg_le0, lg_ge0, Int.toNat_natCast, ge_iff_le, gt_iff_lt, List.length_cons, List.length_nil, bl_up2_at, bl_up2_nk, bl_up2_nx] at h57
                  first
                  | (exfalso; first | omega | exact h57 trivial)
                  | (refine ⟨kt, rfl, rfl, kt, (Nat.le_of_ble_eq_true rfl), (0, 0), Nat.le_of_ble_eq_true rfl, Nat.le_of_ble_eq_true rfl, bl_MC_mono (c_Tape_refuse (d := d + 2) kt) (fun o66 σ66 q66 => ?_)⟩
                     try dsimp only [bl_pv] at q66
                     obtain ⟨rfl, rfl⟩ := q66
                     refine bl_go oX8_readRecipe 80 [7] rfl ?_
                     refine ⟨(fun _ => by first | exact Or.inl rfl | exact Or.inr rfl), ?_⟩
                     try show _ ∧ _
                     try dsimp only [bl_pv]
                     refine Or.inr ⟨1, p, I1, _, _, by rw [if_neg (by omega), if_pos rfl], rfl, by rw [tp6]; rfl, hF⟩)
              · rw [hk]
                refine bl_go oX8_readRecipe 80 [7] rfl ?_
                refine ⟨fun h57 => ?_, fun h57 => ?_⟩
                · try simp (disch := omega) only [tp4, tp6, zI_n, zI_o, zI_lit, zI_neg, zI_add, zI_sub, zI_mul, zI_lt, zI_le, zI_eq, zI_clamp, zI_in, zI_div, zI_rem, lg_lt0, lg_gt0, lg_eq0, lg_le0, lg_ge0, Int.toNat_natCast, ge_iff_le, gt_iff_lt, List.length_cons, List.length_nil, bl_up2_at, bl_up2_nk, bl_up2_nx] at h57
                  first
                  | (exfalso; first | omega | exact h57 trivial)
                  | (refine ⟨fun h73 => ?_, fun h73 => ?_⟩
                     · try simp (disch := omega) only [tp4, tp6, zI_n, zI_o, zI_lit, zI_neg, zI_add, zI_sub, zI_mul, zI_lt, zI_le, zI_eq, zI_clamp, zI_in, zI_div, zI_rem, lg_lt0, lg_gt0, lg_eq0, lg_le0, lg_ge0, Int.toNat_natCast, ge_iff_le, gt_iff_lt, List.length_cons, List.length_nil, bl_up2_at, bl_up2_nk, bl_up2_nx] at h73
                       exfalso; omega
                     · try simp (disch := omega) only [tp4, tp6, zI_n, zI_o, zI_lit, zI_neg, zI_add, zI_sub, zI_mul, zI_lt, zI_le, zI_eq, zI_clamp, zI_in, zI_div, zI_rem, lg_lt0, lg_gt0, lg_eq0, lg_le0, lg_ge0, Int.toNat_natCast, ge_iff_le, gt_iff_lt, List.length_cons, List.length_nil, bl_up2_at, bl_up2_nk, bl_up2_nx] at h73
                       first
                       | (exfalso; first | omega | exact h73 trivial)
                       | (refine ⟨kt, rfl, rfl, kt, (Nat.le_of_ble_eq_true rfl), (0, 0), Nat.le_of_ble_eq_true rfl, Nat.le_of_ble_eq_true rfl, bl_MC_mono (c_Tape_refuse (d := d + 2) kt) (fun o82 σ82 q82 => ?_)⟩
                          try dsimp only [bl_pv] at q82
                          obtain ⟨rfl, rfl⟩ := q82
                          refine bl_go oX8_readRecipe 80 [7] rfl ?_
                          refine ⟨(fun _ => by first | exact Or.inl rfl | exact Or.inr rfl), ?_⟩
                          try show _ ∧ _
                          try dsimp only [bl_pv]
                          refine Or.inr ⟨3, p, I1, _, _, by rw [if_neg (by omega), if_neg (by simp (disch := omega) only [zI_n, zI_o, zI_lit, zI_neg, zI_add, zI_sub, zI_mul, zI_lt, zI_le, zI_eq, zI_clamp, zI_in, zI_div, zI_rem, lg_lt0, lg_gt0, lg_eq0, lg_le0, lg_ge0, Int.toNat_natCast, ge_iff_le, gt_iff_lt, List.length_cons, List.length_nil, bl_up2_at, bl_up2_nk, bl_up2_nx]; omega), if_pos (by omega)], rfl, by rw [tp6]; rfl, hF⟩))
                · try simp (disch := omega) only [tp4, tp6, zI_n, zI_o, zI_lit, zI_neg, zI_add, zI_sub, zI_mul, zI_lt, zI_le, zI_eq, zI_clamp, zI_in, zI_div, zI_rem, lg_lt0, lg_gt0, lg_eq0, lg_le0, lg_ge0, Int.toNat_natCast, ge_iff_le, gt_iff_lt, List.length_cons, List.length_nil, bl_up2_at, bl_up2_nk, bl_up2_nx] at h57
                  first
                  | (exfalso; first | omega | exact h57 trivial)
                  | (refine ⟨kt, rfl, rfl, kt, (Nat.le_of_ble_eq_true rfl), (0, 0), Nat.le_of_ble_eq_true rfl, Nat.le_of_ble_eq_true rfl, bl_MC_mono (c_Tape_refuse (d := d + 2) kt) (fun o66 σ66 q66 => ?_)⟩
                     try dsimp only [bl_pv] at q66
                     obtain ⟨rfl, rfl⟩ := q66
                     refine bl_go oX8_readRecipe 80 [7] rfl ?_
                     refine ⟨(fun _ => by first | exact Or.inl rfl | exact Or.inr rfl), ?_⟩
                     try show _ ∧ _
                     try dsimp only [bl_pv]
                     refine Or.inr ⟨1, p, I1, _, _, by rw [if_neg (by omega), if_pos rfl], rfl, by rw [tp6]; rfl, hF⟩))
         · try simp (disch := omega) only [tp4, tp6, zI_n, zI_o, zI_lit, zI_neg, zI_add, zI_sub, zI_mul, zI_lt, zI_le, zI_eq, zI_clamp, zI_in, zI_div, zI_rem, lg_lt0, lg_gt0, lg_eq0, lg_le0, lg_ge0, Int.toNat_natCast, ge_iff_le, gt_iff_lt, List.length_cons, List.length_nil, bl_up2_at, bl_up2_nk, bl_up2_nx] at h25
           first
           | (exfalso; first | omega | exact h25 trivial)
           | (refine ⟨fun h29 => ?_, fun h29 => ?_⟩
              · try simp (disch := omega) only [tp4, tp6, zI_n, zI_o, zI_lit, zI_neg, zI_add, zI_sub, zI_mul, zI_lt, zI_le, zI_eq, zI_clamp, zI_in, zI_div, zI_rem, lg_lt0, lg_gt0, lg_eq0, lg_le0, lg_ge0, Int.toNat_natCast, ge_iff_le, gt_iff_lt, List.length_cons, List.length_nil, bl_up2_at, bl_up2_nk, bl_up2_nx] at h29
                first
                | (exfalso; first | omega | exact h29 trivial)
                | (refine ⟨(fun _ => by first | exact Or.inl rfl | exact Or.inr rfl), ?_⟩
                   try show _ ∧ _
                   try dsimp only [bl_pv]
                   exact Or.inl ⟨S, I1, _, _, by rw [if_pos (by omega), if_pos (by omega)], rfl, rfl, hF, hC, hO⟩)
              · try simp (disch := omega) only [tp4, tp6, zI_n, zI_o, zI_lit, zI_neg, zI_add, zI_sub, zI_mul, zI_lt, zI_le, zI_eq, zI_clamp, zI_in, zI_div, zI_rem, lg_lt0, lg_gt0, lg_eq0, lg_le0, lg_ge0, Int.toNat_natCast, ge_iff_le, gt_iff_lt, List.length_cons, List.length_nil, bl_up2_at, bl_up2_nk, bl_up2_nx] at h29
                exfalso; omega))
  | succ f ih =>
    intro S hS i hi I1 wa x hx hC hO hF
    subst hx
    have hB : I1 (t + 1) = I (t + 1) := hF _ (by omega) (by omega) (by omega)
    have ep : prec (I (t + 1)) n (f + 1 + 1) S i = if n ≤ skB (I (t + 1)) n i then (if 0 < S.1 then .inl S else .inr (1, n)) else if skd (I (t + 1)) (skB (I (t + 1)) n i) (skW (I (t + 1)) n (skB (I (t + 1)) n i)) = zI (-1) then .inr (1, skB (I (t + 1)) n i) else if 20 ≤ S.1 then .inr (3, skB (I (t + 1)) n i) else pbd (psn (I (t + 1)) n (skd (I (t + 1)) (skB (I (t + 1)) n i) (skW (I (t + 1)) n (skB (I (t + 1)) n i))).toNatClampNeg (skW (I (t + 1)) n (skB (I (t + 1)) n i))) fun a => pbd (pend (I (t + 1)) n a.2) fun j => prec (I (t + 1)) n (f + 1) (bl_sn S (skd (I (t + 1)) (skB (I (t + 1)) n i) (skW (I (t + 1)) n (skB (I (t + 1)) n i))).toNatClampNeg a.1) j := rfl
    have hp : skB (I (t + 1)) n i ≤ n := skB_le hi
    have hw1 : skW (I (t + 1)) n (skB (I (t + 1)) n i) ≤ n := skW_le hp
    have hw2 := skW_ge (I (t + 1)) n (skB (I (t + 1)) n i)
    rw [ep]
    have hW := c_Tape_readWord (d := d + 1) (l := l) (G := G) (J := J) (h := h) (fk := fk) (fp := fp) (wa := wa) (I := I1) ht hn hi
    rw [hB] at hW
    generalize hpe : skB (I (t + 1)) n i = p at *
    generalize hwe : skW (I (t + 1)) n p = e at *
    have hR := c_Tape_stepRead (d := d + 1) (l := l) (G := G) (J := J) (h := h) (fk := fk) (fp := fp) (en := nI n) (I := I1) (p := p) (e := e) ht hst hw2 (by omega)
    rw [hB] at hR
    refine bl_go oX8_readRecipe 80 [7] rfl ?_
    refine ⟨fun h10 => ?_, fun h10 => ?_⟩
    · try simp (disch := omega) only [tp4, tp6, zI_n, zI_o, zI_lit, zI_neg, zI_add, zI_sub, zI_mul, zI_lt, zI_le, zI_eq, zI_clamp, zI_in, zI_div, zI_rem, lg_lt0, lg_gt0, lg_eq0, lg_le0, lg_ge0, Int.toNat_natCast, ge_iff_le, gt_iff_lt, List.length_cons, List.length_nil, bl_up2_at, bl_up2_nk, bl_up2_nx] at h10
      first
      | (exfalso; first | omega | exact h10 trivial)
      | (refine ⟨(fun _ => by first | exact Or.inl rfl | exact Or.inr rfl), ?_⟩
         try show _ ∧ _
         try dsimp only [bl_pv]
         fail /- ret143 -/)
    · try simp (disch := omega) only [tp4, tp6, zI_n, zI_o, zI_lit, zI_neg, zI_add, zI_sub, zI_mul, zI_lt, zI_le, zI_eq, zI_clamp, zI_in, zI_div, zI_rem, lg_lt0, lg_gt0, lg_eq0, lg_le0, lg_ge0, Int.toNat_natCast, ge_iff_le, gt_iff_lt, List.length_cons, List.length_nil, bl_up2_at, bl_up2_nk, bl_up2_nx] at h10
      first
      | (exfalso; first | omega | exact h10 trivial)
      | (refine ⟨rfl, rfl, kt, (Nat.le_of_ble_eq_true rfl), (0, 0), Nat.le_of_ble_eq_true rfl, Nat.le_of_ble_eq_true rfl, bl_MC_mono (hW) (fun o14 σ14 q14 => ?_)⟩
         try dsimp only [bl_pv] at q14
         obtain ⟨rfl, rfl⟩ := q14
         refine bl_go oX8_readRecipe 80 [7] rfl ?_
         refine ⟨kt, kt, fun h25 => ?_, fun h25 => ?_⟩
         · try simp (disch := omega) only [tp4, tp6, zI_n, zI_o, zI_lit, zI_neg, zI_add, zI_sub, zI_mul, zI_lt, zI_le, zI_eq, zI_clamp, zI_in, zI_div, zI_rem, lg_lt0, lg_gt0, lg_eq0, lg_le0, lg_ge0, Int.toNat_natCast, ge_iff_le, gt_iff_lt, List.length_cons, List.length_nil, bl_up2_at, bl_up2_nk, bl_up2_nx] at h25
           first
           | (exfalso; first | omega | exact h25 trivial)
           | (refine ⟨rfl, rfl, kt, (Nat.le_of_ble_eq_true rfl), (0, 0), Nat.le_of_ble_eq_true rfl, Nat.le_of_ble_eq_true rfl, bl_MC_mono (hR) (fun o51 σ51 q51 => ?_)⟩
              try dsimp only [bl_pv] at q51
              obtain ⟨rfl, rfl⟩ := q51
              rcases skd_rng (I (t + 1)) p e with hk | ⟨kk, k1, hk⟩
              · rw [hk]
                refine bl_go oX8_readRecipe 80 [7] rfl ?_
                refine ⟨fun h57 => ?_, fun h57 => ?_⟩
                · try simp (disch := omega) only [tp4, tp6, zI_n, zI_o, zI_lit, zI_neg, zI_add, zI_sub, zI_mul, zI_lt, zI_le, zI_eq, zI_clamp, zI_in, zI_div, zI_rem, lg_lt0, lg_gt0, lg_eq0, lg_le0, lg_ge0, Int.toNat_natCast, ge_iff_le, gt_iff_lt, List.length_cons, List.length_nil, bl_up2_at, bl_up2_nk, bl_up2_nx] at h57
                  first
                  | (exfalso; first | omega | exact h57 trivial)
                  | (refine ⟨fun h73 => ?_, fun h73 => ?_⟩
                     · try simp (disch := omega) only [tp4, tp6, zI_n, zI_o, zI_lit, zI_neg, zI_add, zI_sub, zI_mul, zI_lt, zI_le, zI_eq, zI_clamp, zI_in, zI_div, zI_rem, lg_lt0, lg_gt0, lg_eq0, lg_le0, lg_ge0, Int.toNat_natCast, ge_iff_le, gt_iff_lt, List.length_cons, List.length_nil, bl_up2_at, bl_up2_nk, bl_up2_nx] at h73
                       refine ⟨u4, ku4, Or.inr (Or.inl ⟨4, _, rfl, ku4, (by show vp_in _ 8; simp (disch := omega) only [tp4, tp6, zI_n, zI_o, zI_lit, zI_neg, zI_add, zI_sub, zI_mul, zI_lt, zI_le, zI_eq, zI_clamp, zI_in, zI_div, zI_rem, lg_lt0, lg_gt0, lg_eq0, lg_le0, lg_ge0, Int.toNat_natCast, ge_iff_le, gt_iff_lt, List.length_cons, List.length_nil, bl_up2_at, bl_up2_nk, bl_up2_nx] <;> omega), fun h91 => ?_, fun h91 => ?_⟩)⟩
                       · try simp (disch := omega) only [bl_pv, cl0, cl1, cl2, cl3, cl4, cl5, cl6, cl7, cl8, cl9, bl_up2_at, bl_up2_nk, bl_up2_nx] at h91
                         have hps : psn (I (t + 1)) n kk e = pnum (I (t + 1)) n (sLo kk) (sHi kk) e := by
                           unfold psn
                           rw [if_neg]
                           intro h0
                           apply h91
                           show ([4, 4, 0, 9, 9, 0, 36, 36] : List Int32).getD (nI kk).toNatClampNeg 0 = 0
                           rw [ek, s2, h0]; rfl
                         first
                         | (exfalso; first | omega | exact h91 trivial)
                         | (refine ⟨u3, ku3, Or.inr (Or.inl ⟨3, _, rfl, ku3, (by show vp_in _ 8; simp (disch := omega) only [tp4, tp6, zI_n, zI_o, zI_lit, zI_neg, zI_add, zI_sub, zI_mul, zI_lt, zI_le, zI_eq, zI_clamp, zI_in, zI_div, zI_rem, lg_lt0, lg_gt0, lg_eq0, lg_le0, lg_ge0, Int.toNat_natCast, ge_iff_le, gt_iff_lt, List.length_cons, List.length_nil, bl_up2_at, bl_up2_nk, bl_up2_nx] <;> omega), u4, ku4, Or.inr (Or.inl ⟨4, _, rfl, ku4, (by show vp_in _ 8; simp (disch := omega) only [tp4, tp6, zI_n, zI_o, zI_lit, zI_neg, zI_add, zI_sub, zI_mul, zI_lt, zI_le, zI_eq, zI_clamp, zI_in, zI_div, zI_rem, lg_lt0, lg_gt0, lg_eq0, lg_le0, lg_ge0, Int.toNat_natCast, ge_iff_le, gt_iff_lt, List.length_cons, List.length_nil, bl_up2_at, bl_up2_nk, bl_up2_nx] <;> omega), rfl, rfl, kt, (Nat.le_of_ble_eq_true rfl), (0, 0), Nat.le_of_ble_eq_true rfl, Nat.le_of_ble_eq_true rfl, bl_MC_mono (c_Tape_readNumber (d := d + 1) ht hn hw1 (lo := sLo kk) (hi := sHi kk) (by rw [ek]; exact s1) (by rw [ek]; exact s2) s3 (by omega)) (fun o109 σ109 q109 => ?_)⟩)⟩)⟩
                            rcases q109 with ⟨v, e2, p2, rfl, rfl⟩ | ⟨k, p', a', p2, rfl, rfl⟩
                            · rw [hB, ← hps] at p2
                              obtain ⟨hv1, hv2⟩ := psn_ok k1 hw1 p2
                              have hv3 := hv2.2.1
                              refine bl_go oX8_readRecipe 80 [7] rfl ?_
                              refine ⟨fun h117 => ?_, fun h117 => ?_⟩
                              · try simp (disch := omega) only [tp4, tp6, zI_n, zI_o, zI_lit, zI_neg, zI_add, zI_sub, zI_mul, zI_lt, zI_le, zI_eq, zI_clamp, zI_in, zI_div, zI_rem, lg_lt0, lg_gt0, lg_eq0, lg_le0, lg_ge0, Int.toNat_natCast, ge_iff_le, gt_iff_lt, List.length_cons, List.length_nil, bl_up2_at, bl_up2_nk, bl_up2_nx] at h117
                                first
                                | (exfalso; first | omega | exact h117 trivial)
                                | (refine ⟨(fun _ => by first | exact Or.inl rfl | exact Or.inr rfl), ?_⟩
                                   try show _ ∧ _
                                   try dsimp only [bl_pv]
                                   first
                                   | (have hq3 := p3
                                      have hq2 := p2
                                      refine Or.inr ⟨k, p', I1, _, _, ?_, rfl, rfl, hF⟩
                                      rw [if_neg (by omega), if_neg hnk, if_neg (by omega)]
                                      simp only [pbd, p2, p3])
                                   | (have hq3 := p3
                                      refine Or.inr ⟨k, p', I1, _, _, ?_, rfl, rfl, hF⟩
                                      rw [if_neg (by omega), if_neg hnk, if_neg (by omega)]
                                      simp only [pbd, hps, p3])
                                   | (refine Or.inr ⟨k, p', I1, _, _, ?_, rfl, rfl, hF⟩
                                      rw [if_neg (by omega), if_neg hnk, if_neg (by omega)]
                                      simp only [pbd, p2]))
                              · try simp (disch := omega) only [tp4, tp6, zI_n, zI_o, zI_lit, zI_neg, zI_add, zI_sub, zI_mul, zI_lt, zI_le, zI_eq, zI_clamp, zI_in, zI_div, zI_rem, lg_lt0, lg_gt0, lg_eq0, lg_le0, lg_ge0, Int.toNat_natCast, ge_iff_le, gt_iff_lt, List.length_cons, List.length_nil, bl_up2_at, bl_up2_nk, bl_up2_nx] at h117
                                first
                                | (exfalso; first | omega | exact h117 trivial)
                                | (refine ⟨rfl, rfl, kt, (Nat.le_of_ble_eq_true rfl), (0, 0), Nat.le_of_ble_eq_true rfl, Nat.le_of_ble_eq_true rfl, bl_MC_mono (c_Tape_readEnd (d := d + 1) ht hn hv1) (fun o121 σ121 q121 => ?_)⟩
                                   rcases q121 with ⟨j3, p3, rfl, rfl⟩ | ⟨k, p', a', p3, rfl, rfl⟩
                                   · rw [hB] at p3
                                     refine bl_go oX8_readRecipe 80 [7] rfl ?_
                                     refine ⟨fun h124 => ?_, fun h124 => ?_⟩
                                     · try simp (disch := omega) only [tp4, tp6, zI_n, zI_o, zI_lit, zI_neg, zI_add, zI_sub, zI_mul, zI_lt, zI_le, zI_eq, zI_clamp, zI_in, zI_div, zI_rem, lg_lt0, lg_gt0, lg_eq0, lg_le0, lg_ge0, Int.toNat_natCast, ge_iff_le, gt_iff_lt, List.length_cons, List.length_nil, bl_up2_at, bl_up2_nk, bl_up2_nx] at h124
                                       first
                                       | (exfalso; first | omega | exact h124 trivial)
                                       | (refine ⟨rfl, rfl, kq, (Nat.le_of_ble_eq_true rfl), (0, 0), Nat.le_of_ble_eq_true rfl, Nat.le_of_ble_eq_true rfl, bl_MC_mono (c_Recipe_add (d := d + 2) hq' ((rcC_tp (by omega)).mpr hC) (by omega) k1 hv2.2.1) (fun o133 σ133 q133 => ?_)⟩
                                          try dsimp only [bl_pv] at q133
                                          obtain ⟨rfl, I2, rfl, hF2, hC2⟩ := q133
                                          rw [tpI_of (hF2 t (by omega) (by omega) (by omega))]
                                          refine bl_go oX8_readRecipe 80 [7] rfl ?_
                                          refine bl_lv [0, 3, 4] rfl ?_
                                          try dsimp only [bl_pv]
                                          have := ih _ (show S.1 + 1 + f = 20 by omega) j3 (pend_le p3) (tpB I1 I2 t) (nI p) _ (nI_1 S.1) (by
                                                unfold rcC at hC2 ⊢
                                                rw [tpB_ne (by omega), tpB_ne (by omega), tpB_ne (by omega)]; exact hC2) (bl_sn_ok hO hv2) (fun x x1 x2 x3 => by
                                                by_cases ex : x = t
                                                · rw [ex, tpB_t, ← ex]; exact hF x x1 x2 x3
                                                · rw [tpB_ne ex, hF2 x x1 x2 x3, tpI_ne ex]; exact hF x x1 x2 x3)
                                          refine bl_WP_mono this (fun o σ' hq => ?_)
                                          rw [if_neg (by omega), if_neg hnk, if_neg (by omega)]
                                          first
                                          | (have hq2 := p2
                                             simp only [pbd, p2, p3]
                                             exact hq)
                                          | (simp only [pbd, hps, p3]
                                             exact hq))
                                     · try simp (disch := omega) only [tp4, tp6, zI_n, zI_o, zI_lit, zI_neg, zI_add, zI_sub, zI_mul, zI_lt, zI_le, zI_eq, zI_clamp, zI_in, zI_div, zI_rem, lg_lt0, lg_gt0, lg_eq0, lg_le0, lg_ge0, Int.toNat_natCast, ge_iff_le, gt_iff_lt, List.length_cons, List.length_nil, bl_up2_at, bl_up2_nk, bl_up2_nx] at h124
                                       first
                                       | (exfalso; first | omega | exact h124 trivial)
                                       | (refine ⟨(fun _ => by first | exact Or.inl rfl | exact Or.inr rfl), ?_⟩
                                          try show _ ∧ _
                                          try dsimp only [bl_pv]
                                          first
                                          | (have hq3 := p3
                                             have hq2 := p2
                                             refine Or.inr ⟨k, p', I1, _, _, ?_, rfl, rfl, hF⟩
                                             rw [if_neg (by omega), if_neg hnk, if_neg (by omega)]
                                             simp only [pbd, p2, p3])
                                          | (have hq3 := p3
                                             refine Or.inr ⟨k, p', I1, _, _, ?_, rfl, rfl, hF⟩
                                             rw [if_neg (by omega), if_neg hnk, if_neg (by omega)]
                                             simp only [pbd, hps, p3])
                                          | (refine Or.inr ⟨k, p', I1, _, _, ?_, rfl, rfl, hF⟩
                                             rw [if_neg (by omega), if_neg hnk, if_neg (by omega)]
                                             simp only [pbd, p2]))
                                   · rw [hB] at p3
                                     refine bl_go oX8_readRecipe 80 [7] rfl ?_
                                     refine ⟨fun h124 => ?_, fun h124 => ?_⟩
                                     · try simp (disch := omega) only [tp4, tp6, zI_n, zI_o, zI_lit, zI_neg, zI_add, zI_sub, zI_mul, zI_lt, zI_le, zI_eq, zI_clamp, zI_in, zI_div, zI_rem, lg_lt0, lg_gt0, lg_eq0, lg_le0, lg_ge0, Int.toNat_natCast, ge_iff_le, gt_iff_lt, List.length_cons, List.length_nil, bl_up2_at, bl_up2_nk, bl_up2_nx] at h124
                                       first
                                       | (exfalso; first | omega | exact h124 trivial)
                                       | (refine ⟨rfl, rfl, kq, (Nat.le_of_ble_eq_true rfl), (0, 0), Nat.le_of_ble_eq_true rfl, Nat.le_of_ble_eq_true rfl, bl_MC_mono (c_Recipe_add (d := d + 2) hq' ((rcC_tp (by omega)).mpr hC) (by omega) k1 hv2.2.1) (fun o133 σ133 q133 => ?_)⟩
                                          try dsimp only [bl_pv] at q133
                                          obtain ⟨rfl, I2, rfl, hF2, hC2⟩ := q133
                                          rw [tpI_of (hF2 t (by omega) (by omega) (by omega))]
                                          refine bl_go oX8_readRecipe 80 [7] rfl ?_
                                          refine bl_lv [0, 3, 4] rfl ?_
                                          try dsimp only [bl_pv]
                                          have := ih _ (show S.1 + 1 + f = 20 by omega) j3 (pend_le p3) (tpB I1 I2 t) (nI p) _ (nI_1 S.1) (by
                                                unfold rcC at hC2 ⊢
                                                rw [tpB_ne (by omega), tpB_ne (by omega), tpB_ne (by omega)]; exact hC2) (bl_sn_ok hO hv2) (fun x x1 x2 x3 => by
                                                by_cases ex : x = t
                                                · rw [ex, tpB_t, ← ex]; exact hF x x1 x2 x3
                                                · rw [tpB_ne ex, hF2 x x1 x2 x3, tpI_ne ex]; exact hF x x1 x2 x3)
                                          refine bl_WP_mono this (fun o σ' hq => ?_)
                                          rw [if_neg (by omega), if_neg hnk, if_neg (by omega)]
                                          first
                                          | (have hq2 := p2
                                             simp only [pbd, p2, p3]
                                             exact hq)
                                          | (simp only [pbd, hps, p3]
                                             exact hq))
                                     · try simp (disch := omega) only [tp4, tp6, zI_n, zI_o, zI_lit, zI_neg, zI_add, zI_sub, zI_mul, zI_lt, zI_le, zI_eq, zI_clamp, zI_in, zI_div, zI_rem, lg_lt0, lg_gt0, lg_eq0, lg_le0, lg_ge0, Int.toNat_natCast, ge_iff_le, gt_iff_lt, List.length_cons, List.length_nil, bl_up2_at, bl_up2_nk, bl_up2_nx] at h124
                                       first
                                       | (exfalso; first | omega | exact h124 trivial)
                                       | (refine ⟨(fun _ => by first | exact Or.inl rfl | exact Or.inr rfl), ?_⟩
                                          try show _ ∧ _
                                          try dsimp only [bl_pv]
                                          first
                                          | (have hq3 := p3
                                             have hq2 := p2
                                             refine Or.inr ⟨k, p', I1, _, _, ?_, rfl, rfl, hF⟩
                                             rw [if_neg (by omega), if_neg hnk, if_neg (by omega)]
                                             simp only [pbd, p2, p3])
                                          | (have hq3 := p3
                                             refine Or.inr ⟨k, p', I1, _, _, ?_, rfl, rfl, hF⟩
                                             rw [if_neg (by omega), if_neg hnk, if_neg (by omega)]
                                             simp only [pbd, hps, p3])
                                          | (refine Or.inr ⟨k, p', I1, _, _, ?_, rfl, rfl, hF⟩
                                             rw [if_neg (by omega), if_neg hnk, if_neg (by omega)]
                                             simp only [pbd, p2])))
                            · rw [hB, ← hps] at p2
                              refine bl_go oX8_readRecipe 80 [7] rfl ?_
                              refine ⟨fun h117 => ?_, fun h117 => ?_⟩
                              · try simp (disch := omega) only [tp4, tp6, zI_n, zI_o, zI_lit, zI_neg, zI_add, zI_sub, zI_mul, zI_lt, zI_le, zI_eq, zI_clamp, zI_in, zI_div, zI_rem, lg_lt0, lg_gt0, lg_eq0, lg_le0, lg_ge0, Int.toNat_natCast, ge_iff_le, gt_iff_lt, List.length_cons, List.length_nil, bl_up2_at, bl_up2_nk, bl_up2_nx] at h117
                                first
                                | (exfalso; first | omega | exact h117 trivial)
                                | (refine ⟨(fun _ => by first | exact Or.inl rfl | exact Or.inr rfl), ?_⟩
                                   try show _ ∧ _
                                   try dsimp only [bl_pv]
                                   first
                                   | (have hq3 := p3
                                      have hq2 := p2
                                      refine Or.inr ⟨k, p', I1, _, _, ?_, rfl, rfl, hF⟩
                                      rw [if_neg (by omega), if_neg hnk, if_neg (by omega)]
                                      simp only [pbd, p2, p3])
                                   | (have hq3 := p3
                                      refine Or.inr ⟨k, p', I1, _, _, ?_, rfl, rfl, hF⟩
                                      rw [if_neg (by omega), if_neg hnk, if_neg (by omega)]
                                      simp only [pbd, hps, p3])
                                   | (refine Or.inr ⟨k, p', I1, _, _, ?_, rfl, rfl, hF⟩
                                      rw [if_neg (by omega), if_neg hnk, if_neg (by omega)]
                                      simp only [pbd, p2]))
                              · try simp (disch := omega) only [tp4, tp6, zI_n, zI_o, zI_lit, zI_neg, zI_add, zI_sub, zI_mul, zI_lt, zI_le, zI_eq, zI_clamp, zI_in, zI_div, zI_rem, lg_lt0, lg_gt0, lg_eq0, lg_le0, lg_ge0, Int.toNat_natCast, ge_iff_le, gt_iff_lt, List.length_cons, List.length_nil, bl_up2_at, bl_up2_nk, bl_up2_nx] at h117
                                first
                                | (exfalso; first | omega | exact h117 trivial)
                                | (refine ⟨rfl, rfl, kt, (Nat.le_of_ble_eq_true rfl), (0, 0), Nat.le_of_ble_eq_true rfl, Nat.le_of_ble_eq_true rfl, bl_MC_mono (c_Tape_readEnd (d := d + 1) ht hn hv1) (fun o121 σ121 q121 => ?_)⟩
                                   rcases q121 with ⟨j3, p3, rfl, rfl⟩ | ⟨k, p', a', p3, rfl, rfl⟩
                                   · rw [hB] at p3
                                     refine bl_go oX8_readRecipe 80 [7] rfl ?_
                                     refine ⟨fun h124 => ?_, fun h124 => ?_⟩
                                     · try simp (disch := omega) only [tp4, tp6, zI_n, zI_o, zI_lit, zI_neg, zI_add, zI_sub, zI_mul, zI_lt, zI_le, zI_eq, zI_clamp, zI_in, zI_div, zI_rem, lg_lt0, lg_gt0, lg_eq0, lg_le0, lg_ge0, Int.toNat_natCast, ge_iff_le, gt_iff_lt, List.length_cons, List.length_nil, bl_up2_at, bl_up2_nk, bl_up2_nx] at h124
                                       first
                                       | (exfalso; first | omega | exact h124 trivial)
                                       | (refine ⟨rfl, rfl, kq, (Nat.le_of_ble_eq_true rfl), (0, 0), Nat.le_of_ble_eq_true rfl, Nat.le_of_ble_eq_true rfl, bl_MC_mono (c_Recipe_add (d := d + 2) hq' ((rcC_tp (by omega)).mpr hC) (by omega) k1 hv2.2.1) (fun o133 σ133 q133 => ?_)⟩
                                          try dsimp only [bl_pv] at q133
                                          obtain ⟨rfl, I2, rfl, hF2, hC2⟩ := q133
                                          rw [tpI_of (hF2 t (by omega) (by omega) (by omega))]
                                          refine bl_go oX8_readRecipe 80 [7] rfl ?_
                                          refine bl_lv [0, 3, 4] rfl ?_
                                          try dsimp only [bl_pv]
                                          have := ih _ (show S.1 + 1 + f = 20 by omega) j3 (pend_le p3) (tpB I1 I2 t) (nI p) _ (nI_1 S.1) (by
                                                unfold rcC at hC2 ⊢
                                                rw [tpB_ne (by omega), tpB_ne (by omega), tpB_ne (by omega)]; exact hC2) (bl_sn_ok hO hv2) (fun x x1 x2 x3 => by
                                                by_cases ex : x = t
                                                · rw [ex, tpB_t, ← ex]; exact hF x x1 x2 x3
                                                · rw [tpB_ne ex, hF2 x x1 x2 x3, tpI_ne ex]; exact hF x x1 x2 x3)
                                          refine bl_WP_mono this (fun o σ' hq => ?_)
                                          rw [if_neg (by omega), if_neg hnk, if_neg (by omega)]
                                          first
                                          | (have hq2 := p2
                                             simp only [pbd, p2, p3]
                                             exact hq)
                                          | (simp only [pbd, hps, p3]
                                             exact hq))
                                     · try simp (disch := omega) only [tp4, tp6, zI_n, zI_o, zI_lit, zI_neg, zI_add, zI_sub, zI_mul, zI_lt, zI_le, zI_eq, zI_clamp, zI_in, zI_div, zI_rem, lg_lt0, lg_gt0, lg_eq0, lg_le0, lg_ge0, Int.toNat_natCast, ge_iff_le, gt_iff_lt, List.length_cons, List.length_nil, bl_up2_at, bl_up2_nk, bl_up2_nx] at h124
                                       first
                                       | (exfalso; first | omega | exact h124 trivial)
                                       | (refine ⟨(fun _ => by first | exact Or.inl rfl | exact Or.inr rfl), ?_⟩
                                          try show _ ∧ _
                                          try dsimp only [bl_pv]
                                          first
                                          | (have hq3 := p3
                                             have hq2 := p2
                                             refine Or.inr ⟨k, p', I1, _, _, ?_, rfl, rfl, hF⟩
                                             rw [if_neg (by omega), if_neg hnk, if_neg (by omega)]
                                             simp only [pbd, p2, p3])
                                          | (have hq3 := p3
                                             refine Or.inr ⟨k, p', I1, _, _, ?_, rfl, rfl, hF⟩
                                             rw [if_neg (by omega), if_neg hnk, if_neg (by omega)]
                                             simp only [pbd, hps, p3])
                                          | (refine Or.inr ⟨k, p', I1, _, _, ?_, rfl, rfl, hF⟩
                                             rw [if_neg (by omega), if_neg hnk, if_neg (by omega)]
                                             simp only [pbd, p2]))
                                   · rw [hB] at p3
                                     refine bl_go oX8_readRecipe 80 [7] rfl ?_
                                     refine ⟨fun h124 => ?_, fun h124 => ?_⟩
                                     · try simp (disch := omega) only [tp4, tp6, zI_n, zI_o, zI_lit, zI_neg, zI_add, zI_sub, zI_mul, zI_lt, zI_le, zI_eq, zI_clamp, zI_in, zI_div, zI_rem, lg_lt0, lg_gt0, lg_eq0, lg_le0, lg_ge0, Int.toNat_natCast, ge_iff_le, gt_iff_lt, List.length_cons, List.length_nil, bl_up2_at, bl_up2_nk, bl_up2_nx] at h124
                                       first
                                       | (exfalso; first | omega | exact h124 trivial)
                                       | (refine ⟨rfl, rfl, kq, (Nat.le_of_ble_eq_true rfl), (0, 0), Nat.le_of_ble_eq_true rfl, Nat.le_of_ble_eq_true rfl, bl_MC_mono (c_Recipe_add (d := d + 2) hq' ((rcC_tp (by omega)).mpr hC) (by omega) k1 hv2.2.1) (fun o133 σ133 q133 => ?_)⟩
                                          try dsimp only [bl_pv] at q133
                                          obtain ⟨rfl, I2, rfl, hF2, hC2⟩ := q133
                                          rw [tpI_of (hF2 t (by omega) (by omega) (by omega))]
                                          refine bl_go oX8_readRecipe 80 [7] rfl ?_
                                          refine bl_lv [0, 3, 4] rfl ?_
                                          try dsimp only [bl_pv]
                                          have := ih _ (show S.1 + 1 + f = 20 by omega) j3 (pend_le p3) (tpB I1 I2 t) (nI p) _ (nI_1 S.1) (by
                                                unfold rcC at hC2 ⊢
                                                rw [tpB_ne (by omega), tpB_ne (by omega), tpB_ne (by omega)]; exact hC2) (bl_sn_ok hO hv2) (fun x x1 x2 x3 => by
                                                by_cases ex : x = t
                                                · rw [ex, tpB_t, ← ex]; exact hF x x1 x2 x3
                                                · rw [tpB_ne ex, hF2 x x1 x2 x3, tpI_ne ex]; exact hF x x1 x2 x3)
                                          refine bl_WP_mono this (fun o σ' hq => ?_)
                                          rw [if_neg (by omega), if_neg hnk, if_neg (by omega)]
                                          first
                                          | (have hq2 := p2
                                             simp only [pbd, p2, p3]
                                             exact hq)
                                          | (simp only [pbd, hps, p3]
                                             exact hq))
                                     · try simp (disch := omega) only [tp4, tp6, zI_n, zI_o, zI_lit, zI_neg, zI_add, zI_sub, zI_mul, zI_lt, zI_le, zI_eq, zI_clamp, zI_in, zI_div, zI_rem, lg_lt0, lg_gt0, lg_eq0, lg_le0, lg_ge0, Int.toNat_natCast, ge_iff_le, gt_iff_lt, List.length_cons, List.length_nil, bl_up2_at, bl_up2_nk, bl_up2_nx] at h124
                                       first
                                       | (exfalso; first | omega | exact h124 trivial)
                                       | (refine ⟨(fun _ => by first | exact Or.inl rfl | exact Or.inr rfl), ?_⟩
                                          try show _ ∧ _
                                          try dsimp only [bl_pv]
                                          first
                                          | (have hq3 := p3
                                             have hq2 := p2
                                             refine Or.inr ⟨k, p', I1, _, _, ?_, rfl, rfl, hF⟩
                                             rw [if_neg (by omega), if_neg hnk, if_neg (by omega)]
                                             simp only [pbd, p2, p3])
                                          | (have hq3 := p3
                                             refine Or.inr ⟨k, p', I1, _, _, ?_, rfl, rfl, hF⟩
                                             rw [if_neg (by omega), if_neg hnk, if_neg (by omega)]
                                             simp only [pbd, hps, p3])
                                          | (refine Or.inr ⟨k, p', I1, _, _, ?_, rfl, rfl, hF⟩
                                             rw [if_neg (by omega), if_neg hnk, if_neg (by omega)]
                                             simp only [pbd, p2]))))
                       · try simp (disch := omega) only [bl_pv, cl0, cl1, cl2, cl3, cl4, cl5, cl6, cl7, cl8, cl9, bl_up2_at, bl_up2_nk, bl_up2_nx] at h91
                         have hps : psn (I (t + 1)) n kk e = .inl (0, e) := by
                           unfold psn
                           rw [if_pos]
                           have h91' : ([4, 4, 0, 9, 9, 0, 36, 36] : List Int32).getD (nI kk).toNatClampNeg 0 = 0 := h91
                           rw [ek, s2] at h91'
                           have := congrArg Int32.toNatClampNeg h91'
                           rw [nI_clamp (by omega)] at this
                           exact this
                         obtain ⟨hv1, hv2⟩ := psn_ok k1 hw1 hps
                         have hv0 : nI 0 = (0 : Int32) := rfl
                         first
                         | (exfalso; first | omega | exact h91 trivial)
                         | (refine ⟨fun h117 => ?_, fun h117 => ?_⟩
                            · try simp (disch := omega) only [tp4, tp6, zI_n, zI_o, zI_lit, zI_neg, zI_add, zI_sub, zI_mul, zI_lt, zI_le, zI_eq, zI_clamp, zI_in, zI_div, zI_rem, lg_lt0, lg_gt0, lg_eq0, lg_le0, lg_ge0, Int.toNat_natCast, ge_iff_le, gt_iff_lt, List.length_cons, List.length_nil, bl_up2_at, bl_up2_nk, bl_up2_nx] at h117
                              first
                              | (exfalso; first | omega | exact h117 trivial)
                              | (refine ⟨(fun _ => by first | exact Or.inl rfl | exact Or.inr rfl), ?_⟩
                                 try show _ ∧ _
                                 try dsimp only [bl_pv]
                                 first
                                 | (have hq3 := p3
                                    have hq2 := p2
                                    refine Or.inr ⟨k, p', I1, _, _, ?_, rfl, rfl, hF⟩
                                    rw [if_neg (by omega), if_neg hnk, if_neg (by omega)]
                                    simp only [pbd, p2, p3])
                                 | (have hq3 := p3
                                    refine Or.inr ⟨k, p', I1, _, _, ?_, rfl, rfl, hF⟩
                                    rw [if_neg (by omega), if_neg hnk, if_neg (by omega)]
                                    simp only [pbd, hps, p3])
                                 | (refine Or.inr ⟨k, p', I1, _, _, ?_, rfl, rfl, hF⟩
                                    rw [if_neg (by omega), if_neg hnk, if_neg (by omega)]
                                    simp only [pbd, p2]))
                            · try simp (disch := omega) only [tp4, tp6, zI_n, zI_o, zI_lit, zI_neg, zI_add, zI_sub, zI_mul, zI_lt, zI_le, zI_eq, zI_clamp, zI_in, zI_div, zI_rem, lg_lt0, lg_gt0, lg_eq0, lg_le0, lg_ge0, Int.toNat_natCast, ge_iff_le, gt_iff_lt, List.length_cons, List.length_nil, bl_up2_at, bl_up2_nk, bl_up2_nx] at h117
                              first
                              | (exfalso; first | omega | exact h117 trivial)
                              | (refine ⟨rfl, rfl, kt, (Nat.le_of_ble_eq_true rfl), (0, 0), Nat.le_of_ble_eq_true rfl, Nat.le_of_ble_eq_true rfl, bl_MC_mono (c_Tape_readEnd (d := d + 1) ht hn hv1) (fun o121 σ121 q121 => ?_)⟩
                                 rcases q121 with ⟨j3, p3, rfl, rfl⟩ | ⟨k, p', a', p3, rfl, rfl⟩
                                 · rw [hB] at p3
                                   refine bl_go oX8_readRecipe 80 [7] rfl ?_
                                   refine ⟨fun h124 => ?_, fun h124 => ?_⟩
                                   · try simp (disch := omega) only [tp4, tp6, zI_n, zI_o, zI_lit, zI_neg, zI_add, zI_sub, zI_mul, zI_lt, zI_le, zI_eq, zI_clamp, zI_in, zI_div, zI_rem, lg_lt0, lg_gt0, lg_eq0, lg_le0, lg_ge0, Int.toNat_natCast, ge_iff_le, gt_iff_lt, List.length_cons, List.length_nil, bl_up2_at, bl_up2_nk, bl_up2_nx] at h124
                                     first
                                     | (exfalso; first | omega | exact h124 trivial)
                                     | (refine ⟨rfl, rfl, kq, (Nat.le_of_ble_eq_true rfl), (0, 0), Nat.le_of_ble_eq_true rfl, Nat.le_of_ble_eq_true rfl, bl_MC_mono (c_Recipe_add (d := d + 2) hq' ((rcC_tp (by omega)).mpr hC) (by omega) k1 hv2.2.1) (fun o133 σ133 q133 => ?_)⟩
                                        try dsimp only [bl_pv] at q133
                                        obtain ⟨rfl, I2, rfl, hF2, hC2⟩ := q133
                                        rw [tpI_of (hF2 t (by omega) (by omega) (by omega))]
                                        refine bl_go oX8_readRecipe 80 [7] rfl ?_
                                        refine bl_lv [0, 3, 4] rfl ?_
                                        try dsimp only [bl_pv]
                                        have := ih _ (show S.1 + 1 + f = 20 by omega) j3 (pend_le p3) (tpB I1 I2 t) (nI p) _ (nI_1 S.1) (by
                                              unfold rcC at hC2 ⊢
                                              rw [tpB_ne (by omega), tpB_ne (by omega), tpB_ne (by omega)]; exact hC2) (bl_sn_ok hO hv2) (fun x x1 x2 x3 => by
                                              by_cases ex : x = t
                                              · rw [ex, tpB_t, ← ex]; exact hF x x1 x2 x3
                                              · rw [tpB_ne ex, hF2 x x1 x2 x3, tpI_ne ex]; exact hF x x1 x2 x3)
                                        refine bl_WP_mono this (fun o σ' hq => ?_)
                                        rw [if_neg (by omega), if_neg hnk, if_neg (by omega)]
                                        first
                                        | (have hq2 := p2
                                           simp only [pbd, p2, p3]
                                           exact hq)
                                        | (simp only [pbd, hps, p3]
                                           exact hq))
                                   · try simp (disch := omega) only [tp4, tp6, zI_n, zI_o, zI_lit, zI_neg, zI_add, zI_sub, zI_mul, zI_lt, zI_le, zI_eq, zI_clamp, zI_in, zI_div, zI_rem, lg_lt0, lg_gt0, lg_eq0, lg_le0, lg_ge0, Int.toNat_natCast, ge_iff_le, gt_iff_lt, List.length_cons, List.length_nil, bl_up2_at, bl_up2_nk, bl_up2_nx] at h124
                                     first
                                     | (exfalso; first | omega | exact h124 trivial)
                                     | (refine ⟨(fun _ => by first | exact Or.inl rfl | exact Or.inr rfl), ?_⟩
                                        try show _ ∧ _
                                        try dsimp only [bl_pv]
                                        first
                                        | (have hq3 := p3
                                           have hq2 := p2
                                           refine Or.inr ⟨k, p', I1, _, _, ?_, rfl, rfl, hF⟩
                                           rw [if_neg (by omega), if_neg hnk, if_neg (by omega)]
                                           simp only [pbd, p2, p3])
                                        | (have hq3 := p3
                                           refine Or.inr ⟨k, p', I1, _, _, ?_, rfl, rfl, hF⟩
                                           rw [if_neg (by omega), if_neg hnk, if_neg (by omega)]
                                           simp only [pbd, hps, p3])
                                        | (refine Or.inr ⟨k, p', I1, _, _, ?_, rfl, rfl, hF⟩
                                           rw [if_neg (by omega), if_neg hnk, if_neg (by omega)]
                                           simp only [pbd, p2]))
                                 · rw [hB] at p3
                                   refine bl_go oX8_readRecipe 80 [7] rfl ?_
                                   refine ⟨fun h124 => ?_, fun h124 => ?_⟩
                                   · try simp (disch := omega) only [tp4, tp6, zI_n, zI_o, zI_lit, zI_neg, zI_add, zI_sub, zI_mul, zI_lt, zI_le, zI_eq, zI_clamp, zI_in, zI_div, zI_rem, lg_lt0, lg_gt0, lg_eq0, lg_le0, lg_ge0, Int.toNat_natCast, ge_iff_le, gt_iff_lt, List.length_cons, List.length_nil, bl_up2_at, bl_up2_nk, bl_up2_nx] at h124
                                     first
                                     | (exfalso; first | omega | exact h124 trivial)
                                     | (refine ⟨rfl, rfl, kq, (Nat.le_of_ble_eq_true rfl), (0, 0), Nat.le_of_ble_eq_true rfl, Nat.le_of_ble_eq_true rfl, bl_MC_mono (c_Recipe_add (d := d + 2) hq' ((rcC_tp (by omega)).mpr hC) (by omega) k1 hv2.2.1) (fun o133 σ133 q133 => ?_)⟩
                                        try dsimp only [bl_pv] at q133
                                        obtain ⟨rfl, I2, rfl, hF2, hC2⟩ := q133
                                        rw [tpI_of (hF2 t (by omega) (by omega) (by omega))]
                                        refine bl_go oX8_readRecipe 80 [7] rfl ?_
                                        refine bl_lv [0, 3, 4] rfl ?_
                                        try dsimp only [bl_pv]
                                        have := ih _ (show S.1 + 1 + f = 20 by omega) j3 (pend_le p3) (tpB I1 I2 t) (nI p) _ (nI_1 S.1) (by
                                              unfold rcC at hC2 ⊢
                                              rw [tpB_ne (by omega), tpB_ne (by omega), tpB_ne (by omega)]; exact hC2) (bl_sn_ok hO hv2) (fun x x1 x2 x3 => by
                                              by_cases ex : x = t
                                              · rw [ex, tpB_t, ← ex]; exact hF x x1 x2 x3
                                              · rw [tpB_ne ex, hF2 x x1 x2 x3, tpI_ne ex]; exact hF x x1 x2 x3)
                                        refine bl_WP_mono this (fun o σ' hq => ?_)
                                        rw [if_neg (by omega), if_neg hnk, if_neg (by omega)]
                                        first
                                        | (have hq2 := p2
                                           simp only [pbd, p2, p3]
                                           exact hq)
                                        | (simp only [pbd, hps, p3]
                                           exact hq))
                                   · try simp (disch := omega) only [tp4, tp6, zI_n, zI_o, zI_lit, zI_neg, zI_add, zI_sub, zI_mul, zI_lt, zI_le, zI_eq, zI_clamp, zI_in, zI_div, zI_rem, lg_lt0, lg_gt0, lg_eq0, lg_le0, lg_ge0, Int.toNat_natCast, ge_iff_le, gt_iff_lt, List.length_cons, List.length_nil, bl_up2_at, bl_up2_nk, bl_up2_nx] at h124
                                     first
                                     | (exfalso; first | omega | exact h124 trivial)
                                     | (refine ⟨(fun _ => by first | exact Or.inl rfl | exact Or.inr rfl), ?_⟩
                                        try show _ ∧ _
                                        try dsimp only [bl_pv]
                                        first
                                        | (have hq3 := p3
                                           have hq2 := p2
                                           refine Or.inr ⟨k, p', I1, _, _, ?_, rfl, rfl, hF⟩
                                           rw [if_neg (by omega), if_neg hnk, if_neg (by omega)]
                                           simp only [pbd, p2, p3])
                                        | (have hq3 := p3
                                           refine Or.inr ⟨k, p', I1, _, _, ?_, rfl, rfl, hF⟩
                                           rw [if_neg (by omega), if_neg hnk, if_neg (by omega)]
                                           simp only [pbd, hps, p3])
                                        | (refine Or.inr ⟨k, p', I1, _, _, ?_, rfl, rfl, hF⟩
                                           rw [if_neg (by omega), if_neg hnk, if_neg (by omega)]
                                           simp only [pbd, p2]))))
                     · try simp (disch := omega) only [tp4, tp6, zI_n, zI_o, zI_lit, zI_neg, zI_add, zI_sub, zI_mul, zI_lt, zI_le, zI_eq, zI_clamp, zI_in, zI_div, zI_rem, lg_lt0, lg_gt0, lg_eq0, lg_le0, lg_ge0, Int.toNat_natCast, ge_iff_le, gt_iff_lt, List.length_cons, List.length_nil, bl_up2_at, bl_up2_nk, bl_up2_nx] at h73
                       exfalso; omega)
                · try simp (disch := omega) only [tp4, tp6, zI_n, zI_o, zI_lit, zI_neg, zI_add, zI_sub, zI_mul, zI_lt, zI_le, zI_eq, zI_clamp, zI_in, zI_div, zI_rem, lg_lt0, lg_gt0, lg_eq0, lg_le0, lg_ge0, Int.toNat_natCast, ge_iff_le, gt_iff_lt, List.length_cons, List.length_nil, bl_up2_at, bl_up2_nk, bl_up2_nx] at h57
                  first
                  | (exfalso; first | omega | exact h57 trivial)
                  | (refine ⟨kt, rfl, rfl, kt, (Nat.le_of_ble_eq_true rfl), (0, 0), Nat.le_of_ble_eq_true rfl, Nat.le_of_ble_eq_true rfl, bl_MC_mono (c_Tape_refuse (d := d + 2) kt) (fun o66 σ66 q66 => ?_)⟩
                     try dsimp only [bl_pv] at q66
                     obtain ⟨rfl, rfl⟩ := q66
                     refine bl_go oX8_readRecipe 80 [7] rfl ?_
                     refine ⟨(fun _ => by first | exact Or.inl rfl | exact Or.inr rfl), ?_⟩
                     try show _ ∧ _
                     try dsimp only [bl_pv]
                     refine Or.inr ⟨1, p, I1, _, _, by rw [if_neg (by omega), if_pos rfl], rfl, by rw [tp6]; rfl, hF⟩)
              · rw [hk, nI_clamp (show kk < 2147483648 by omega)]
                obtain ⟨s1, s2, s3, s4⟩ := eL kk (by omega)
                have ek : (nI kk).toNatClampNeg = kk := nI_clamp (by omega)
                have hnk : ¬ nI kk = zI (-1) := by simp (disch := omega) only [zI_n, zI_o, zI_lit, zI_neg, zI_add, zI_sub, zI_mul, zI_lt, zI_le, zI_eq, zI_clamp, zI_in, zI_div, zI_rem, lg_lt0, lg_gt0, lg_eq0, lg_le0, lg_ge0, Int.toNat_natCast, ge_iff_le, gt_iff_lt, List.length_cons, List.length_nil, bl_up2_at, bl_up2_nk, bl_up2_nx]; omega
                refine bl_go oX8_readRecipe 80 [7] rfl ?_
                refine ⟨fun h57 => ?_, fun h57 => ?_⟩
                · try simp (disch := omega) only [tp4, tp6, zI_n, zI_o, zI_lit, zI_neg, zI_add, zI_sub, zI_mul, zI_lt, zI_le, zI_eq, zI_clamp, zI_in, zI_div, zI_rem, lg_lt0, lg_gt0, lg_eq0, lg_le0, lg_ge0, Int.toNat_natCast, ge_iff_le, gt_iff_lt, List.length_cons, List.length_nil, bl_up2_at, bl_up2_nk, bl_up2_nx] at h57
                  first
                  | (exfalso; first | omega | exact h57 trivial)
                  | (refine ⟨fun h73 => ?_, fun h73 => ?_⟩
                     · try simp (disch := omega) only [tp4, tp6, zI_n, zI_o, zI_lit, zI_neg, zI_add, zI_sub, zI_mul, zI_lt, zI_le, zI_eq, zI_clamp, zI_in, zI_div, zI_rem, lg_lt0, lg_gt0, lg_eq0, lg_le0, lg_ge0, Int.toNat_natCast, ge_iff_le, gt_iff_lt, List.length_cons, List.length_nil, bl_up2_at, bl_up2_nk, bl_up2_nx] at h73
                       refine ⟨u4, ku4, Or.inr (Or.inl ⟨4, _, rfl, ku4, (by show vp_in _ 8; simp (disch := omega) only [tp4, tp6, zI_n, zI_o, zI_lit, zI_neg, zI_add, zI_sub, zI_mul, zI_lt, zI_le, zI_eq, zI_clamp, zI_in, zI_div, zI_rem, lg_lt0, lg_gt0, lg_eq0, lg_le0, lg_ge0, Int.toNat_natCast, ge_iff_le, gt_iff_lt, List.length_cons, List.length_nil, bl_up2_at, bl_up2_nk, bl_up2_nx] <;> omega), fun h91 => ?_, fun h91 => ?_⟩)⟩
                       · try simp (disch := omega) only [bl_pv, cl0, cl1, cl2, cl3, cl4, cl5, cl6, cl7, cl8, cl9, bl_up2_at, bl_up2_nk, bl_up2_nx] at h91
                         have hps : psn (I (t + 1)) n kk e = pnum (I (t + 1)) n (sLo kk) (sHi kk) e := by
                           unfold psn
                           rw [if_neg]
                           intro h0
                           apply h91
                           show ([4, 4, 0, 9, 9, 0, 36, 36] : List Int32).getD (nI kk).toNatClampNeg 0 = 0
                           rw [ek, s2, h0]; rfl
                         first
                         | (exfalso; first | omega | exact h91 trivial)
                         | (refine ⟨u3, ku3, Or.inr (Or.inl ⟨3, _, rfl, ku3, (by show vp_in _ 8; simp (disch := omega) only [tp4, tp6, zI_n, zI_o, zI_lit, zI_neg, zI_add, zI_sub, zI_mul, zI_lt, zI_le, zI_eq, zI_clamp, zI_in, zI_div, zI_rem, lg_lt0, lg_gt0, lg_eq0, lg_le0, lg_ge0, Int.toNat_natCast, ge_iff_le, gt_iff_lt, List.length_cons, List.length_nil, bl_up2_at, bl_up2_nk, bl_up2_nx] <;> omega), u4, ku4, Or.inr (Or.inl ⟨4, _, rfl, ku4, (by show vp_in _ 8; simp (disch := omega) only [tp4, tp6, zI_n, zI_o, zI_lit, zI_neg, zI_add, zI_sub, zI_mul, zI_lt, zI_le, zI_eq, zI_clamp, zI_in, zI_div, zI_rem, lg_lt0, lg_gt0, lg_eq0, lg_le0, lg_ge0, Int.toNat_natCast, ge_iff_le, gt_iff_lt, List.length_cons, List.length_nil, bl_up2_at, bl_up2_nk, bl_up2_nx] <;> omega), rfl, rfl, kt, (Nat.le_of_ble_eq_true rfl), (0, 0), Nat.le_of_ble_eq_true rfl, Nat.le_of_ble_eq_true rfl, bl_MC_mono (c_Tape_readNumber (d := d + 1) ht hn hw1 (lo := sLo kk) (hi := sHi kk) (by rw [ek]; exact s1) (by rw [ek]; exact s2) s3 (by omega)) (fun o109 σ109 q109 => ?_)⟩)⟩)⟩
                            rcases q109 with ⟨v, e2, p2, rfl, rfl⟩ | ⟨k, p', a', p2, rfl, rfl⟩
                            · rw [hB, ← hps] at p2
                              obtain ⟨hv1, hv2⟩ := psn_ok k1 hw1 p2
                              have hv3 := hv2.2.1
                              refine bl_go oX8_readRecipe 80 [7] rfl ?_
                              refine ⟨fun h117 => ?_, fun h117 => ?_⟩
                              · try simp (disch := omega) only [tp4, tp6, zI_n, zI_o, zI_lit, zI_neg, zI_add, zI_sub, zI_mul, zI_lt, zI_le, zI_eq, zI_clamp, zI_in, zI_div, zI_rem, lg_lt0, lg_gt0, lg_eq0, lg_le0, lg_ge0, Int.toNat_natCast, ge_iff_le, gt_iff_lt, List.length_cons, List.length_nil, bl_up2_at, bl_up2_nk, bl_up2_nx] at h117
                                first
                                | (exfalso; first | omega | exact h117 trivial)
                                | (refine ⟨(fun _ => by first | exact Or.inl rfl | exact Or.inr rfl), ?_⟩
                                   try show _ ∧ _
                                   try dsimp only [bl_pv]
                                   first
                                   | (have hq3 := p3
                                      have hq2 := p2
                                      refine Or.inr ⟨k, p', I1, _, _, ?_, rfl, rfl, hF⟩
                                      rw [if_neg (by omega), if_neg hnk, if_neg (by omega)]
                                      simp only [pbd, p2, p3])
                                   | (have hq3 := p3
                                      refine Or.inr ⟨k, p', I1, _, _, ?_, rfl, rfl, hF⟩
                                      rw [if_neg (by omega), if_neg hnk, if_neg (by omega)]
                                      simp only [pbd, hps, p3])
                                   | (refine Or.inr ⟨k, p', I1, _, _, ?_, rfl, rfl, hF⟩
                                      rw [if_neg (by omega), if_neg hnk, if_neg (by omega)]
                                      simp only [pbd, p2]))
                              · try simp (disch := omega) only [tp4, tp6, zI_n, zI_o, zI_lit, zI_neg, zI_add, zI_sub, zI_mul, zI_lt, zI_le, zI_eq, zI_clamp, zI_in, zI_div, zI_rem, lg_lt0, lg_gt0, lg_eq0, lg_le0, lg_ge0, Int.toNat_natCast, ge_iff_le, gt_iff_lt, List.length_cons, List.length_nil, bl_up2_at, bl_up2_nk, bl_up2_nx] at h117
                                first
                                | (exfalso; first | omega | exact h117 trivial)
                                | (refine ⟨rfl, rfl, kt, (Nat.le_of_ble_eq_true rfl), (0, 0), Nat.le_of_ble_eq_true rfl, Nat.le_of_ble_eq_true rfl, bl_MC_mono (c_Tape_readEnd (d := d + 1) ht hn hv1) (fun o121 σ121 q121 => ?_)⟩
                                   rcases q121 with ⟨j3, p3, rfl, rfl⟩ | ⟨k, p', a', p3, rfl, rfl⟩
                                   · rw [hB] at p3
                                     refine bl_go oX8_readRecipe 80 [7] rfl ?_
                                     refine ⟨fun h124 => ?_, fun h124 => ?_⟩
                                     · try simp (disch := omega) only [tp4, tp6, zI_n, zI_o, zI_lit, zI_neg, zI_add, zI_sub, zI_mul, zI_lt, zI_le, zI_eq, zI_clamp, zI_in, zI_div, zI_rem, lg_lt0, lg_gt0, lg_eq0, lg_le0, lg_ge0, Int.toNat_natCast, ge_iff_le, gt_iff_lt, List.length_cons, List.length_nil, bl_up2_at, bl_up2_nk, bl_up2_nx] at h124
                                       first
                                       | (exfalso; first | omega | exact h124 trivial)
                                       | (refine ⟨rfl, rfl, kq, (Nat.le_of_ble_eq_true rfl), (0, 0), Nat.le_of_ble_eq_true rfl, Nat.le_of_ble_eq_true rfl, bl_MC_mono (c_Recipe_add (d := d + 2) hq' ((rcC_tp (by omega)).mpr hC) (by omega) k1 hv2.2.1) (fun o133 σ133 q133 => ?_)⟩
                                          try dsimp only [bl_pv] at q133
                                          obtain ⟨rfl, I2, rfl, hF2, hC2⟩ := q133
                                          rw [tpI_of (hF2 t (by omega) (by omega) (by omega))]
                                          refine bl_go oX8_readRecipe 80 [7] rfl ?_
                                          refine bl_lv [0, 3, 4] rfl ?_
                                          try dsimp only [bl_pv]
                                          have := ih _ (show S.1 + 1 + f = 20 by omega) j3 (pend_le p3) (tpB I1 I2 t) (nI p) _ (nI_1 S.1) (by
                                                unfold rcC at hC2 ⊢
                                                rw [tpB_ne (by omega), tpB_ne (by omega), tpB_ne (by omega)]; exact hC2) (bl_sn_ok hO hv2) (fun x x1 x2 x3 => by
                                                by_cases ex : x = t
                                                · rw [ex, tpB_t, ← ex]; exact hF x x1 x2 x3
                                                · rw [tpB_ne ex, hF2 x x1 x2 x3, tpI_ne ex]; exact hF x x1 x2 x3)
                                          refine bl_WP_mono this (fun o σ' hq => ?_)
                                          rw [if_neg (by omega), if_neg hnk, if_neg (by omega)]
                                          first
                                          | (have hq2 := p2
                                             simp only [pbd, p2, p3]
                                             exact hq)
                                          | (simp only [pbd, hps, p3]
                                             exact hq))
                                     · try simp (disch := omega) only [tp4, tp6, zI_n, zI_o, zI_lit, zI_neg, zI_add, zI_sub, zI_mul, zI_lt, zI_le, zI_eq, zI_clamp, zI_in, zI_div, zI_rem, lg_lt0, lg_gt0, lg_eq0, lg_le0, lg_ge0, Int.toNat_natCast, ge_iff_le, gt_iff_lt, List.length_cons, List.length_nil, bl_up2_at, bl_up2_nk, bl_up2_nx] at h124
                                       first
                                       | (exfalso; first | omega | exact h124 trivial)
                                       | (refine ⟨(fun _ => by first | exact Or.inl rfl | exact Or.inr rfl), ?_⟩
                                          try show _ ∧ _
                                          try dsimp only [bl_pv]
                                          first
                                          | (have hq3 := p3
                                             have hq2 := p2
                                             refine Or.inr ⟨k, p', I1, _, _, ?_, rfl, rfl, hF⟩
                                             rw [if_neg (by omega), if_neg hnk, if_neg (by omega)]
                                             simp only [pbd, p2, p3])
                                          | (have hq3 := p3
                                             refine Or.inr ⟨k, p', I1, _, _, ?_, rfl, rfl, hF⟩
                                             rw [if_neg (by omega), if_neg hnk, if_neg (by omega)]
                                             simp only [pbd, hps, p3])
                                          | (refine Or.inr ⟨k, p', I1, _, _, ?_, rfl, rfl, hF⟩
                                             rw [if_neg (by omega), if_neg hnk, if_neg (by omega)]
                                             simp only [pbd, p2]))
                                   · rw [hB] at p3
                                     refine bl_go oX8_readRecipe 80 [7] rfl ?_
                                     refine ⟨fun h124 => ?_, fun h124 => ?_⟩
                                     · try simp (disch := omega) only [tp4, tp6, zI_n, zI_o, zI_lit, zI_neg, zI_add, zI_sub, zI_mul, zI_lt, zI_le, zI_eq, zI_clamp, zI_in, zI_div, zI_rem, lg_lt0, lg_gt0, lg_eq0, lg_le0, lg_ge0, Int.toNat_natCast, ge_iff_le, gt_iff_lt, List.length_cons, List.length_nil, bl_up2_at, bl_up2_nk, bl_up2_nx] at h124
                                       first
                                       | (exfalso; first | omega | exact h124 trivial)
                                       | (refine ⟨rfl, rfl, kq, (Nat.le_of_ble_eq_true rfl), (0, 0), Nat.le_of_ble_eq_true rfl, Nat.le_of_ble_eq_true rfl, bl_MC_mono (c_Recipe_add (d := d + 2) hq' ((rcC_tp (by omega)).mpr hC) (by omega) k1 hv2.2.1) (fun o133 σ133 q133 => ?_)⟩
                                          try dsimp only [bl_pv] at q133
                                          obtain ⟨rfl, I2, rfl, hF2, hC2⟩ := q133
                                          rw [tpI_of (hF2 t (by omega) (by omega) (by omega))]
                                          refine bl_go oX8_readRecipe 80 [7] rfl ?_
                                          refine bl_lv [0, 3, 4] rfl ?_
                                          try dsimp only [bl_pv]
                                          have := ih _ (show S.1 + 1 + f = 20 by omega) j3 (pend_le p3) (tpB I1 I2 t) (nI p) _ (nI_1 S.1) (by
                                                unfold rcC at hC2 ⊢
                                                rw [tpB_ne (by omega), tpB_ne (by omega), tpB_ne (by omega)]; exact hC2) (bl_sn_ok hO hv2) (fun x x1 x2 x3 => by
                                                by_cases ex : x = t
                                                · rw [ex, tpB_t, ← ex]; exact hF x x1 x2 x3
                                                · rw [tpB_ne ex, hF2 x x1 x2 x3, tpI_ne ex]; exact hF x x1 x2 x3)
                                          refine bl_WP_mono this (fun o σ' hq => ?_)
                                          rw [if_neg (by omega), if_neg hnk, if_neg (by omega)]
                                          first
                                          | (have hq2 := p2
                                             simp only [pbd, p2, p3]
                                             exact hq)
                                          | (simp only [pbd, hps, p3]
                                             exact hq))
                                     · try simp (disch := omega) only [tp4, tp6, zI_n, zI_o, zI_lit, zI_neg, zI_add, zI_sub, zI_mul, zI_lt, zI_le, zI_eq, zI_clamp, zI_in, zI_div, zI_rem, lg_lt0, lg_gt0, lg_eq0, lg_le0, lg_ge0, Int.toNat_natCast, ge_iff_le, gt_iff_lt, List.length_cons, List.length_nil, bl_up2_at, bl_up2_nk, bl_up2_nx] at h124
                                       first
                                       | (exfalso; first | omega | exact h124 trivial)
                                       | (refine ⟨(fun _ => by first | exact Or.inl rfl | exact Or.inr rfl), ?_⟩
                                          try show _ ∧ _
                                          try dsimp only [bl_pv]
                                          first
                                          | (have hq3 := p3
                                             have hq2 := p2
                                             refine Or.inr ⟨k, p', I1, _, _, ?_, rfl, rfl, hF⟩
                                             rw [if_neg (by omega), if_neg hnk, if_neg (by omega)]
                                             simp only [pbd, p2, p3])
                                          | (have hq3 := p3
                                             refine Or.inr ⟨k, p', I1, _, _, ?_, rfl, rfl, hF⟩
                                             rw [if_neg (by omega), if_neg hnk, if_neg (by omega)]
                                             simp only [pbd, hps, p3])
                                          | (refine Or.inr ⟨k, p', I1, _, _, ?_, rfl, rfl, hF⟩
                                             rw [if_neg (by omega), if_neg hnk, if_neg (by omega)]
                                             simp only [pbd, p2])))
                            · rw [hB, ← hps] at p2
                              refine bl_go oX8_readRecipe 80 [7] rfl ?_
                              refine ⟨fun h117 => ?_, fun h117 => ?_⟩
                              · try simp (disch := omega) only [tp4, tp6, zI_n, zI_o, zI_lit, zI_neg, zI_add, zI_sub, zI_mul, zI_lt, zI_le, zI_eq, zI_clamp, zI_in, zI_div, zI_rem, lg_lt0, lg_gt0, lg_eq0, lg_le0, lg_ge0, Int.toNat_natCast, ge_iff_le, gt_iff_lt, List.length_cons, List.length_nil, bl_up2_at, bl_up2_nk, bl_up2_nx] at h117
                                first
                                | (exfalso; first | omega | exact h117 trivial)
                                | (refine ⟨(fun _ => by first | exact Or.inl rfl | exact Or.inr rfl), ?_⟩
                                   try show _ ∧ _
                                   try dsimp only [bl_pv]
                                   first
                                   | (have hq3 := p3
                                      have hq2 := p2
                                      refine Or.inr ⟨k, p', I1, _, _, ?_, rfl, rfl, hF⟩
                                      rw [if_neg (by omega), if_neg hnk, if_neg (by omega)]
                                      simp only [pbd, p2, p3])
                                   | (have hq3 := p3
                                      refine Or.inr ⟨k, p', I1, _, _, ?_, rfl, rfl, hF⟩
                                      rw [if_neg (by omega), if_neg hnk, if_neg (by omega)]
                                      simp only [pbd, hps, p3])
                                   | (refine Or.inr ⟨k, p', I1, _, _, ?_, rfl, rfl, hF⟩
                                      rw [if_neg (by omega), if_neg hnk, if_neg (by omega)]
                                      simp only [pbd, p2]))
                              · try simp (disch := omega) only [tp4, tp6, zI_n, zI_o, zI_lit, zI_neg, zI_add, zI_sub, zI_mul, zI_lt, zI_le, zI_eq, zI_clamp, zI_in, zI_div, zI_rem, lg_lt0, lg_gt0, lg_eq0, lg_le0, lg_ge0, Int.toNat_natCast, ge_iff_le, gt_iff_lt, List.length_cons, List.length_nil, bl_up2_at, bl_up2_nk, bl_up2_nx] at h117
                                first
                                | (exfalso; first | omega | exact h117 trivial)
                                | (refine ⟨rfl, rfl, kt, (Nat.le_of_ble_eq_true rfl), (0, 0), Nat.le_of_ble_eq_true rfl, Nat.le_of_ble_eq_true rfl, bl_MC_mono (c_Tape_readEnd (d := d + 1) ht hn hv1) (fun o121 σ121 q121 => ?_)⟩
                                   rcases q121 with ⟨j3, p3, rfl, rfl⟩ | ⟨k, p', a', p3, rfl, rfl⟩
                                   · rw [hB] at p3
                                     refine bl_go oX8_readRecipe 80 [7] rfl ?_
                                     refine ⟨fun h124 => ?_, fun h124 => ?_⟩
                                     · try simp (disch := omega) only [tp4, tp6, zI_n, zI_o, zI_lit, zI_neg, zI_add, zI_sub, zI_mul, zI_lt, zI_le, zI_eq, zI_clamp, zI_in, zI_div, zI_rem, lg_lt0, lg_gt0, lg_eq0, lg_le0, lg_ge0, Int.toNat_natCast, ge_iff_le, gt_iff_lt, List.length_cons, List.length_nil, bl_up2_at, bl_up2_nk, bl_up2_nx] at h124
                                       first
                                       | (exfalso; first | omega | exact h124 trivial)
                                       | (refine ⟨rfl, rfl, kq, (Nat.le_of_ble_eq_true rfl), (0, 0), Nat.le_of_ble_eq_true rfl, Nat.le_of_ble_eq_true rfl, bl_MC_mono (c_Recipe_add (d := d + 2) hq' ((rcC_tp (by omega)).mpr hC) (by omega) k1 hv2.2.1) (fun o133 σ133 q133 => ?_)⟩
                                          try dsimp only [bl_pv] at q133
                                          obtain ⟨rfl, I2, rfl, hF2, hC2⟩ := q133
                                          rw [tpI_of (hF2 t (by omega) (by omega) (by omega))]
                                          refine bl_go oX8_readRecipe 80 [7] rfl ?_
                                          refine bl_lv [0, 3, 4] rfl ?_
                                          try dsimp only [bl_pv]
                                          have := ih _ (show S.1 + 1 + f = 20 by omega) j3 (pend_le p3) (tpB I1 I2 t) (nI p) _ (nI_1 S.1) (by
                                                unfold rcC at hC2 ⊢
                                                rw [tpB_ne (by omega), tpB_ne (by omega), tpB_ne (by omega)]; exact hC2) (bl_sn_ok hO hv2) (fun x x1 x2 x3 => by
                                                by_cases ex : x = t
                                                · rw [ex, tpB_t, ← ex]; exact hF x x1 x2 x3
                                                · rw [tpB_ne ex, hF2 x x1 x2 x3, tpI_ne ex]; exact hF x x1 x2 x3)
                                          refine bl_WP_mono this (fun o σ' hq => ?_)
                                          rw [if_neg (by omega), if_neg hnk, if_neg (by omega)]
                                          first
                                          | (have hq2 := p2
                                             simp only [pbd, p2, p3]
                                             exact hq)
                                          | (simp only [pbd, hps, p3]
                                             exact hq))
                                     · try simp (disch := omega) only [tp4, tp6, zI_n, zI_o, zI_lit, zI_neg, zI_add, zI_sub, zI_mul, zI_lt, zI_le, zI_eq, zI_clamp, zI_in, zI_div, zI_rem, lg_lt0, lg_gt0, lg_eq0, lg_le0, lg_ge0, Int.toNat_natCast, ge_iff_le, gt_iff_lt, List.length_cons, List.length_nil, bl_up2_at, bl_up2_nk, bl_up2_nx] at h124
                                       first
                                       | (exfalso; first | omega | exact h124 trivial)
                                       | (refine ⟨(fun _ => by first | exact Or.inl rfl | exact Or.inr rfl), ?_⟩
                                          try show _ ∧ _
                                          try dsimp only [bl_pv]
                                          first
                                          | (have hq3 := p3
                                             have hq2 := p2
                                             refine Or.inr ⟨k, p', I1, _, _, ?_, rfl, rfl, hF⟩
                                             rw [if_neg (by omega), if_neg hnk, if_neg (by omega)]
                                             simp only [pbd, p2, p3])
                                          | (have hq3 := p3
                                             refine Or.inr ⟨k, p', I1, _, _, ?_, rfl, rfl, hF⟩
                                             rw [if_neg (by omega), if_neg hnk, if_neg (by omega)]
                                             simp only [pbd, hps, p3])
                                          | (refine Or.inr ⟨k, p', I1, _, _, ?_, rfl, rfl, hF⟩
                                             rw [if_neg (by omega), if_neg hnk, if_neg (by omega)]
                                             simp only [pbd, p2]))
                                   · rw [hB] at p3
                                     refine bl_go oX8_readRecipe 80 [7] rfl ?_
                                     refine ⟨fun h124 => ?_, fun h124 => ?_⟩
                                     · try simp (disch := omega) only [tp4, tp6, zI_n, zI_o, zI_lit, zI_neg, zI_add, zI_sub, zI_mul, zI_lt, zI_le, zI_eq, zI_clamp, zI_in, zI_div, zI_rem, lg_lt0, lg_gt0, lg_eq0, lg_le0, lg_ge0, Int.toNat_natCast, ge_iff_le, gt_iff_lt, List.length_cons, List.length_nil, bl_up2_at, bl_up2_nk, bl_up2_nx] at h124
                                       first
                                       | (exfalso; first | omega | exact h124 trivial)
                                       | (refine ⟨rfl, rfl, kq, (Nat.le_of_ble_eq_true rfl), (0, 0), Nat.le_of_ble_eq_true rfl, Nat.le_of_ble_eq_true rfl, bl_MC_mono (c_Recipe_add (d := d + 2) hq' ((rcC_tp (by omega)).mpr hC) (by omega) k1 hv2.2.1) (fun o133 σ133 q133 => ?_)⟩
                                          try dsimp only [bl_pv] at q133
                                          obtain ⟨rfl, I2, rfl, hF2, hC2⟩ := q133
                                          rw [tpI_of (hF2 t (by omega) (by omega) (by omega))]
                                          refine bl_go oX8_readRecipe 80 [7] rfl ?_
                                          refine bl_lv [0, 3, 4] rfl ?_
                                          try dsimp only [bl_pv]
                                          have := ih _ (show S.1 + 1 + f = 20 by omega) j3 (pend_le p3) (tpB I1 I2 t) (nI p) _ (nI_1 S.1) (by
                                                unfold rcC at hC2 ⊢
                                                rw [tpB_ne (by omega), tpB_ne (by omega), tpB_ne (by omega)]; exact hC2) (bl_sn_ok hO hv2) (fun x x1 x2 x3 => by
                                                by_cases ex : x = t
                                                · rw [ex, tpB_t, ← ex]; exact hF x x1 x2 x3
                                                · rw [tpB_ne ex, hF2 x x1 x2 x3, tpI_ne ex]; exact hF x x1 x2 x3)
                                          refine bl_WP_mono this (fun o σ' hq => ?_)
                                          rw [if_neg (by omega), if_neg hnk, if_neg (by omega)]
                                          first
                                          | (have hq2 := p2
                                             simp only [pbd, p2, p3]
                                             exact hq)
                                          | (simp only [pbd, hps, p3]
                                             exact hq))
                                     · try simp (disch := omega) only [tp4, tp6, zI_n, zI_o, zI_lit, zI_neg, zI_add, zI_sub, zI_mul, zI_lt, zI_le, zI_eq, zI_clamp, zI_in, zI_div, zI_rem, lg_lt0, lg_gt0, lg_eq0, lg_le0, lg_ge0, Int.toNat_natCast, ge_iff_le, gt_iff_lt, List.length_cons, List.length_nil, bl_up2_at, bl_up2_nk, bl_up2_nx] at h124
                                       first
                                       | (exfalso; first | omega | exact h124 trivial)
                                       | (refine ⟨(fun _ => by first | exact Or.inl rfl | exact Or.inr rfl), ?_⟩
                                          try show _ ∧ _
                                          try dsimp only [bl_pv]
                                          first
                                          | (have hq3 := p3
                                             have hq2 := p2
                                             refine Or.inr ⟨k, p', I1, _, _, ?_, rfl, rfl, hF⟩
                                             rw [if_neg (by omega), if_neg hnk, if_neg (by omega)]
                                             simp only [pbd, p2, p3])
                                          | (have hq3 := p3
                                             refine Or.inr ⟨k, p', I1, _, _, ?_, rfl, rfl, hF⟩
                                             rw [if_neg (by omega), if_neg hnk, if_neg (by omega)]
                                             simp only [pbd, hps, p3])
                                          | (refine Or.inr ⟨k, p', I1, _, _, ?_, rfl, rfl, hF⟩
                                             rw [if_neg (by omega), if_neg hnk, if_neg (by omega)]
                                             simp only [pbd, p2]))))
                       · try simp (disch := omega) only [bl_pv, cl0, cl1, cl2, cl3, cl4, cl5, cl6, cl7, cl8, cl9, bl_up2_at, bl_up2_nk, bl_up2_nx] at h91
                         have hps : psn (I (t + 1)) n kk e = .inl (0, e) := by
                           unfold psn
                           rw [if_pos]
                           have h91' : ([4, 4, 0, 9, 9, 0, 36, 36] : List Int32).getD (nI kk).toNatClampNeg 0 = 0 := h91
                           rw [ek, s2] at h91'
                           have := congrArg Int32.toNatClampNeg h91'
                           rw [nI_clamp (by omega)] at this
                           exact this
                         obtain ⟨hv1, hv2⟩ := psn_ok k1 hw1 hps
                         have hv0 : nI 0 = (0 : Int32) := rfl
                         first
                         | (exfalso; first | omega | exact h91 trivial)
                         | (refine ⟨fun h117 => ?_, fun h117 => ?_⟩
                            · try simp (disch := omega) only [tp4, tp6, zI_n, zI_o, zI_lit, zI_neg, zI_add, zI_sub, zI_mul, zI_lt, zI_le, zI_eq, zI_clamp, zI_in, zI_div, zI_rem, lg_lt0, lg_gt0, lg_eq0, lg_le0, lg_ge0, Int.toNat_natCast, ge_iff_le, gt_iff_lt, List.length_cons, List.length_nil, bl_up2_at, bl_up2_nk, bl_up2_nx] at h117
                              first
                              | (exfalso; first | omega | exact h117 trivial)
                              | (refine ⟨(fun _ => by first | exact Or.inl rfl | exact Or.inr rfl), ?_⟩
                                 try show _ ∧ _
                                 try dsimp only [bl_pv]
                                 first
                                 | (have hq3 := p3
                                    have hq2 := p2
                                    refine Or.inr ⟨k, p', I1, _, _, ?_, rfl, rfl, hF⟩
                                    rw [if_neg (by omega), if_neg hnk, if_neg (by omega)]
                                    simp only [pbd, p2, p3])
                                 | (have hq3 := p3
                                    refine Or.inr ⟨k, p', I1, _, _, ?_, rfl, rfl, hF⟩
                                    rw [if_neg (by omega), if_neg hnk, if_neg (by omega)]
                                    simp only [pbd, hps, p3])
                                 | (refine Or.inr ⟨k, p', I1, _, _, ?_, rfl, rfl, hF⟩
                                    rw [if_neg (by omega), if_neg hnk, if_neg (by omega)]
                                    simp only [pbd, p2]))
                            · try simp (disch := omega) only [tp4, tp6, zI_n, zI_o, zI_lit, zI_neg, zI_add, zI_sub, zI_mul, zI_lt, zI_le, zI_eq, zI_clamp, zI_in, zI_div, zI_rem, lg_lt0, lg_gt0, lg_eq0, lg_le0, lg_ge0, Int.toNat_natCast, ge_iff_le, gt_iff_lt, List.length_cons, List.length_nil, bl_up2_at, bl_up2_nk, bl_up2_nx] at h117
                              first
                              | (exfalso; first | omega | exact h117 trivial)
                              | (refine ⟨rfl, rfl, kt, (Nat.le_of_ble_eq_true rfl), (0, 0), Nat.le_of_ble_eq_true rfl, Nat.le_of_ble_eq_true rfl, bl_MC_mono (c_Tape_readEnd (d := d + 1) ht hn hv1) (fun o121 σ121 q121 => ?_)⟩
                                 rcases q121 with ⟨j3, p3, rfl, rfl⟩ | ⟨k, p', a', p3, rfl, rfl⟩
                                 · rw [hB] at p3
                                   refine bl_go oX8_readRecipe 80 [7] rfl ?_
                                   refine ⟨fun h124 => ?_, fun h124 => ?_⟩
                                   · try simp (disch := omega) only [tp4, tp6, zI_n, zI_o, zI_lit, zI_neg, zI_add, zI_sub, zI_mul, zI_lt, zI_le, zI_eq, zI_clamp, zI_in, zI_div, zI_rem, lg_lt0, lg_gt0, lg_eq0, lg_le0, lg_ge0, Int.toNat_natCast, ge_iff_le, gt_iff_lt, List.length_cons, List.length_nil, bl_up2_at, bl_up2_nk, bl_up2_nx] at h124
                                     first
                                     | (exfalso; first | omega | exact h124 trivial)
                                     | (refine ⟨rfl, rfl, kq, (Nat.le_of_ble_eq_true rfl), (0, 0), Nat.le_of_ble_eq_true rfl, Nat.le_of_ble_eq_true rfl, bl_MC_mono (c_Recipe_add (d := d + 2) hq' ((rcC_tp (by omega)).mpr hC) (by omega) k1 hv2.2.1) (fun o133 σ133 q133 => ?_)⟩
                                        try dsimp only [bl_pv] at q133
                                        obtain ⟨rfl, I2, rfl, hF2, hC2⟩ := q133
                                        rw [tpI_of (hF2 t (by omega) (by omega) (by omega))]
                                        refine bl_go oX8_readRecipe 80 [7] rfl ?_
                                        refine bl_lv [0, 3, 4] rfl ?_
                                        try dsimp only [bl_pv]
                                        have := ih _ (show S.1 + 1 + f = 20 by omega) j3 (pend_le p3) (tpB I1 I2 t) (nI p) _ (nI_1 S.1) (by
                                              unfold rcC at hC2 ⊢
                                              rw [tpB_ne (by omega), tpB_ne (by omega), tpB_ne (by omega)]; exact hC2) (bl_sn_ok hO hv2) (fun x x1 x2 x3 => by
                                              by_cases ex : x = t
                                              · rw [ex, tpB_t, ← ex]; exact hF x x1 x2 x3
                                              · rw [tpB_ne ex, hF2 x x1 x2 x3, tpI_ne ex]; exact hF x x1 x2 x3)
                                        refine bl_WP_mono this (fun o σ' hq => ?_)
                                        rw [if_neg (by omega), if_neg hnk, if_neg (by omega)]
                                        first
                                        | (have hq2 := p2
                                           simp only [pbd, p2, p3]
                                           exact hq)
                                        | (simp only [pbd, hps, p3]
                                           exact hq))
                                   · try simp (disch := omega) only [tp4, tp6, zI_n, zI_o, zI_lit, zI_neg, zI_add, zI_sub, zI_mul, zI_lt, zI_le, zI_eq, zI_clamp, zI_in, zI_div, zI_rem, lg_lt0, lg_gt0, lg_eq0, lg_le0, lg_ge0, Int.toNat_natCast, ge_iff_le, gt_iff_lt, List.length_cons, List.length_nil, bl_up2_at, bl_up2_nk, bl_up2_nx] at h124
                                     first
                                     | (exfalso; first | omega | exact h124 trivial)
                                     | (refine ⟨(fun _ => by first | exact Or.inl rfl | exact Or.inr rfl), ?_⟩
                                        try show _ ∧ _
                                        try dsimp only [bl_pv]
                                        first
                                        | (have hq3 := p3
                                           have hq2 := p2
                                           refine Or.inr ⟨k, p', I1, _, _, ?_, rfl, rfl, hF⟩
                                           rw [if_neg (by omega), if_neg hnk, if_neg (by omega)]
                                           simp only [pbd, p2, p3])
                                        | (have hq3 := p3
                                           refine Or.inr ⟨k, p', I1, _, _, ?_, rfl, rfl, hF⟩
                                           rw [if_neg (by omega), if_neg hnk, if_neg (by omega)]
                                           simp only [pbd, hps, p3])
                                        | (refine Or.inr ⟨k, p', I1, _, _, ?_, rfl, rfl, hF⟩
                                           rw [if_neg (by omega), if_neg hnk, if_neg (by omega)]
                                           simp only [pbd, p2]))
                                 · rw [hB] at p3
                                   refine bl_go oX8_readRecipe 80 [7] rfl ?_
                                   refine ⟨fun h124 => ?_, fun h124 => ?_⟩
                                   · try simp (disch := omega) only [tp4, tp6, zI_n, zI_o, zI_lit, zI_neg, zI_add, zI_sub, zI_mul, zI_lt, zI_le, zI_eq, zI_clamp, zI_in, zI_div, zI_rem, lg_lt0, lg_gt0, lg_eq0, lg_le0, lg_ge0, Int.toNat_natCast, ge_iff_le, gt_iff_lt, List.length_cons, List.length_nil, bl_up2_at, bl_up2_nk, bl_up2_nx] at h124
                                     first
                                     | (exfalso; first | omega | exact h124 trivial)
                                     | (refine ⟨rfl, rfl, kq, (Nat.le_of_ble_eq_true rfl), (0, 0), Nat.le_of_ble_eq_true rfl, Nat.le_of_ble_eq_true rfl, bl_MC_mono (c_Recipe_add (d := d + 2) hq' ((rcC_tp (by omega)).mpr hC) (by omega) k1 hv2.2.1) (fun o133 σ133 q133 => ?_)⟩
                                        try dsimp only [bl_pv] at q133
                                        obtain ⟨rfl, I2, rfl, hF2, hC2⟩ := q133
                                        rw [tpI_of (hF2 t (by omega) (by omega) (by omega))]
                                        refine bl_go oX8_readRecipe 80 [7] rfl ?_
                                        refine bl_lv [0, 3, 4] rfl ?_
                                        try dsimp only [bl_pv]
                                        have := ih _ (show S.1 + 1 + f = 20 by omega) j3 (pend_le p3) (tpB I1 I2 t) (nI p) _ (nI_1 S.1) (by
                                              unfold rcC at hC2 ⊢
                                              rw [tpB_ne (by omega), tpB_ne (by omega), tpB_ne (by omega)]; exact hC2) (bl_sn_ok hO hv2) (fun x x1 x2 x3 => by
                                              by_cases ex : x = t
                                              · rw [ex, tpB_t, ← ex]; exact hF x x1 x2 x3
                                              · rw [tpB_ne ex, hF2 x x1 x2 x3, tpI_ne ex]; exact hF x x1 x2 x3)
                                        refine bl_WP_mono this (fun o σ' hq => ?_)
                                        rw [if_neg (by omega), if_neg hnk, if_neg (by omega)]
                                        first
                                        | (have hq2 := p2
                                           simp only [pbd, p2, p3]
                                           exact hq)
                                        | (simp only [pbd, hps, p3]
                                           exact hq))
                                   · try simp (disch := omega) only [tp4, tp6, zI_n, zI_o, zI_lit, zI_neg, zI_add, zI_sub, zI_mul, zI_lt, zI_le, zI_eq, zI_clamp, zI_in, zI_div, zI_rem, lg_lt0, lg_gt0, lg_eq0, lg_le0, lg_ge0, Int.toNat_natCast, ge_iff_le, gt_iff_lt, List.length_cons, List.length_nil, bl_up2_at, bl_up2_nk, bl_up2_nx] at h124
                                     first
                                     | (exfalso; first | omega | exact h124 trivial)
                                     | (refine ⟨(fun _ => by first | exact Or.inl rfl | exact Or.inr rfl), ?_⟩
                                        try show _ ∧ _
                                        try dsimp only [bl_pv]
                                        first
                                        | (have hq3 := p3
                                           have hq2 := p2
                                           refine Or.inr ⟨k, p', I1, _, _, ?_, rfl, rfl, hF⟩
                                           rw [if_neg (by omega), if_neg hnk, if_neg (by omega)]
                                           simp only [pbd, p2, p3])
                                        | (have hq3 := p3
                                           refine Or.inr ⟨k, p', I1, _, _, ?_, rfl, rfl, hF⟩
                                           rw [if_neg (by omega), if_neg hnk, if_neg (by omega)]
                                           simp only [pbd, hps, p3])
                                        | (refine Or.inr ⟨k, p', I1, _, _, ?_, rfl, rfl, hF⟩
                                           rw [if_neg (by omega), if_neg hnk, if_neg (by omega)]
                                           simp only [pbd, p2]))))
                     · try simp (disch := omega) only [tp4, tp6, zI_n, zI_o, zI_lit, zI_neg, zI_add, zI_sub, zI_mul, zI_lt, zI_le, zI_eq, zI_clamp, zI_in, zI_div, zI_rem, lg_lt0, lg_gt0, lg_eq0, lg_le0, lg_ge0, Int.toNat_natCast, ge_iff_le, gt_iff_lt, List.length_cons, List.length_nil, bl_up2_at, bl_up2_nk, bl_up2_nx] at h73
                       exfalso; omega)
                · try simp (disch := omega) only [tp4, tp6, zI_n, zI_o, zI_lit, zI_neg, zI_add, zI_sub, zI_mul, zI_lt, zI_le, zI_eq, zI_clamp, zI_in, zI_div, zI_rem, lg_lt0, lg_gt0, lg_eq0, lg_le0, lg_ge0, Int.toNat_natCast, ge_iff_le, gt_iff_lt, List.length_cons, List.length_nil, bl_up2_at, bl_up2_nk, bl_up2_nx] at h57
                  first
                  | (exfalso; first | omega | exact h57 trivial)
                  | (refine ⟨kt, rfl, rfl, kt, (Nat.le_of_ble_eq_true rfl), (0, 0), Nat.le_of_ble_eq_true rfl, Nat.le_of_ble_eq_true rfl, bl_MC_mono (c_Tape_refuse (d := d + 2) kt) (fun o66 σ66 q66 => ?_)⟩
                     try dsimp only [bl_pv] at q66
                     obtain ⟨rfl, rfl⟩ := q66
                     refine bl_go oX8_readRecipe 80 [7] rfl ?_
                     refine ⟨(fun _ => by first | exact Or.inl rfl | exact Or.inr rfl), ?_⟩
                     try show _ ∧ _
                     try dsimp only [bl_pv]
                     refine Or.inr ⟨1, p, I1, _, _, by rw [if_neg (by omega), if_pos rfl], rfl, by rw [tp6]; rfl, hF⟩))
         · try simp (disch := omega) only [tp4, tp6, zI_n, zI_o, zI_lit, zI_neg, zI_add, zI_sub, zI_mul, zI_lt, zI_le, zI_eq, zI_clamp, zI_in, zI_div, zI_rem, lg_lt0, lg_gt0, lg_eq0, lg_le0, lg_ge0, Int.toNat_natCast, ge_iff_le, gt_iff_lt, List.length_cons, List.length_nil, bl_up2_at, bl_up2_nk, bl_up2_nx] at h25
           first
           | (exfalso; first | omega | exact h25 trivial)
           | (refine ⟨fun h29 => ?_, fun h29 => ?_⟩
              · try simp (disch := omega) only [tp4, tp6, zI_n, zI_o, zI_lit, zI_neg, zI_add, zI_sub, zI_mul, zI_lt, zI_le, zI_eq, zI_clamp, zI_in, zI_div, zI_rem, lg_lt0, lg_gt0, lg_eq0, lg_le0, lg_ge0, Int.toNat_natCast, ge_iff_le, gt_iff_lt, List.length_cons, List.length_nil, bl_up2_at, bl_up2_nk, bl_up2_nx] at h29
                first
                | (exfalso; first | omega | exact h29 trivial)
                | (refine ⟨(fun _ => by first | exact Or.inl rfl | exact Or.inr rfl), ?_⟩
                   try show _ ∧ _
                   try dsimp only [bl_pv]
                   first
                   | exact Or.inl ⟨S, I1, _, _, by rw [if_pos (by omega), if_pos (by omega)], rfl, rfl, hF, hC, hO⟩
                   | exact Or.inr ⟨1, n, I1, _, _, by rw [if_pos (by omega), if_neg (by omega)], rfl, by rw [tp4]; rfl, hF⟩)
              · try simp (disch := omega) only [tp4, tp6, zI_n, zI_o, zI_lit, zI_neg, zI_add, zI_sub, zI_mul, zI_lt, zI_le, zI_eq, zI_clamp, zI_in, zI_div, zI_rem, lg_lt0, lg_gt0, lg_eq0, lg_le0, lg_ge0, Int.toNat_natCast, ge_iff_le, gt_iff_lt, List.length_cons, List.length_nil, bl_up2_at, bl_up2_nk, bl_up2_nx] at h29
                first
                | (exfalso; first | omega | exact h29 trivial)
                | (refine ⟨kt, rfl, rfl, kt, (Nat.le_of_ble_eq_true rfl), (0, 0), Nat.le_of_ble_eq_true rfl, Nat.le_of_ble_eq_true rfl, bl_MC_mono (c_Tape_refuse (d := d + 2) kt) (fun o38 σ38 q38 => ?_)⟩
                   try dsimp only [bl_pv] at q38
                   obtain ⟨rfl, rfl⟩ := q38
                   refine bl_go oX8_readRecipe 80 [7] rfl ?_
                   refine ⟨fun h41 => ?_, fun h41 => ?_⟩
                   · try simp (disch := omega) only [tp4, tp6, zI_n, zI_o, zI_lit, zI_neg, zI_add, zI_sub, zI_mul, zI_lt, zI_le, zI_eq, zI_clamp, zI_in, zI_div, zI_rem, lg_lt0, lg_gt0, lg_eq0, lg_le0, lg_ge0, Int.toNat_natCast, ge_iff_le, gt_iff_lt, List.length_cons, List.length_nil, bl_up2_at, bl_up2_nk, bl_up2_nx] at h41
                     first
                     | (exfalso; first | omega | exact h41 trivial)
                     | (refine ⟨(fun _ => by first | exact Or.inl rfl | exact Or.inr rfl), ?_⟩
                        try show _ ∧ _
                        try dsimp only [bl_pv]
                        first
                        | exact Or.inl ⟨S, I1, _, _, by rw [if_pos (by omega), if_pos (by omega)], rfl, rfl, hF, hC, hO⟩
                        | exact Or.inr ⟨1, n, I1, _, _, by rw [if_pos (by omega), if_neg (by omega)], rfl, by rw [tp4]; rfl, hF⟩)
                   · try simp (disch := omega) only [tp4, tp6, zI_n, zI_o, zI_lit, zI_neg, zI_add, zI_sub, zI_mul, zI_lt, zI_le, zI_eq, zI_clamp, zI_in, zI_div, zI_rem, lg_lt0, lg_gt0, lg_eq0, lg_le0, lg_ge0, Int.toNat_natCast, ge_iff_le, gt_iff_lt, List.length_cons, List.length_nil, bl_up2_at, bl_up2_nk, bl_up2_nx] at h41
                     first
                     | (exfalso; first | omega | exact h41 trivial)
                     | (refine ⟨(fun _ => by first | exact Or.inl rfl | exact Or.inr rfl), ?_⟩
                        try show _ ∧ _
                        try dsimp only [bl_pv]
                        first
                        | exact Or.inl ⟨S, I1, _, _, by rw [if_pos (by omega), if_pos (by omega)], rfl, rfl, hF, hC, hO⟩
                        | exact Or.inr ⟨1, n, I1, _, _, by rw [if_pos (by omega), if_neg (by omega)], rfl, by rw [tp4]; rfl, hF⟩))))
theorem c_Tape_readRecipe (ht : tpS R K N t) (hq : rcS R K N q) (hqt : q + 2 < t ∨ t + 1 < q) (hst : ∀ j, j < 17 → K (950 + j) = 110 + j) (ku3 : K u3 = 103) (ku4 : K u4 = 104) (hn : n ≤ 400) : bl_MC G l (d + 3) mX8_readRecipe [.ref t, .ref q] (tpI I t h fk fp (nI n) (nI 0) wa, J, R, K, N) (0, 0) (fun o σ' => (∃ S' I' at' wa', prec (I (t + 1)) n 21 (0, fun _ => 0, fun _ => 0) 0 = .inl S' ∧ o = .inl (some (.int 1)) ∧ σ' = (tpI I' t h fk fp (nI n) at' wa', J, R, K, N) ∧ (∀ x, x ≠ q → x ≠ q + 1 → x ≠ q + 2 → I' x = I x) ∧ rcC I' q S' ∧ sqO S') ∨ (∃ k p I' at' wa', prec (I (t + 1)) n 21 (0, fun _ => 0, fun _ => 0) 0 = .inr (k, p) ∧ o = .inl (some (.int 0)) ∧ σ' = (tpI I' t h (nI k) (nI p) (nI n) at' wa', J, R, K, N) ∧ (∀ x, x ≠ q → x ≠ q + 1 → x ≠ q + 2 → I' x = I x))) := by
  have hq' := hq
  obtain ⟨kq, -⟩ := hq
  have hB : bl_up2 I q 2 0 (t + 1) = I (t + 1) := bl_up2_ne (by omega)
  refine bl_MC_intro (by decide +kernel) rfl (Nat.le_of_ble_eq_true rfl) ?_
  refine bl_go oX8_readRecipe 80 [7] rfl ?_
  refine ⟨kq, Or.inr (Or.inr ⟨rfl, rfl, _, rfl⟩), (fun h => by cases h), ?_⟩
  try dsimp only [bl_pv]
  rw [tpI_up (by omega)]
  exact c_Tape_recLoop ht hq' hqt hst ku3 ku4 hn 20 (0, fun _ => 0, fun _ => 0) rfl 0 (Nat.zero_le _) (bl_up2 I q 2 0) _ _ rfl ⟨bl_up2_at, by decide, fun k hk => absurd hk (Nat.not_lt_zero _)⟩ (fun k hk => absurd hk (Nat.not_lt_zero _)) (fun x x1 x2 x3 => bl_up2_ne x1)
theorem c_Tape_open {m : Nat} {x en at' : Int32} (kt : K t = 9) (hh : h = nI m) (hm : m ≤ 400) : bl_MC G l d mX8_open [.ref t, .int x] (tpI I t h fk fp en at' wa, J, R, K, N) (0, 0) (fun o σ' => (∃ n, x = nI n ∧ n ≤ m ∧ o = .inl (some (.int 1)) ∧ σ' = (tpI I t 0 0 (zI (-1)) (nI n) (nI 0) wa, J, R, K, N)) ∨ ((∀ n, n ≤ m → x ≠ nI n) ∧ o = .inl (some (.int 0)) ∧ σ' = (tpI I t h fk fp en at' wa, J, R, K, N))) := by
  obtain ⟨v, v1, v2, rfl⟩ := zI_of x
  subst hh
  refine bl_MC_intro (by decide +kernel) rfl (Nat.le_of_ble_eq_true rfl) ?_
  refine bl_go oX8_open 80 [] rfl ?_
  refine ⟨fun h1 => ?_, fun h1 => ?_⟩
  · try simp (disch := omega) only [tp1, zI_n, zI_o, zI_lit, zI_neg, zI_add, zI_sub, zI_mul, zI_lt, zI_le, zI_eq, zI_clamp, zI_in, zI_div, zI_rem, lg_lt0, lg_gt0, lg_eq0, lg_le0, lg_ge0, Int.toNat_natCast, ge_iff_le, gt_iff_lt, List.length_cons, List.length_nil, bl_up2_at, bl_up2_nk, bl_up2_nx] at h1
    first
    | (exfalso; first | omega | exact h1 trivial)
    | (refine ⟨(fun _ => by first | exact Or.inl rfl | exact Or.inr rfl), ?_⟩
       try show _ ∧ _
       try dsimp only [bl_pv]
       exact Or.inr ⟨fun n hn e => by rw [zI_n] at e; simp (disch := omega) only [zI_eq] at e; omega, rfl, rfl⟩)
  · try simp (disch := omega) only [tp1, zI_n, zI_o, zI_lit, zI_neg, zI_add, zI_sub, zI_mul, zI_lt, zI_le, zI_eq, zI_clamp, zI_in, zI_div, zI_rem, lg_lt0, lg_gt0, lg_eq0, lg_le0, lg_ge0, Int.toNat_natCast, ge_iff_le, gt_iff_lt, List.length_cons, List.length_nil, bl_up2_at, bl_up2_nk, bl_up2_nx] at h1
    first
    | (exfalso; first | omega | exact h1 trivial)
    | (refine ⟨kt, fun h9 => ?_, fun h9 => ?_⟩
       · try simp (disch := omega) only [tp1, zI_n, zI_o, zI_lit, zI_neg, zI_add, zI_sub, zI_mul, zI_lt, zI_le, zI_eq, zI_clamp, zI_in, zI_div, zI_rem, lg_lt0, lg_gt0, lg_eq0, lg_le0, lg_ge0, Int.toNat_natCast, ge_iff_le, gt_iff_lt, List.length_cons, List.length_nil, bl_up2_at, bl_up2_nk, bl_up2_nx] at h9
         first
         | (exfalso; first | omega | exact h9 trivial)
         | (refine ⟨kt, Or.inr (Or.inr ⟨rfl, rfl, _, rfl⟩), (fun h => by cases h), kt, Or.inr (Or.inr ⟨rfl, rfl, _, rfl⟩), (fun h => by cases h), kt, Or.inr (Or.inr ⟨rfl, rfl, _, rfl⟩), (fun h => by cases h), kt, Or.inr (Or.inr ⟨rfl, rfl, _, rfl⟩), (fun h => by cases h), kt, Or.inr (Or.inr ⟨rfl, rfl, _, rfl⟩), (fun h => by cases h), (fun _ => by first | exact Or.inl rfl | exact Or.inr rfl), ?_⟩
            try show _ ∧ _
            try dsimp only [bl_pv]
            refine Or.inl ⟨v.toNat, by rw [zI_n]; congr 1; omega, by omega, rfl, ?_⟩
            rw [tpu4, tpu5, tpu1, tpu2, tpu3, show zI v = nI v.toNat by rw [zI_n]; congr 1; omega]; rfl)
       · try simp (disch := omega) only [tp1, zI_n, zI_o, zI_lit, zI_neg, zI_add, zI_sub, zI_mul, zI_lt, zI_le, zI_eq, zI_clamp, zI_in, zI_div, zI_rem, lg_lt0, lg_gt0, lg_eq0, lg_le0, lg_ge0, Int.toNat_natCast, ge_iff_le, gt_iff_lt, List.length_cons, List.length_nil, bl_up2_at, bl_up2_nk, bl_up2_nx] at h9
         first
         | (exfalso; first | omega | exact h9 trivial)
         | (refine ⟨(fun _ => by first | exact Or.inl rfl | exact Or.inr rfl), ?_⟩
            try show _ ∧ _
            try dsimp only [bl_pv]
            exact Or.inr ⟨fun n hn e => by rw [zI_n] at e; simp (disch := omega) only [zI_eq] at e; omega, rfl, rfl⟩))
end TAPE5
