/-! ===== Recipe ===== -/
/-- a size and two rows of numbers -/
abbrev sq : Type := Nat × (Nat → Nat) × (Nat → Nat)
def rcS (R : Nat → Nat → Option Nat) (K N : Nat → Nat) (q : Nat) : Prop := K q = 5 ∧ R q 0 = some (q + 1) ∧ R q 1 = some (q + 2) ∧ K (q + 1) = 20 ∧ N (q + 1) = 20 ∧ K (q + 2) = 20 ∧ N (q + 2) = 20
def rcC (I : Nat → Nat → Int32) (q : Nat) (S : sq) : Prop := I q 2 = nI S.1 ∧ S.1 ≤ 20 ∧ ∀ k, k < S.1 → I (q + 1) k = nI (S.2.1 k) ∧ I (q + 2) k = nI (S.2.2 k) ∧ S.2.1 k ≤ 7 ∧ S.2.2 k ≤ 36
/-- units of a step -/
def st_un (k v : Nat) : Nat := if k = 0 then 2 else if k = 5 then 0 else if k = 6 ∨ k = 7 then v else 1
def bl_sn (S : sq) (k v : Nat) : sq := (S.1 + 1, fun j => if j = S.1 then k else S.2.1 j, fun j => if j = S.1 then v else S.2.2 j)
section RECIPE
variable {G : bl_G} {l : Launch} {d q : Nat} {I : Nat → Nat → Int32} {J : Nat → Nat → Int64} {R : Nat → Nat → Option Nat} {K N : Nat → Nat}
theorem c_Recipe_add {S : sq} {k v : Nat} (hS : rcS R K N q) (hC : rcC I q S) (hs : S.1 < 20) (hk : k ≤ 7) (hv : v ≤ 36) : bl_MC G l d mX4_add [.ref q, .int (nI k), .int (nI v)] (I, J, R, K, N) (0, 0) (fun o σ' => o = .inl none ∧ ∃ I', σ' = (I', J, R, K, N) ∧ (∀ x, x ≠ q → x ≠ q + 1 → x ≠ q + 2 → I' x = I x) ∧ rcC I' q (bl_sn S k v)) := by
  obtain ⟨kq, rq_0, rq_1, kp, np, km, nm⟩ := hS
  obtain ⟨h0, h1, h2⟩ := hC
  have e1 : bl_up2 I (q + 1) S.1 (nI k) q 2 = nI S.1 := by rw [bl_up2_ne (by omega)]; exact h0
  have e2 : bl_up2 (bl_up2 I (q + 1) S.1 (nI k)) (q + 2) S.1 (nI v) q 2 = nI S.1 := by rw [bl_up2_ne (by omega)]; exact e1
  have ec : (nI S.1).toNatClampNeg = S.1 := nI_clamp (by omega)
  refine bl_MC_intro (by decide +kernel) rfl (Nat.le_of_ble_eq_true rfl) ?_
  refine bl_go oX4_add 80 [] rfl ?_
  refine ⟨kq, fun h6 => ?_, fun h6 => ?_⟩
  · try simp (disch := omega) only [h0, zI_n, zI_o, zI_lit, zI_neg, zI_add, zI_sub, zI_mul, zI_lt, zI_le, zI_eq, zI_clamp, zI_in, zI_div, zI_rem, lg_lt0, lg_gt0, lg_eq0, lg_le0, lg_ge0, Int.toNat_natCast, ge_iff_le, gt_iff_lt, List.length_cons, List.length_nil, bl_up2_at, bl_up2_nk, bl_up2_nx] at h6
    first
    | (exfalso; omega)
    | (try show _ ∧ _
       try dsimp only [bl_pv]
       refine ⟨rfl, _, rfl, ?_⟩
       rw [h0, ec, e1, ec, e2, nI_1]
       refine ⟨fun x a b c => ?_, ?_, ?_, fun j hj => ?_⟩
       · rw [bl_up2_ne a, bl_up2_ne c, bl_up2_ne b]
       · exact bl_up2_at
       · exact hs
       · have hj' : j < S.1 + 1 := hj
         rw [bl_up2_ne (show q + 1 ≠ q by omega), bl_up2_ne (show q + 2 ≠ q by omega), bl_up2_ne (show q + 1 ≠ q + 2 by omega)]
         by_cases e : j = S.1
         · subst e
           rw [bl_up2_at, bl_up2_at]
           show nI k = nI (if S.1 = S.1 then k else _) ∧ nI v = nI (if S.1 = S.1 then v else _) ∧ (if S.1 = S.1 then k else _) ≤ 7 ∧ (if S.1 = S.1 then v else _) ≤ 36
           rw [if_pos rfl, if_pos rfl]; exact ⟨rfl, rfl, hk, hv⟩
         · rw [bl_up2_nk e, bl_up2_nk e, bl_up2_ne (show q + 2 ≠ q + 1 by omega)]
           show _ = nI (if j = S.1 then k else _) ∧ _ = nI (if j = S.1 then v else _) ∧ (if j = S.1 then k else _) ≤ 7 ∧ (if j = S.1 then v else _) ≤ 36
           rw [if_neg e, if_neg e]
           exact h2 j (by omega))
  · try simp (disch := omega) only [h0, zI_n, zI_o, zI_lit, zI_neg, zI_add, zI_sub, zI_mul, zI_lt, zI_le, zI_eq, zI_clamp, zI_in, zI_div, zI_rem, lg_lt0, lg_gt0, lg_eq0, lg_le0, lg_ge0, Int.toNat_natCast, ge_iff_le, gt_iff_lt, List.length_cons, List.length_nil, bl_up2_at, bl_up2_nk, bl_up2_nx] at h6
    refine ⟨kq, _, bl_vs rq_0, kq, kp, (by (try dsimp only [bl_pv]); rw [np, h0]; exact vp_in_nI hs (by omega)), kq, _, bl_vs rq_1, kq, km, (by (try dsimp only [bl_pv]); rw [nm, h0, ec, e1]; exact vp_in_nI hs (by omega)), rfl, kq, kq, Or.inr (Or.inr ⟨rfl, rfl, _, rfl⟩), (fun h => by cases h), ?_⟩
    try show _ ∧ _
    try dsimp only [bl_pv]
    refine ⟨rfl, _, rfl, ?_⟩
    rw [h0, ec, e1, ec, e2, nI_1]
    refine ⟨fun x a b c => ?_, ?_, ?_, fun j hj => ?_⟩
    · rw [bl_up2_ne a, bl_up2_ne c, bl_up2_ne b]
    · exact bl_up2_at
    · exact hs
    · have hj' : j < S.1 + 1 := hj
      rw [bl_up2_ne (show q + 1 ≠ q by omega), bl_up2_ne (show q + 2 ≠ q by omega), bl_up2_ne (show q + 1 ≠ q + 2 by omega)]
      by_cases e : j = S.1
      · subst e
        rw [bl_up2_at, bl_up2_at]
        show nI k = nI (if S.1 = S.1 then k else _) ∧ nI v = nI (if S.1 = S.1 then v else _) ∧ (if S.1 = S.1 then k else _) ≤ 7 ∧ (if S.1 = S.1 then v else _) ≤ 36
        rw [if_pos rfl, if_pos rfl]; exact ⟨rfl, rfl, hk, hv⟩
      · rw [bl_up2_nk e, bl_up2_nk e, bl_up2_ne (show q + 2 ≠ q + 1 by omega)]
        show _ = nI (if j = S.1 then k else _) ∧ _ = nI (if j = S.1 then v else _) ∧ (if j = S.1 then k else _) ≤ 7 ∧ (if j = S.1 then v else _) ≤ 36
        rw [if_neg e, if_neg e]
        exact h2 j (by omega)
theorem c_Recipe_unitsOf {S : sq} {k : Nat} (hS : rcS R K N q) (hC : rcC I q S) (hk : k < S.1) : bl_MC G l d mX4_unitsOf [.ref q, .int (nI k)] (I, J, R, K, N) (0, 0) (fun o σ' => o = .inl (some (.int (nI (st_un (S.2.1 k) (S.2.2 k))))) ∧ σ' = (I, J, R, K, N)) := by
  obtain ⟨kq, rq_0, rq_1, kp, np, km, nm⟩ := hS
  obtain ⟨h0, h1, h2⟩ := hC
  obtain ⟨a1, a2, a3, a4⟩ := h2 k hk
  have ec : (nI k).toNatClampNeg = k := nI_clamp (by omega)
  refine bl_MC_intro (by decide +kernel) rfl (Nat.le_of_ble_eq_true rfl) ?_
  refine bl_go oX4_unitsOf 80 [] rfl ?_
  refine ⟨kq, _, bl_vs rq_0, Or.inl ⟨kp, (by first | exact (by rw [np]; exact vp_in_nI (by omega) (by omega)) | ((try dsimp only [bl_pv]); show vp_in _ (N _); rw [np]; simp (disch := omega) only [a1, zI_n, zI_o, zI_lit, zI_neg, zI_add, zI_sub, zI_mul, zI_lt, zI_le, zI_eq, zI_clamp, zI_in, zI_div, zI_rem, lg_lt0, lg_gt0, lg_eq0, lg_le0, lg_ge0, Int.toNat_natCast, ge_iff_le, gt_iff_lt, List.length_cons, List.length_nil, bl_up2_at, bl_up2_nk, bl_up2_nx] <;> omega)), fun h6 => ?_, fun j6 o6 ho6 h6 _ => ?_⟩⟩
  · try simp (disch := omega) only [a1, zI_n, zI_o, zI_lit, zI_neg, zI_add, zI_sub, zI_mul, zI_lt, zI_le, zI_eq, zI_clamp, zI_in, zI_div, zI_rem, lg_lt0, lg_gt0, lg_eq0, lg_le0, lg_ge0, Int.toNat_natCast, ge_iff_le, gt_iff_lt, List.length_cons, List.length_nil, bl_up2_at, bl_up2_nk, bl_up2_nx, zI_toInt] at h6
    first
    | (exfalso; omega)
    | (refine ⟨(fun h => by cases h), ?_⟩
       try show _ ∧ _
       try dsimp only [bl_pv]
       refine ⟨?_, rfl⟩
       unfold st_un
       first
       | (have e : S.2.1 k = 0 := by omega
          rw [if_pos e]; rfl)
       | (have e : S.2.1 k = 5 := by omega
          rw [e]; rfl)
       | (have e : S.2.1 k ≠ 0 ∧ S.2.1 k ≠ 5 ∧ ¬ (S.2.1 k = 6 ∨ S.2.1 k = 7) := by omega
          rw [if_neg e.1, if_neg e.2.1, if_neg e.2.2]; rfl)
       | (have e : S.2.1 k ≠ 0 ∧ S.2.1 k ≠ 5 ∧ (S.2.1 k = 6 ∨ S.2.1 k = 7) := by omega
          rw [if_neg e.1, if_neg e.2.1, if_pos e.2.2]
          show Sum.inl (some (Value.int (I (q + 2) (nI k).toNatClampNeg))) = _
          rw [ec, a2]))
  · try simp (disch := omega) only [a1, zI_n, zI_o, zI_lit, zI_neg, zI_add, zI_sub, zI_mul, zI_lt, zI_le, zI_eq, zI_clamp, zI_in, zI_div, zI_rem, lg_lt0, lg_gt0, lg_eq0, lg_le0, lg_ge0, Int.toNat_natCast, ge_iff_le, gt_iff_lt, List.length_cons, List.length_nil, bl_up2_at, bl_up2_nk, bl_up2_nx, zI_toInt] at h6
    match j6, ho6, h6 with
    | 0, ho6, h6 =>
      cases ho6
      first
      | (exfalso; omega)
      | (refine ⟨(fun h => by cases h), ?_⟩
         try show _ ∧ _
         try dsimp only [bl_pv]
         refine ⟨?_, rfl⟩
         unfold st_un
         first
         | (have e : S.2.1 k = 0 := by omega
            rw [if_pos e]; rfl)
         | (have e : S.2.1 k = 5 := by omega
            rw [e]; rfl)
         | (have e : S.2.1 k ≠ 0 ∧ S.2.1 k ≠ 5 ∧ ¬ (S.2.1 k = 6 ∨ S.2.1 k = 7) := by omega
            rw [if_neg e.1, if_neg e.2.1, if_neg e.2.2]; rfl)
         | (have e : S.2.1 k ≠ 0 ∧ S.2.1 k ≠ 5 ∧ (S.2.1 k = 6 ∨ S.2.1 k = 7) := by omega
            rw [if_neg e.1, if_neg e.2.1, if_pos e.2.2]
            show Sum.inl (some (Value.int (I (q + 2) (nI k).toNatClampNeg))) = _
            rw [ec, a2]))
    | 1, ho6, h6 =>
      cases ho6
      first
      | (exfalso; omega)
      | (refine ⟨(fun h => by cases h), ?_⟩
         try show _ ∧ _
         try dsimp only [bl_pv]
         refine ⟨?_, rfl⟩
         unfold st_un
         first
         | (have e : S.2.1 k = 0 := by omega
            rw [if_pos e]; rfl)
         | (have e : S.2.1 k = 5 := by omega
            rw [e]; rfl)
         | (have e : S.2.1 k ≠ 0 ∧ S.2.1 k ≠ 5 ∧ ¬ (S.2.1 k = 6 ∨ S.2.1 k = 7) := by omega
            rw [if_neg e.1, if_neg e.2.1, if_neg e.2.2]; rfl)
         | (have e : S.2.1 k ≠ 0 ∧ S.2.1 k ≠ 5 ∧ (S.2.1 k = 6 ∨ S.2.1 k = 7) := by omega
            rw [if_neg e.1, if_neg e.2.1, if_pos e.2.2]
            show Sum.inl (some (Value.int (I (q + 2) (nI k).toNatClampNeg))) = _
            rw [ec, a2]))
    | 2, ho6, h6 =>
      cases ho6
      first
      | (exfalso; omega)
      | (refine ⟨(fun h => by cases h), ?_⟩
         try show _ ∧ _
         try dsimp only [bl_pv]
         refine ⟨?_, rfl⟩
         unfold st_un
         first
         | (have e : S.2.1 k = 0 := by omega
            rw [if_pos e]; rfl)
         | (have e : S.2.1 k = 5 := by omega
            rw [e]; rfl)
         | (have e : S.2.1 k ≠ 0 ∧ S.2.1 k ≠ 5 ∧ ¬ (S.2.1 k = 6 ∨ S.2.1 k = 7) := by omega
            rw [if_neg e.1, if_neg e.2.1, if_neg e.2.2]; rfl)
         | (have e : S.2.1 k ≠ 0 ∧ S.2.1 k ≠ 5 ∧ (S.2.1 k = 6 ∨ S.2.1 k = 7) := by omega
            rw [if_neg e.1, if_neg e.2.1, if_pos e.2.2]
            show Sum.inl (some (Value.int (I (q + 2) (nI k).toNatClampNeg))) = _
            rw [ec, a2]))
    | 3, ho6, h6 =>
      cases ho6
      first
      | (exfalso; omega)
      | (refine ⟨(fun h => by cases h), ?_⟩
         try show _ ∧ _
         try dsimp only [bl_pv]
         refine ⟨?_, rfl⟩
         unfold st_un
         first
         | (have e : S.2.1 k = 0 := by omega
            rw [if_pos e]; rfl)
         | (have e : S.2.1 k = 5 := by omega
            rw [e]; rfl)
         | (have e : S.2.1 k ≠ 0 ∧ S.2.1 k ≠ 5 ∧ ¬ (S.2.1 k = 6 ∨ S.2.1 k = 7) := by omega
            rw [if_neg e.1, if_neg e.2.1, if_neg e.2.2]; rfl)
         | (have e : S.2.1 k ≠ 0 ∧ S.2.1 k ≠ 5 ∧ (S.2.1 k = 6 ∨ S.2.1 k = 7) := by omega
            rw [if_neg e.1, if_neg e.2.1, if_pos e.2.2]
            show Sum.inl (some (Value.int (I (q + 2) (nI k).toNatClampNeg))) = _
            rw [ec, a2]))
    | 4, ho6, h6 =>
      cases ho6
      first
      | (exfalso; omega)
      | (refine ⟨(fun h => by cases h), ?_⟩
         try show _ ∧ _
         try dsimp only [bl_pv]
         refine ⟨?_, rfl⟩
         unfold st_un
         first
         | (have e : S.2.1 k = 0 := by omega
            rw [if_pos e]; rfl)
         | (have e : S.2.1 k = 5 := by omega
            rw [e]; rfl)
         | (have e : S.2.1 k ≠ 0 ∧ S.2.1 k ≠ 5 ∧ ¬ (S.2.1 k = 6 ∨ S.2.1 k = 7) := by omega
            rw [if_neg e.1, if_neg e.2.1, if_neg e.2.2]; rfl)
         | (have e : S.2.1 k ≠ 0 ∧ S.2.1 k ≠ 5 ∧ (S.2.1 k = 6 ∨ S.2.1 k = 7) := by omega
            rw [if_neg e.1, if_neg e.2.1, if_pos e.2.2]
            show Sum.inl (some (Value.int (I (q + 2) (nI k).toNatClampNeg))) = _
            rw [ec, a2]))
    | 5, ho6, h6 =>
      cases ho6
      first
      | (exfalso; omega)
      | (refine ⟨(fun h => by cases h), ?_⟩
         try show _ ∧ _
         try dsimp only [bl_pv]
         refine ⟨?_, rfl⟩
         unfold st_un
         first
         | (have e : S.2.1 k = 0 := by omega
            rw [if_pos e]; rfl)
         | (have e : S.2.1 k = 5 := by omega
            rw [e]; rfl)
         | (have e : S.2.1 k ≠ 0 ∧ S.2.1 k ≠ 5 ∧ ¬ (S.2.1 k = 6 ∨ S.2.1 k = 7) := by omega
            rw [if_neg e.1, if_neg e.2.1, if_neg e.2.2]; rfl)
         | (have e : S.2.1 k ≠ 0 ∧ S.2.1 k ≠ 5 ∧ (S.2.1 k = 6 ∨ S.2.1 k = 7) := by omega
            rw [if_neg e.1, if_neg e.2.1, if_pos e.2.2]
            show Sum.inl (some (Value.int (I (q + 2) (nI k).toNatClampNeg))) = _
            rw [ec, a2]))
    | 6, ho6, h6 =>
      cases ho6
      first
      | (exfalso; omega)
      | (refine ⟨kq, _, bl_vs rq_1, Or.inl ⟨km, (by first | exact (by rw [nm]; exact vp_in_nI (by omega) (by omega)) | ((try dsimp only [bl_pv]); show vp_in _ (N _); rw [nm]; simp (disch := omega) only [a1, zI_n, zI_o, zI_lit, zI_neg, zI_add, zI_sub, zI_mul, zI_lt, zI_le, zI_eq, zI_clamp, zI_in, zI_div, zI_rem, lg_lt0, lg_gt0, lg_eq0, lg_le0, lg_ge0, Int.toNat_natCast, ge_iff_le, gt_iff_lt, List.length_cons, List.length_nil, bl_up2_at, bl_up2_nk, bl_up2_nx] <;> omega)), (fun h => by cases h), ?_⟩⟩
         try show _ ∧ _
         try dsimp only [bl_pv]
         refine ⟨?_, rfl⟩
         unfold st_un
         first
         | (have e : S.2.1 k = 0 := by omega
            rw [if_pos e]; rfl)
         | (have e : S.2.1 k = 5 := by omega
            rw [e]; rfl)
         | (have e : S.2.1 k ≠ 0 ∧ S.2.1 k ≠ 5 ∧ ¬ (S.2.1 k = 6 ∨ S.2.1 k = 7) := by omega
            rw [if_neg e.1, if_neg e.2.1, if_neg e.2.2]; rfl)
         | (have e : S.2.1 k ≠ 0 ∧ S.2.1 k ≠ 5 ∧ (S.2.1 k = 6 ∨ S.2.1 k = 7) := by omega
            rw [if_neg e.1, if_neg e.2.1, if_pos e.2.2]
            show Sum.inl (some (Value.int (I (q + 2) (nI k).toNatClampNeg))) = _
            rw [ec, a2]))
    | 7, ho6, h6 =>
      cases ho6
      first
      | (exfalso; omega)
      | (refine ⟨kq, _, bl_vs rq_1, Or.inl ⟨km, (by first | exact (by rw [nm]; exact vp_in_nI (by omega) (by omega)) | ((try dsimp only [bl_pv]); show vp_in _ (N _); rw [nm]; simp (disch := omega) only [a1, zI_n, zI_o, zI_lit, zI_neg, zI_add, zI_sub, zI_mul, zI_lt, zI_le, zI_eq, zI_clamp, zI_in, zI_div, zI_rem, lg_lt0, lg_gt0, lg_eq0, lg_le0, lg_ge0, Int.toNat_natCast, ge_iff_le, gt_iff_lt, List.length_cons, List.length_nil, bl_up2_at, bl_up2_nk, bl_up2_nx] <;> omega)), (fun h => by cases h), ?_⟩⟩
         try show _ ∧ _
         try dsimp only [bl_pv]
         refine ⟨?_, rfl⟩
         unfold st_un
         first
         | (have e : S.2.1 k = 0 := by omega
            rw [if_pos e]; rfl)
         | (have e : S.2.1 k = 5 := by omega
            rw [e]; rfl)
         | (have e : S.2.1 k ≠ 0 ∧ S.2.1 k ≠ 5 ∧ ¬ (S.2.1 k = 6 ∨ S.2.1 k = 7) := by omega
            rw [if_neg e.1, if_neg e.2.1, if_neg e.2.2]; rfl)
         | (have e : S.2.1 k ≠ 0 ∧ S.2.1 k ≠ 5 ∧ (S.2.1 k = 6 ∨ S.2.1 k = 7) := by omega
            rw [if_neg e.1, if_neg e.2.1, if_pos e.2.2]
            show Sum.inl (some (Value.int (I (q + 2) (nI k).toNatClampNeg))) = _
            rw [ec, a2]))
    | _ + 8, ho6, _ => exact absurd ho6 (by simp)
end RECIPE
