/-! ===== Bench: recipes in blocks ===== -/
/-- the block that is being made, units of the blocks, rests ahead of them -/
abbrev bkS : Type := Nat × (Nat → Nat) × (Nat → Nat)
def bkE (S : bkS) : bkS := if S.2.1 S.1 = 0 then S else (S.1 + 1, S.2.1, S.2.2)
def bkF (rc : sq) : Nat → bkS
  | 0 => (0, fun _ => 0, fun _ => 0)
  | k + 1 => if rc.2.1 k = 6 then ((bkE (bkF rc k)).1, (bkE (bkF rc k)).2.1, up1 (bkE (bkF rc k)).2.2 (bkE (bkF rc k)).1 ((bkE (bkF rc k)).2.2 (bkE (bkF rc k)).1 + st_un (rc.2.1 k) (rc.2.2 k)))
    else ((bkF rc k).1, up1 (bkF rc k).2.1 (bkF rc k).1 ((bkF rc k).2.1 (bkF rc k).1 + st_un (rc.2.1 k) (rc.2.2 k)), (bkF rc k).2.2)
def bkD (rc : sq) : bkS := bkE (bkF rc rc.1)
/-- how many blocks there can be behind k steps, what is not yet reached, how great all is -/
def bkK (S : bkS) (k : Nat) : Prop := S.1 + (if S.2.1 S.1 = 0 then 0 else 1) ≤ k ∧ (∀ j, S.1 < j → S.2.1 j = 0 ∧ S.2.2 j = 0) ∧ (∀ j, S.2.1 j ≤ 36 * k ∧ S.2.2 j ≤ 36 * k) ∧ ∀ j, j < S.1 → S.2.1 j ≠ 0
theorem bkE_K {S : bkS} {k : Nat} (h : bkK S k) : bkK (bkE S) k := by
  unfold bkE
  by_cases e : S.2.1 S.1 = 0
  · rw [if_pos e]; exact h
  · rw [if_neg e]
    obtain ⟨h1, h2, h3, h4⟩ := h
    rw [if_neg e] at h1
    refine ⟨?_, fun j hj => h2 j (by have : S.1 + 1 < j := hj; omega), h3, fun j hj => ?_⟩
    · show S.1 + 1 + (if S.2.1 (S.1 + 1) = 0 then 0 else 1) ≤ k
      rw [if_pos (h2 (S.1 + 1) (by omega)).1]; omega
    · have hj' : j < S.1 + 1 := hj
      by_cases e2 : j = S.1
      · rw [e2]; exact e
      · exact h4 j (by omega)
theorem bkF_K {rc : sq} (hr : ∀ k, k < rc.1 → rc.2.2 k ≤ 36) : ∀ k, k ≤ rc.1 → bkK (bkF rc k) k
  | 0, _ => ⟨Nat.le_refl _, fun _ _ => ⟨rfl, rfl⟩, fun _ => ⟨Nat.le_refl _, Nat.le_refl _⟩, fun _ h => absurd h (Nat.not_lt_zero _)⟩
  | k + 1, hk => by
    have ih := bkF_K hr k (by omega)
    have hu : st_un (rc.2.1 k) (rc.2.2 k) ≤ 36 := st_un_le (hr k (by omega))
    unfold bkF
    by_cases e : rc.2.1 k = 6
    · rw [if_pos e]
      obtain ⟨h1, h2, h3, h4⟩ := bkE_K ih
      generalize bkE (bkF rc k) = S at *
      refine ⟨?_, fun j hj => ?_, fun j => ?_, h4⟩
      · show S.1 + (if S.2.1 S.1 = 0 then 0 else 1) ≤ k + 1
        omega
      · have hj' : S.1 < j := hj
        refine ⟨(h2 j hj').1, ?_⟩
        show up1 S.2.2 S.1 _ j = 0
        rw [up1_ne (by omega)]; exact (h2 j hj').2
      · refine ⟨by have := (h3 j).1; show S.2.1 j ≤ _; omega, ?_⟩
        show up1 S.2.2 S.1 _ j ≤ _
        by_cases e2 : j = S.1
        · rw [e2, up1_at]; have := (h3 S.1).2; omega
        · rw [up1_ne e2]; have := (h3 j).2; omega
    · rw [if_neg e]
      obtain ⟨h1, h2, h3, h4⟩ := ih
      generalize bkF rc k = S at *
      refine ⟨?_, fun j hj => ?_, fun j => ?_, fun j hj => ?_⟩
      · show S.1 + (if up1 S.2.1 S.1 _ S.1 = 0 then 0 else 1) ≤ k + 1
        have : S.1 ≤ k := by omega
        split <;> omega
      · have hj' : S.1 < j := hj
        refine ⟨?_, (h2 j hj').2⟩
        show up1 S.2.1 S.1 _ j = 0
        rw [up1_ne (by omega)]; exact (h2 j hj').1
      · refine ⟨?_, by have := (h3 j).2; show S.2.2 j ≤ _; omega⟩
        show up1 S.2.1 S.1 _ j ≤ _
        by_cases e2 : j = S.1
        · rw [e2, up1_at]; have := (h3 S.1).1; omega
        · rw [up1_ne e2]; have := (h3 j).1; omega
      · have hj' : j < S.1 := hj
        show up1 S.2.1 S.1 _ j ≠ 0
        rw [up1_ne (by omega)]; exact h4 j hj'
section BENCH7
variable {G : bl_G} {l : Launch} {d q p : Nat} {I : Nat → Nat → Int32} {J : Nat → Nat → Int64} {R : Nat → Nat → Option Nat} {K N : Nat → Nat}
/-- the rows of the blocks hold S from w on -/
def bkI (I : Nat → Nat → Int32) (q w : Nat) (S : bkS) : Prop := ∀ j, j ≤ S.1 → I (q + 1) (w + j) = nI (S.2.1 j) ∧ I (q + 2) (w + j) = nI (S.2.2 j)
/-- only units and rests from w to w + 21 may change -/
def bkM (I I' : Nat → Nat → Int32) (q w : Nat) : Prop := (∀ x, x ≠ q + 1 → x ≠ q + 2 → I' x = I x) ∧ ∀ j, (j < w ∨ w + 22 ≤ j) → I' (q + 1) j = I (q + 1) j ∧ I' (q + 2) j = I (q + 2) j
theorem bkM.trans {I' I'' : Nat → Nat → Int32} {w : Nat} (h : bkM I I' q w) (h' : bkM I' I'' q w) : bkM I I'' q w := ⟨fun x a b => (h'.1 x a b).trans (h.1 x a b), fun j hj => ⟨((h'.2 j hj).1).trans (h.2 j hj).1, ((h'.2 j hj).2).trans (h.2 j hj).2⟩⟩
theorem c_Bench_endBlock {S : bkS} {w k : Nat} {x y : Int32} (hq : bnS R K N q) (hS : bkI I q w S) (hK : bkK S k) (hk : k ≤ 20) (hw : w ≤ 66) (hx : x = nI w) (hy : y = nI S.1) : bl_MC G l d mX0_endBlock [.ref q, .int x, .int y] (I, J, R, K, N) (0, 0) (fun o σ' => o = .inl (some (.int (nI (bkE S).1))) ∧ ∃ I', σ' = (I', J, R, K, N) ∧ bkM I I' q w ∧ bkI I' q w (bkE S)) := by
  obtain ⟨hq0, kq, ⟨rq_0, rq_1, rq_2, rq_3, rq_4, rq_5, rq_6, rq_7, rq_8, rq_9, rq_10, rq_11⟩, ⟨kq1, kq2, kq3, kq4, kq5, kq6, kq7, kq8, kq9, kq10, kq11, kq12⟩, ⟨nq1, nq2, nq3, nq4, nq5, nq6, nq7, nq8, nq9, nq10, nq11, nq12⟩⟩ := hq
  obtain ⟨h1, h2, h3, h4⟩ := hK
  have hS1 : S.1 ≤ 20 := by omega
  have e0 := (hS S.1 (Nat.le_refl _)).1
  have b0 := (h3 S.1).1
  have em : nI w + nI S.1 = nI (w + S.1) := nI_add _ _
  have ec : (nI (w + S.1)).toNatClampNeg = w + S.1 := nI_clamp (by omega)
  have ec1 : (nI (w + S.1) + 1).toNatClampNeg = w + S.1 + 1 := by rw [nI_1]; exact nI_clamp (by omega)
  subst hx hy
  refine bl_MC_intro (by decide +kernel) rfl (Nat.le_of_ble_eq_true rfl) ?_
  refine bl_go oX0_endBlock 80 [] rfl ?_
  refine ⟨kq, _, bl_vs rq_0, Or.inl ⟨kq1, (by (try dsimp only [bl_pv]); show vp_in _ (N _); rw [nq1, em]; exact vp_in_nI (by omega) (by omega)), fun h8 => ?_, fun h8 => ?_⟩⟩
  · try simp (disch := omega) only [bl_pv, cl0, cl1, cl2, cl3, cl4, cl5, cl6, cl7, cl8, cl9, bl_up2_at, bl_up2_nk, bl_up2_nx] at h8
    rw [em, ec, e0] at h8
    have hne : S.2.1 S.1 ≠ 0 := fun e => h8 (by rw [e]; rfl)
    have hs1 : S.1 + 1 ≤ 20 := by rw [if_neg hne] at h1; omega
    refine ⟨kq, _, bl_vs rq_0, kq1, (by (try dsimp only [bl_pv]); show vp_in _ (N _); rw [nq1, em, nI_1]; exact vp_in_nI (by omega) (by omega)), kq, _, bl_vs rq_1, kq2, (by (try dsimp only [bl_pv]); show vp_in _ (N _); rw [nq2, em, nI_1]; exact vp_in_nI (by omega) (by omega)), (fun h => by cases h), ?_⟩
    try show _ ∧ _
    try dsimp only [bl_pv]
    have e : bkE S = (S.1 + 1, S.2.1, S.2.2) := if_neg hne
    rw [e, em, ec1]
    refine ⟨by rw [nI_1], _, rfl, ⟨fun x x1 x2 => by rw [bl_up2_ne x2, bl_up2_ne x1], fun j hj => ?_⟩, fun j hj => ?_⟩
    · rw [bl_up2_ne (show q + 1 ≠ q + 2 by omega), bl_up2_nk (by omega), bl_up2_nk (by omega), bl_up2_ne (by omega)]; exact ⟨rfl, rfl⟩
    · have hj' : j ≤ S.1 + 1 := hj
      rw [bl_up2_ne (show q + 1 ≠ q + 2 by omega)]
      by_cases e2 : j = S.1 + 1
      · rw [e2, show w + (S.1 + 1) = w + S.1 + 1 by omega, bl_up2_at, bl_up2_at]
        obtain ⟨z1, z2⟩ := h2 (S.1 + 1) (by omega)
        exact ⟨by show _ = nI (S.2.1 (S.1 + 1)); rw [z1]; rfl, by show _ = nI (S.2.2 (S.1 + 1)); rw [z2]; rfl⟩
      · rw [bl_up2_nk (by omega), bl_up2_nk (by omega), bl_up2_ne (by omega)]
        exact hS j (by omega)
  · try simp (disch := omega) only [bl_pv, cl0, cl1, cl2, cl3, cl4, cl5, cl6, cl7, cl8, cl9, bl_up2_at, bl_up2_nk, bl_up2_nx] at h8
    rw [em, ec, e0] at h8
    have hne : S.2.1 S.1 = 0 := by
      have := congrArg Int32.toNatClampNeg h8
      rw [nI_clamp (by omega)] at this; exact this
    refine ⟨(fun h => by cases h), ?_⟩
    try show _ ∧ _
    try dsimp only [bl_pv]
    have e : bkE S = S := if_pos hne
    rw [e]
    exact ⟨rfl, I, rfl, ⟨fun _ _ _ => rfl, fun _ _ => ⟨rfl, rfl⟩⟩, hS⟩
end BENCH7
