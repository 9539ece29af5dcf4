/-! ===== Model: kitchen ===== -/
def mpB (I I' : Nat → Nat → Int32) (m : Nat) : Nat → Nat → Int32 := fun x => if x = m then I m else I' x
theorem mpB_ne {I I' : Nat → Nat → Int32} {m x : Nat} (h : x ≠ m) : mpB I I' m x = I' x := by simp [mpB, h]
theorem mpB_m {I I' : Nat → Nat → Int32} {m : Nat} : mpB I I' m m = I m := by simp [mpB]
theorem mpI_of {I I' : Nat → Nat → Int32} {m : Nat} {a b c e : Int32} (h : I' m = mpI I m a b c e m) : I' = mpI (mpB I I' m) m a b c e := by
  funext x j
  by_cases ex : x = m
  · subst ex
    rw [h]
    unfold mpI
    rw [if_pos rfl, if_pos rfl, mpB_m]
  · rw [mpI_ne ex, mpB_ne ex]
theorem bl_up2_up2 {I : Nat → Nat → Int32} {x k : Nat} {v w : Int32} : bl_up2 (bl_up2 I x k v) x k w = bl_up2 I x k w := by
  funext y j
  unfold bl_up2
  by_cases e : y = x ∧ j = k
  · rw [if_pos e, if_pos e]
  · rw [if_neg e, if_neg e, if_neg e]
theorem bl_up2_self {I : Nat → Nat → Int32} {x k : Nat} : bl_up2 I x k (I x k) = I := by
  funext y j
  unfold bl_up2
  by_cases e : y = x ∧ j = k
  · rw [if_pos e, e.1, e.2]
  · rw [if_neg e]
theorem pkit_sk {B : Nat → Int32} {n f c : Nat} {S : kst} {i : Nat} (hn : n ≤ 400) (hi : i ≤ n) : pkit B n f c S (skB B n i) = pkit B n f c S i := by
  cases f with
  | zero => rfl
  | succ f => rw [pkit_c, pkit_c]; unfold pkc; rw [skB_id hn hi]
section MODEL8
variable {G : bl_G} {l : Launch} {d m : Nat} {I : Nat → Nat → Int32} {J : Nat → Nat → Int64} {R : Nat → Nat → Option Nat} {K N : Nat → Nat} {fa : Int32} {n : Nat}
theorem c_Model_bad {x y : Int32} (km : K m = 12) : bl_MC G l d mX11_bad [.ref m, .int x, .int y] (I, J, R, K, N) (0, 0) (fun o σ' => ∃ t, t = (if x ≠ 0 ∧ I m 0 = 0 then y else I m 0) ∧ σ' = (bl_up2 I m 0 t, J, R, K, N) ∧ o = .inl (some (.int (if t = 0 then 0 else 1)))) := by
  refine bl_MC_intro (by decide +kernel) rfl (Nat.le_of_ble_eq_true rfl) ?_
  have L : ∀ t, bl_WP G l d mX11_bad 16 [(0, .ref m), (1, .int x), (2, .int y)] [] (bl_up2 I m 0 t, J, R, K, N) (0, 0) (fun o σ' => σ' = (bl_up2 I m 0 t, J, R, K, N) ∧ o = .inl (some (.int (if t = 0 then 0 else 1)))) := by
    intro t
    refine bl_go oX11_bad 80 [16] rfl ?_
    refine ⟨km, fun h20 => ?_, fun h20 => ?_⟩
    · try simp (disch := omega) only [bl_pv, cl0, cl1, cl2, cl3, cl4, cl5, cl6, cl7, cl8, cl9, bl_up2_at, bl_up2_nk, bl_up2_nx] at h20
      first
      | (exfalso; first | omega | exact h20 trivial)
      | (refine ⟨(fun _ => by first | exact Or.inl rfl | exact Or.inr rfl), ?_⟩
         try show _ ∧ _
         try dsimp only [bl_pv]
         first
         | (rw [if_pos h20]; exact ⟨rfl, rfl⟩)
         | (rw [if_neg h20]; exact ⟨rfl, rfl⟩))
    · try simp (disch := omega) only [bl_pv, cl0, cl1, cl2, cl3, cl4, cl5, cl6, cl7, cl8, cl9, bl_up2_at, bl_up2_nk, bl_up2_nx] at h20
      first
      | (exfalso; first | omega | exact h20 trivial)
      | (refine ⟨(fun _ => by first | exact Or.inl rfl | exact Or.inr rfl), ?_⟩
         try show _ ∧ _
         try dsimp only [bl_pv]
         first
         | (rw [if_pos h20]; exact ⟨rfl, rfl⟩)
         | (rw [if_neg h20]; exact ⟨rfl, rfl⟩))
  have L' : ∀ t I', I' = bl_up2 I m 0 t → t = (if x ≠ 0 ∧ I m 0 = 0 then y else I m 0) → bl_WP G l d mX11_bad 16 [(0, .ref m), (1, .int x), (2, .int y)] [] (I', J, R, K, N) (0, 0) (fun o σ' => ∃ t, t = (if x ≠ 0 ∧ I m 0 = 0 then y else I m 0) ∧ σ' = (bl_up2 I m 0 t, J, R, K, N) ∧ o = .inl (some (.int (if t = 0 then 0 else 1)))) := by
    intro t I' hI ht
    subst hI
    exact bl_WP_mono (L t) (fun o σ' h => ⟨t, ht, h⟩)
  refine bl_go oX11_bad 80 [16] rfl ?_
  refine ⟨fun h1 => ?_, fun h1 => ?_⟩
  · try simp (disch := omega) only [bl_pv, cl0, cl1, cl2, cl3, cl4, cl5, cl6, cl7, cl8, cl9, bl_up2_at, bl_up2_nk, bl_up2_nx] at h1
    first
    | (exfalso; first | omega | exact h1 trivial)
    | (try dsimp only [bl_pv]
       first
       | (have hq := h8; exact L' _ _ rfl (by rw [if_pos ⟨h1, hq⟩]))
       | (have hq := h8; exact L' _ _ bl_up2_self.symm (by rw [if_neg (fun h => hq h.2)]))
       | exact L' _ _ bl_up2_self.symm (by rw [if_neg (fun h => h.1 h1)]))
  · try simp (disch := omega) only [bl_pv, cl0, cl1, cl2, cl3, cl4, cl5, cl6, cl7, cl8, cl9, bl_up2_at, bl_up2_nk, bl_up2_nx] at h1
    first
    | (exfalso; first | omega | exact h1 trivial)
    | (refine ⟨km, fun h8 => ?_, fun h8 => ?_⟩
       · try simp (disch := omega) only [bl_pv, cl0, cl1, cl2, cl3, cl4, cl5, cl6, cl7, cl8, cl9, bl_up2_at, bl_up2_nk, bl_up2_nx] at h8
         first
         | (exfalso; first | omega | exact h8 trivial)
         | (try dsimp only [bl_pv]
            first
            | (have hq := h8; exact L' _ _ rfl (by rw [if_pos ⟨h1, hq⟩]))
            | (have hq := h8; exact L' _ _ bl_up2_self.symm (by rw [if_neg (fun h => hq h.2)]))
            | exact L' _ _ bl_up2_self.symm (by rw [if_neg (fun h => h.1 h1)]))
       · try simp (disch := omega) only [bl_pv, cl0, cl1, cl2, cl3, cl4, cl5, cl6, cl7, cl8, cl9, bl_up2_at, bl_up2_nk, bl_up2_nx] at h8
         first
         | (exfalso; first | omega | exact h8 trivial)
         | (refine ⟨km, Or.inr (Or.inr ⟨rfl, rfl, _, rfl⟩), (fun h => by cases h), ?_⟩
            try dsimp only [bl_pv]
            first
            | (have hq := h8; exact L' _ _ rfl (by rw [if_pos ⟨h1, hq⟩]))
            | (have hq := h8; exact L' _ _ bl_up2_self.symm (by rw [if_neg (fun h => hq h.2)]))
            | exact L' _ _ bl_up2_self.symm (by rw [if_neg (fun h => h.1 h1)])))
/-- what the model's kitchen leaves -/
def kiF (I I' : Nat → Nat → Int32) (m : Nat) : Prop := (∀ x, x ≠ m → x ≠ m + 9 → x ≠ m + 10 → x ≠ m + 11 → x ≠ m + 12 → I' x = I x) ∧ ∀ j, 8 ≤ j → j ≠ 14 → j ≠ 15 → I' m j = I m j
def un0 : kst := (km_un, fun _ => zI (-1))
theorem c_Model_kit70 (hm : mdS R K N m) : ∀ I1 M r, (∀ x, x ≠ m → x ≠ m + 9 → x ≠ m + 11 → I1 x = I x) → (∀ j, 8 ≤ j → I1 m j = I m j) → I1 m 0 = 0 → I1 m 1 = 0 → r = pkit (I (m + 8)) n 31 0 un0 0 → (∀ S, r = .inl S → kR I1 m S ∧ pM I1 m n (.inl n) (zI (-1)) M) → (∀ f, r = .inr f → pM I1 m n (.inr f) (zI (-1)) M) → bl_WP G l (d + 6) mX11_kitchen 70 [(0, .ref m), (1, .int (nI n))] [] (M, J, R, K, N) (0, 0) (fun o σ' => ∃ I', σ' = (I', J, R, K, N) ∧ kiF I I' m ∧ I' m 0 = 0 ∧ I' m 1 = 0 ∧ ((∃ S, pkit (I (m + 8)) n 31 0 un0 0 = .inl S ∧ o = .inl (some (.int (S.1 0 * S.1 1))) ∧ I' m 3 = zI (-1) ∧ (∀ k, k < 9 → I' (m + 10) k = S.1 k) ∧ (∀ k, k < 24 → I' (m + 12) k = S.2 k) ∧ I' m 14 = 12 * S.1 8 ∧ I' m 15 = 0) ∨ (∃ f, pkit (I (m + 8)) n 31 0 un0 0 = .inr f ∧ o = .inl (some (.int (nI f.1 - 10))) ∧ I' m 3 = nI f.2 ∧ I' (m + 10) = I (m + 10) ∧ I' (m + 12) = I (m + 12) ∧ I' m 14 = I m 14 ∧ I' m 15 = I m 15))) := by
  intro I1 M r f1 f2 f3 f4 hr hl hf
  have km := hm.2.1
  obtain ⟨rm_9, km9, nm9⟩ := hm.f9
  obtain ⟨rm_10, km10, nm10⟩ := hm.f10
  obtain ⟨rm_11, km11, nm11⟩ := hm.f11
  obtain ⟨rm_12, km12, nm12⟩ := hm.f12
  cases r with
  | inr f =>
    obtain ⟨k1, e, k2, rfl⟩ := hf f rfl
    have h5 : ∀ v, bl_up2 (mpI I1 m (nI n) (nI e) (nI f.1) (nI f.2)) m 3 v m 5 = nI f.1 := fun v => (bl_up2_nk (by omega)).trans mp5
    refine bl_go oX11_kitchen 80 [70, 95, 121] rfl ?_
    refine ⟨km, km, Or.inr (Or.inr ⟨rfl, rfl, _, rfl⟩), (fun h => by cases h), km, fun h82 => ?_, fun h82 => ?_⟩
    · try simp (disch := omega) only [bl_pv, cl0, cl1, cl2, cl3, cl4, cl5, cl6, cl7, cl8, cl9, bl_up2_at, bl_up2_nk, bl_up2_nx] at h82
      exact absurd (mp5.symm.trans h82) (nI_k k1)
    · try simp (disch := omega) only [bl_pv, cl0, cl1, cl2, cl3, cl4, cl5, cl6, cl7, cl8, cl9, bl_up2_at, bl_up2_nk, bl_up2_nx] at h82
      first
      | (exfalso; first | omega | exact h82 trivial)
      | (refine ⟨km, (fun h => by cases h), ?_⟩
         try show _ ∧ _
         try dsimp only [bl_pv]
         refine ⟨_, rfl, ⟨fun x x1 x2 x3 x4 x5 => ?_, fun j j1 j2 j3 => ?_⟩, ?_, ?_, Or.inr ⟨f, hr.symm, ?_, ?_, ?_, ?_, ?_, ?_⟩⟩
         · rw [bl_up2_ne x1, mpI_ne x1]; exact f1 x x1 x2 x4
         · rw [bl_up2_nk (by omega), mpx (by omega) (by omega) (by omega) (by omega)]; exact f2 j j1
         · rw [bl_up2_nk (by omega), mpx (by omega) (by omega) (by omega) (by omega)]; exact f3
         · rw [bl_up2_nk (by omega), mpx (by omega) (by omega) (by omega) (by omega)]; exact f4
         · rw [h5]
         · rw [bl_up2_at, mp6]
         · rw [bl_up2_ne (by omega), mpI_ne (by omega)]; exact f1 _ (by omega) (by omega) (by omega)
         · rw [bl_up2_ne (by omega), mpI_ne (by omega)]; exact f1 _ (by omega) (by omega) (by omega)
         · rw [bl_up2_nk (by omega), mpx (by omega) (by omega) (by omega) (by omega)]; exact f2 _ (by omega)
         · rw [bl_up2_nk (by omega), mpx (by omega) (by omega) (by omega) (by omega)]; exact f2 _ (by omega))
  | inl S =>
    obtain ⟨hk, -, rfl⟩ := hl S rfl
    have h5 : ∀ v, bl_up2 (mpI I1 m (nI n) (nI n) 0 (zI (-1))) m 3 v m 5 = 0 := fun v => (bl_up2_nk (by omega)).trans mp5
    have L121 : ∀ k, k ≤ 24 → ∀ z I2, z = nI k → (∀ x, x ≠ m → x ≠ m + 9 → x ≠ m + 10 → x ≠ m + 11 → x ≠ m + 12 → I2 x = I x) → (∀ j, 8 ≤ j → I2 m j = I m j) → I2 m 0 = 0 → I2 m 1 = 0 → I2 m 3 = zI (-1) → (∀ k, k < 24 → I2 (m + 11) k = S.2 k) → (∀ k, k < 9 → I2 (m + 10) k = S.1 k) → (∀ j, j < k → I2 (m + 12) j = S.2 j) → bl_WP G l (d + 6) mX11_kitchen 121 [(2, .int z), (0, .ref m), (1, .int (nI n))] [] (I2, J, R, K, N) (0, 0) (fun o σ' => ∃ I', σ' = (I', J, R, K, N) ∧ kiF I I' m ∧ I' m 0 = 0 ∧ I' m 1 = 0 ∧ ((∃ S, pkit (I (m + 8)) n 31 0 un0 0 = .inl S ∧ o = .inl (some (.int (S.1 0 * S.1 1))) ∧ I' m 3 = zI (-1) ∧ (∀ k, k < 9 → I' (m + 10) k = S.1 k) ∧ (∀ k, k < 24 → I' (m + 12) k = S.2 k) ∧ I' m 14 = 12 * S.1 8 ∧ I' m 15 = 0) ∨ (∃ f, pkit (I (m + 8)) n 31 0 un0 0 = .inr f ∧ o = .inl (some (.int (nI f.1 - 10))) ∧ I' m 3 = nI f.2 ∧ I' (m + 10) = I (m + 10) ∧ I' (m + 12) = I (m + 12) ∧ I' m 14 = I m 14 ∧ I' m 15 = I m 15))) := by
      refine bl_for 24 ?_ (fun k hk ih => ?_)
      · intro z I2 hz a1 a2 a3 a4 a5 a6 a7 a8; subst hz
        refine bl_go oX11_kitchen 80 [70, 95, 121] rfl ?_
        refine ⟨fun h124 => ?_, fun h124 => ?_⟩
        · try simp (disch := omega) only [zI_n, zI_o, zI_lit, zI_neg, zI_add, zI_sub, zI_mul, zI_lt, zI_le, zI_eq, zI_clamp, zI_in, zI_div, zI_rem, lg_lt0, lg_gt0, lg_eq0, lg_le0, lg_ge0, Int.toNat_natCast, ge_iff_le, gt_iff_lt, List.length_cons, List.length_nil, bl_up2_at, bl_up2_nk, bl_up2_nx] at h124
          refine ⟨km, _, bl_vs rm_10, Or.inl ⟨km10, (by first | exact (by rw [nm10]; exact vp_in_nI (by omega) (by omega)) | ((try dsimp only [bl_pv]); show vp_in _ (N _); rw [nm10]; simp (disch := omega) only [zI_n, zI_o, zI_lit, zI_neg, zI_add, zI_sub, zI_mul, zI_lt, zI_le, zI_eq, zI_clamp, zI_in, zI_div, zI_rem, lg_lt0, lg_gt0, lg_eq0, lg_le0, lg_ge0, Int.toNat_natCast, ge_iff_le, gt_iff_lt, List.length_cons, List.length_nil, bl_up2_at, bl_up2_nk, bl_up2_nx] <;> omega)), km, Or.inr (Or.inr ⟨rfl, rfl, _, rfl⟩), (fun h => by cases h), km, Or.inr (Or.inr ⟨rfl, rfl, _, rfl⟩), (fun h => by cases h), km, _, bl_vs rm_10, Or.inl ⟨km10, (by first | exact (by rw [nm10]; exact vp_in_nI (by omega) (by omega)) | ((try dsimp only [bl_pv]); show vp_in _ (N _); rw [nm10]; simp (disch := omega) only [zI_n, zI_o, zI_lit, zI_neg, zI_add, zI_sub, zI_mul, zI_lt, zI_le, zI_eq, zI_clamp, zI_in, zI_div, zI_rem, lg_lt0, lg_gt0, lg_eq0, lg_le0, lg_ge0, Int.toNat_natCast, ge_iff_le, gt_iff_lt, List.length_cons, List.length_nil, bl_up2_at, bl_up2_nk, bl_up2_nx] <;> omega)), km, _, bl_vs rm_10, Or.inl ⟨km10, (by first | exact (by rw [nm10]; exact vp_in_nI (by omega) (by omega)) | ((try dsimp only [bl_pv]); show vp_in _ (N _); rw [nm10]; simp (disch := omega) only [zI_n, zI_o, zI_lit, zI_neg, zI_add, zI_sub, zI_mul, zI_lt, zI_le, zI_eq, zI_clamp, zI_in, zI_div, zI_rem, lg_lt0, lg_gt0, lg_eq0, lg_le0, lg_ge0, Int.toNat_natCast, ge_iff_le, gt_iff_lt, List.length_cons, List.length_nil, bl_up2_at, bl_up2_nk, bl_up2_nx] <;> omega)), (fun h => by cases h), ?_⟩⟩⟩⟩
          try show _ ∧ _
          try dsimp only [bl_pv]
          refine ⟨_, rfl, ⟨fun x x1 x2 x3 x4 x5 => ?_, fun j j1 j2 j3 => ?_⟩, ?_, ?_, Or.inl ⟨S, hr.symm, ?_, ?_, fun k hk => ?_, fun k hk => ?_, ?_, ?_⟩⟩
          · rw [bl_up2_ne x1, bl_up2_ne x1]; exact a1 x x1 x2 x3 x4 x5
          · rw [bl_up2_nk (by omega), bl_up2_nk (by omega)]; exact a2 j j1
          · rw [bl_up2_nk (by omega), bl_up2_nk (by omega)]; exact a3
          · rw [bl_up2_nk (by omega), bl_up2_nk (by omega)]; exact a4
          · rw [bl_up2_ne (by omega), bl_up2_ne (by omega), cl0, cl1, a7 0 (by omega), a7 1 (by omega)]
          · rw [bl_up2_nk (by omega), bl_up2_nk (by omega)]; exact a5
          · rw [bl_up2_ne (by omega), bl_up2_ne (by omega)]; exact a7 k hk
          · rw [bl_up2_ne (by omega), bl_up2_ne (by omega)]; exact a8 k hk
          · rw [bl_up2_nk (by omega), bl_up2_at, cl8, a7 8 (by omega)]
          · rw [bl_up2_at]
        · try simp (disch := omega) only [zI_n, zI_o, zI_lit, zI_neg, zI_add, zI_sub, zI_mul, zI_lt, zI_le, zI_eq, zI_clamp, zI_in, zI_div, zI_rem, lg_lt0, lg_gt0, lg_eq0, lg_le0, lg_ge0, Int.toNat_natCast, ge_iff_le, gt_iff_lt, List.length_cons, List.length_nil, bl_up2_at, bl_up2_nk, bl_up2_nx] at h124
          exfalso; omega
      · intro z I2 hz a1 a2 a3 a4 a5 a6 a7 a8; subst hz
        have ec : (nI k).toNatClampNeg = k := nI_clamp (by omega)
        refine bl_go oX11_kitchen 80 [70, 95, 121] rfl ?_
        refine ⟨fun h124 => ?_, fun h124 => ?_⟩
        · try simp (disch := omega) only [zI_n, zI_o, zI_lit, zI_neg, zI_add, zI_sub, zI_mul, zI_lt, zI_le, zI_eq, zI_clamp, zI_in, zI_div, zI_rem, lg_lt0, lg_gt0, lg_eq0, lg_le0, lg_ge0, Int.toNat_natCast, ge_iff_le, gt_iff_lt, List.length_cons, List.length_nil, bl_up2_at, bl_up2_nk, bl_up2_nx] at h124
          exfalso; omega
        · try simp (disch := omega) only [zI_n, zI_o, zI_lit, zI_neg, zI_add, zI_sub, zI_mul, zI_lt, zI_le, zI_eq, zI_clamp, zI_in, zI_div, zI_rem, lg_lt0, lg_gt0, lg_eq0, lg_le0, lg_ge0, Int.toNat_natCast, ge_iff_le, gt_iff_lt, List.length_cons, List.length_nil, bl_up2_at, bl_up2_nk, bl_up2_nx] at h124
          refine ⟨km, _, bl_vs rm_12, km, _, bl_vs rm_11, Or.inl ⟨km11, (by first | exact (by rw [nm11]; exact vp_in_nI (by omega) (by omega)) | ((try dsimp only [bl_pv]); show vp_in _ (N _); rw [nm11]; simp (disch := omega) only [zI_n, zI_o, zI_lit, zI_neg, zI_add, zI_sub, zI_mul, zI_lt, zI_le, zI_eq, zI_clamp, zI_in, zI_div, zI_rem, lg_lt0, lg_gt0, lg_eq0, lg_le0, lg_ge0, Int.toNat_natCast, ge_iff_le, gt_iff_lt, List.length_cons, List.length_nil, bl_up2_at, bl_up2_nk, bl_up2_nx] <;> omega)), km12, (by first | exact (by rw [nm12]; exact vp_in_nI (by omega) (by omega)) | ((try dsimp only [bl_pv]); show vp_in _ (N _); rw [nm12]; simp (disch := omega) only [zI_n, zI_o, zI_lit, zI_neg, zI_add, zI_sub, zI_mul, zI_lt, zI_le, zI_eq, zI_clamp, zI_in, zI_div, zI_rem, lg_lt0, lg_gt0, lg_eq0, lg_le0, lg_ge0, Int.toNat_natCast, ge_iff_le, gt_iff_lt, List.length_cons, List.length_nil, bl_up2_at, bl_up2_nk, bl_up2_nx] <;> omega)), ?_⟩⟩
          try dsimp only [bl_pv]
          rw [ec]
          refine ih _ _ (nI_1 _) (fun x x1 x2 x3 x4 x5 => by rw [bl_up2_ne x5]; exact a1 x x1 x2 x3 x4 x5) (fun j hj => by rw [bl_up2_ne (by omega)]; exact a2 j hj) (by rw [bl_up2_ne (by omega)]; exact a3) (by rw [bl_up2_ne (by omega)]; exact a4) (by rw [bl_up2_ne (by omega)]; exact a5) (fun k hk => by rw [bl_up2_ne (by omega)]; exact a6 k hk) (fun k hk => by rw [bl_up2_ne (by omega)]; exact a7 k hk) (fun j hj => ?_)
          by_cases e : j = k
          · subst e; rw [bl_up2_at]; exact a6 j (by omega)
          · rw [bl_up2_nk e]; exact a8 j (by omega)
    have L95 : ∀ k, k ≤ 9 → ∀ z I2, z = nI k → (∀ x, x ≠ m → x ≠ m + 9 → x ≠ m + 10 → x ≠ m + 11 → x ≠ m + 12 → I2 x = I x) → (∀ j, 8 ≤ j → I2 m j = I m j) → I2 m 0 = 0 → I2 m 1 = 0 → I2 m 3 = zI (-1) → (∀ k, k < 24 → I2 (m + 11) k = S.2 k) → (∀ k, k < 9 → I2 (m + 9) k = S.1 k) → (∀ j, j < k → I2 (m + 10) j = S.1 j) → bl_WP G l (d + 6) mX11_kitchen 95 [(2, .int z), (0, .ref m), (1, .int (nI n))] [] (I2, J, R, K, N) (0, 0) (fun o σ' => ∃ I', σ' = (I', J, R, K, N) ∧ kiF I I' m ∧ I' m 0 = 0 ∧ I' m 1 = 0 ∧ ((∃ S, pkit (I (m + 8)) n 31 0 un0 0 = .inl S ∧ o = .inl (some (.int (S.1 0 * S.1 1))) ∧ I' m 3 = zI (-1) ∧ (∀ k, k < 9 → I' (m + 10) k = S.1 k) ∧ (∀ k, k < 24 → I' (m + 12) k = S.2 k) ∧ I' m 14 = 12 * S.1 8 ∧ I' m 15 = 0) ∨ (∃ f, pkit (I (m + 8)) n 31 0 un0 0 = .inr f ∧ o = .inl (some (.int (nI f.1 - 10))) ∧ I' m 3 = nI f.2 ∧ I' (m + 10) = I (m + 10) ∧ I' (m + 12) = I (m + 12) ∧ I' m 14 = I m 14 ∧ I' m 15 = I m 15))) := by
      refine bl_for 9 ?_ (fun k hk ih => ?_)
      · intro z I2 hz a1 a2 a3 a4 a5 a6 a7 a8; subst hz
        refine bl_go oX11_kitchen 80 [70, 95, 121] rfl ?_
        refine ⟨fun h98 => ?_, fun h98 => ?_⟩
        · try simp (disch := omega) only [zI_n, zI_o, zI_lit, zI_neg, zI_add, zI_sub, zI_mul, zI_lt, zI_le, zI_eq, zI_clamp, zI_in, zI_div, zI_rem, lg_lt0, lg_gt0, lg_eq0, lg_le0, lg_ge0, Int.toNat_natCast, ge_iff_le, gt_iff_lt, List.length_cons, List.length_nil, bl_up2_at, bl_up2_nk, bl_up2_nx] at h98
          try dsimp only [bl_pv]
          exact L121 0 (by omega) _ _ rfl a1 a2 a3 a4 a5 a6 a8 (fun j hj => absurd hj (by omega))
        · try simp (disch := omega) only [zI_n, zI_o, zI_lit, zI_neg, zI_add, zI_sub, zI_mul, zI_lt, zI_le, zI_eq, zI_clamp, zI_in, zI_div, zI_rem, lg_lt0, lg_gt0, lg_eq0, lg_le0, lg_ge0, Int.toNat_natCast, ge_iff_le, gt_iff_lt, List.length_cons, List.length_nil, bl_up2_at, bl_up2_nk, bl_up2_nx] at h98
          exfalso; omega
      · intro z I2 hz a1 a2 a3 a4 a5 a6 a7 a8; subst hz
        have ec : (nI k).toNatClampNeg = k := nI_clamp (by omega)
        refine bl_go oX11_kitchen 80 [70, 95, 121] rfl ?_
        refine ⟨fun h98 => ?_, fun h98 => ?_⟩
        · try simp (disch := omega) only [zI_n, zI_o, zI_lit, zI_neg, zI_add, zI_sub, zI_mul, zI_lt, zI_le, zI_eq, zI_clamp, zI_in, zI_div, zI_rem, lg_lt0, lg_gt0, lg_eq0, lg_le0, lg_ge0, Int.toNat_natCast, ge_iff_le, gt_iff_lt, List.length_cons, List.length_nil, bl_up2_at, bl_up2_nk, bl_up2_nx] at h98
          exfalso; omega
        · try simp (disch := omega) only [zI_n, zI_o, zI_lit, zI_neg, zI_add, zI_sub, zI_mul, zI_lt, zI_le, zI_eq, zI_clamp, zI_in, zI_div, zI_rem, lg_lt0, lg_gt0, lg_eq0, lg_le0, lg_ge0, Int.toNat_natCast, ge_iff_le, gt_iff_lt, List.length_cons, List.length_nil, bl_up2_at, bl_up2_nk, bl_up2_nx] at h98
          refine ⟨km, _, bl_vs rm_10, km, _, bl_vs rm_9, Or.inl ⟨km9, (by first | exact (by rw [nm9]; exact vp_in_nI (by omega) (by omega)) | ((try dsimp only [bl_pv]); show vp_in _ (N _); rw [nm9]; simp (disch := omega) only [zI_n, zI_o, zI_lit, zI_neg, zI_add, zI_sub, zI_mul, zI_lt, zI_le, zI_eq, zI_clamp, zI_in, zI_div, zI_rem, lg_lt0, lg_gt0, lg_eq0, lg_le0, lg_ge0, Int.toNat_natCast, ge_iff_le, gt_iff_lt, List.length_cons, List.length_nil, bl_up2_at, bl_up2_nk, bl_up2_nx] <;> omega)), km10, (by first | exact (by rw [nm10]; exact vp_in_nI (by omega) (by omega)) | ((try dsimp only [bl_pv]); show vp_in _ (N _); rw [nm10]; simp (disch := omega) only [zI_n, zI_o, zI_lit, zI_neg, zI_add, zI_sub, zI_mul, zI_lt, zI_le, zI_eq, zI_clamp, zI_in, zI_div, zI_rem, lg_lt0, lg_gt0, lg_eq0, lg_le0, lg_ge0, Int.toNat_natCast, ge_iff_le, gt_iff_lt, List.length_cons, List.length_nil, bl_up2_at, bl_up2_nk, bl_up2_nx] <;> omega)), ?_⟩⟩
          try dsimp only [bl_pv]
          rw [ec]
          refine ih _ _ (nI_1 _) (fun x x1 x2 x3 x4 x5 => by rw [bl_up2_ne x3]; exact a1 x x1 x2 x3 x4 x5) (fun j hj => by rw [bl_up2_ne (by omega)]; exact a2 j hj) (by rw [bl_up2_ne (by omega)]; exact a3) (by rw [bl_up2_ne (by omega)]; exact a4) (by rw [bl_up2_ne (by omega)]; exact a5) (fun k hk => by rw [bl_up2_ne (by omega)]; exact a6 k hk) (fun k hk => by rw [bl_up2_ne (by omega)]; exact a7 k hk) (fun j hj => ?_)
          by_cases e : j = k
          · subst e; rw [bl_up2_at]; exact a7 j (by omega)
          · rw [bl_up2_nk e]; exact a8 j (by omega)
    refine bl_go oX11_kitchen 80 [70, 95, 121] rfl ?_
    refine ⟨km, km, Or.inr (Or.inr ⟨rfl, rfl, _, rfl⟩), (fun h => by cases h), km, fun h82 => ?_, fun h82 => ?_⟩
    · try simp (disch := omega) only [bl_pv, cl0, cl1, cl2, cl3, cl4, cl5, cl6, cl7, cl8, cl9, bl_up2_at, bl_up2_nk, bl_up2_nx] at h82
      first
      | (exfalso; first | omega | exact h82 trivial)
      | (try dsimp only [bl_pv]
         refine L95 0 (by omega) _ _ rfl (fun x x1 x2 x3 x4 x5 => ?_) (fun j j1 => ?_) ?_ ?_ ?_ (fun k h => ?_) (fun k h => ?_) (fun j hj => absurd hj (by omega))
         · rw [bl_up2_ne x1, mpI_ne x1]; exact f1 x x1 x2 x4
         · rw [bl_up2_nk (by omega), mpx (by omega) (by omega) (by omega) (by omega)]; exact f2 j j1
         · rw [bl_up2_nk (by omega), mpx (by omega) (by omega) (by omega) (by omega)]; exact f3
         · rw [bl_up2_nk (by omega), mpx (by omega) (by omega) (by omega) (by omega)]; exact f4
         · rw [bl_up2_at, mp6]
         · rw [bl_up2_ne (by omega), mpI_ne (by omega)]; exact hk.2 k h
         · rw [bl_up2_ne (by omega), mpI_ne (by omega)]; exact hk.1 k h)
    · try simp (disch := omega) only [bl_pv, cl0, cl1, cl2, cl3, cl4, cl5, cl6, cl7, cl8, cl9, bl_up2_at, bl_up2_nk, bl_up2_nx] at h82
      first
      | (exfalso; first | omega | exact h82 trivial)
      | (refine ⟨km, (fun h => by cases h), ?_⟩
         try show _ ∧ _
         try dsimp only [bl_pv]
         exact absurd mp5 h82)
theorem c_Model_kit41 (hm : mdS R K N m) (hn : n ≤ 400) : ∀ f c, c + f = 30 → ∀ S i I1, i ≤ n → skB (I (m + 8)) n i = i → kR I1 m S → I1 m 7 = nI c → (∀ x, x ≠ m → x ≠ m + 9 → x ≠ m + 11 → I1 x = I x) → (∀ j, 8 ≤ j → I1 m j = I m j) → I1 m 0 = 0 → I1 m 1 = 0 → pkit (I (m + 8)) n 31 0 un0 0 = pkit (I (m + 8)) n (f + 1) c S i → bl_WP G l (d + 6) mX11_kitchen 41 [(0, .ref m), (1, .int (nI n))] [] (mpI I1 m (nI n) (nI i) 0 (zI (-1)), J, R, K, N) (0, 0) (fun o σ' => ∃ I', σ' = (I', J, R, K, N) ∧ kiF I I' m ∧ I' m 0 = 0 ∧ I' m 1 = 0 ∧ ((∃ S, pkit (I (m + 8)) n 31 0 un0 0 = .inl S ∧ o = .inl (some (.int (S.1 0 * S.1 1))) ∧ I' m 3 = zI (-1) ∧ (∀ k, k < 9 → I' (m + 10) k = S.1 k) ∧ (∀ k, k < 24 → I' (m + 12) k = S.2 k) ∧ I' m 14 = 12 * S.1 8 ∧ I' m 15 = 0) ∨ (∃ f, pkit (I (m + 8)) n 31 0 un0 0 = .inr f ∧ o = .inl (some (.int (nI f.1 - 10))) ∧ I' m 3 = nI f.2 ∧ I' (m + 10) = I (m + 10) ∧ I' (m + 12) = I (m + 12) ∧ I' m 14 = I m 14 ∧ I' m 15 = I m 15))) := by
  have km := hm.2.1
  have LF : ∀ g I1 M, (∀ x, x ≠ m → x ≠ m + 9 → x ≠ m + 11 → I1 x = I x) → (∀ j, 8 ≤ j → I1 m j = I m j) → I1 m 0 = 0 → I1 m 1 = 0 → pkit (I (m + 8)) n 31 0 un0 0 = .inr g → pM I1 m n (.inr g) (zI (-1)) M → bl_WP G l (d + 6) mX11_kitchen 41 [(0, .ref m), (1, .int (nI n))] [] (M, J, R, K, N) (0, 0) (fun o σ' => ∃ I', σ' = (I', J, R, K, N) ∧ kiF I I' m ∧ I' m 0 = 0 ∧ I' m 1 = 0 ∧ ((∃ S, pkit (I (m + 8)) n 31 0 un0 0 = .inl S ∧ o = .inl (some (.int (S.1 0 * S.1 1))) ∧ I' m 3 = zI (-1) ∧ (∀ k, k < 9 → I' (m + 10) k = S.1 k) ∧ (∀ k, k < 24 → I' (m + 12) k = S.2 k) ∧ I' m 14 = 12 * S.1 8 ∧ I' m 15 = 0) ∨ (∃ f, pkit (I (m + 8)) n 31 0 un0 0 = .inr f ∧ o = .inl (some (.int (nI f.1 - 10))) ∧ I' m 3 = nI f.2 ∧ I' (m + 10) = I (m + 10) ∧ I' (m + 12) = I (m + 12) ∧ I' m 14 = I m 14 ∧ I' m 15 = I m 15))) := by
    intro g I1 M f1 f2 f3 f4 hr hM
    have hM' := hM
    obtain ⟨k1, e, k2, rfl⟩ := hM
    refine bl_go oX11_kitchen 80 [41, 70] rfl ?_
    refine ⟨km, fun h45 => ?_, fun h45 => ?_⟩
    · try simp (disch := omega) only [bl_pv, cl0, cl1, cl2, cl3, cl4, cl5, cl6, cl7, cl8, cl9, bl_up2_at, bl_up2_nk, bl_up2_nx] at h45
      try dsimp only [bl_pv]
      refine c_Model_kit70 hm I1 _ (.inr g) f1 f2 f3 f4 hr.symm (fun S h => by cases h) (fun f h => ?_)
      cases h; exact hM'
    · try simp (disch := omega) only [bl_pv, cl0, cl1, cl2, cl3, cl4, cl5, cl6, cl7, cl8, cl9, bl_up2_at, bl_up2_nk, bl_up2_nx] at h45
      exact absurd (mp5.symm.trans h45) (nI_k k1)
  have body : ∀ f c, c ≤ 30 → (c < 30 → ∀ S i I1, i ≤ n → skB (I (m + 8)) n i = i → kR I1 m S → I1 m 7 = nI (c + 1) → (∀ x, x ≠ m → x ≠ m + 9 → x ≠ m + 11 → I1 x = I x) → (∀ j, 8 ≤ j → I1 m j = I m j) → I1 m 0 = 0 → I1 m 1 = 0 → pkit (I (m + 8)) n 31 0 un0 0 = pkit (I (m + 8)) n f (c + 1) S i → bl_WP G l (d + 6) mX11_kitchen 41 [(0, .ref m), (1, .int (nI n))] [] (mpI I1 m (nI n) (nI i) 0 (zI (-1)), J, R, K, N) (0, 0) (fun o σ' => ∃ I', σ' = (I', J, R, K, N) ∧ kiF I I' m ∧ I' m 0 = 0 ∧ I' m 1 = 0 ∧ ((∃ S, pkit (I (m + 8)) n 31 0 un0 0 = .inl S ∧ o = .inl (some (.int (S.1 0 * S.1 1))) ∧ I' m 3 = zI (-1) ∧ (∀ k, k < 9 → I' (m + 10) k = S.1 k) ∧ (∀ k, k < 24 → I' (m + 12) k = S.2 k) ∧ I' m 14 = 12 * S.1 8 ∧ I' m 15 = 0) ∨ (∃ f, pkit (I (m + 8)) n 31 0 un0 0 = .inr f ∧ o = .inl (some (.int (nI f.1 - 10))) ∧ I' m 3 = nI f.2 ∧ I' (m + 10) = I (m + 10) ∧ I' (m + 12) = I (m + 12) ∧ I' m 14 = I m 14 ∧ I' m 15 = I m 15)))) → ∀ S i I1, i ≤ n → skB (I (m + 8)) n i = i → kR I1 m S → I1 m 7 = nI c → (∀ x, x ≠ m → x ≠ m + 9 → x ≠ m + 11 → I1 x = I x) → (∀ j, 8 ≤ j → I1 m j = I m j) → I1 m 0 = 0 → I1 m 1 = 0 → pkit (I (m + 8)) n 31 0 un0 0 = pkit (I (m + 8)) n (f + 1) c S i → bl_WP G l (d + 6) mX11_kitchen 41 [(0, .ref m), (1, .int (nI n))] [] (mpI I1 m (nI n) (nI i) 0 (zI (-1)), J, R, K, N) (0, 0) (fun o σ' => ∃ I', σ' = (I', J, R, K, N) ∧ kiF I I' m ∧ I' m 0 = 0 ∧ I' m 1 = 0 ∧ ((∃ S, pkit (I (m + 8)) n 31 0 un0 0 = .inl S ∧ o = .inl (some (.int (S.1 0 * S.1 1))) ∧ I' m 3 = zI (-1) ∧ (∀ k, k < 9 → I' (m + 10) k = S.1 k) ∧ (∀ k, k < 24 → I' (m + 12) k = S.2 k) ∧ I' m 14 = 12 * S.1 8 ∧ I' m 15 = 0) ∨ (∃ f, pkit (I (m + 8)) n 31 0 un0 0 = .inr f ∧ o = .inl (some (.int (nI f.1 - 10))) ∧ I' m 3 = nI f.2 ∧ I' (m + 10) = I (m + 10) ∧ I' (m + 12) = I (m + 12) ∧ I' m 14 = I m 14 ∧ I' m 15 = I m 15))) := by
    intro f c hc ih S i I1 hi hid hk h7 f1 f2 f3 f4 hr
    rw [pkit_c (f := f) (c := c) (S := S) (i := i), hid] at hr
    have eB : I1 (m + 8) = I (m + 8) := f1 _ (by omega) (by omega) (by omega)
    by_cases hin : n ≤ i
    · rw [if_pos hin] at hr
      have ei : i = n := by omega
      subst ei
      refine bl_go oX11_kitchen 80 [41, 70] rfl ?_
      refine ⟨km, fun h45 => ?_, fun h45 => ?_⟩
      · try simp (disch := omega) only [bl_pv, cl0, cl1, cl2, cl3, cl4, cl5, cl6, cl7, cl8, cl9, bl_up2_at, bl_up2_nk, bl_up2_nx] at h45
        exact absurd mp5 h45
      · try simp (disch := omega) only [bl_pv, cl0, cl1, cl2, cl3, cl4, cl5, cl6, cl7, cl8, cl9, bl_up2_at, bl_up2_nk, bl_up2_nx] at h45
        first
        | (exfalso; first | omega | exact h45 trivial)
        | (refine ⟨km, km, fun h56 => ?_, fun h56 => ?_⟩
           · try simp (disch := omega) only [mp4, mp2, zI_n, zI_o, zI_lit, zI_neg, zI_add, zI_sub, zI_mul, zI_lt, zI_le, zI_eq, zI_clamp, zI_in, zI_div, zI_rem, lg_lt0, lg_gt0, lg_eq0, lg_le0, lg_ge0, Int.toNat_natCast, ge_iff_le, gt_iff_lt, List.length_cons, List.length_nil, bl_up2_at, bl_up2_nk, bl_up2_nx] at h56
             try dsimp only [bl_pv]
             refine c_Model_kit70 hm I1 _ (.inl S) f1 f2 f3 f4 hr.symm (fun S' h => ?_) (fun f h => by cases h)
             cases h; exact ⟨hk, Nat.le_refl _, rfl⟩
           · try simp (disch := omega) only [mp4, mp2, zI_n, zI_o, zI_lit, zI_neg, zI_add, zI_sub, zI_mul, zI_lt, zI_le, zI_eq, zI_clamp, zI_in, zI_div, zI_rem, lg_lt0, lg_gt0, lg_eq0, lg_le0, lg_ge0, Int.toNat_natCast, ge_iff_le, gt_iff_lt, List.length_cons, List.length_nil, bl_up2_at, bl_up2_nk, bl_up2_nx] at h56
             exfalso; omega)
    · rw [if_neg hin] at hr
      have hCl := c_Model_clause (d := d) (G := G) (l := l) (J := J) (fa := zI (-1)) hm hn hi hk h7 hc
      refine bl_go oX11_kitchen 80 [41, 70] rfl ?_
      refine ⟨km, fun h45 => ?_, fun h45 => ?_⟩
      · try simp (disch := omega) only [bl_pv, cl0, cl1, cl2, cl3, cl4, cl5, cl6, cl7, cl8, cl9, bl_up2_at, bl_up2_nk, bl_up2_nx] at h45
        exact absurd mp5 h45
      · try simp (disch := omega) only [bl_pv, cl0, cl1, cl2, cl3, cl4, cl5, cl6, cl7, cl8, cl9, bl_up2_at, bl_up2_nk, bl_up2_nx] at h45
        first
        | (exfalso; first | omega | exact h45 trivial)
        | (refine ⟨km, km, fun h56 => ?_, fun h56 => ?_⟩
           · try simp (disch := omega) only [mp4, mp2, zI_n, zI_o, zI_lit, zI_neg, zI_add, zI_sub, zI_mul, zI_lt, zI_le, zI_eq, zI_clamp, zI_in, zI_div, zI_rem, lg_lt0, lg_gt0, lg_eq0, lg_le0, lg_ge0, Int.toNat_natCast, ge_iff_le, gt_iff_lt, List.length_cons, List.length_nil, bl_up2_at, bl_up2_nk, bl_up2_nx] at h56
             exfalso; omega
           · try simp (disch := omega) only [mp4, mp2, zI_n, zI_o, zI_lit, zI_neg, zI_add, zI_sub, zI_mul, zI_lt, zI_le, zI_eq, zI_clamp, zI_in, zI_div, zI_rem, lg_lt0, lg_gt0, lg_eq0, lg_le0, lg_ge0, Int.toNat_natCast, ge_iff_le, gt_iff_lt, List.length_cons, List.length_nil, bl_up2_at, bl_up2_nk, bl_up2_nx] at h56
             refine ⟨rfl, rfl, km, (Nat.le_of_ble_eq_true rfl), (0, 0), Nat.le_of_ble_eq_true rfl, Nat.le_of_ble_eq_true rfl, bl_MC_mono (hCl) (fun o60 σ60 q60 => ?_)⟩
             try dsimp only [bl_pv] at q60
             obtain ⟨rfl, I2, M2, rfl, hF, hM2, hk2⟩ := q60
             have eB2 : I2 (m + 8) = I (m + 8) := (hF.1 _ (by omega) (by omega) (by omega)).trans eB
             refine bl_go oX11_kitchen 80 [41, 70] rfl ?_
             refine ⟨rfl, rfl, km, (Nat.le_of_ble_eq_true rfl), (0, 0), Nat.le_of_ble_eq_true rfl, Nat.le_of_ble_eq_true rfl, bl_MC_mono (c_Model_blM (d := d + 4) hm hn hM2) (fun o64 σ64 q64 => ?_)⟩
             try dsimp only [bl_pv] at q64
             obtain ⟨M3, rfl, rfl, hM3⟩ := q64
             rw [eB2] at hM3
             rw [eB] at hM3 hk2 hM2
             refine bl_go oX11_kitchen 80 [41, 70] rfl ?_
             try dsimp only [bl_pv]
             have g1 : ∀ x, x ≠ m → x ≠ m + 9 → x ≠ m + 11 → I2 x = I x := fun x x1 x2 x3 => (hF.1 x x1 x2 x3).trans (f1 x x1 x2 x3)
             have g2 : ∀ j, 8 ≤ j → I2 m j = I m j := fun j hj => (hF.2 j (by omega)).trans (f2 j hj)
             have g3 : I2 m 0 = 0 := (hF.2 0 (by omega)).trans f3
             have g4 : I2 m 1 = 0 := (hF.2 1 (by omega)).trans f4
             cases hpk : pkc (I (m + 8)) n c S i with
             | inr g =>
               rw [hpk] at hr hM3
               exact LF g I2 _ g1 g2 g3 g4 hr hM3
             | inl a =>
               have hc30 : c < 30 := by
                 rcases Nat.lt_or_ge c 30 with h | h
                 · exact h
                 · exfalso
                   unfold pkc at hpk
                   split at hpk
                   · cases hpk
                   · first
                     | cases hpk
                     | (rw [if_pos h] at hpk; cases hpk)
               obtain ⟨hk3, h73⟩ := hk2 a hpk
               rw [hpk] at hr hM3 hM2
               obtain ⟨hj, rfl⟩ := hM3
               have ha2 : a.2 ≤ n := hM2.1
               refine ih hc30 a.1 (skB (I (m + 8)) n a.2) I2 hj (skB_id hn ha2) hk3 h73 g1 g2 g3 g4 (hr.trans ?_)
               show pkit _ n f (c + 1) a.1 a.2 = _
               rw [pkit_sk hn ha2])
  intro f
  induction f with
  | zero => exact fun c hc => body 0 c (by omega) (fun h => absurd h (by omega))
  | succ f ih => exact fun c hc => body (f + 1) c (by omega) (fun _ => ih (c + 1) (by omega))
/-- the tape ends short of the told size -/
theorem c_Model_kitchenF {z : Int32} {t : Nat} (hm : mdS R K N m) (ht : I m 1 = nI t) (hz : ¬ (0 ≤ z ∧ z ≤ nI t)) : bl_MC G l (d + 6) mX11_kitchen [.ref m, .int z] (I, J, R, K, N) (0, 0) (fun o σ' => o = .inl (some (.int 0)) ∧ σ' = (bl_up2 I m 0 1, J, R, K, N)) := by
  have km := hm.2.1
  have ht' : bl_up2 I m 0 0 m 1 = nI t := (bl_up2_nk (by omega)).trans ht
  refine bl_MC_intro (by decide +kernel) rfl (Nat.le_of_ble_eq_true rfl) ?_
  refine bl_go oX11_kitchen 80 [32] rfl ?_
  refine ⟨km, Or.inr (Or.inr ⟨rfl, rfl, _, rfl⟩), (fun h => by cases h), km, rfl, (Nat.le_of_ble_eq_true rfl), (0, 0), Nat.le_of_ble_eq_true rfl, Nat.le_of_ble_eq_true rfl, bl_MC_mono (c_Model_in (d := d + 5)) (fun o12 σ12 q12 => ?_)⟩
  try dsimp only [bl_pv] at q12
  obtain ⟨hq, rfl⟩ := q12
  rw [ht'] at hq
  rcases hq with ⟨a, b, rfl⟩ | ⟨_, rfl⟩
  · exact absurd ⟨a, b⟩ hz
  refine bl_go oX11_kitchen 80 [32] rfl ?_
  refine ⟨fun h15 => ?_, fun h15 => ?_⟩
  · try simp (disch := omega) only [bl_pv, cl0, cl1, cl2, cl3, cl4, cl5, cl6, cl7, cl8, cl9, bl_up2_at, bl_up2_nk, bl_up2_nx] at h15
    exact absurd trivial h15
  · try simp (disch := omega) only [bl_pv, cl0, cl1, cl2, cl3, cl4, cl5, cl6, cl7, cl8, cl9, bl_up2_at, bl_up2_nk, bl_up2_nx] at h15
    first
    | (exfalso; first | omega | exact h15 trivial)
    | (refine ⟨rfl, rfl, km, (Nat.le_of_ble_eq_true rfl), (0, 0), Nat.le_of_ble_eq_true rfl, Nat.le_of_ble_eq_true rfl, bl_MC_mono (c_Model_bad (d := d + 5) km) (fun o24 σ24 q24 => ?_)⟩
       try dsimp only [bl_pv] at q24
       obtain ⟨tt, e1, rfl, rfl⟩ := q24
       rw [if_pos ⟨by decide, bl_up2_at⟩] at e1
       subst e1
       refine bl_go oX11_kitchen 80 [32] rfl ?_
       refine ⟨fun h27 => ?_, fun h27 => ?_⟩
       · try simp (disch := omega) only [bl_pv, cl0, cl1, cl2, cl3, cl4, cl5, cl6, cl7, cl8, cl9, bl_up2_at, bl_up2_nk, bl_up2_nx] at h27
         first
         | (exfalso; first | omega | exact h27 trivial)
         | (try dsimp only [bl_pv]
            exact absurd h27 (by decide))
       · try simp (disch := omega) only [bl_pv, cl0, cl1, cl2, cl3, cl4, cl5, cl6, cl7, cl8, cl9, bl_up2_at, bl_up2_nk, bl_up2_nx] at h27
         first
         | (exfalso; first | omega | exact h27 trivial)
         | (refine ⟨(fun h => by cases h), ?_⟩
            try show _ ∧ _
            try dsimp only [bl_pv]
            rw [bl_up2_up2]; exact ⟨rfl, rfl⟩))
theorem c_Model_kitchen {z : Int32} {t : Nat} (hm : mdS R K N m) (ht : I m 1 = nI t) (ht4 : t ≤ 400) (hnt : n ≤ t) (hz : z = nI n) : bl_MC G l (d + 6) mX11_kitchen [.ref m, .int z] (I, J, R, K, N) (0, 0) (fun o σ' => ∃ I', σ' = (I', J, R, K, N) ∧ kiF I I' m ∧ I' m 0 = 0 ∧ I' m 1 = 0 ∧ ((∃ S, pkit (I (m + 8)) n 31 0 un0 0 = .inl S ∧ o = .inl (some (.int (S.1 0 * S.1 1))) ∧ I' m 3 = zI (-1) ∧ (∀ k, k < 9 → I' (m + 10) k = S.1 k) ∧ (∀ k, k < 24 → I' (m + 12) k = S.2 k) ∧ I' m 14 = 12 * S.1 8 ∧ I' m 15 = 0) ∨ (∃ f, pkit (I (m + 8)) n 31 0 un0 0 = .inr f ∧ o = .inl (some (.int (nI f.1 - 10))) ∧ I' m 3 = nI f.2 ∧ I' (m + 10) = I (m + 10) ∧ I' (m + 12) = I (m + 12) ∧ I' m 14 = I m 14 ∧ I' m 15 = I m 15))) := by
  have km := hm.2.1
  have ht' : bl_up2 I m 0 0 m 1 = nI t := (bl_up2_nk (by omega)).trans ht
  have hn : n ≤ 400 := by omega
  subst hz
  refine bl_MC_intro (by decide +kernel) rfl (Nat.le_of_ble_eq_true rfl) ?_
  have L32 : bl_WP G l (d + 6) mX11_kitchen 32 [(0, .ref m), (1, .int (nI n))] [] (bl_up2 I m 0 0, J, R, K, N) (0, 0) (fun o σ' => ∃ I', σ' = (I', J, R, K, N) ∧ kiF I I' m ∧ I' m 0 = 0 ∧ I' m 1 = 0 ∧ ((∃ S, pkit (I (m + 8)) n 31 0 un0 0 = .inl S ∧ o = .inl (some (.int (S.1 0 * S.1 1))) ∧ I' m 3 = zI (-1) ∧ (∀ k, k < 9 → I' (m + 10) k = S.1 k) ∧ (∀ k, k < 24 → I' (m + 12) k = S.2 k) ∧ I' m 14 = 12 * S.1 8 ∧ I' m 15 = 0) ∨ (∃ f, pkit (I (m + 8)) n 31 0 un0 0 = .inr f ∧ o = .inl (some (.int (nI f.1 - 10))) ∧ I' m 3 = nI f.2 ∧ I' (m + 10) = I (m + 10) ∧ I' (m + 12) = I (m + 12) ∧ I' m 14 = I m 14 ∧ I' m 15 = I m 15))) := by
    refine bl_go oX11_kitchen 80 [32, 41] rfl ?_
    refine ⟨rfl, rfl, km, (Nat.le_of_ble_eq_true rfl), (0, 0), Nat.le_of_ble_eq_true rfl, Nat.le_of_ble_eq_true rfl, bl_MC_mono (c_Model_starts (d := d + 3) (h0 := 0) hm hn rfl) (fun o34 σ34 q34 => ?_)⟩
    try dsimp only [bl_pv] at q34
    obtain ⟨rfl, rfl⟩ := q34
    refine bl_go oX11_kitchen 80 [32, 41] rfl ?_
    refine ⟨rfl, rfl, km, (Nat.le_of_ble_eq_true rfl), (0, 0), Nat.le_of_ble_eq_true rfl, Nat.le_of_ble_eq_true rfl, bl_MC_mono (c_Model_tellsNothing (d := d + 5) hm) (fun o38 σ38 q38 => ?_)⟩
    try dsimp only [bl_pv] at q38
    obtain ⟨rfl, I2, rfl, g1, g2, g3⟩ := q38
    try dsimp only [bl_pv]
    have e8 : bl_up2 I m 0 0 (m + 8) = I (m + 8) := bl_up2_ne (by omega)
    rw [mpI_of (g1 m (by omega) (by omega)), e8]
    refine c_Model_kit41 hm hn 30 0 rfl un0 _ _ (skB_le (Nat.zero_le _)) (skB_id hn (Nat.zero_le _)) ⟨fun k hk => ?_, fun k hk => ?_⟩ ?_ (fun x x1 x2 x3 => ?_) (fun j hj => ?_) ?_ ?_ ?_
    · rw [mpB_ne (by omega)]; exact g2 k hk
    · rw [mpB_ne (by omega)]; exact g3 k hk
    · rw [mpB_m, bl_up2_at]; rfl
    · rw [mpB_ne x1, g1 x x2 x3, mpI_ne x1, bl_up2_ne x1, bl_up2_ne x1, bl_up2_ne x1]
    · rw [mpB_m, bl_up2_nk (by omega), bl_up2_nk (by omega), bl_up2_nk (by omega)]
    · rw [mpB_m, bl_up2_nk (by omega), bl_up2_nk (by omega), bl_up2_at]
    · rw [mpB_m, bl_up2_nk (by omega), bl_up2_at]
    · exact (pkit_sk hn (Nat.zero_le _)).symm
  refine bl_go oX11_kitchen 80 [32, 41] rfl ?_
  refine ⟨km, Or.inr (Or.inr ⟨rfl, rfl, _, rfl⟩), (fun h => by cases h), km, rfl, (Nat.le_of_ble_eq_true rfl), (0, 0), Nat.le_of_ble_eq_true rfl, Nat.le_of_ble_eq_true rfl, bl_MC_mono (c_Model_inN (d := d + 5) (a := n) (b := 0) (c := t) rfl rfl ht' (by omega) (by omega) (by omega)) (fun o12 σ12 q12 => ?_)⟩
  try dsimp only [bl_pv] at q12
  obtain ⟨hq, rfl⟩ := q12
  rcases hq with ⟨_, _, rfl⟩ | ⟨hq, rfl⟩
  rotate_left
  · exact absurd ⟨Nat.zero_le _, hnt⟩ hq
  refine bl_go oX11_kitchen 80 [32, 41] rfl ?_
  refine ⟨fun h15 => ?_, fun h15 => ?_⟩
  · try simp (disch := omega) only [bl_pv, cl0, cl1, cl2, cl3, cl4, cl5, cl6, cl7, cl8, cl9, bl_up2_at, bl_up2_nk, bl_up2_nx] at h15
    first
    | (exfalso; first | omega | exact h15 trivial)
    | (refine ⟨rfl, rfl, km, (Nat.le_of_ble_eq_true rfl), (0, 0), Nat.le_of_ble_eq_true rfl, Nat.le_of_ble_eq_true rfl, bl_MC_mono (c_Model_bad (d := d + 5) km) (fun o24 σ24 q24 => ?_)⟩
       try dsimp only [bl_pv] at q24
       obtain ⟨tt, e1, rfl, rfl⟩ := q24
       rw [if_neg (fun h => h.1 rfl), bl_up2_at] at e1
       subst e1
       refine bl_go oX11_kitchen 80 [32, 41] rfl ?_
       refine ⟨fun h27 => ?_, fun h27 => ?_⟩
       · try simp (disch := omega) only [bl_pv, cl0, cl1, cl2, cl3, cl4, cl5, cl6, cl7, cl8, cl9, bl_up2_at, bl_up2_nk, bl_up2_nx] at h27
         first
         | (exfalso; first | omega | exact h27 trivial)
         | (try dsimp only [bl_pv]
            rw [bl_up2_up2]; exact L32)
       · try simp (disch := omega) only [bl_pv, cl0, cl1, cl2, cl3, cl4, cl5, cl6, cl7, cl8, cl9, bl_up2_at, bl_up2_nk, bl_up2_nx] at h27
         exact absurd rfl h27)
  · try simp (disch := omega) only [bl_pv, cl0, cl1, cl2, cl3, cl4, cl5, cl6, cl7, cl8, cl9, bl_up2_at, bl_up2_nk, bl_up2_nx] at h15
    exact absurd h15 (by decide)
end MODEL8
