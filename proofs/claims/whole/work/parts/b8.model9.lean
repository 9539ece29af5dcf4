/-! ===== Model: recipe ===== -/
theorem prec_sk {B : Nat → Int32} {n f : Nat} {S : sq} {i : Nat} (hn : n ≤ 400) (hi : i ≤ n) : prec B n f S (skB B n i) = prec B n f S i := by
  cases f with
  | zero => rfl
  | succ f => rw [prec_c, prec_c]; unfold psc; rw [skB_id hn hi]
theorem skd_nn {B : Nat → Int32} {n : Nat} : skd B n (skW B n n) = zI (-1) := by
  rw [skW_f (fun h => absurd h.1 (by omega)), skd_eq]
  have hf : ∀ w : List Int32, wisb B n n w ≠ true := by
    intro w h
    have h' : w ≠ [] ∧ n - n = w.length ∧ _ := of_decide_eq_true h
    have : w.length = 0 := by omega
    exact h'.1 (List.length_eq_zero_iff.mp this)
  simp only [hf, if_false]
  rfl
section MODEL9
variable {G : bl_G} {l : Launch} {d m : Nat} {I : Nat → Nat → Int32} {J : Nat → Nat → Int64} {R : Nat → Nat → Option Nat} {K N : Nat → Nat} {fa : Int32} {n r : Nat}
def sq0 : sq := (0, fun _ => 0, fun _ => 0)
/-- what the model's recipe leaves -/
def rcF (I I' : Nat → Nat → Int32) (m r : Nat) : Prop := (∀ x, x ≠ m → x ≠ m + 16 → x ≠ m + 17 → x ≠ m + 100 + r → I' x = I x) ∧ ∀ j, 8 ≤ j → j ≠ 13 → j ≠ 20 → I' m j = I m j
theorem c_Model_rec93 (hm : mdS R K N m) (hr4 : r < 4) (h13 : I m 13 = nI r) : ∀ I1 M u, (∀ x, x ≠ m → x ≠ m + 17 → I1 x = I x) → (∀ j, 8 ≤ j → j ≠ 20 → I1 m j = I m j) → I1 m 0 = 0 → I1 m 1 = 0 → u = prec (I (m + 8)) n 21 sq0 0 → (∀ S, u = .inl S → S.1 ≤ 20 ∧ sqR I1 m S ∧ pM I1 m n (.inl n) (zI (-1)) M) → (∀ f, u = .inr f → pM I1 m n (.inr f) (zI (-1)) M) → bl_WP G l (d + 6) mX11_recipe 93 [(0, .ref m), (1, .int (nI n))] [] (M, J, R, K, N) (0, 0) (fun o σ' => ∃ I', σ' = (I', J, R, K, N) ∧ rcF I I' m r ∧ (I' m 0 = 0 ∧ I' m 1 = 0) ∧ ((∃ S, prec (I (m + 8)) n 21 sq0 0 = .inl S ∧ o = .inl (some (.int (nI r))) ∧ I' m 3 = zI (-1) ∧ I' m 13 = nI (r + 1) ∧ I' (m + 16) r = nI S.1 ∧ (∀ x, x ≠ r → I' (m + 16) x = I (m + 16) x) ∧ ∀ j, j < S.1 → I' (m + 100 + r) (2 * j) = nI (S.2.1 j) ∧ I' (m + 100 + r) (2 * j + 1) = nI (S.2.2 j)) ∨ (∃ f, prec (I (m + 8)) n 21 sq0 0 = .inr f ∧ o = .inl (some (.int (nI f.1 - 10))) ∧ I' m 3 = nI f.2 ∧ I' m 13 = I m 13 ∧ I' (m + 16) = I (m + 16) ∧ I' (m + 100 + r) = I (m + 100 + r)))) := by
  intro I1 M u f1 f2 f3 f4 hr hl hf
  have km := hm.2.1
  have hm6 := hm.1
  obtain ⟨rm_16, km16, nm16⟩ := hm.f16
  obtain ⟨rm_17, km17, nm17⟩ := hm.f17
  obtain ⟨rm_18, km18, nm18⟩ := hm.f18
  obtain ⟨rms, kms, nms⟩ := hm.g18 r hr4
  have ecr : (nI r).toNatClampNeg = r := nI_clamp (by omega)
  cases u with
  | inr f =>
    obtain ⟨k1, e, k2, rfl⟩ := hf f rfl
    have h5 : ∀ v, bl_up2 (mpI I1 m (nI n) (nI e) (nI f.1) (nI f.2)) m 3 v m 5 = nI f.1 := fun v => (bl_up2_nk (by omega)).trans mp5
    refine bl_go oX11_recipe 80 [93, 118] rfl ?_
    refine ⟨km, km, Or.inr (Or.inr ⟨rfl, rfl, _, rfl⟩), (fun h => by cases h), km, fun h105 => ?_, fun h105 => ?_⟩
    · try simp (disch := omega) only [bl_pv, cl0, cl1, cl2, cl3, cl4, cl5, cl6, cl7, cl8, cl9, bl_up2_at, bl_up2_nk, bl_up2_nx] at h105
      exact absurd (mp5.symm.trans h105) (nI_k k1)
    · try simp (disch := omega) only [bl_pv, cl0, cl1, cl2, cl3, cl4, cl5, cl6, cl7, cl8, cl9, bl_up2_at, bl_up2_nk, bl_up2_nx] at h105
      first
      | (exfalso; first | omega | exact h105 trivial)
      | (refine ⟨km, (fun h => by cases h), ?_⟩
         try show _ ∧ _
         try dsimp only [bl_pv]
         refine ⟨_, rfl, ⟨fun x x1 x2 x3 x4 => ?_, fun j j1 j2 j3 => ?_⟩, ⟨?_, ?_⟩, Or.inr ⟨f, hr.symm, ?_, ?_, ?_, ?_, ?_⟩⟩
         · rw [bl_up2_ne x1, mpI_ne x1]; exact f1 x x1 x3
         · rw [bl_up2_nk (by omega), mpx (by omega) (by omega) (by omega) (by omega)]; exact f2 j j1 j3
         · rw [bl_up2_nk (by omega), mpx (by omega) (by omega) (by omega) (by omega)]; exact f3
         · rw [bl_up2_nk (by omega), mpx (by omega) (by omega) (by omega) (by omega)]; exact f4
         · rw [h5]
         · rw [bl_up2_at, mp6]
         · rw [bl_up2_nk (by omega), mpx (by omega) (by omega) (by omega) (by omega)]; exact f2 _ (by omega) (by omega)
         · rw [bl_up2_ne (by omega), mpI_ne (by omega)]; exact f1 _ (by omega) (by omega)
         · rw [bl_up2_ne (by omega), mpI_ne (by omega)]; exact f1 _ (by omega) (by omega))
  | inl S =>
    obtain ⟨hS20, hk, -, rfl⟩ := hl S rfl
    have L118 : ∀ k, k ≤ 2 * S.1 → ∀ z I2, z = nI k → (∀ x, x ≠ m → x ≠ m + 17 → x ≠ m + 100 + r → I2 x = I x) → (∀ j, 8 ≤ j → j ≠ 20 → I2 m j = I m j) → I2 m 20 = nI S.1 → I2 m 0 = 0 → I2 m 1 = 0 → I2 m 3 = zI (-1) → (∀ j, j < S.1 → I2 (m + 17) (2 * j) = nI (S.2.1 j) ∧ I2 (m + 17) (2 * j + 1) = nI (S.2.2 j)) → (∀ j, j < k → I2 (m + 100 + r) j = I2 (m + 17) j) → bl_WP G l (d + 6) mX11_recipe 118 [(2, .int z), (0, .ref m), (1, .int (nI n))] [] (I2, J, R, K, N) (0, 0) (fun o σ' => ∃ I', σ' = (I', J, R, K, N) ∧ rcF I I' m r ∧ (I' m 0 = 0 ∧ I' m 1 = 0) ∧ ((∃ S, prec (I (m + 8)) n 21 sq0 0 = .inl S ∧ o = .inl (some (.int (nI r))) ∧ I' m 3 = zI (-1) ∧ I' m 13 = nI (r + 1) ∧ I' (m + 16) r = nI S.1 ∧ (∀ x, x ≠ r → I' (m + 16) x = I (m + 16) x) ∧ ∀ j, j < S.1 → I' (m + 100 + r) (2 * j) = nI (S.2.1 j) ∧ I' (m + 100 + r) (2 * j + 1) = nI (S.2.2 j)) ∨ (∃ f, prec (I (m + 8)) n 21 sq0 0 = .inr f ∧ o = .inl (some (.int (nI f.1 - 10))) ∧ I' m 3 = nI f.2 ∧ I' m 13 = I m 13 ∧ I' (m + 16) = I (m + 16) ∧ I' (m + 100 + r) = I (m + 100 + r)))) := by
      refine bl_for (2 * S.1) ?_ (fun k hk ih => ?_)
      · intro z I2 hz a1 a2 a20 a3 a4 a5 a6 a8; subst hz
        have i13 : I2 m 13 = nI r := (a2 13 (by omega) (by omega)).trans h13
        have j13 : ∀ v, bl_up2 I2 (m + 16) r v m 13 = nI r := fun v => (bl_up2_ne (f := I2) (show m ≠ m + 16 by omega) ▸ i13)
        refine bl_go oX11_recipe 80 [93, 118] rfl ?_
        refine ⟨km, fun h125 => ?_, fun h125 => ?_⟩
        · try simp (disch := omega) only [a20, i13, zI_n, zI_o, zI_lit, zI_neg, zI_add, zI_sub, zI_mul, zI_lt, zI_le, zI_eq, zI_clamp, zI_in, zI_div, zI_rem, lg_lt0, lg_gt0, lg_eq0, lg_le0, lg_ge0, Int.toNat_natCast, ge_iff_le, gt_iff_lt, List.length_cons, List.length_nil, bl_up2_at, bl_up2_nk, bl_up2_nx] at h125
          refine ⟨km, _, bl_vs rm_16, km, km, km16, (by first | exact (by rw [nm16]; exact vp_in_nI (by omega) (by omega)) | ((try dsimp only [bl_pv]); show vp_in _ (N _); rw [nm16]; simp (disch := omega) only [a20, i13, zI_n, zI_o, zI_lit, zI_neg, zI_add, zI_sub, zI_mul, zI_lt, zI_le, zI_eq, zI_clamp, zI_in, zI_div, zI_rem, lg_lt0, lg_gt0, lg_eq0, lg_le0, lg_ge0, Int.toNat_natCast, ge_iff_le, gt_iff_lt, List.length_cons, List.length_nil, bl_up2_at, bl_up2_nk, bl_up2_nx] <;> omega)), rfl, km, km, Or.inr (Or.inr ⟨rfl, rfl, _, rfl⟩), (fun h => by cases h), km, (fun h => by cases h), ?_⟩
          try show _ ∧ _
          try dsimp only [bl_pv]
          rw [bl_up2_at]
          rw [i13, ecr]
          rw [j13, nI_1]
          refine ⟨_, rfl, ⟨fun x x1 x2 x3 x4 => ?_, fun j j1 j2 j3 => ?_⟩, ⟨?_, ?_⟩, Or.inl ⟨S, hr.symm, ?_, ?_, ?_, ?_, fun x hx => ?_, fun j hj => ?_⟩⟩
          · rw [bl_up2_ne x1, bl_up2_ne x2]; exact a1 x x1 x3 x4
          · rw [bl_up2_nk (by omega), bl_up2_ne (by omega)]; exact a2 j j1 j3
          · rw [bl_up2_nk (by omega), bl_up2_ne (by omega)]; exact a3
          · rw [bl_up2_nk (by omega), bl_up2_ne (by omega)]; exact a4
          · rw [show nI (r + 1) - 1 = nI r from by rw [← nI_1]; exact Int32.add_sub_cancel _ _]
          · rw [bl_up2_nk (by omega), bl_up2_ne (by omega)]; exact a5
          · rw [bl_up2_at]
          · rw [bl_up2_ne (by omega), bl_up2_at]; exact a20
          · rw [bl_up2_ne (by omega), bl_up2_nk hx]; exact congrFun (a1 _ (by omega) (by omega) (by omega)) x
          · rw [bl_up2_ne (by omega), bl_up2_ne (by omega), a8 _ (by omega), a8 _ (by omega)]; exact a6 j hj
        · try simp (disch := omega) only [a20, i13, zI_n, zI_o, zI_lit, zI_neg, zI_add, zI_sub, zI_mul, zI_lt, zI_le, zI_eq, zI_clamp, zI_in, zI_div, zI_rem, lg_lt0, lg_gt0, lg_eq0, lg_le0, lg_ge0, Int.toNat_natCast, ge_iff_le, gt_iff_lt, List.length_cons, List.length_nil, bl_up2_at, bl_up2_nk, bl_up2_nx] at h125
          exfalso; omega
      · intro z I2 hz a1 a2 a20 a3 a4 a5 a6 a8; subst hz
        have i13 : I2 m 13 = nI r := (a2 13 (by omega) (by omega)).trans h13
        have ec : (nI k).toNatClampNeg = k := nI_clamp (by omega)
        refine bl_go oX11_recipe 80 [93, 118] rfl ?_
        refine ⟨km, fun h125 => ?_, fun h125 => ?_⟩
        · try simp (disch := omega) only [a20, i13, zI_n, zI_o, zI_lit, zI_neg, zI_add, zI_sub, zI_mul, zI_lt, zI_le, zI_eq, zI_clamp, zI_in, zI_div, zI_rem, lg_lt0, lg_gt0, lg_eq0, lg_le0, lg_ge0, Int.toNat_natCast, ge_iff_le, gt_iff_lt, List.length_cons, List.length_nil, bl_up2_at, bl_up2_nk, bl_up2_nx] at h125
          exfalso; omega
        · try simp (disch := omega) only [a20, i13, zI_n, zI_o, zI_lit, zI_neg, zI_add, zI_sub, zI_mul, zI_lt, zI_le, zI_eq, zI_clamp, zI_in, zI_div, zI_rem, lg_lt0, lg_gt0, lg_eq0, lg_le0, lg_ge0, Int.toNat_natCast, ge_iff_le, gt_iff_lt, List.length_cons, List.length_nil, bl_up2_at, bl_up2_nk, bl_up2_nx] at h125
          refine ⟨km, _, bl_vs rm_18, km, bl_ka km18, (by first | exact (by rw [nm18]; exact vp_in_nI (by omega) (by omega)) | ((try dsimp only [bl_pv]); show vp_in _ (N _); rw [nm18]; simp (disch := omega) only [a20, i13, zI_n, zI_o, zI_lit, zI_neg, zI_add, zI_sub, zI_mul, zI_lt, zI_le, zI_eq, zI_clamp, zI_in, zI_div, zI_rem, lg_lt0, lg_gt0, lg_eq0, lg_le0, lg_ge0, Int.toNat_natCast, ge_iff_le, gt_iff_lt, List.length_cons, List.length_nil, bl_up2_at, bl_up2_nk, bl_up2_nx] <;> omega)), _, bl_vs (by dsimp only; rw [i13, ecr]; exact rms), km, _, bl_vs rm_17, Or.inl ⟨km17, (by first | exact (by rw [nm17]; exact vp_in_nI (by omega) (by omega)) | ((try dsimp only [bl_pv]); show vp_in _ (N _); rw [nm17]; simp (disch := omega) only [a20, i13, zI_n, zI_o, zI_lit, zI_neg, zI_add, zI_sub, zI_mul, zI_lt, zI_le, zI_eq, zI_clamp, zI_in, zI_div, zI_rem, lg_lt0, lg_gt0, lg_eq0, lg_le0, lg_ge0, Int.toNat_natCast, ge_iff_le, gt_iff_lt, List.length_cons, List.length_nil, bl_up2_at, bl_up2_nk, bl_up2_nx] <;> omega)), kms, (by first | exact (by rw [nms]; exact vp_in_nI (by omega) (by omega)) | ((try dsimp only [bl_pv]); show vp_in _ (N _); rw [nms]; simp (disch := omega) only [a20, i13, zI_n, zI_o, zI_lit, zI_neg, zI_add, zI_sub, zI_mul, zI_lt, zI_le, zI_eq, zI_clamp, zI_in, zI_div, zI_rem, lg_lt0, lg_gt0, lg_eq0, lg_le0, lg_ge0, Int.toNat_natCast, ge_iff_le, gt_iff_lt, List.length_cons, List.length_nil, bl_up2_at, bl_up2_nk, bl_up2_nx] <;> omega)), ?_⟩⟩
          try dsimp only [bl_pv]
          rw [ec]
          refine ih _ _ (nI_1 _) (fun x x1 x2 x3 => by rw [bl_up2_ne x3]; exact a1 x x1 x2 x3) (fun j hj hj' => by rw [bl_up2_ne (by omega)]; exact a2 j hj hj') (by rw [bl_up2_ne (by omega)]; exact a20) (by rw [bl_up2_ne (by omega)]; exact a3) (by rw [bl_up2_ne (by omega)]; exact a4) (by rw [bl_up2_ne (by omega)]; exact a5) (fun k hk => by rw [bl_up2_ne (by omega)]; exact a6 k hk) (fun j hj => ?_)
          rw [bl_up2_ne (show m + 17 ≠ m + 100 + r by omega)]
          by_cases e : j = k
          · subst e; rw [bl_up2_at]
          · rw [bl_up2_nk e]; exact a8 j (by omega)
    refine bl_go oX11_recipe 80 [93, 118] rfl ?_
    refine ⟨km, km, Or.inr (Or.inr ⟨rfl, rfl, _, rfl⟩), (fun h => by cases h), km, fun h105 => ?_, fun h105 => ?_⟩
    · try simp (disch := omega) only [bl_pv, cl0, cl1, cl2, cl3, cl4, cl5, cl6, cl7, cl8, cl9, bl_up2_at, bl_up2_nk, bl_up2_nx] at h105
      first
      | (exfalso; first | omega | exact h105 trivial)
      | (try dsimp only [bl_pv]
         refine L118 0 (by omega) _ _ rfl (fun x x1 x2 x3 => ?_) (fun j j1 j2 => ?_) ?_ ?_ ?_ ?_ (fun j hj => ?_) (fun j hj => absurd hj (by omega))
         · rw [bl_up2_ne x1, mpI_ne x1]; exact f1 x x1 x2
         · rw [bl_up2_nk (by omega), mpx (by omega) (by omega) (by omega) (by omega)]; exact f2 j j1 j2
         · rw [bl_up2_nk (by omega), mpx (by omega) (by omega) (by omega) (by omega)]; exact hk.1
         · rw [bl_up2_nk (by omega), mpx (by omega) (by omega) (by omega) (by omega)]; exact f3
         · rw [bl_up2_nk (by omega), mpx (by omega) (by omega) (by omega) (by omega)]; exact f4
         · rw [bl_up2_at, mp6]
         · rw [bl_up2_ne (by omega), mpI_ne (by omega)]; exact hk.2 j hj)
    · try simp (disch := omega) only [bl_pv, cl0, cl1, cl2, cl3, cl4, cl5, cl6, cl7, cl8, cl9, bl_up2_at, bl_up2_nk, bl_up2_nx] at h105
      first
      | (exfalso; first | omega | exact h105 trivial)
      | (refine ⟨km, (fun h => by cases h), ?_⟩
         try show _ ∧ _
         try dsimp only [bl_pv]
         exact absurd mp5 h105)
theorem c_Model_rec57 (hm : mdS R K N m) (hn : n ≤ 400) (hr4 : r < 4) (h13 : I m 13 = nI r) : ∀ f S, S.1 + f = 20 → ∀ i I1, i ≤ n → skB (I (m + 8)) n i = i → sqR I1 m S → (∀ x, x ≠ m → x ≠ m + 17 → I1 x = I x) → (∀ j, 8 ≤ j → j ≠ 20 → I1 m j = I m j) → I1 m 0 = 0 → I1 m 1 = 0 → prec (I (m + 8)) n 21 sq0 0 = prec (I (m + 8)) n (f + 1) S i → bl_WP G l (d + 6) mX11_recipe 57 [(0, .ref m), (1, .int (nI n))] [] (mpI I1 m (nI n) (nI i) 0 (zI (-1)), J, R, K, N) (0, 0) (fun o σ' => ∃ I', σ' = (I', J, R, K, N) ∧ rcF I I' m r ∧ (I' m 0 = 0 ∧ I' m 1 = 0) ∧ ((∃ S, prec (I (m + 8)) n 21 sq0 0 = .inl S ∧ o = .inl (some (.int (nI r))) ∧ I' m 3 = zI (-1) ∧ I' m 13 = nI (r + 1) ∧ I' (m + 16) r = nI S.1 ∧ (∀ x, x ≠ r → I' (m + 16) x = I (m + 16) x) ∧ ∀ j, j < S.1 → I' (m + 100 + r) (2 * j) = nI (S.2.1 j) ∧ I' (m + 100 + r) (2 * j + 1) = nI (S.2.2 j)) ∨ (∃ f, prec (I (m + 8)) n 21 sq0 0 = .inr f ∧ o = .inl (some (.int (nI f.1 - 10))) ∧ I' m 3 = nI f.2 ∧ I' m 13 = I m 13 ∧ I' (m + 16) = I (m + 16) ∧ I' (m + 100 + r) = I (m + 100 + r)))) := by
  have km := hm.2.1
  have LF : ∀ g I1 M, (∀ x, x ≠ m → x ≠ m + 17 → I1 x = I x) → (∀ j, 8 ≤ j → j ≠ 20 → I1 m j = I m j) → I1 m 0 = 0 → I1 m 1 = 0 → prec (I (m + 8)) n 21 sq0 0 = .inr g → pM I1 m n (.inr g) (zI (-1)) M → bl_WP G l (d + 6) mX11_recipe 57 [(0, .ref m), (1, .int (nI n))] [] (M, J, R, K, N) (0, 0) (fun o σ' => ∃ I', σ' = (I', J, R, K, N) ∧ rcF I I' m r ∧ (I' m 0 = 0 ∧ I' m 1 = 0) ∧ ((∃ S, prec (I (m + 8)) n 21 sq0 0 = .inl S ∧ o = .inl (some (.int (nI r))) ∧ I' m 3 = zI (-1) ∧ I' m 13 = nI (r + 1) ∧ I' (m + 16) r = nI S.1 ∧ (∀ x, x ≠ r → I' (m + 16) x = I (m + 16) x) ∧ ∀ j, j < S.1 → I' (m + 100 + r) (2 * j) = nI (S.2.1 j) ∧ I' (m + 100 + r) (2 * j + 1) = nI (S.2.2 j)) ∨ (∃ f, prec (I (m + 8)) n 21 sq0 0 = .inr f ∧ o = .inl (some (.int (nI f.1 - 10))) ∧ I' m 3 = nI f.2 ∧ I' m 13 = I m 13 ∧ I' (m + 16) = I (m + 16) ∧ I' (m + 100 + r) = I (m + 100 + r)))) := by
    intro g I1 M f1 f2 f3 f4 hr hM
    have hM' := hM
    obtain ⟨k1, e, k2, rfl⟩ := hM
    refine bl_go oX11_recipe 80 [57, 82, 93] rfl ?_
    refine ⟨km, fun h61 => ?_, fun h61 => ?_⟩
    · try simp (disch := omega) only [bl_pv, cl0, cl1, cl2, cl3, cl4, cl5, cl6, cl7, cl8, cl9, bl_up2_at, bl_up2_nk, bl_up2_nx] at h61
      try dsimp only [bl_pv]
      refine c_Model_rec93 hm hr4 h13 I1 _ (.inr g) f1 f2 f3 f4 hr.symm (fun S h => by cases h) (fun f h => ?_)
      cases h; exact hM'
    · try simp (disch := omega) only [bl_pv, cl0, cl1, cl2, cl3, cl4, cl5, cl6, cl7, cl8, cl9, bl_up2_at, bl_up2_nk, bl_up2_nx] at h61
      exact absurd (mp5.symm.trans h61) (nI_k k1)
  have body : ∀ f S, S.1 ≤ 20 → (S.1 < 20 → ∀ S' : sq, S'.1 = S.1 + 1 → ∀ i I1, i ≤ n → skB (I (m + 8)) n i = i → sqR I1 m S' → (∀ x, x ≠ m → x ≠ m + 17 → I1 x = I x) → (∀ j, 8 ≤ j → j ≠ 20 → I1 m j = I m j) → I1 m 0 = 0 → I1 m 1 = 0 → prec (I (m + 8)) n 21 sq0 0 = prec (I (m + 8)) n f S' i → bl_WP G l (d + 6) mX11_recipe 57 [(0, .ref m), (1, .int (nI n))] [] (mpI I1 m (nI n) (nI i) 0 (zI (-1)), J, R, K, N) (0, 0) (fun o σ' => ∃ I', σ' = (I', J, R, K, N) ∧ rcF I I' m r ∧ (I' m 0 = 0 ∧ I' m 1 = 0) ∧ ((∃ S, prec (I (m + 8)) n 21 sq0 0 = .inl S ∧ o = .inl (some (.int (nI r))) ∧ I' m 3 = zI (-1) ∧ I' m 13 = nI (r + 1) ∧ I' (m + 16) r = nI S.1 ∧ (∀ x, x ≠ r → I' (m + 16) x = I (m + 16) x) ∧ ∀ j, j < S.1 → I' (m + 100 + r) (2 * j) = nI (S.2.1 j) ∧ I' (m + 100 + r) (2 * j + 1) = nI (S.2.2 j)) ∨ (∃ f, prec (I (m + 8)) n 21 sq0 0 = .inr f ∧ o = .inl (some (.int (nI f.1 - 10))) ∧ I' m 3 = nI f.2 ∧ I' m 13 = I m 13 ∧ I' (m + 16) = I (m + 16) ∧ I' (m + 100 + r) = I (m + 100 + r))))) → ∀ i I1, i ≤ n → skB (I (m + 8)) n i = i → sqR I1 m S → (∀ x, x ≠ m → x ≠ m + 17 → I1 x = I x) → (∀ j, 8 ≤ j → j ≠ 20 → I1 m j = I m j) → I1 m 0 = 0 → I1 m 1 = 0 → prec (I (m + 8)) n 21 sq0 0 = prec (I (m + 8)) n (f + 1) S i → bl_WP G l (d + 6) mX11_recipe 57 [(0, .ref m), (1, .int (nI n))] [] (mpI I1 m (nI n) (nI i) 0 (zI (-1)), J, R, K, N) (0, 0) (fun o σ' => ∃ I', σ' = (I', J, R, K, N) ∧ rcF I I' m r ∧ (I' m 0 = 0 ∧ I' m 1 = 0) ∧ ((∃ S, prec (I (m + 8)) n 21 sq0 0 = .inl S ∧ o = .inl (some (.int (nI r))) ∧ I' m 3 = zI (-1) ∧ I' m 13 = nI (r + 1) ∧ I' (m + 16) r = nI S.1 ∧ (∀ x, x ≠ r → I' (m + 16) x = I (m + 16) x) ∧ ∀ j, j < S.1 → I' (m + 100 + r) (2 * j) = nI (S.2.1 j) ∧ I' (m + 100 + r) (2 * j + 1) = nI (S.2.2 j)) ∨ (∃ f, prec (I (m + 8)) n 21 sq0 0 = .inr f ∧ o = .inl (some (.int (nI f.1 - 10))) ∧ I' m 3 = nI f.2 ∧ I' m 13 = I m 13 ∧ I' (m + 16) = I (m + 16) ∧ I' (m + 100 + r) = I (m + 100 + r)))) := by
    intro f S hc ih i I1 hi hid hk f1 f2 f3 f4 hr
    have eB : I1 (m + 8) = I (m + 8) := f1 _ (by omega) (by omega)
    have L82 : prec (I (m + 8)) n 21 sq0 0 = pbd (psc (I (m + 8)) n S i) (fun a => prec (I (m + 8)) n f a.1 a.2) → bl_WP G l (d + 6) mX11_recipe 82 [(0, .ref m), (1, .int (nI n))] [] (mpI I1 m (nI n) (nI i) 0 (zI (-1)), J, R, K, N) (0, 0) (fun o σ' => ∃ I', σ' = (I', J, R, K, N) ∧ rcF I I' m r ∧ (I' m 0 = 0 ∧ I' m 1 = 0) ∧ ((∃ S, prec (I (m + 8)) n 21 sq0 0 = .inl S ∧ o = .inl (some (.int (nI r))) ∧ I' m 3 = zI (-1) ∧ I' m 13 = nI (r + 1) ∧ I' (m + 16) r = nI S.1 ∧ (∀ x, x ≠ r → I' (m + 16) x = I (m + 16) x) ∧ ∀ j, j < S.1 → I' (m + 100 + r) (2 * j) = nI (S.2.1 j) ∧ I' (m + 100 + r) (2 * j + 1) = nI (S.2.2 j)) ∨ (∃ f, prec (I (m + 8)) n 21 sq0 0 = .inr f ∧ o = .inl (some (.int (nI f.1 - 10))) ∧ I' m 3 = nI f.2 ∧ I' m 13 = I m 13 ∧ I' (m + 16) = I (m + 16) ∧ I' (m + 100 + r) = I (m + 100 + r)))) := by
      clear hr
      intro hr
      have hCl := c_Model_readsStep (d := d) (G := G) (l := l) (J := J) (fa := zI (-1)) hm hn hi hk hc
      refine bl_go oX11_recipe 80 [57, 82, 93] rfl ?_
      refine ⟨rfl, rfl, km, (Nat.le_of_ble_eq_true rfl), (0, 0), Nat.le_of_ble_eq_true rfl, Nat.le_of_ble_eq_true rfl, bl_MC_mono (hCl) (fun o83 σ83 q83 => ?_)⟩
      try dsimp only [bl_pv] at q83
      obtain ⟨rfl, I2, M2, rfl, hF, hM2, hk2⟩ := q83
      have eB2 : I2 (m + 8) = I (m + 8) := (hF.1 _ (by omega) (by omega)).trans eB
      refine bl_go oX11_recipe 80 [57, 82, 93] rfl ?_
      refine ⟨rfl, rfl, km, (Nat.le_of_ble_eq_true rfl), (0, 0), Nat.le_of_ble_eq_true rfl, Nat.le_of_ble_eq_true rfl, bl_MC_mono (c_Model_blM (d := d + 4) hm hn hM2) (fun o87 σ87 q87 => ?_)⟩
      try dsimp only [bl_pv] at q87
      obtain ⟨M3, rfl, rfl, hM3⟩ := q87
      rw [eB2] at hM3
      rw [eB] at hM3 hk2 hM2
      refine bl_go oX11_recipe 80 [57, 82, 93] rfl ?_
      try dsimp only [bl_pv]
      have g1 : ∀ x, x ≠ m → x ≠ m + 17 → I2 x = I x := fun x x1 x2 => (hF.1 x x1 x2).trans (f1 x x1 x2)
      have g2 : ∀ j, 8 ≤ j → j ≠ 20 → I2 m j = I m j := fun j hj hj' => (hF.2 j hj').trans (f2 j hj hj')
      have g3 : I2 m 0 = 0 := (hF.2 0 (by omega)).trans f3
      have g4 : I2 m 1 = 0 := (hF.2 1 (by omega)).trans f4
      cases hpk : psc (I (m + 8)) n S i with
      | inr g =>
        rw [hpk] at hr hM3
        exact LF g I2 _ g1 g2 g3 g4 hr hM3
      | inl a =>
        have hc30 : S.1 < 20 ∧ a.1.1 = S.1 + 1 := by
          unfold psc at hpk
          by_cases e1 : skd (I (m + 8)) (skB (I (m + 8)) n i) (skW (I (m + 8)) n (skB (I (m + 8)) n i)) = zI (-1)
          · rw [if_pos e1] at hpk; cases hpk
          · rw [if_neg e1] at hpk
            by_cases e2 : 20 ≤ S.1
            · rw [if_pos e2] at hpk; cases hpk
            · rw [if_neg e2] at hpk
              refine ⟨by omega, ?_⟩
              cases hps : psn (I (m + 8)) n (skd (I (m + 8)) (skB (I (m + 8)) n i) (skW (I (m + 8)) n (skB (I (m + 8)) n i))).toNatClampNeg (skW (I (m + 8)) n (skB (I (m + 8)) n i)) with
              | inr g => rw [hps] at hpk; cases hpk
              | inl b =>
                rw [hps] at hpk
                have hpk' : (pbd (pend (I (m + 8)) n b.2) fun j => .inl (bl_sn S _ b.1, j)) = .inl a := hpk
                cases hpe : pend (I (m + 8)) n b.2 with
                | inr g => rw [hpe] at hpk'; cases hpk'
                | inl j => rw [hpe] at hpk'; cases hpk'; rfl
        have hk3 := hk2 a hpk
        rw [hpk] at hr hM3 hM2
        obtain ⟨hj, rfl⟩ := hM3
        have ha2 : a.2 ≤ n := hM2.1
        refine ih hc30.1 a.1 hc30.2 (skB (I (m + 8)) n a.2) I2 hj (skB_id hn ha2) hk3 g1 g2 g3 g4 (hr.trans ?_)
        show prec _ n f a.1 a.2 = _
        rw [prec_sk hn ha2]
    rw [prec_c (f := f) (S := S) (i := i), hid] at hr
    by_cases hin : n ≤ i
    · rw [if_pos hin] at hr
      have ei : i = n := by omega
      subst ei
      by_cases h0 : 0 < S.1
      · rw [if_pos h0] at hr
        have hne : mpI I1 m (nI i) (nI i) 0 (zI (-1)) m 20 ≠ 0 := by
          rw [mpx (by omega) (by omega) (by omega) (by omega), hk.1]
          intro h
          have h' := congrArg Int32.toNatClampNeg h
          rw [nI_clamp (by omega)] at h'
          have : Int32.toNatClampNeg 0 = 0 := rfl
          omega
        refine bl_go oX11_recipe 80 [57, 82, 93] rfl ?_
        refine ⟨km, fun h61 => ?_, fun h61 => ?_⟩
        · try simp (disch := omega) only [bl_pv, cl0, cl1, cl2, cl3, cl4, cl5, cl6, cl7, cl8, cl9, bl_up2_at, bl_up2_nk, bl_up2_nx] at h61
          exact absurd mp5 h61
        · try simp (disch := omega) only [bl_pv, cl0, cl1, cl2, cl3, cl4, cl5, cl6, cl7, cl8, cl9, bl_up2_at, bl_up2_nk, bl_up2_nx] at h61
          first
          | (exfalso; first | omega | exact h61 trivial)
          | (refine ⟨km, km, fun h72 => ?_, fun h72 => ?_⟩
             · try simp (disch := omega) only [mp4, mp2, zI_n, zI_o, zI_lit, zI_neg, zI_add, zI_sub, zI_mul, zI_lt, zI_le, zI_eq, zI_clamp, zI_in, zI_div, zI_rem, lg_lt0, lg_gt0, lg_eq0, lg_le0, lg_ge0, Int.toNat_natCast, ge_iff_le, gt_iff_lt, List.length_cons, List.length_nil, bl_up2_at, bl_up2_nk, bl_up2_nx] at h72
               exfalso; omega
             · try simp (disch := omega) only [mp4, mp2, zI_n, zI_o, zI_lit, zI_neg, zI_add, zI_sub, zI_mul, zI_lt, zI_le, zI_eq, zI_clamp, zI_in, zI_div, zI_rem, lg_lt0, lg_gt0, lg_eq0, lg_le0, lg_ge0, Int.toNat_natCast, ge_iff_le, gt_iff_lt, List.length_cons, List.length_nil, bl_up2_at, bl_up2_nk, bl_up2_nx] at h72
               refine ⟨km, fun h79 => ?_, fun h79 => ?_⟩
               · try simp (disch := omega) only [bl_pv, cl0, cl1, cl2, cl3, cl4, cl5, cl6, cl7, cl8, cl9, bl_up2_at, bl_up2_nk, bl_up2_nx] at h79
                 first
                 | (exfalso; first | omega | exact h79 trivial)
                 | (try dsimp only [bl_pv]
                    refine c_Model_rec93 hm hr4 h13 I1 _ (.inl S) f1 f2 f3 f4 hr.symm (fun S' h => ?_) (fun f h => by cases h)
                    cases h; exact ⟨hc, hk, Nat.le_refl _, rfl⟩)
               · try simp (disch := omega) only [bl_pv, cl0, cl1, cl2, cl3, cl4, cl5, cl6, cl7, cl8, cl9, bl_up2_at, bl_up2_nk, bl_up2_nx] at h79
                 first
                 | (exfalso; first | omega | exact h79 trivial)
                 | (try dsimp only [bl_pv]
                    exact absurd h79 hne))
      · rw [if_neg h0] at hr
        have heq : mpI I1 m (nI i) (nI i) 0 (zI (-1)) m 20 = 0 := by
          rw [mpx (by omega) (by omega) (by omega) (by omega), hk.1, show S.1 = 0 by omega]; rfl
        refine bl_go oX11_recipe 80 [57, 82, 93] rfl ?_
        refine ⟨km, fun h61 => ?_, fun h61 => ?_⟩
        · try simp (disch := omega) only [bl_pv, cl0, cl1, cl2, cl3, cl4, cl5, cl6, cl7, cl8, cl9, bl_up2_at, bl_up2_nk, bl_up2_nx] at h61
          exact absurd mp5 h61
        · try simp (disch := omega) only [bl_pv, cl0, cl1, cl2, cl3, cl4, cl5, cl6, cl7, cl8, cl9, bl_up2_at, bl_up2_nk, bl_up2_nx] at h61
          first
          | (exfalso; first | omega | exact h61 trivial)
          | (refine ⟨km, km, fun h72 => ?_, fun h72 => ?_⟩
             · try simp (disch := omega) only [mp4, mp2, zI_n, zI_o, zI_lit, zI_neg, zI_add, zI_sub, zI_mul, zI_lt, zI_le, zI_eq, zI_clamp, zI_in, zI_div, zI_rem, lg_lt0, lg_gt0, lg_eq0, lg_le0, lg_ge0, Int.toNat_natCast, ge_iff_le, gt_iff_lt, List.length_cons, List.length_nil, bl_up2_at, bl_up2_nk, bl_up2_nx] at h72
               exfalso; omega
             · try simp (disch := omega) only [mp4, mp2, zI_n, zI_o, zI_lit, zI_neg, zI_add, zI_sub, zI_mul, zI_lt, zI_le, zI_eq, zI_clamp, zI_in, zI_div, zI_rem, lg_lt0, lg_gt0, lg_eq0, lg_le0, lg_ge0, Int.toNat_natCast, ge_iff_le, gt_iff_lt, List.length_cons, List.length_nil, bl_up2_at, bl_up2_nk, bl_up2_nx] at h72
               refine ⟨km, fun h79 => ?_, fun h79 => ?_⟩
               · try simp (disch := omega) only [bl_pv, cl0, cl1, cl2, cl3, cl4, cl5, cl6, cl7, cl8, cl9, bl_up2_at, bl_up2_nk, bl_up2_nx] at h79
                 first
                 | (exfalso; first | omega | exact h79 trivial)
                 | (try dsimp only [bl_pv]
                    exact absurd heq h79)
               · try simp (disch := omega) only [bl_pv, cl0, cl1, cl2, cl3, cl4, cl5, cl6, cl7, cl8, cl9, bl_up2_at, bl_up2_nk, bl_up2_nx] at h79
                 first
                 | (exfalso; first | omega | exact h79 trivial)
                 | (try dsimp only [bl_pv]
                    refine L82 ?_
                    unfold psc
                    rw [hid, skd_nn, if_pos rfl]
                    exact hr))
    · rw [if_neg hin] at hr
      refine bl_go oX11_recipe 80 [57, 82, 93] rfl ?_
      refine ⟨km, fun h61 => ?_, fun h61 => ?_⟩
      · try simp (disch := omega) only [bl_pv, cl0, cl1, cl2, cl3, cl4, cl5, cl6, cl7, cl8, cl9, bl_up2_at, bl_up2_nk, bl_up2_nx] at h61
        exact absurd mp5 h61
      · try simp (disch := omega) only [bl_pv, cl0, cl1, cl2, cl3, cl4, cl5, cl6, cl7, cl8, cl9, bl_up2_at, bl_up2_nk, bl_up2_nx] at h61
        first
        | (exfalso; first | omega | exact h61 trivial)
        | (refine ⟨km, km, fun h72 => ?_, fun h72 => ?_⟩
           · try simp (disch := omega) only [mp4, mp2, zI_n, zI_o, zI_lit, zI_neg, zI_add, zI_sub, zI_mul, zI_lt, zI_le, zI_eq, zI_clamp, zI_in, zI_div, zI_rem, lg_lt0, lg_gt0, lg_eq0, lg_le0, lg_ge0, Int.toNat_natCast, ge_iff_le, gt_iff_lt, List.length_cons, List.length_nil, bl_up2_at, bl_up2_nk, bl_up2_nx] at h72
             try dsimp only [bl_pv]
             exact L82 hr
           · try simp (disch := omega) only [mp4, mp2, zI_n, zI_o, zI_lit, zI_neg, zI_add, zI_sub, zI_mul, zI_lt, zI_le, zI_eq, zI_clamp, zI_in, zI_div, zI_rem, lg_lt0, lg_gt0, lg_eq0, lg_le0, lg_ge0, Int.toNat_natCast, ge_iff_le, gt_iff_lt, List.length_cons, List.length_nil, bl_up2_at, bl_up2_nk, bl_up2_nx] at h72
             exfalso; omega)
  intro f
  induction f with
  | zero => exact fun S hc => body 0 S (by omega) (fun h => absurd h (by omega))
  | succ f ih => exact fun S hc => body (f + 1) S (by omega) (fun _ S' hS' => ih S' (by omega))
/-- the tape ends short of the told size -/
theorem c_Model_recipeF {z : Int32} {t : Nat} (hm : mdS R K N m) (ht : I m 1 = nI t) (hz : ¬ (0 ≤ z ∧ z ≤ nI t)) : bl_MC G l (d + 6) mX11_recipe [.ref m, .int z] (I, J, R, K, N) (0, 0) (fun o σ' => o = .inl (some (.int 0)) ∧ σ' = (bl_up2 I m 0 1, J, R, K, N)) := by
  have km := hm.2.1
  have ht' : bl_up2 I m 0 0 m 1 = nI t := (bl_up2_nk (by omega)).trans ht
  refine bl_MC_intro (by decide +kernel) rfl (Nat.le_of_ble_eq_true rfl) ?_
  refine bl_go oX11_recipe 80 [32] rfl ?_
  refine ⟨km, Or.inr (Or.inr ⟨rfl, rfl, _, rfl⟩), (fun h => by cases h), km, rfl, (Nat.le_of_ble_eq_true rfl), (0, 0), Nat.le_of_ble_eq_true rfl, Nat.le_of_ble_eq_true rfl, bl_MC_mono (c_Model_in (d := d + 5)) (fun o12 σ12 q12 => ?_)⟩
  try dsimp only [bl_pv] at q12
  obtain ⟨hq, rfl⟩ := q12
  rw [ht'] at hq
  rcases hq with ⟨a, b, rfl⟩ | ⟨_, rfl⟩
  · exact absurd ⟨a, b⟩ hz
  refine bl_go oX11_recipe 80 [32] rfl ?_
  refine ⟨fun h15 => ?_, fun h15 => ?_⟩
  · try simp (disch := omega) only [bl_pv, cl0, cl1, cl2, cl3, cl4, cl5, cl6, cl7, cl8, cl9, bl_up2_at, bl_up2_nk, bl_up2_nx] at h15
    exact absurd trivial h15
  · try simp (disch := omega) only [bl_pv, cl0, cl1, cl2, cl3, cl4, cl5, cl6, cl7, cl8, cl9, bl_up2_at, bl_up2_nk, bl_up2_nx] at h15
    first
    | (exfalso; first | omega | exact h15 trivial)
    | (refine ⟨rfl, rfl, km, (Nat.le_of_ble_eq_true rfl), (0, 0), Nat.le_of_ble_eq_true rfl, Nat.le_of_ble_eq_true rfl, bl_MC_mono (c_Model_bad (d := d + 5) km) (fun o24 σ24 q24 => ?_)⟩
       try dsimp only [bl_pv] at q24
       obtain ⟨tt, e1, rfl, rfl⟩ := q24
       rw [if_pos ⟨by decide, bl_up2_at⟩] at e1
       subst e1
       refine bl_go oX11_recipe 80 [32] rfl ?_
       refine ⟨fun h27 => ?_, fun h27 => ?_⟩
       · try simp (disch := omega) only [bl_pv, cl0, cl1, cl2, cl3, cl4, cl5, cl6, cl7, cl8, cl9, bl_up2_at, bl_up2_nk, bl_up2_nx] at h27
         first
         | (exfalso; first | omega | exact h27 trivial)
         | (try dsimp only [bl_pv]
            exact absurd h27 (by decide))
       · try simp (disch := omega) only [bl_pv, cl0, cl1, cl2, cl3, cl4, cl5, cl6, cl7, cl8, cl9, bl_up2_at, bl_up2_nk, bl_up2_nx] at h27
         first
         | (exfalso; first | omega | exact h27 trivial)
         | (refine ⟨(fun h => by cases h), ?_⟩
            try show _ ∧ _
            try dsimp only [bl_pv]
            rw [bl_up2_up2]; exact ⟨rfl, rfl⟩))
theorem c_Model_recipe {z : Int32} {t : Nat} (hm : mdS R K N m) (ht : I m 1 = nI t) (ht4 : t ≤ 400) (hnt : n ≤ t) (hz : z = nI n) (hr4 : r ≤ 4) (h13 : I m 13 = nI r) : bl_MC G l (d + 6) mX11_recipe [.ref m, .int z] (I, J, R, K, N) (0, 0) (fun o σ' => ∃ I', σ' = (I', J, R, K, N) ∧ rcF I I' m r ∧ (I' m 0 = 0 ∧ I' m 1 = 0) ∧ ((r = 4 ∧ o = .inl (some (.int (zI (-1)))) ∧ I' m 3 = zI (-1) ∧ I' m 13 = I m 13 ∧ I' (m + 16) = I (m + 16)) ∨ (r < 4 ∧ ((∃ S, prec (I (m + 8)) n 21 sq0 0 = .inl S ∧ o = .inl (some (.int (nI r))) ∧ I' m 3 = zI (-1) ∧ I' m 13 = nI (r + 1) ∧ I' (m + 16) r = nI S.1 ∧ (∀ x, x ≠ r → I' (m + 16) x = I (m + 16) x) ∧ ∀ j, j < S.1 → I' (m + 100 + r) (2 * j) = nI (S.2.1 j) ∧ I' (m + 100 + r) (2 * j + 1) = nI (S.2.2 j)) ∨ (∃ f, prec (I (m + 8)) n 21 sq0 0 = .inr f ∧ o = .inl (some (.int (nI f.1 - 10))) ∧ I' m 3 = nI f.2 ∧ I' m 13 = I m 13 ∧ I' (m + 16) = I (m + 16) ∧ I' (m + 100 + r) = I (m + 100 + r)))))) := by
  have km := hm.2.1
  have ht' : bl_up2 I m 0 0 m 1 = nI t := (bl_up2_nk (by omega)).trans ht
  have hn : n ≤ 400 := by omega
  have e8 : bl_up2 I m 0 0 (m + 8) = I (m + 8) := bl_up2_ne (by omega)
  have e13 : bl_up2 I m 0 0 m 13 = nI r := (bl_up2_nk (by omega)).trans h13
  subst hz
  refine bl_MC_intro (by decide +kernel) rfl (Nat.le_of_ble_eq_true rfl) ?_
  have L32 : bl_WP G l (d + 6) mX11_recipe 32 [(0, .ref m), (1, .int (nI n))] [] (bl_up2 I m 0 0, J, R, K, N) (0, 0) (fun o σ' => ∃ I', σ' = (I', J, R, K, N) ∧ rcF I I' m r ∧ (I' m 0 = 0 ∧ I' m 1 = 0) ∧ ((r = 4 ∧ o = .inl (some (.int (zI (-1)))) ∧ I' m 3 = zI (-1) ∧ I' m 13 = I m 13 ∧ I' (m + 16) = I (m + 16)) ∨ (r < 4 ∧ ((∃ S, prec (I (m + 8)) n 21 sq0 0 = .inl S ∧ o = .inl (some (.int (nI r))) ∧ I' m 3 = zI (-1) ∧ I' m 13 = nI (r + 1) ∧ I' (m + 16) r = nI S.1 ∧ (∀ x, x ≠ r → I' (m + 16) x = I (m + 16) x) ∧ ∀ j, j < S.1 → I' (m + 100 + r) (2 * j) = nI (S.2.1 j) ∧ I' (m + 100 + r) (2 * j + 1) = nI (S.2.2 j)) ∨ (∃ f, prec (I (m + 8)) n 21 sq0 0 = .inr f ∧ o = .inl (some (.int (nI f.1 - 10))) ∧ I' m 3 = nI f.2 ∧ I' m 13 = I m 13 ∧ I' (m + 16) = I (m + 16) ∧ I' (m + 100 + r) = I (m + 100 + r)))))) := by
    have e13' : mpI (bl_up2 (bl_up2 (bl_up2 I m 0 0) m 1 0) m 7 0) m (nI n) (nI (skB (I (m + 8)) n 0)) 0 (zI (-1)) m 13 = nI r := by
      rw [mpx (by omega) (by omega) (by omega) (by omega), bl_up2_nk (by omega), bl_up2_nk (by omega)]; exact e13
    refine bl_go oX11_recipe 80 [32, 57] rfl ?_
    refine ⟨rfl, rfl, km, (Nat.le_of_ble_eq_true rfl), (0, 0), Nat.le_of_ble_eq_true rfl, Nat.le_of_ble_eq_true rfl, bl_MC_mono (c_Model_starts (d := d + 3) (h0 := 0) hm hn rfl) (fun o34 σ34 q34 => ?_)⟩
    try dsimp only [bl_pv] at q34
    obtain ⟨rfl, rfl⟩ := q34
    rw [e8]
    refine bl_go oX11_recipe 80 [32, 57] rfl ?_
    refine ⟨km, Or.inr (Or.inr ⟨rfl, rfl, _, rfl⟩), (fun h => by cases h), km, fun h47 => ?_, fun h47 => ?_⟩
    · try simp (disch := omega) only [bl_pv, cl0, cl1, cl2, cl3, cl4, cl5, cl6, cl7, cl8, cl9, bl_up2_at, bl_up2_nk, bl_up2_nx] at h47
      first
      | (exfalso; first | omega | exact h47 trivial)
      | (refine ⟨km, Or.inr (Or.inr ⟨rfl, rfl, _, rfl⟩), (fun h => by cases h), ?_⟩
         try dsimp only [bl_pv]
         have hr4' : r < 4 := by
           have hne : r ≠ 4 := fun h => h47 (e13'.trans (by rw [h]; rfl))
           omega
         rw [mpI_up (Or.inr ⟨by omega, by omega, by omega, by omega⟩), mpI_up (Or.inr ⟨by omega, by omega, by omega, by omega⟩)]
         refine bl_WP_mono (c_Model_rec57 hm hn hr4' h13 20 sq0 rfl _ _ (skB_le (Nat.zero_le _)) (skB_id hn (Nat.zero_le _)) ⟨bl_up2_at, fun j hj => absurd hj (Nat.not_lt_zero _)⟩ (fun x x1 x2 => ?_) (fun j j1 j2 => ?_) ?_ ?_ (prec_sk hn (Nat.zero_le _)).symm) (fun o σ' h => ?_)
         · rw [bl_up2_ne x1, bl_up2_ne x1, bl_up2_ne x1, bl_up2_ne x1, bl_up2_ne x1]
         · rw [bl_up2_nk j2, bl_up2_nk (by omega), bl_up2_nk (by omega), bl_up2_nk (by omega), bl_up2_nk (by omega)]
         · rw [bl_up2_nk (by omega), bl_up2_nk (by omega), bl_up2_nk (by omega), bl_up2_nk (by omega), bl_up2_at]
         · rw [bl_up2_nk (by omega), bl_up2_nk (by omega), bl_up2_nk (by omega), bl_up2_at]
         · obtain ⟨I', a1, a2, a3, a4⟩ := h
           exact ⟨I', a1, a2, a3, Or.inr ⟨hr4', a4⟩⟩)
    · try simp (disch := omega) only [bl_pv, cl0, cl1, cl2, cl3, cl4, cl5, cl6, cl7, cl8, cl9, bl_up2_at, bl_up2_nk, bl_up2_nx] at h47
      first
      | (exfalso; first | omega | exact h47 trivial)
      | (refine ⟨(fun h => by cases h), ?_⟩
         try show _ ∧ _
         try dsimp only [bl_pv]
         refine ⟨_, rfl, ⟨fun x x1 x2 x3 x4 => ?_, fun j j1 j2 j3 => ?_⟩, ⟨?_, ?_⟩, Or.inl ⟨?_, rfl, bl_up2_at, ?_, ?_⟩⟩
         · rw [bl_up2_ne x1, mpI_ne x1, bl_up2_ne x1, bl_up2_ne x1, bl_up2_ne x1]
         · rw [bl_up2_nk (by omega), mpx (by omega) (by omega) (by omega) (by omega), bl_up2_nk (by omega), bl_up2_nk (by omega), bl_up2_nk (by omega)]
         · rw [bl_up2_nk (by omega), mpx (by omega) (by omega) (by omega) (by omega), bl_up2_nk (by omega), bl_up2_nk (by omega), bl_up2_at]
         · rw [bl_up2_nk (by omega), mpx (by omega) (by omega) (by omega) (by omega), bl_up2_nk (by omega), bl_up2_at]
         · have h' := congrArg Int32.toNatClampNeg (e13'.symm.trans h47)
           rw [nI_clamp (by omega)] at h'
           exact h'
         · rw [bl_up2_nk (by omega), e13', h13]
         · rw [bl_up2_ne (by omega), mpI_ne (by omega), bl_up2_ne (by omega), bl_up2_ne (by omega), bl_up2_ne (by omega)])
  refine bl_go oX11_recipe 80 [32, 57] rfl ?_
  refine ⟨km, Or.inr (Or.inr ⟨rfl, rfl, _, rfl⟩), (fun h => by cases h), km, rfl, (Nat.le_of_ble_eq_true rfl), (0, 0), Nat.le_of_ble_eq_true rfl, Nat.le_of_ble_eq_true rfl, bl_MC_mono (c_Model_inN (d := d + 5) (a := n) (b := 0) (c := t) rfl rfl ht' (by omega) (by omega) (by omega)) (fun o12 σ12 q12 => ?_)⟩
  try dsimp only [bl_pv] at q12
  obtain ⟨hq, rfl⟩ := q12
  rcases hq with ⟨_, _, rfl⟩ | ⟨hq, rfl⟩
  rotate_left
  · exact absurd ⟨Nat.zero_le _, hnt⟩ hq
  refine bl_go oX11_recipe 80 [32, 57] rfl ?_
  refine ⟨fun h15 => ?_, fun h15 => ?_⟩
  · try simp (disch := omega) only [bl_pv, cl0, cl1, cl2, cl3, cl4, cl5, cl6, cl7, cl8, cl9, bl_up2_at, bl_up2_nk, bl_up2_nx] at h15
    first
    | (exfalso; first | omega | exact h15 trivial)
    | (refine ⟨rfl, rfl, km, (Nat.le_of_ble_eq_true rfl), (0, 0), Nat.le_of_ble_eq_true rfl, Nat.le_of_ble_eq_true rfl, bl_MC_mono (c_Model_bad (d := d + 5) km) (fun o24 σ24 q24 => ?_)⟩
       try dsimp only [bl_pv] at q24
       obtain ⟨tt, e1, rfl, rfl⟩ := q24
       rw [if_neg (fun h => h.1 rfl), bl_up2_at] at e1
       subst e1
       refine bl_go oX11_recipe 80 [32, 57] rfl ?_
       refine ⟨fun h27 => ?_, fun h27 => ?_⟩
       · try simp (disch := omega) only [bl_pv, cl0, cl1, cl2, cl3, cl4, cl5, cl6, cl7, cl8, cl9, bl_up2_at, bl_up2_nk, bl_up2_nx] at h27
         first
         | (exfalso; first | omega | exact h27 trivial)
         | (try dsimp only [bl_pv]
            rw [bl_up2_up2]; exact L32)
       · try simp (disch := omega) only [bl_pv, cl0, cl1, cl2, cl3, cl4, cl5, cl6, cl7, cl8, cl9, bl_up2_at, bl_up2_nk, bl_up2_nx] at h27
         exact absurd rfl h27)
  · try simp (disch := omega) only [bl_pv, cl0, cl1, cl2, cl3, cl4, cl5, cl6, cl7, cl8, cl9, bl_up2_at, bl_up2_nk, bl_up2_nx] at h15
    exact absurd h15 (by decide)
end MODEL9
