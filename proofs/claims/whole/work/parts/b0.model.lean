/-! ===== Model: its object and rows ===== -/
def mdA (R : Nat → Nat → Option Nat) (K N : Nat → Nat) (m k kd n : Nat) : Prop := R m k = some (m + k) ∧ K (m + k) = kd ∧ N (m + k) = n
/-- rows of rows: field k has rows from m + b on -/
def mdB (R : Nat → Nat → Option Nat) (K N : Nat → Nat) (m k b n h : Nat) : Prop := ∀ r, r < n → R (m + k) r = some (m + b + r) ∧ K (m + b + r) = 20 ∧ N (m + b + r) = h
def mdS (R : Nat → Nat → Option Nat) (K N : Nat → Nat) (m : Nat) : Prop := 6000 ≤ m ∧ K m = 12 ∧ mdA R K N m 8 20 400 ∧ mdA R K N m 9 20 9 ∧ mdA R K N m 10 20 9 ∧ mdA R K N m 11 20 24 ∧ mdA R K N m 12 20 24 ∧ mdA R K N m 16 20 4 ∧ mdA R K N m 17 20 40 ∧ mdA R K N m 18 25 4 ∧ mdA R K N m 19 25 3 ∧ mdA R K N m 31 21 2304 ∧ mdA R K N m 32 21 2304 ∧ mdA R K N m 33 21 2304 ∧ mdA R K N m 34 21 2304 ∧ mdA R K N m 35 21 2304 ∧ mdA R K N m 36 21 2304 ∧ mdA R K N m 37 20 2304 ∧ mdA R K N m 38 20 2304 ∧ mdA R K N m 39 20 2304 ∧ mdA R K N m 40 20 2304 ∧ mdA R K N m 41 21 2 ∧ mdA R K N m 42 20 48 ∧ mdA R K N m 43 26 121 ∧ mdA R K N m 44 20 32 ∧ mdA R K N m 51 25 4 ∧ mdA R K N m 52 25 4 ∧ mdA R K N m 53 20 4 ∧ mdA R K N m 54 20 4 ∧ mdA R K N m 55 20 4 ∧ mdA R K N m 56 20 12 ∧ mdA R K N m 57 20 12 ∧ mdA R K N m 58 20 12 ∧ mdA R K N m 59 20 12 ∧ mdB R K N m 18 100 4 40 ∧ mdB R K N m 19 110 3 2 ∧ mdB R K N m 51 120 4 20 ∧ mdB R K N m 52 130 4 21 ∧ (∀ u, u < 121 → R (m + 43) u = some (m + 200 + u) ∧ K (m + 200 + u) = 25 ∧ N (m + 200 + u) = 403) ∧ ∀ u w, u < 121 → w < 403 → R (m + 200 + u) w = some (m + 1000 + u * 403 + w) ∧ K (m + 1000 + u * 403 + w) = 20 ∧ N (m + 1000 + u * 403 + w) = 32
section MODEL0
variable {R : Nat → Nat → Option Nat} {K N : Nat → Nat} {m : Nat}
theorem mdS.f8 (h : mdS R K N m) : mdA R K N m 8 20 400 := h.2.2.1
theorem mdS.f9 (h : mdS R K N m) : mdA R K N m 9 20 9 := h.2.2.2.1
theorem mdS.f10 (h : mdS R K N m) : mdA R K N m 10 20 9 := h.2.2.2.2.1
theorem mdS.f11 (h : mdS R K N m) : mdA R K N m 11 20 24 := h.2.2.2.2.2.1
theorem mdS.f12 (h : mdS R K N m) : mdA R K N m 12 20 24 := h.2.2.2.2.2.2.1
theorem mdS.f16 (h : mdS R K N m) : mdA R K N m 16 20 4 := h.2.2.2.2.2.2.2.1
theorem mdS.f17 (h : mdS R K N m) : mdA R K N m 17 20 40 := h.2.2.2.2.2.2.2.2.1
theorem mdS.f18 (h : mdS R K N m) : mdA R K N m 18 25 4 := h.2.2.2.2.2.2.2.2.2.1
theorem mdS.f19 (h : mdS R K N m) : mdA R K N m 19 25 3 := h.2.2.2.2.2.2.2.2.2.2.1
theorem mdS.f31 (h : mdS R K N m) : mdA R K N m 31 21 2304 := h.2.2.2.2.2.2.2.2.2.2.2.1
theorem mdS.f32 (h : mdS R K N m) : mdA R K N m 32 21 2304 := h.2.2.2.2.2.2.2.2.2.2.2.2.1
theorem mdS.f33 (h : mdS R K N m) : mdA R K N m 33 21 2304 := h.2.2.2.2.2.2.2.2.2.2.2.2.2.1
theorem mdS.f34 (h : mdS R K N m) : mdA R K N m 34 21 2304 := h.2.2.2.2.2.2.2.2.2.2.2.2.2.2.1
theorem mdS.f35 (h : mdS R K N m) : mdA R K N m 35 21 2304 := h.2.2.2.2.2.2.2.2.2.2.2.2.2.2.2.1
theorem mdS.f36 (h : mdS R K N m) : mdA R K N m 36 21 2304 := h.2.2.2.2.2.2.2.2.2.2.2.2.2.2.2.2.1
theorem mdS.f37 (h : mdS R K N m) : mdA R K N m 37 20 2304 := h.2.2.2.2.2.2.2.2.2.2.2.2.2.2.2.2.2.1
theorem mdS.f38 (h : mdS R K N m) : mdA R K N m 38 20 2304 := h.2.2.2.2.2.2.2.2.2.2.2.2.2.2.2.2.2.2.1
theorem mdS.f39 (h : mdS R K N m) : mdA R K N m 39 20 2304 := h.2.2.2.2.2.2.2.2.2.2.2.2.2.2.2.2.2.2.2.1
theorem mdS.f40 (h : mdS R K N m) : mdA R K N m 40 20 2304 := h.2.2.2.2.2.2.2.2.2.2.2.2.2.2.2.2.2.2.2.2.1
theorem mdS.f41 (h : mdS R K N m) : mdA R K N m 41 21 2 := h.2.2.2.2.2.2.2.2.2.2.2.2.2.2.2.2.2.2.2.2.2.1
theorem mdS.f42 (h : mdS R K N m) : mdA R K N m 42 20 48 := h.2.2.2.2.2.2.2.2.2.2.2.2.2.2.2.2.2.2.2.2.2.2.1
theorem mdS.f43 (h : mdS R K N m) : mdA R K N m 43 26 121 := h.2.2.2.2.2.2.2.2.2.2.2.2.2.2.2.2.2.2.2.2.2.2.2.1
theorem mdS.f44 (h : mdS R K N m) : mdA R K N m 44 20 32 := h.2.2.2.2.2.2.2.2.2.2.2.2.2.2.2.2.2.2.2.2.2.2.2.2.1
theorem mdS.f51 (h : mdS R K N m) : mdA R K N m 51 25 4 := h.2.2.2.2.2.2.2.2.2.2.2.2.2.2.2.2.2.2.2.2.2.2.2.2.2.1
theorem mdS.f52 (h : mdS R K N m) : mdA R K N m 52 25 4 := h.2.2.2.2.2.2.2.2.2.2.2.2.2.2.2.2.2.2.2.2.2.2.2.2.2.2.1
theorem mdS.f53 (h : mdS R K N m) : mdA R K N m 53 20 4 := h.2.2.2.2.2.2.2.2.2.2.2.2.2.2.2.2.2.2.2.2.2.2.2.2.2.2.2.1
theorem mdS.f54 (h : mdS R K N m) : mdA R K N m 54 20 4 := h.2.2.2.2.2.2.2.2.2.2.2.2.2.2.2.2.2.2.2.2.2.2.2.2.2.2.2.2.1
theorem mdS.f55 (h : mdS R K N m) : mdA R K N m 55 20 4 := h.2.2.2.2.2.2.2.2.2.2.2.2.2.2.2.2.2.2.2.2.2.2.2.2.2.2.2.2.2.1
theorem mdS.f56 (h : mdS R K N m) : mdA R K N m 56 20 12 := h.2.2.2.2.2.2.2.2.2.2.2.2.2.2.2.2.2.2.2.2.2.2.2.2.2.2.2.2.2.2.1
theorem mdS.f57 (h : mdS R K N m) : mdA R K N m 57 20 12 := h.2.2.2.2.2.2.2.2.2.2.2.2.2.2.2.2.2.2.2.2.2.2.2.2.2.2.2.2.2.2.2.1
theorem mdS.f58 (h : mdS R K N m) : mdA R K N m 58 20 12 := h.2.2.2.2.2.2.2.2.2.2.2.2.2.2.2.2.2.2.2.2.2.2.2.2.2.2.2.2.2.2.2.2.1
theorem mdS.f59 (h : mdS R K N m) : mdA R K N m 59 20 12 := h.2.2.2.2.2.2.2.2.2.2.2.2.2.2.2.2.2.2.2.2.2.2.2.2.2.2.2.2.2.2.2.2.2.1
theorem mdS.g18 (h : mdS R K N m) : mdB R K N m 18 100 4 40 := h.2.2.2.2.2.2.2.2.2.2.2.2.2.2.2.2.2.2.2.2.2.2.2.2.2.2.2.2.2.2.2.2.2.2.1
theorem mdS.g19 (h : mdS R K N m) : mdB R K N m 19 110 3 2 := h.2.2.2.2.2.2.2.2.2.2.2.2.2.2.2.2.2.2.2.2.2.2.2.2.2.2.2.2.2.2.2.2.2.2.2.1
theorem mdS.g51 (h : mdS R K N m) : mdB R K N m 51 120 4 20 := h.2.2.2.2.2.2.2.2.2.2.2.2.2.2.2.2.2.2.2.2.2.2.2.2.2.2.2.2.2.2.2.2.2.2.2.2.1
theorem mdS.g52 (h : mdS R K N m) : mdB R K N m 52 130 4 21 := h.2.2.2.2.2.2.2.2.2.2.2.2.2.2.2.2.2.2.2.2.2.2.2.2.2.2.2.2.2.2.2.2.2.2.2.2.2.1
theorem mdS.g43 (h : mdS R K N m) : (∀ u, u < 121 → R (m + 43) u = some (m + 200 + u) ∧ K (m + 200 + u) = 25 ∧ N (m + 200 + u) = 403) := h.2.2.2.2.2.2.2.2.2.2.2.2.2.2.2.2.2.2.2.2.2.2.2.2.2.2.2.2.2.2.2.2.2.2.2.2.2.2.1
theorem mdS.g44 (h : mdS R K N m) : ∀ u w, u < 121 → w < 403 → R (m + 200 + u) w = some (m + 1000 + u * 403 + w) ∧ K (m + 1000 + u * 403 + w) = 20 ∧ N (m + 1000 + u * 403 + w) = 32 := h.2.2.2.2.2.2.2.2.2.2.2.2.2.2.2.2.2.2.2.2.2.2.2.2.2.2.2.2.2.2.2.2.2.2.2.2.2.2.2
end MODEL0
/-- the model's object with these numbers: size, at, fault, faultAt -/
def mpI (I : Nat → Nat → Int32) (m : Nat) (sz at' ft fa : Int32) : Nat → Nat → Int32 := fun x j => if x = m then (if j = 2 then sz else if j = 4 then at' else if j = 5 then ft else if j = 6 then fa else I x j) else I x j
section MPI
variable {I : Nat → Nat → Int32} {m x j : Nat} {sz at' ft fa v : Int32}
theorem mpI_ne (hx : x ≠ m) : mpI I m sz at' ft fa x = I x := by funext j; simp [mpI, hx]
theorem mp2 : mpI I m sz at' ft fa m 2 = sz := by simp [mpI]
theorem mp4 : mpI I m sz at' ft fa m 4 = at' := by simp [mpI]
theorem mp5 : mpI I m sz at' ft fa m 5 = ft := by simp [mpI]
theorem mp6 : mpI I m sz at' ft fa m 6 = fa := by simp [mpI]
theorem mpx (h2 : j ≠ 2) (h4 : j ≠ 4) (h5 : j ≠ 5) (h6 : j ≠ 6) : mpI I m sz at' ft fa m j = I m j := by simp [mpI, h2, h4, h5, h6]
theorem mpu2 : bl_up2 (mpI I m sz at' ft fa) m 2 v = mpI I m v at' ft fa := by
  funext x j; unfold bl_up2 mpI; by_cases e : x = m <;> by_cases e1 : j = 2 <;> simp [e, e1]
theorem mpu4 : bl_up2 (mpI I m sz at' ft fa) m 4 v = mpI I m sz v ft fa := by
  funext x j; unfold bl_up2 mpI; by_cases e : x = m <;> by_cases e1 : j = 4 <;> simp [e, e1]
theorem mpu5 : bl_up2 (mpI I m sz at' ft fa) m 5 v = mpI I m sz at' v fa := by
  funext x j; unfold bl_up2 mpI; by_cases e : x = m <;> by_cases e1 : j = 5 <;> simp [e, e1]
theorem mpu6 : bl_up2 (mpI I m sz at' ft fa) m 6 v = mpI I m sz at' ft v := by
  funext x j; unfold bl_up2 mpI; by_cases e : x = m <;> by_cases e1 : j = 6 <;> simp [e, e1]
theorem mpI_eta : mpI I m (I m 2) (I m 4) (I m 5) (I m 6) = I := by
  funext x j
  unfold mpI
  by_cases e : x = m
  · subst e
    rw [if_pos rfl]
    repeat' split
    all_goals first | rfl | (rename_i h; subst h; rfl)
  · rw [if_neg e]
theorem mpI_up {y k : Nat} (hy : y ≠ m ∨ (k ≠ 2 ∧ k ≠ 4 ∧ k ≠ 5 ∧ k ≠ 6)) : bl_up2 (mpI I m sz at' ft fa) y k v = mpI (bl_up2 I y k v) m sz at' ft fa := by
  funext x j
  unfold bl_up2 mpI
  by_cases e : x = m
  · by_cases e2 : x = y ∧ j = k
    · obtain ⟨e3, e4⟩ := e2
      have h := hy.resolve_left (fun q => q (e3.symm.trans e))
      rw [if_pos ⟨e3, e4⟩, if_pos e, if_neg (by omega), if_neg (by omega), if_neg (by omega), if_neg (by omega)]
      show v = (if x = y ∧ j = k then v else I x j)
      rw [if_pos ⟨e3, e4⟩]
    · simp only [e2, if_false]
  · simp only [if_neg e]
end MPI
/-- the byte at k, -1 behind the end -/
def bt (B : Nat → Int32) (n k : Nat) : Int32 := if n ≤ k then zI (-1) else B k
section MODEL1
variable {G : bl_G} {l : Launch} {d m : Nat} {I : Nat → Nat → Int32} {J : Nat → Nat → Int64} {R : Nat → Nat → Option Nat} {K N : Nat → Nat} {ft fa : Int32} {n i : Nat}
theorem c_Model_byteAt {at' : Int32} {k : Nat} {x : Int32} (hm : mdS R K N m) (hn : n ≤ 400) (hx : x = nI k) (hk : k < 2000000000) : bl_MC G l d mX11_byteAt [.ref m, .int x] (mpI I m (nI n) at' ft fa, J, R, K, N) (0, 0) (fun o σ' => o = .inl (some (.int (bt (I (m + 8)) n k))) ∧ σ' = (mpI I m (nI n) at' ft fa, J, R, K, N)) := by
  have km := hm.2.1
  obtain ⟨rm_8, km8, nm8⟩ := hm.f8
  have ec : (nI k).toNatClampNeg = k := nI_clamp (by omega)
  subst hx
  refine bl_MC_intro (by decide +kernel) rfl (Nat.le_of_ble_eq_true rfl) ?_
  refine bl_go oX11_byteAt 80 [] rfl ?_
  refine ⟨km, fun h5 => ?_, fun h5 => ?_⟩
  · try simp (disch := omega) only [mp2, zI_n, zI_o, zI_lit, zI_neg, zI_add, zI_sub, zI_mul, zI_lt, zI_le, zI_eq, zI_clamp, zI_in, zI_div, zI_rem, lg_lt0, lg_gt0, lg_eq0, lg_le0, lg_ge0, Int.toNat_natCast, ge_iff_le, gt_iff_lt, List.length_cons, List.length_nil, bl_up2_at, bl_up2_nk, bl_up2_nx] at h5
    first
    | (exfalso; first | omega | exact h5 trivial)
    | (refine ⟨km, _, bl_vs rm_8, Or.inl ⟨km8, (by first | exact (by rw [nm8]; exact vp_in_nI (by omega) (by omega)) | ((try dsimp only [bl_pv]); show vp_in _ (N _); rw [nm8]; simp (disch := omega) only [mp2, zI_n, zI_o, zI_lit, zI_neg, zI_add, zI_sub, zI_mul, zI_lt, zI_le, zI_eq, zI_clamp, zI_in, zI_div, zI_rem, lg_lt0, lg_gt0, lg_eq0, lg_le0, lg_ge0, Int.toNat_natCast, ge_iff_le, gt_iff_lt, List.length_cons, List.length_nil, bl_up2_at, bl_up2_nk, bl_up2_nx] <;> omega)), (fun h => by cases h), ?_⟩⟩
       try show _ ∧ _
       try dsimp only [bl_pv]
       refine ⟨?_, rfl⟩
       unfold bt
       first
       | (rw [if_pos (by omega)]; rfl)
       | (rw [if_neg (by omega), ec, mpI_ne (by omega)]))
  · try simp (disch := omega) only [mp2, zI_n, zI_o, zI_lit, zI_neg, zI_add, zI_sub, zI_mul, zI_lt, zI_le, zI_eq, zI_clamp, zI_in, zI_div, zI_rem, lg_lt0, lg_gt0, lg_eq0, lg_le0, lg_ge0, Int.toNat_natCast, ge_iff_le, gt_iff_lt, List.length_cons, List.length_nil, bl_up2_at, bl_up2_nk, bl_up2_nx] at h5
    first
    | (exfalso; first | omega | exact h5 trivial)
    | (refine ⟨(fun h => by cases h), ?_⟩
       try show _ ∧ _
       try dsimp only [bl_pv]
       refine ⟨?_, rfl⟩
       unfold bt
       first
       | (rw [if_pos (by omega)]; rfl)
       | (rw [if_neg (by omega), ec, mpI_ne (by omega)]))
theorem bt_B {B : Nat → Int32} {n k : Nat} (h : bt B n k = zI 32) : k < n ∧ B k = zI 32 := by
  unfold bt at h
  by_cases e : n ≤ k
  · rw [if_pos e] at h; exact absurd h (by decide)
  · rw [if_neg e] at h; exact ⟨by omega, h⟩
theorem c_Model_blanks (hm : mdS R K N m) (hn : n ≤ 400) (hi : i ≤ n) : bl_MC G l (d + 1) mX11_blanks [.ref m] (mpI I m (nI n) (nI i) ft fa, J, R, K, N) (0, 0) (fun o σ' => o = .inl none ∧ σ' = (mpI I m (nI n) (nI (skB (I (m + 8)) n i)) ft fa, J, R, K, N)) := by
  have km := hm.2.1
  refine bl_MC_intro (by decide +kernel) rfl (Nat.le_of_ble_eq_true rfl) ?_
  have L : ∀ f j, j + f = n → ∀ x, x = nI j → skB (I (m + 8)) n j = skB (I (m + 8)) n i → bl_WP G l (d + 1) mX11_blanks 0 [(0, .ref m)] [] (mpI I m (nI n) x ft fa, J, R, K, N) (0, 0) (fun o σ' => o = .inl none ∧ σ' = (mpI I m (nI n) (nI (skB (I (m + 8)) n i)) ft fa, J, R, K, N)) := by
    intro f
    induction f with
    | zero =>
      intro j hj x hx hs; subst hx
      have e : bt (I (m + 8)) n j = zI (-1) := if_pos (by omega)
      refine bl_go oX11_blanks 80 [0] rfl ?_
      refine ⟨km, rfl, rfl, km, (Nat.le_of_ble_eq_true rfl), (0, 0), Nat.le_of_ble_eq_true rfl, Nat.le_of_ble_eq_true rfl, bl_MC_mono (c_Model_byteAt (d := d) (k := j) hm hn mp4 (by omega)) (fun o5 σ5 q5 => ?_)⟩
      try dsimp only [bl_pv] at q5
      obtain ⟨rfl, rfl⟩ := q5
      rw [e]
      refine bl_go oX11_blanks 80 [0] rfl ?_
      refine ⟨fun h10 => ?_, fun h10 => ?_⟩
      · try simp (disch := omega) only [bl_pv, cl0, cl1, cl2, cl3, cl4, cl5, cl6, cl7, cl8, cl9, bl_up2_at, bl_up2_nk, bl_up2_nx] at h10
        rw [← hs, skB_f (by omega)]; exact ⟨rfl, rfl⟩
      · try simp (disch := omega) only [bl_pv, cl0, cl1, cl2, cl3, cl4, cl5, cl6, cl7, cl8, cl9, bl_up2_at, bl_up2_nk, bl_up2_nx] at h10
        exact absurd h10 (by decide)
    | succ f ih =>
      intro j hj x hx hs; subst hx
      refine bl_go oX11_blanks 80 [0] rfl ?_
      refine ⟨km, rfl, rfl, km, (Nat.le_of_ble_eq_true rfl), (0, 0), Nat.le_of_ble_eq_true rfl, Nat.le_of_ble_eq_true rfl, bl_MC_mono (c_Model_byteAt (d := d) (k := j) hm hn mp4 (by omega)) (fun o5 σ5 q5 => ?_)⟩
      try dsimp only [bl_pv] at q5
      obtain ⟨rfl, rfl⟩ := q5
      refine bl_go oX11_blanks 80 [0] rfl ?_
      refine ⟨fun h10 => ?_, fun h10 => ?_⟩
      · try simp (disch := omega) only [bl_pv, cl0, cl1, cl2, cl3, cl4, cl5, cl6, cl7, cl8, cl9, bl_up2_at, bl_up2_nk, bl_up2_nx] at h10
        try show _ ∧ _
        try dsimp only [bl_pv]
        rw [← hs, skB_f (fun q => h10 (by unfold bt; rw [if_neg (by omega)]; exact q.2))]; exact ⟨rfl, rfl⟩
      · try simp (disch := omega) only [bl_pv, cl0, cl1, cl2, cl3, cl4, cl5, cl6, cl7, cl8, cl9, bl_up2_at, bl_up2_nk, bl_up2_nx] at h10
        refine ⟨rfl, km, km, Or.inr (Or.inr ⟨rfl, rfl, _, rfl⟩), (fun h => by cases h), ?_⟩
        try dsimp only [bl_pv]
        rw [mp4, mpu4]
        have hb := bt_B (B := I (m + 8)) (n := n) (k := j) h10
        exact ih (j + 1) (by omega) _ (nI_1 j) ((skB_t hb hn).symm.trans hs)
  exact L (n - i) i (by omega) _ rfl rfl
theorem c_Model_wrong0 {sz at' : Int32} {x y : Int32} (km : K m = 12) : bl_MC G l d mX11_wrong0 [.ref m, .int x, .int y] (mpI I m sz at' ft fa, J, R, K, N) (0, 0) (fun o σ' => o = .inl none ∧ ((ft = 0 ∧ σ' = (mpI I m sz at' x y, J, R, K, N)) ∨ (ft ≠ 0 ∧ σ' = (mpI I m sz at' ft fa, J, R, K, N)))) := by
  refine bl_MC_intro (by decide +kernel) rfl (Nat.le_of_ble_eq_true rfl) ?_
  refine bl_go oX11_wrong0 80 [] rfl ?_
  refine ⟨km, fun h4 => ?_, fun h4 => ?_⟩
  · try simp (disch := omega) only [bl_pv, cl0, cl1, cl2, cl3, cl4, cl5, cl6, cl7, cl8, cl9, bl_up2_at, bl_up2_nk, bl_up2_nx] at h4
    rw [mp5] at h4
    try show _ ∧ _
    try dsimp only [bl_pv]
    first
    | exact ⟨rfl, Or.inr ⟨h4, rfl⟩⟩
    | (rw [mpu5, mpu6]; exact ⟨rfl, Or.inl ⟨h4, rfl⟩⟩)
  · try simp (disch := omega) only [bl_pv, cl0, cl1, cl2, cl3, cl4, cl5, cl6, cl7, cl8, cl9, bl_up2_at, bl_up2_nk, bl_up2_nx] at h4
    rw [mp5] at h4
    refine ⟨km, Or.inr (Or.inr ⟨rfl, rfl, _, rfl⟩), (fun h => by cases h), km, Or.inr (Or.inr ⟨rfl, rfl, _, rfl⟩), (fun h => by cases h), ?_⟩
    try show _ ∧ _
    try dsimp only [bl_pv]
    first
    | exact ⟨rfl, Or.inr ⟨h4, rfl⟩⟩
    | (rw [mpu5, mpu6]; exact ⟨rfl, Or.inl ⟨h4, rfl⟩⟩)
theorem c_Model_isDigit {x : Int32} : bl_MC G l d mX11_isDigit [.int x] (I, J, R, K, N) (0, 0) (fun o σ' => ((zI 48 ≤ x ∧ x ≤ zI 57 ∧ o = .inl (some (.int 1))) ∨ (¬ (zI 48 ≤ x ∧ x ≤ zI 57) ∧ o = .inl (some (.int 0)))) ∧ σ' = (I, J, R, K, N)) := by
  refine bl_MC_intro (by decide +kernel) rfl (Nat.le_of_ble_eq_true rfl) ?_
  refine bl_go oX11_isDigit 80 [] rfl ?_
  refine ⟨fun h3 => ?_, fun h3 => ?_⟩
  · try simp (disch := omega) only [bl_pv, cl0, cl1, cl2, cl3, cl4, cl5, cl6, cl7, cl8, cl9, bl_up2_at, bl_up2_nk, bl_up2_nx] at h3
    refine ⟨(fun _ => by first | exact Or.inl rfl | exact Or.inr rfl), ?_⟩
    try show _ ∧ _
    try dsimp only [bl_pv]
    refine ⟨?_, rfl⟩
    first
    | exact Or.inl ⟨Int32.not_lt.mp h3, Int32.not_lt.mp h9, rfl⟩
    | exact Or.inr ⟨fun q => absurd h3 (Int32.not_lt.mpr q.1), rfl⟩
    | exact Or.inr ⟨fun q => absurd h9 (Int32.not_lt.mpr q.2), rfl⟩
  · try simp (disch := omega) only [bl_pv, cl0, cl1, cl2, cl3, cl4, cl5, cl6, cl7, cl8, cl9, bl_up2_at, bl_up2_nk, bl_up2_nx] at h3
    refine ⟨fun h9 => ?_, fun h9 => ?_⟩
    · try simp (disch := omega) only [bl_pv, cl0, cl1, cl2, cl3, cl4, cl5, cl6, cl7, cl8, cl9, bl_up2_at, bl_up2_nk, bl_up2_nx] at h9
      refine ⟨(fun _ => by first | exact Or.inl rfl | exact Or.inr rfl), ?_⟩
      try show _ ∧ _
      try dsimp only [bl_pv]
      refine ⟨?_, rfl⟩
      first
      | exact Or.inl ⟨Int32.not_lt.mp h3, Int32.not_lt.mp h9, rfl⟩
      | exact Or.inr ⟨fun q => absurd h3 (Int32.not_lt.mpr q.1), rfl⟩
      | exact Or.inr ⟨fun q => absurd h9 (Int32.not_lt.mpr q.2), rfl⟩
    · try simp (disch := omega) only [bl_pv, cl0, cl1, cl2, cl3, cl4, cl5, cl6, cl7, cl8, cl9, bl_up2_at, bl_up2_nk, bl_up2_nx] at h9
      refine ⟨(fun _ => by first | exact Or.inl rfl | exact Or.inr rfl), ?_⟩
      try show _ ∧ _
      try dsimp only [bl_pv]
      refine ⟨?_, rfl⟩
      first
      | exact Or.inl ⟨Int32.not_lt.mp h3, Int32.not_lt.mp h9, rfl⟩
      | exact Or.inr ⟨fun q => absurd h3 (Int32.not_lt.mpr q.1), rfl⟩
      | exact Or.inr ⟨fun q => absurd h9 (Int32.not_lt.mpr q.2), rfl⟩
theorem c_Model_in {x y z : Int32} : bl_MC G l d mX11_in [.int x, .int y, .int z] (I, J, R, K, N) (0, 0) (fun o σ' => ((y ≤ x ∧ x ≤ z ∧ o = .inl (some (.int 1))) ∨ (¬ (y ≤ x ∧ x ≤ z) ∧ o = .inl (some (.int 0)))) ∧ σ' = (I, J, R, K, N)) := by
  refine bl_MC_intro (by decide +kernel) rfl (Nat.le_of_ble_eq_true rfl) ?_
  refine bl_go oX11_in 80 [] rfl ?_
  refine ⟨fun h2 => ?_, fun h2 => ?_⟩
  · try simp (disch := omega) only [bl_pv, cl0, cl1, cl2, cl3, cl4, cl5, cl6, cl7, cl8, cl9, bl_up2_at, bl_up2_nk, bl_up2_nx] at h2
    refine ⟨(fun _ => by first | exact Or.inl rfl | exact Or.inr rfl), ?_⟩
    try show _ ∧ _
    try dsimp only [bl_pv]
    refine ⟨?_, rfl⟩
    first
    | exact Or.inl ⟨Int32.not_lt.mp h2, Int32.not_lt.mp h7, rfl⟩
    | exact Or.inr ⟨fun q => absurd h2 (Int32.not_lt.mpr q.1), rfl⟩
    | exact Or.inr ⟨fun q => absurd h7 (Int32.not_lt.mpr q.2), rfl⟩
  · try simp (disch := omega) only [bl_pv, cl0, cl1, cl2, cl3, cl4, cl5, cl6, cl7, cl8, cl9, bl_up2_at, bl_up2_nk, bl_up2_nx] at h2
    refine ⟨fun h7 => ?_, fun h7 => ?_⟩
    · try simp (disch := omega) only [bl_pv, cl0, cl1, cl2, cl3, cl4, cl5, cl6, cl7, cl8, cl9, bl_up2_at, bl_up2_nk, bl_up2_nx] at h7
      refine ⟨(fun _ => by first | exact Or.inl rfl | exact Or.inr rfl), ?_⟩
      try show _ ∧ _
      try dsimp only [bl_pv]
      refine ⟨?_, rfl⟩
      first
      | exact Or.inl ⟨Int32.not_lt.mp h2, Int32.not_lt.mp h7, rfl⟩
      | exact Or.inr ⟨fun q => absurd h2 (Int32.not_lt.mpr q.1), rfl⟩
      | exact Or.inr ⟨fun q => absurd h7 (Int32.not_lt.mpr q.2), rfl⟩
    · try simp (disch := omega) only [bl_pv, cl0, cl1, cl2, cl3, cl4, cl5, cl6, cl7, cl8, cl9, bl_up2_at, bl_up2_nk, bl_up2_nx] at h7
      refine ⟨(fun _ => by first | exact Or.inl rfl | exact Or.inr rfl), ?_⟩
      try show _ ∧ _
      try dsimp only [bl_pv]
      refine ⟨?_, rfl⟩
      first
      | exact Or.inl ⟨Int32.not_lt.mp h2, Int32.not_lt.mp h7, rfl⟩
      | exact Or.inr ⟨fun q => absurd h2 (Int32.not_lt.mpr q.1), rfl⟩
      | exact Or.inr ⟨fun q => absurd h7 (Int32.not_lt.mpr q.2), rfl⟩
/-- in with naturals -/
theorem c_Model_inN {a b c : Nat} {x y z : Int32} (hx : x = nI a) (hy : y = nI b) (hz : z = nI c) (ha : a < 2147483648) (hb : b < 2147483648) (hc : c < 2147483648) : bl_MC G l d mX11_in [.int x, .int y, .int z] (I, J, R, K, N) (0, 0) (fun o σ' => ((b ≤ a ∧ a ≤ c ∧ o = .inl (some (.int 1))) ∨ (¬ (b ≤ a ∧ a ≤ c) ∧ o = .inl (some (.int 0)))) ∧ σ' = (I, J, R, K, N)) := by
  subst hx hy hz
  refine bl_MC_mono c_Model_in (fun o σ' h => ⟨?_, h.2⟩)
  have e1 : nI b ≤ nI a ↔ b ≤ a := by rw [zI_n, zI_n, zI_le (by omega) (by omega) (by omega) (by omega)]; omega
  have e2 : nI a ≤ nI c ↔ a ≤ c := by rw [zI_n, zI_n, zI_le (by omega) (by omega) (by omega) (by omega)]; omega
  rw [e1, e2] at h
  exact h.1
theorem dg_B {B : Nat → Int32} {n k : Nat} : (zI 48 ≤ bt B n k ∧ bt B n k ≤ zI 57) ↔ (k < n ∧ zI 48 ≤ B k ∧ B k ≤ zI 57) := by
  unfold bt
  by_cases e : n ≤ k
  · rw [if_pos e]
    exact ⟨fun h => absurd h.1 (by decide), fun h => absurd h.1 (by omega)⟩
  · rw [if_neg e]
    exact ⟨fun h => ⟨by omega, h⟩, fun h => h.2⟩
theorem lt_B {B : Nat → Int32} {n k : Nat} : (zI 97 ≤ bt B n k ∧ bt B n k ≤ zI 122) ↔ (k < n ∧ zI 97 ≤ B k ∧ B k ≤ zI 122) := by
  unfold bt
  by_cases e : n ≤ k
  · rw [if_pos e]
    exact ⟨fun h => absurd h.1 (by decide), fun h => absurd h.1 (by omega)⟩
  · rw [if_neg e]
    exact ⟨fun h => ⟨by omega, h⟩, fun h => h.2⟩
theorem c_Model_skipWord (hm : mdS R K N m) (hn : n ≤ 400) (hi : i ≤ n) : bl_MC G l (d + 1) mX11_skipWord [.ref m] (mpI I m (nI n) (nI i) ft fa, J, R, K, N) (0, 0) (fun o σ' => o = .inl none ∧ σ' = (mpI I m (nI n) (nI (skW (I (m + 8)) n i)) ft fa, J, R, K, N)) := by
  have km := hm.2.1
  refine bl_MC_intro (by decide +kernel) rfl (Nat.le_of_ble_eq_true rfl) ?_
  have L : ∀ f j, j + f = n + 1 → j ≤ n → ∀ x, x = nI j → skW (I (m + 8)) n j = skW (I (m + 8)) n i → bl_WP G l (d + 1) mX11_skipWord 0 [(0, .ref m)] [] (mpI I m (nI n) x ft fa, J, R, K, N) (0, 0) (fun o σ' => o = .inl none ∧ σ' = (mpI I m (nI n) (nI (skW (I (m + 8)) n i)) ft fa, J, R, K, N)) := by
    intro f
    induction f with
    | zero => intro j hj hjn; omega
    | succ f ih =>
      intro j hj hjn x hx hs; subst hx
      have hlb := lt_B (B := I (m + 8)) (n := n) (k := j)
      refine bl_go oX11_skipWord 80 [0] rfl ?_
      refine ⟨km, rfl, rfl, km, (Nat.le_of_ble_eq_true rfl), (0, 0), Nat.le_of_ble_eq_true rfl, Nat.le_of_ble_eq_true rfl, bl_MC_mono (c_Model_byteAt (d := d) (k := j) hm hn mp4 (by omega)) (fun o5 σ5 q5 => ?_)⟩
      try dsimp only [bl_pv] at q5
      obtain ⟨rfl, rfl⟩ := q5
      refine bl_go oX11_skipWord 80 [0] rfl ?_
      refine ⟨fun h10 => ?_, fun h10 => ?_⟩
      · try simp (disch := omega) only [bl_pv, cl0, cl1, cl2, cl3, cl4, cl5, cl6, cl7, cl8, cl9, bl_up2_at, bl_up2_nk, bl_up2_nx] at h10
        try show _ ∧ _
        try dsimp only [bl_pv]
        first
        | (rw [← hs, skW_f (fun q => absurd h10 (Int32.not_lt.mpr (hlb.mpr q).1))]; exact ⟨rfl, rfl⟩)
        | (rw [← hs, skW_f (fun q => absurd h23 (Int32.not_lt.mpr (hlb.mpr q).2))]; exact ⟨rfl, rfl⟩)
      · try simp (disch := omega) only [bl_pv, cl0, cl1, cl2, cl3, cl4, cl5, cl6, cl7, cl8, cl9, bl_up2_at, bl_up2_nk, bl_up2_nx] at h10
        refine ⟨km, rfl, rfl, km, (Nat.le_of_ble_eq_true rfl), (0, 0), Nat.le_of_ble_eq_true rfl, Nat.le_of_ble_eq_true rfl, bl_MC_mono (c_Model_byteAt (d := d) (k := j) hm hn mp4 (by omega)) (fun o18 σ18 q18 => ?_)⟩
        try dsimp only [bl_pv] at q18
        obtain ⟨rfl, rfl⟩ := q18
        refine bl_go oX11_skipWord 80 [0] rfl ?_
        refine ⟨fun h23 => ?_, fun h23 => ?_⟩
        · try simp (disch := omega) only [bl_pv, cl0, cl1, cl2, cl3, cl4, cl5, cl6, cl7, cl8, cl9, bl_up2_at, bl_up2_nk, bl_up2_nx] at h23
          try show _ ∧ _
          try dsimp only [bl_pv]
          first
          | (rw [← hs, skW_f (fun q => absurd h10 (Int32.not_lt.mpr (hlb.mpr q).1))]; exact ⟨rfl, rfl⟩)
          | (rw [← hs, skW_f (fun q => absurd h23 (Int32.not_lt.mpr (hlb.mpr q).2))]; exact ⟨rfl, rfl⟩)
        · try simp (disch := omega) only [bl_pv, cl0, cl1, cl2, cl3, cl4, cl5, cl6, cl7, cl8, cl9, bl_up2_at, bl_up2_nk, bl_up2_nx] at h23
          refine ⟨rfl, km, km, Or.inr (Or.inr ⟨rfl, rfl, _, rfl⟩), (fun h => by cases h), ?_⟩
          try dsimp only [bl_pv]
          rw [mp4, mpu4]
          have hb := hlb.mp ⟨Int32.not_lt.mp h10, Int32.not_lt.mp h23⟩
          exact ih (j + 1) (by omega) (by omega) _ (nI_1 j) ((skW_t hb hn).symm.trans hs)
  exact L (n + 1 - i) i (by omega) hi _ rfl rfl
end MODEL1
