/-! ===== Model: reading with a fault that stays ===== -/
/-- the reader stands at i, or has met a fault -/
def pM (I : Nat → Nat → Int32) (m n : Nat) (s : pr Nat) (fa : Int32) (M : Nat → Nat → Int32) : Prop := match s with
  | .inl i => i ≤ n ∧ M = mpI I m (nI n) (nI i) 0 fa
  | .inr f => (f.1 = 1 ∨ f.1 = 2 ∨ f.1 = 3) ∧ ∃ e, e ≤ n ∧ M = mpI I m (nI n) (nI e) (nI f.1) (nI f.2)
def nvl (r : pr (Nat × Nat)) : Nat := match r with
  | .inl a => a.1
  | .inr _ => 0
def nst (r : pr (Nat × Nat)) : pr Nat := pbd r (fun a => .inl a.2)
theorem pM_ne {I : Nat → Nat → Int32} {m n x : Nat} {s : pr Nat} {fa : Int32} {M : Nat → Nat → Int32} (h : pM I m n s fa M) (hx : x ≠ m) : M x = I x := by
  match s, h with
  | .inl i, h => rw [h.2, mpI_ne hx]
  | .inr f, h => obtain ⟨-, e, -, rfl⟩ := h; rw [mpI_ne hx]
theorem pM_m {I : Nat → Nat → Int32} {m n j : Nat} {s : pr Nat} {fa : Int32} {M : Nat → Nat → Int32} (h : pM I m n s fa M) (h2 : j ≠ 2) (h4 : j ≠ 4) (h5 : j ≠ 5) (h6 : j ≠ 6) : M m j = I m j := by
  match s, h with
  | .inl i, h => rw [h.2, mpx h2 h4 h5 h6]
  | .inr f, h => obtain ⟨-, e, -, rfl⟩ := h; rw [mpx h2 h4 h5 h6]
theorem pM_up {I : Nat → Nat → Int32} {m n y k : Nat} {s : pr Nat} {fa v : Int32} {M : Nat → Nat → Int32} (h : pM I m n s fa M) (hy : y ≠ m ∨ (k ≠ 2 ∧ k ≠ 4 ∧ k ≠ 5 ∧ k ≠ 6)) : pM (bl_up2 I y k v) m n s fa (bl_up2 M y k v) := by
  match s, h with
  | .inl i, h => exact ⟨h.1, by rw [h.2, mpI_up hy]⟩
  | .inr f, h => obtain ⟨h1, e, h2, rfl⟩ := h; exact ⟨h1, e, h2, by rw [mpI_up hy]⟩
theorem pM_2 {I : Nat → Nat → Int32} {m n : Nat} {s : pr Nat} {fa : Int32} {M : Nat → Nat → Int32} (h : pM I m n s fa M) : M m 2 = nI n ∧ ∃ e, e ≤ n ∧ M m 4 = nI e := by
  match s, h with
  | .inl i, h => rw [h.2]; exact ⟨mp2, i, h.1, mp4⟩
  | .inr f, h => obtain ⟨-, e, h2, rfl⟩ := h; exact ⟨mp2, e, h2, mp4⟩
theorem pnum_k {B : Nat → Int32} {n lo hi i : Nat} {f : Nat × Nat} (h : pnum B n lo hi i = .inr f) : f.1 = 1 ∨ f.1 = 2 := by
  unfold pnum at h
  split at h
  · cases h; exact Or.inl rfl
  · split at h
    · cases h
    · cases h; exact Or.inr rfl
theorem pnum_e {B : Nat → Int32} {n lo hi i : Nat} (h : i ≤ n) {a : Nat × Nat} (hp : pnum B n lo hi i = .inl a) : a.2 ≤ n ∧ lo ≤ a.1 ∧ a.1 ≤ hi := pnum_le h (v := a.1) (e := a.2) hp
section MODEL5
variable {G : bl_G} {l : Launch} {d m : Nat} {I M : Nat → Nat → Int32} {J : Nat → Nat → Int64} {R : Nat → Nat → Option Nat} {K N : Nat → Nat} {fa : Int32} {n : Nat} {s : pr Nat}
theorem nI_k {k : Nat} (h : k = 1 ∨ k = 2 ∨ k = 3) : nI k ≠ 0 := by rcases h with rfl | rfl | rfl <;> decide
theorem c_Model_numM {lo hi : Nat} {x y : Int32} (hm : mdS R K N m) (hn : n ≤ 400) (hM : pM I m n s fa M) (hx : x = nI lo) (hy : y = nI hi) (hlo : lo ≤ hi) (hhi : hi ≤ 9999) : bl_MC G l (d + 2) mX11_number [.ref m, .int x, .int y] (M, J, R, K, N) (0, 0) (fun o σ' => ∃ M', σ' = (M', J, R, K, N) ∧ o = .inl (some (.int (nI (nvl (pbd s (pnum (I (m + 8)) n lo hi)))))) ∧ pM I m n (nst (pbd s (pnum (I (m + 8)) n lo hi))) fa M') := by
  match s, hM with
  | .inl i, hM =>
    obtain ⟨h1, rfl⟩ := hM
    refine bl_MC_mono (c_Model_number hm hn h1 hx hy hlo hhi) (fun o σ' h => ?_)
    show ∃ M', _ ∧ o = .inl (some (.int (nI (nvl (pnum (I (m + 8)) n lo hi i))))) ∧ pM I m n (nst (pnum (I (m + 8)) n lo hi i)) fa M'
    rcases h with ⟨v, e, a, rfl, rfl⟩ | ⟨k, p, e, a, b, c, rfl, rfl⟩
    · rw [a]; exact ⟨_, rfl, rfl, (pnum_le h1 a).1, rfl⟩
    · rw [a]; exact ⟨_, rfl, rfl, by omega, e, c, rfl⟩
  | .inr f, hM =>
    obtain ⟨h1, e, h2, rfl⟩ := hM
    refine bl_MC_mono (c_Model_numberF hm.2.1 (nI_k h1)) (fun o σ' h => ?_)
    exact ⟨_, h.2, h.1, h1, e, h2, rfl⟩
theorem c_Model_blM (hm : mdS R K N m) (hn : n ≤ 400) (hM : pM I m n s fa M) : bl_MC G l (d + 1) mX11_blanks [.ref m] (M, J, R, K, N) (0, 0) (fun o σ' => ∃ M', σ' = (M', J, R, K, N) ∧ o = .inl none ∧ pM I m n (pbd s (fun i => .inl (skB (I (m + 8)) n i))) fa M') := by
  match s, hM with
  | .inl i, hM =>
    obtain ⟨h1, rfl⟩ := hM
    refine bl_MC_mono (c_Model_blanks hm hn h1) (fun o σ' h => ⟨_, h.2, h.1, skB_le h1, rfl⟩)
  | .inr f, hM =>
    obtain ⟨h1, e, h2, rfl⟩ := hM
    refine bl_MC_mono (c_Model_blanks hm hn h2) (fun o σ' h => ⟨_, h.2, h.1, h1, _, skB_le h2, rfl⟩)
theorem c_Model_wrM {k q : Nat} {x y : Int32} (hm : mdS R K N m) (hM : pM I m n s fa M) (hk : k = 1 ∨ k = 2 ∨ k = 3) (hx : x = nI k) (hy : y = nI q) : bl_MC G l d mX11_wrong0 [.ref m, .int x, .int y] (M, J, R, K, N) (0, 0) (fun o σ' => ∃ M', σ' = (M', J, R, K, N) ∧ o = .inl none ∧ pM I m n (pbd s (fun _ => .inr (k, q))) fa M') := by
  subst hx hy
  match s, hM with
  | .inl i, hM =>
    obtain ⟨h1, rfl⟩ := hM
    refine bl_MC_mono (c_Model_wrong0 hm.2.1) (fun o σ' h => ?_)
    rcases h.2 with ⟨_, h'⟩ | ⟨h', _⟩
    · exact ⟨_, h', h.1, hk, i, h1, rfl⟩
    · exact absurd rfl h'
  | .inr f, hM =>
    obtain ⟨h1, e, h2, rfl⟩ := hM
    refine bl_MC_mono (c_Model_wrong0 hm.2.1) (fun o σ' h => ?_)
    rcases h.2 with ⟨h', _⟩ | ⟨_, h'⟩
    · exact absurd h' (nI_k h1)
    · exact ⟨_, h', h.1, h1, e, h2, rfl⟩
theorem c_Model_sgM {x : Int32} (hm : mdS R K N m) (hn : n ≤ 400) (hM : pM I m n s fa M) (hx : x = 59) : bl_MC G l (d + 2) mX11_sign [.ref m, .int x] (M, J, R, K, N) (0, 0) (fun o σ' => ∃ M', σ' = (M', J, R, K, N) ∧ o = .inl none ∧ pM I m n (pbd s (pend (I (m + 8)) n)) fa M') := by
  have km := hm.2.1
  subst hx
  match s, hM with
  | .inl i, hM =>
    obtain ⟨h1, rfl⟩ := hM
    have hp : skB (I (m + 8)) n i ≤ n := skB_le h1
    have hBl := c_Model_blanks (d := d) (G := G) (l := l) (J := J) (I := I) (ft := 0) (fa := fa) hm hn h1
    show bl_MC _ _ _ _ _ _ _ (fun o σ' => ∃ M', σ' = (M', J, R, K, N) ∧ o = .inl none ∧ pM I m n (pend (I (m + 8)) n i) fa M')
    unfold pend
    generalize skB (I (m + 8)) n i = p at *
    by_cases hc : p < n ∧ I (m + 8) p = zI 59
    · rw [if_pos hc]
      refine bl_MC_intro (by decide +kernel) rfl (Nat.le_of_ble_eq_true rfl) ?_
      refine bl_go oX11_sign 80 [] rfl ?_
      refine ⟨km, fun h4 => ?_, fun h4 => ?_⟩
      · try simp (disch := omega) only [bl_pv, cl0, cl1, cl2, cl3, cl4, cl5, cl6, cl7, cl8, cl9, bl_up2_at, bl_up2_nk, bl_up2_nx] at h4
        first
        | (exfalso; first | omega | exact h4 trivial)
        | (refine ⟨rfl, rfl, km, (Nat.le_of_ble_eq_true rfl), (0, 0), Nat.le_of_ble_eq_true rfl, Nat.le_of_ble_eq_true rfl, bl_MC_mono (hBl) (fun o9 σ9 q9 => ?_)⟩
           try dsimp only [bl_pv] at q9
           obtain ⟨rfl, rfl⟩ := q9
           refine bl_go oX11_sign 80 [] rfl ?_
           refine ⟨km, rfl, rfl, km, (Nat.le_of_ble_eq_true rfl), (0, 0), Nat.le_of_ble_eq_true rfl, Nat.le_of_ble_eq_true rfl, bl_MC_mono (c_Model_byteAt (d := d + 1) (k := p) hm hn mp4 (by omega)) (fun o17 σ17 q17 => ?_)⟩
           try dsimp only [bl_pv] at q17
           obtain ⟨rfl, rfl⟩ := q17
           rw [show bt (I (m + 8)) n p = zI 59 from (if_neg (by omega)).trans hc.2]
           refine bl_go oX11_sign 80 [] rfl ?_
           refine ⟨fun h21 => ?_, fun h21 => ?_⟩
           · try simp (disch := omega) only [bl_pv, cl0, cl1, cl2, cl3, cl4, cl5, cl6, cl7, cl8, cl9, bl_up2_at, bl_up2_nk, bl_up2_nx] at h21
             exact absurd rfl h21
           · try simp (disch := omega) only [bl_pv, cl0, cl1, cl2, cl3, cl4, cl5, cl6, cl7, cl8, cl9, bl_up2_at, bl_up2_nk, bl_up2_nx] at h21
             first
             | (exfalso; first | omega | exact h21 trivial)
             | (refine ⟨rfl, km, km, Or.inr (Or.inr ⟨rfl, rfl, _, rfl⟩), (fun h => by cases h), ?_⟩
                try show _ ∧ _
                try dsimp only [bl_pv]
                rw [mp4, mpu4, nI_1]
                exact ⟨_, rfl, rfl, by omega, rfl⟩))
      · try simp (disch := omega) only [bl_pv, cl0, cl1, cl2, cl3, cl4, cl5, cl6, cl7, cl8, cl9, bl_up2_at, bl_up2_nk, bl_up2_nx] at h4
        exact absurd mp5 h4
    · rw [if_neg hc]
      have hnb : bt (I (m + 8)) n p ≠ zI 59 := by
        unfold bt
        by_cases e : n ≤ p
        · rw [if_pos e]; decide
        · rw [if_neg e]; exact fun h => hc ⟨by omega, h⟩
      refine bl_MC_intro (by decide +kernel) rfl (Nat.le_of_ble_eq_true rfl) ?_
      refine bl_go oX11_sign 80 [] rfl ?_
      refine ⟨km, fun h4 => ?_, fun h4 => ?_⟩
      · try simp (disch := omega) only [bl_pv, cl0, cl1, cl2, cl3, cl4, cl5, cl6, cl7, cl8, cl9, bl_up2_at, bl_up2_nk, bl_up2_nx] at h4
        first
        | (exfalso; first | omega | exact h4 trivial)
        | (refine ⟨rfl, rfl, km, (Nat.le_of_ble_eq_true rfl), (0, 0), Nat.le_of_ble_eq_true rfl, Nat.le_of_ble_eq_true rfl, bl_MC_mono (hBl) (fun o9 σ9 q9 => ?_)⟩
           try dsimp only [bl_pv] at q9
           obtain ⟨rfl, rfl⟩ := q9
           refine bl_go oX11_sign 80 [] rfl ?_
           refine ⟨km, rfl, rfl, km, (Nat.le_of_ble_eq_true rfl), (0, 0), Nat.le_of_ble_eq_true rfl, Nat.le_of_ble_eq_true rfl, bl_MC_mono (c_Model_byteAt (d := d + 1) (k := p) hm hn mp4 (by omega)) (fun o17 σ17 q17 => ?_)⟩
           try dsimp only [bl_pv] at q17
           obtain ⟨rfl, rfl⟩ := q17
           refine bl_go oX11_sign 80 [] rfl ?_
           refine ⟨fun h21 => ?_, fun h21 => ?_⟩
           · try simp (disch := omega) only [bl_pv, cl0, cl1, cl2, cl3, cl4, cl5, cl6, cl7, cl8, cl9, bl_up2_at, bl_up2_nk, bl_up2_nx] at h21
             first
             | (exfalso; first | omega | exact h21 trivial)
             | (refine ⟨km, rfl, rfl, km, (Nat.le_of_ble_eq_true rfl), (0, 0), Nat.le_of_ble_eq_true rfl, Nat.le_of_ble_eq_true rfl, bl_MC_mono (c_Model_wrong0 (d := d + 1) km) (fun o43 σ43 q43 => ?_)⟩
                try dsimp only [bl_pv] at q43
                obtain ⟨rfl, hq⟩ := q43
                rcases hq with ⟨_, rfl⟩ | ⟨h, _⟩
                rotate_left
                · exact absurd rfl h
                refine bl_go oX11_sign 80 [] rfl ?_
                try show _ ∧ _
                try dsimp only [bl_pv]
                rw [mp4]
                exact ⟨_, rfl, rfl, Or.inl rfl, p, hp, rfl⟩)
           · try simp (disch := omega) only [bl_pv, cl0, cl1, cl2, cl3, cl4, cl5, cl6, cl7, cl8, cl9, bl_up2_at, bl_up2_nk, bl_up2_nx] at h21
             exact absurd h21 hnb)
      · try simp (disch := omega) only [bl_pv, cl0, cl1, cl2, cl3, cl4, cl5, cl6, cl7, cl8, cl9, bl_up2_at, bl_up2_nk, bl_up2_nx] at h4
        exact absurd mp5 h4
  | .inr f, hM =>
    obtain ⟨h1, e, h2, rfl⟩ := hM
    refine bl_MC_intro (by decide +kernel) rfl (Nat.le_of_ble_eq_true rfl) ?_
    refine bl_go oX11_sign 80 [] rfl ?_
    refine ⟨km, fun h4 => ?_, fun h4 => ?_⟩
    · try simp (disch := omega) only [bl_pv, cl0, cl1, cl2, cl3, cl4, cl5, cl6, cl7, cl8, cl9, bl_up2_at, bl_up2_nk, bl_up2_nx] at h4
      exact absurd (mp5.symm.trans h4) (nI_k h1)
    · try simp (disch := omega) only [bl_pv, cl0, cl1, cl2, cl3, cl4, cl5, cl6, cl7, cl8, cl9, bl_up2_at, bl_up2_nk, bl_up2_nx] at h4
      try show _ ∧ _
      try dsimp only [bl_pv]
      exact ⟨_, rfl, rfl, h1, e, h2, rfl⟩
theorem c_Model_starts {h0 x : Int32} (hm : mdS R K N m) (hn : n ≤ 400) (hx : x = nI n) : bl_MC G l (d + 2) mX11_starts [.ref m, .int x] (I, J, R, K, N) (0, 0) (fun o σ' => o = .inl none ∧ σ' = (mpI (bl_up2 (bl_up2 I m 1 0) m 7 0) m (nI n) (nI (skB (I (m + 8)) n 0)) 0 (zI (-1)), J, R, K, N)) := by
  have km := hm.2.1
  subst hx
  have e : mpI (bl_up2 (bl_up2 I m 1 0) m 7 0) m (nI n) (nI 0) 0 (zI (-1)) = bl_up2 (bl_up2 (bl_up2 (bl_up2 (bl_up2 (bl_up2 I m 1 0) m 2 (nI n)) m 4 0) m 5 0) m 6 (-1)) m 7 0 := by
    funext x j
    unfold mpI bl_up2
    by_cases ex : x = m
    · subst ex
      simp only [true_and, if_true]
      by_cases e7 : j = 7
      · subst e7; rfl
      · by_cases e6 : j = 6
        · subst e6; rfl
        · by_cases e5 : j = 5
          · subst e5; rfl
          · by_cases e4 : j = 4
            · subst e4; rfl
            · by_cases e2 : j = 2
              · subst e2; rfl
              · simp only [e7, e6, e5, e4, e2, if_false]
    · simp only [ex, false_and, if_false]
  have hBl := c_Model_blanks (d := d) (G := G) (l := l) (J := J) (R := R) (K := K) (N := N) (I := bl_up2 (bl_up2 I m 1 0) m 7 0) (ft := 0) (fa := zI (-1)) (i := 0) hm hn (Nat.zero_le _)
  rw [e, bl_up2_ne (show m + 8 ≠ m by omega), bl_up2_ne (show m + 8 ≠ m by omega)] at hBl
  refine bl_MC_intro (by decide +kernel) rfl (Nat.le_of_ble_eq_true rfl) ?_
  refine bl_go oX11_starts 80 [] rfl ?_
  refine ⟨km, Or.inr (Or.inr ⟨rfl, rfl, _, rfl⟩), (fun h => by cases h), km, Or.inr (Or.inr ⟨rfl, rfl, _, rfl⟩), (fun h => by cases h), km, Or.inr (Or.inr ⟨rfl, rfl, _, rfl⟩), (fun h => by cases h), km, Or.inr (Or.inr ⟨rfl, rfl, _, rfl⟩), (fun h => by cases h), km, Or.inr (Or.inr ⟨rfl, rfl, _, rfl⟩), (fun h => by cases h), km, Or.inr (Or.inr ⟨rfl, rfl, _, rfl⟩), (fun h => by cases h), rfl, rfl, km, (Nat.le_of_ble_eq_true rfl), (0, 0), Nat.le_of_ble_eq_true rfl, Nat.le_of_ble_eq_true rfl, bl_MC_mono (hBl) (fun o31 σ31 q31 => ?_)⟩
  try dsimp only [bl_pv] at q31
  obtain ⟨rfl, rfl⟩ := q31
  refine bl_go oX11_starts 80 [] rfl ?_
  try show _ ∧ _
  try dsimp only [bl_pv]
  exact ⟨rfl, rfl⟩
theorem c_Model_tellsNothing (hm : mdS R K N m) : bl_MC G l d mX11_tellsNothing [.ref m] (I, J, R, K, N) (0, 0) (fun o σ' => o = .inl none ∧ ∃ I', σ' = (I', J, R, K, N) ∧ (∀ x, x ≠ m + 9 → x ≠ m + 11 → I' x = I x) ∧ (∀ k, k < 9 → I' (m + 9) k = km_un k) ∧ ∀ k, k < 24 → I' (m + 11) k = zI (-1)) := by
  have km := hm.2.1
  obtain ⟨rm_9, km9, nm9⟩ := hm.f9
  obtain ⟨rm_11, km11, nm11⟩ := hm.f11
  refine bl_MC_intro (by decide +kernel) rfl (Nat.le_of_ble_eq_true rfl) ?_
  have L : ∀ k, k ≤ 24 → ∀ z I1, z = nI k → (∀ x, x ≠ m + 9 → x ≠ m + 11 → I1 x = I x) → (∀ k, k < 9 → I1 (m + 9) k = km_un k) → (∀ j, j < k → I1 (m + 11) j = zI (-1)) → bl_WP G l d mX11_tellsNothing 75 [(1, .int z), (0, .ref m)] [] (I1, J, R, K, N) (0, 0) (fun o σ' => o = .inl none ∧ ∃ I', σ' = (I', J, R, K, N) ∧ (∀ x, x ≠ m + 9 → x ≠ m + 11 → I' x = I x) ∧ (∀ k, k < 9 → I' (m + 9) k = km_un k) ∧ ∀ k, k < 24 → I' (m + 11) k = zI (-1)) := by
    refine bl_for 24 ?_ (fun k hk ih => ?_)
    · intro z I1 hz f1 f2 f3; subst hz
      refine bl_go oX11_tellsNothing 80 [75] rfl ?_
      refine ⟨fun h78 => ?_, fun h78 => ?_⟩
      · try simp (disch := omega) only [zI_n, zI_o, zI_lit, zI_neg, zI_add, zI_sub, zI_mul, zI_lt, zI_le, zI_eq, zI_clamp, zI_in, zI_div, zI_rem, lg_lt0, lg_gt0, lg_eq0, lg_le0, lg_ge0, Int.toNat_natCast, ge_iff_le, gt_iff_lt, List.length_cons, List.length_nil, bl_up2_at, bl_up2_nk, bl_up2_nx] at h78
        try show _ ∧ _
        try dsimp only [bl_pv]
        exact ⟨rfl, I1, rfl, f1, f2, f3⟩
      · try simp (disch := omega) only [zI_n, zI_o, zI_lit, zI_neg, zI_add, zI_sub, zI_mul, zI_lt, zI_le, zI_eq, zI_clamp, zI_in, zI_div, zI_rem, lg_lt0, lg_gt0, lg_eq0, lg_le0, lg_ge0, Int.toNat_natCast, ge_iff_le, gt_iff_lt, List.length_cons, List.length_nil, bl_up2_at, bl_up2_nk, bl_up2_nx] at h78
        exfalso; omega
    · intro z I1 hz f1 f2 f3; subst hz
      have ec : (nI k).toNatClampNeg = k := nI_clamp (by omega)
      refine bl_go oX11_tellsNothing 80 [75] rfl ?_
      refine ⟨fun h78 => ?_, fun h78 => ?_⟩
      · try simp (disch := omega) only [zI_n, zI_o, zI_lit, zI_neg, zI_add, zI_sub, zI_mul, zI_lt, zI_le, zI_eq, zI_clamp, zI_in, zI_div, zI_rem, lg_lt0, lg_gt0, lg_eq0, lg_le0, lg_ge0, Int.toNat_natCast, ge_iff_le, gt_iff_lt, List.length_cons, List.length_nil, bl_up2_at, bl_up2_nk, bl_up2_nx] at h78
        exfalso; omega
      · try simp (disch := omega) only [zI_n, zI_o, zI_lit, zI_neg, zI_add, zI_sub, zI_mul, zI_lt, zI_le, zI_eq, zI_clamp, zI_in, zI_div, zI_rem, lg_lt0, lg_gt0, lg_eq0, lg_le0, lg_ge0, Int.toNat_natCast, ge_iff_le, gt_iff_lt, List.length_cons, List.length_nil, bl_up2_at, bl_up2_nk, bl_up2_nx] at h78
        refine ⟨km, _, bl_vs rm_11, km11, (by first | exact (by rw [nm11]; exact vp_in_nI (by omega) (by omega)) | ((try dsimp only [bl_pv]); show vp_in _ (N _); rw [nm11]; simp (disch := omega) only [zI_n, zI_o, zI_lit, zI_neg, zI_add, zI_sub, zI_mul, zI_lt, zI_le, zI_eq, zI_clamp, zI_in, zI_div, zI_rem, lg_lt0, lg_gt0, lg_eq0, lg_le0, lg_ge0, Int.toNat_natCast, ge_iff_le, gt_iff_lt, List.length_cons, List.length_nil, bl_up2_at, bl_up2_nk, bl_up2_nx] <;> omega)), ?_⟩
        try dsimp only [bl_pv]
        rw [ec]
        refine ih _ _ (nI_1 _) (fun x x1 x2 => by rw [bl_up2_ne x2]; exact f1 x x1 x2) (fun k hk => by rw [bl_up2_ne (by omega)]; exact f2 k hk) (fun j hj => ?_)
        by_cases e : j = k
        · subst e; rw [bl_up2_at]; rfl
        · rw [bl_up2_nk e]; exact f3 j (by omega)
  refine bl_go oX11_tellsNothing 80 [75] rfl ?_
  refine ⟨km, _, bl_vs rm_9, km9, (by first | exact (by rw [nm9]; exact vp_in_nI (by omega) (by omega)) | ((try dsimp only [bl_pv]); show vp_in _ (N _); rw [nm9]; simp (disch := omega) only [zI_n, zI_o, zI_lit, zI_neg, zI_add, zI_sub, zI_mul, zI_lt, zI_le, zI_eq, zI_clamp, zI_in, zI_div, zI_rem, lg_lt0, lg_gt0, lg_eq0, lg_le0, lg_ge0, Int.toNat_natCast, ge_iff_le, gt_iff_lt, List.length_cons, List.length_nil, bl_up2_at, bl_up2_nk, bl_up2_nx] <;> omega)), km, _, bl_vs rm_9, km9, (by first | exact (by rw [nm9]; exact vp_in_nI (by omega) (by omega)) | ((try dsimp only [bl_pv]); show vp_in _ (N _); rw [nm9]; simp (disch := omega) only [zI_n, zI_o, zI_lit, zI_neg, zI_add, zI_sub, zI_mul, zI_lt, zI_le, zI_eq, zI_clamp, zI_in, zI_div, zI_rem, lg_lt0, lg_gt0, lg_eq0, lg_le0, lg_ge0, Int.toNat_natCast, ge_iff_le, gt_iff_lt, List.length_cons, List.length_nil, bl_up2_at, bl_up2_nk, bl_up2_nx] <;> omega)), km, _, bl_vs rm_9, km9, (by first | exact (by rw [nm9]; exact vp_in_nI (by omega) (by omega)) | ((try dsimp only [bl_pv]); show vp_in _ (N _); rw [nm9]; simp (disch := omega) only [zI_n, zI_o, zI_lit, zI_neg, zI_add, zI_sub, zI_mul, zI_lt, zI_le, zI_eq, zI_clamp, zI_in, zI_div, zI_rem, lg_lt0, lg_gt0, lg_eq0, lg_le0, lg_ge0, Int.toNat_natCast, ge_iff_le, gt_iff_lt, List.length_cons, List.length_nil, bl_up2_at, bl_up2_nk, bl_up2_nx] <;> omega)), km, _, bl_vs rm_9, km9, (by first | exact (by rw [nm9]; exact vp_in_nI (by omega) (by omega)) | ((try dsimp only [bl_pv]); show vp_in _ (N _); rw [nm9]; simp (disch := omega) only [zI_n, zI_o, zI_lit, zI_neg, zI_add, zI_sub, zI_mul, zI_lt, zI_le, zI_eq, zI_clamp, zI_in, zI_div, zI_rem, lg_lt0, lg_gt0, lg_eq0, lg_le0, lg_ge0, Int.toNat_natCast, ge_iff_le, gt_iff_lt, List.length_cons, List.length_nil, bl_up2_at, bl_up2_nk, bl_up2_nx] <;> omega)), km, _, bl_vs rm_9, km9, (by first | exact (by rw [nm9]; exact vp_in_nI (by omega) (by omega)) | ((try dsimp only [bl_pv]); show vp_in _ (N _); rw [nm9]; simp (disch := omega) only [zI_n, zI_o, zI_lit, zI_neg, zI_add, zI_sub, zI_mul, zI_lt, zI_le, zI_eq, zI_clamp, zI_in, zI_div, zI_rem, lg_lt0, lg_gt0, lg_eq0, lg_le0, lg_ge0, Int.toNat_natCast, ge_iff_le, gt_iff_lt, List.length_cons, List.length_nil, bl_up2_at, bl_up2_nk, bl_up2_nx] <;> omega)), km, _, bl_vs rm_9, km9, (by first | exact (by rw [nm9]; exact vp_in_nI (by omega) (by omega)) | ((try dsimp only [bl_pv]); show vp_in _ (N _); rw [nm9]; simp (disch := omega) only [zI_n, zI_o, zI_lit, zI_neg, zI_add, zI_sub, zI_mul, zI_lt, zI_le, zI_eq, zI_clamp, zI_in, zI_div, zI_rem, lg_lt0, lg_gt0, lg_eq0, lg_le0, lg_ge0, Int.toNat_natCast, ge_iff_le, gt_iff_lt, List.length_cons, List.length_nil, bl_up2_at, bl_up2_nk, bl_up2_nx] <;> omega)), km, _, bl_vs rm_9, km9, (by first | exact (by rw [nm9]; exact vp_in_nI (by omega) (by omega)) | ((try dsimp only [bl_pv]); show vp_in _ (N _); rw [nm9]; simp (disch := omega) only [zI_n, zI_o, zI_lit, zI_neg, zI_add, zI_sub, zI_mul, zI_lt, zI_le, zI_eq, zI_clamp, zI_in, zI_div, zI_rem, lg_lt0, lg_gt0, lg_eq0, lg_le0, lg_ge0, Int.toNat_natCast, ge_iff_le, gt_iff_lt, List.length_cons, List.length_nil, bl_up2_at, bl_up2_nk, bl_up2_nx] <;> omega)), km, _, bl_vs rm_9, km9, (by first | exact (by rw [nm9]; exact vp_in_nI (by omega) (by omega)) | ((try dsimp only [bl_pv]); show vp_in _ (N _); rw [nm9]; simp (disch := omega) only [zI_n, zI_o, zI_lit, zI_neg, zI_add, zI_sub, zI_mul, zI_lt, zI_le, zI_eq, zI_clamp, zI_in, zI_div, zI_rem, lg_lt0, lg_gt0, lg_eq0, lg_le0, lg_ge0, Int.toNat_natCast, ge_iff_le, gt_iff_lt, List.length_cons, List.length_nil, bl_up2_at, bl_up2_nk, bl_up2_nx] <;> omega)), km, _, bl_vs rm_9, km9, (by first | exact (by rw [nm9]; exact vp_in_nI (by omega) (by omega)) | ((try dsimp only [bl_pv]); show vp_in _ (N _); rw [nm9]; simp (disch := omega) only [zI_n, zI_o, zI_lit, zI_neg, zI_add, zI_sub, zI_mul, zI_lt, zI_le, zI_eq, zI_clamp, zI_in, zI_div, zI_rem, lg_lt0, lg_gt0, lg_eq0, lg_le0, lg_ge0, Int.toNat_natCast, ge_iff_le, gt_iff_lt, List.length_cons, List.length_nil, bl_up2_at, bl_up2_nk, bl_up2_nx] <;> omega)), ?_⟩
  try dsimp only [bl_pv]
  refine L 0 (by omega) _ _ rfl (fun x x1 x2 => ?_) (fun k hk => ?_) (fun j hj => absurd hj (by omega))
  · simp (disch := omega) only [bl_up2_ne]
  · simp only [cl0, cl1, cl2, cl3, cl4, cl5, cl6, cl7, cl8]
    have hk' : k = 0 ∨ k = 1 ∨ k = 2 ∨ k = 3 ∨ k = 4 ∨ k = 5 ∨ k = 6 ∨ k = 7 ∨ k = 8 := by omega
    rcases hk' with rfl | rfl | rfl | rfl | rfl | rfl | rfl | rfl | rfl <;> (simp (disch := omega) only [bl_up2_at, bl_up2_nk]; rfl)
end MODEL5
