/-! ===== Slab ===== -/
theorem sdC.same {I I' : Nat → Nat → Int32} {J J' : Nat → Nat → Int64} {s : Nat} {S : sq} (h : sdC I J s S) (h0 : I' s = I s) (h1 : J' (s + 1000) = J (s + 1000)) (h2 : J' (s + 2000) = J (s + 2000)) : sdC I' J' s S := by
  refine ⟨?_, h.2.1, fun i hi => ?_⟩
  · rw [h0]; exact h.1
  · rw [h1, h2]; exact h.2.2 i hi
/-- two sides, thinness, joins, what was cut away -/
abbrev sl : Type := sq × sq × Nat × Nat × Nat
def slS (R : Nat → Nat → Option Nat) (K N : Nat → Nat) (b : Nat) : Prop := (1000 ≤ b ∧ b < 1500) ∧ K b = 8 ∧ R b 0 = some (2 * b) ∧ R b 1 = some (2 * b + 1) ∧ sdS R K N (2 * b) ∧ sdS R K N (2 * b + 1)
def slC (I : Nat → Nat → Int32) (J : Nat → Nat → Int64) (b : Nat) (S : sl) : Prop := sdC I J (2 * b) S.1 ∧ sdC I J (2 * b + 1) S.2.1 ∧ J b 2 = nJ S.2.2.1 ∧ J b 3 = nJ S.2.2.2.1 ∧ J b 4 = nJ S.2.2.2.2
/-- the slab's own names -/
def slN (b x : Nat) : Prop := x = b ∨ x = 2 * b ∨ x = 2 * b + 1 ∨ x = 2 * b + 1000 ∨ x = 2 * b + 1001 ∨ x = 2 * b + 2000 ∨ x = 2 * b + 2001
def slM (I I' : Nat → Nat → Int32) (J J' : Nat → Nat → Int64) (b : Nat) : Prop := ∀ x, ¬ slN b x → I' x = I x ∧ J' x = J x
theorem slC.other {I I' : Nat → Nat → Int32} {J J' : Nat → Nat → Int64} {b g : Nat} {S : sl} (h : slC I J g S) (hm : slM I I' J J' b) (hb : 1000 ≤ b ∧ b < 1500) (hg : 1000 ≤ g ∧ g < 1500) (hbg : b ≠ g) : slC I' J' g S := by
  have q : ∀ x, slN g x → I' x = I x ∧ J' x = J x := fun x hx => hm x (by unfold slN at *; omega)
  unfold slN at q
  obtain ⟨h1, h2, h3, h4, h5⟩ := h
  refine ⟨h1.same (q _ (by omega)).1 (q _ (by omega)).2 (q _ (by omega)).2, h2.same (q _ (by omega)).1 (q _ (by omega)).2 (q _ (by omega)).2, ?_⟩
  rw [(q g (by omega)).2]; exact ⟨h3, h4, h5⟩
def sd_fold (S : sq) (n : Nat) : sq := if n = 2 then (S.1 / 2, fo2 S.1 S.2.1, fo2 S.1 S.2.2) else if n = 3 then (S.1 / 3, fo3 S.1 S.2.1, fo3 S.1 S.2.2) else (S.1 / 4, fo4 S.1 S.2.1, fo4 S.1 S.2.2)
def sd_book (S : sq) : sq := (S.1 / 4, bo4 S.1 S.2.1, bo4 S.1 S.2.2)
def sd_tuck (S : sq) (n : Nat) : sq := (S.1 - 2 * n, tu1 n S.1 S.2.1, tu1 n S.1 S.2.2)
def sl_first (a d rim : Nat) : sl := (sd_first a rim, sd_first d rim, 1, 0, 0)
def sl_cut (S : sl) (n : Nat) : Nat := (smf S.1.2.1 n + smf (fun i => S.1.2.1 (S.1.1 - n + i)) n) * smf S.2.1.2.1 S.2.1.1
def sl_step (S : sl) (k n : Nat) : sl :=
  match k with
  | 0 => (sd_roll S.1 n, S.2.1, S.2.2.1 * n, S.2.2.2.1, S.2.2.2.2 * n)
  | 1 => (sd_fold S.1 n, S.2.1, S.2.2.1, S.2.2.2.1 + (n - 1) * (S.1.1 / n) * S.2.1.1, S.2.2.2.2)
  | 2 => (sd_book S.1, S.2.1, S.2.2.1, S.2.2.2.1 + 3 * (S.1.1 / 4) * S.2.1.1, S.2.2.2.2)
  | 3 => (sd_tuck S.1 n, S.2.1, S.2.2.1, S.2.2.2.1 + 2 * n * S.2.1.1, S.2.2.2.2)
  | 4 => (sd_part S.1 n (S.1.1 - 2 * n), S.2.1, S.2.2.1, S.2.2.2.1, S.2.2.2.2 + sl_cut S n)
  | 5 => (S.2.1, S.1, S.2.2.1, S.2.2.2.1, S.2.2.2.2)
  | _ => S
/-- whether a side so long takes the step -/
def sl_can (k n L : Nat) : Prop :=
  match k with
  | 0 => L * n ≤ 48
  | 1 => L % n = 0
  | 2 => L % 4 = 0
  | 3 => 4 * n ≤ L
  | 4 => 2 * n < L
  | _ => True
/-- the steps that a recipe may have -/
def st_ok (k n : Nat) : Prop := k ≤ 7 ∧ n ≤ 36 ∧ (k ≤ 1 → 2 ≤ n ∧ n ≤ 4) ∧ (k = 3 ∨ k = 4 → 1 ≤ n ∧ n ≤ 9)
section SLAB
variable {G : bl_G} {l : Launch} {d b g a v : Nat} {I : Nat → Nat → Int32} {J : Nat → Nat → Int64} {R : Nat → Nat → Option Nat} {K N : Nat → Nat}
theorem c_Slab_layFirst {tf : Nat → Nat} (hs : slS R K N b) (ka : K a = 3) (ra_0 : R a 0 = some v) (kv : K v = 20) (nv : N v = 9) (hv : ∀ k, k < 9 → I v k = nI (tf k)) (hv0 : tf 0 ≤ 12 ∧ tf 1 ≤ 12 ∧ tf 2 ≤ tf 0 ∧ tf 2 ≤ tf 1) (hvn : ¬ (2000 ≤ v ∧ v < 3000)) : bl_MC G l (d + 1) mX7_layFirst [.ref b, .ref a] (I, J, R, K, N) (0, 0) (fun o σ' => o = .inl none ∧ ∃ I' J', σ' = (I', J', R, K, N) ∧ slM I I' J J' b ∧ slC I' J' b (sl_first (tf 0) (tf 1) (tf 2))) := by
  have hs' := hs
  obtain ⟨hr1, kb, rb_0, rb_1, hA, hD⟩ := hs
  obtain ⟨hrA, kba, -⟩ := hA
  obtain ⟨hrD, kbd, -⟩ := hD
  have e0 := hv 0 (by omega)
  have e1 := hv 1 (by omega)
  have e2 := hv 2 (by omega)
  refine bl_MC_intro (by decide +kernel) rfl (Nat.le_of_ble_eq_true rfl) ?_
  refine bl_go oX7_layFirst 80 [] rfl ?_
  refine ⟨kb, _, bl_vs rb_0, ka, _, bl_vs ra_0, Or.inl ⟨kv, (by first | exact (by rw [nv]; exact vp_in_nI (by omega) (by omega)) | ((try dsimp only [bl_pv]); show vp_in _ (N _); rw [nv]; simp (disch := omega) only [zI_n, zI_o, zI_lit, zI_neg, zI_add, zI_sub, zI_mul, zI_lt, zI_le, zI_eq, zI_clamp, zI_in, zI_div, zI_rem, lg_lt0, lg_gt0, lg_eq0, lg_le0, lg_ge0, Int.toNat_natCast, ge_iff_le, gt_iff_lt, List.length_cons, List.length_nil, bl_up2_at, bl_up2_nk, bl_up2_nx] <;> omega)), ka, _, bl_vs ra_0, Or.inl ⟨kv, (by first | exact (by rw [nv]; exact vp_in_nI (by omega) (by omega)) | ((try dsimp only [bl_pv]); show vp_in _ (N _); rw [nv]; simp (disch := omega) only [zI_n, zI_o, zI_lit, zI_neg, zI_add, zI_sub, zI_mul, zI_lt, zI_le, zI_eq, zI_clamp, zI_in, zI_div, zI_rem, lg_lt0, lg_gt0, lg_eq0, lg_le0, lg_ge0, Int.toNat_natCast, ge_iff_le, gt_iff_lt, List.length_cons, List.length_nil, bl_up2_at, bl_up2_nk, bl_up2_nx] <;> omega)), rfl, rfl, kba, (Nat.le_of_ble_eq_true rfl), (0, 0), Nat.le_refl _, Nat.le_refl _, bl_MC_mono (c_Side_layFirst hs'.2.2.2.2.1 (c := tf 0) (rim := tf 2) e0 e2 (by omega) (by omega)) (fun o16 σ16 q16 => ?_)⟩⟩⟩
  try dsimp only [bl_pv] at q16
  obtain ⟨rfl, I1, J1, rfl, m1, t1⟩ := q16
  have f1 : I1 v = I v := m1.1 v (by omega)
  refine bl_go oX7_layFirst 80 [] rfl ?_
  refine ⟨kb, _, bl_vs rb_1, ka, _, bl_vs ra_0, Or.inl ⟨kv, (by first | exact (by rw [nv]; exact vp_in_nI (by omega) (by omega)) | ((try dsimp only [bl_pv]); show vp_in _ (N _); rw [nv]; simp (disch := omega) only [zI_n, zI_o, zI_lit, zI_neg, zI_add, zI_sub, zI_mul, zI_lt, zI_le, zI_eq, zI_clamp, zI_in, zI_div, zI_rem, lg_lt0, lg_gt0, lg_eq0, lg_le0, lg_ge0, Int.toNat_natCast, ge_iff_le, gt_iff_lt, List.length_cons, List.length_nil, bl_up2_at, bl_up2_nk, bl_up2_nx] <;> omega)), ka, _, bl_vs ra_0, Or.inl ⟨kv, (by first | exact (by rw [nv]; exact vp_in_nI (by omega) (by omega)) | ((try dsimp only [bl_pv]); show vp_in _ (N _); rw [nv]; simp (disch := omega) only [zI_n, zI_o, zI_lit, zI_neg, zI_add, zI_sub, zI_mul, zI_lt, zI_le, zI_eq, zI_clamp, zI_in, zI_div, zI_rem, lg_lt0, lg_gt0, lg_eq0, lg_le0, lg_ge0, Int.toNat_natCast, ge_iff_le, gt_iff_lt, List.length_cons, List.length_nil, bl_up2_at, bl_up2_nk, bl_up2_nx] <;> omega)), rfl, rfl, kbd, (Nat.le_of_ble_eq_true rfl), (0, 0), Nat.le_refl _, Nat.le_refl _, bl_MC_mono (c_Side_layFirst hs'.2.2.2.2.2 (c := tf 1) (rim := tf 2) (by dsimp only; rw [f1]; exact e1) (by dsimp only; rw [f1]; exact e2) (by omega) (by omega)) (fun o35 σ35 q35 => ?_)⟩⟩⟩
  try dsimp only [bl_pv] at q35
  obtain ⟨rfl, I2, J2, rfl, m2, t2⟩ := q35
  refine bl_go oX7_layFirst 80 [] rfl ?_
  refine ⟨kb, Or.inr (Or.inl ⟨rfl, rfl, _, rfl⟩), (fun h => by cases h), kb, Or.inr (Or.inl ⟨rfl, rfl, _, rfl⟩), (fun h => by cases h), kb, Or.inr (Or.inl ⟨rfl, rfl, _, rfl⟩), (fun h => by cases h), ?_⟩
  try show _ ∧ _
  try dsimp only [bl_pv]
  refine ⟨rfl, _, _, rfl, fun x hx => ?_, ?_, ?_, ?_⟩
  · unfold slN at hx
    refine ⟨?_, ?_⟩
    · rw [m2.1 x (by omega), m1.1 x (by omega)]
    · rw [bl_up2_ne (by omega), bl_up2_ne (by omega), bl_up2_ne (by omega), m2.2 x (by omega) (by omega), m1.2 x (by omega) (by omega)]
  · refine (t1.other m2 hs'.2.2.2.2.2 hs'.2.2.2.2.1 (by omega)).same rfl ?_ ?_
    · rw [bl_up2_ne (by omega), bl_up2_ne (by omega), bl_up2_ne (by omega)]
    · rw [bl_up2_ne (by omega), bl_up2_ne (by omega), bl_up2_ne (by omega)]
  · refine t2.same rfl ?_ ?_
    · rw [bl_up2_ne (by omega), bl_up2_ne (by omega), bl_up2_ne (by omega)]
    · rw [bl_up2_ne (by omega), bl_up2_ne (by omega), bl_up2_ne (by omega)]
  · simp (disch := omega) only [bl_up2_at, bl_up2_nk]
    exact ⟨rfl, rfl, rfl⟩
theorem c_Slab_canTake_0 {n L : Nat} {x y z : Int32} (hx : x = nI 0) (hy : y = nI n) (hz : z = nI L) (hn : n ≤ 36) (hL : L ≤ 48) : bl_MC G l d mX7_canTake [.int x, .int y, .int z] (I, J, R, K, N) (0, 0) (fun o σ' => (∃ w, o = .inl (some (.int w)) ∧ ((w = 1 ∧ sl_can 0 n L) ∨ (w = 0 ∧ ¬ sl_can 0 n L))) ∧ σ' = (I, J, R, K, N)) := by
  subst hx hy hz
  have hLn : (L : Int) * (n : Int) ≤ 48 * 36 := by have := Nat.mul_le_mul hL hn; rw [← Int.natCast_mul]; omega
  have hLn0 : (L : Int) * (n : Int) = ((L * n : Nat) : Int) := (Int.natCast_mul _ _).symm
  have e1 : ∀ p, sl_can 0 n L = p → sl_can 0 n L = p := fun _ h => h
  simp only [sl_can]
  refine bl_MC_intro (by decide +kernel) rfl (Nat.le_of_ble_eq_true rfl) ?_
  refine bl_go oX7_canTake 80 [] rfl ?_
  refine ⟨fun h1 => ?_, fun j1 o1 ho1 h1 _ => ?_⟩
  · try simp (disch := omega) only [zI_n, zI_o, zI_lit, zI_neg, zI_add, zI_sub, zI_mul, zI_lt, zI_le, zI_eq, zI_clamp, zI_in, zI_div, zI_rem, lg_lt0, lg_gt0, lg_eq0, lg_le0, lg_ge0, Int.toNat_natCast, ge_iff_le, gt_iff_lt, List.length_cons, List.length_nil, bl_up2_at, bl_up2_nk, bl_up2_nx, zI_toInt] at h1
    first
    | (exfalso; omega)
    | (refine ⟨(fun _ => by first | exact Or.inl rfl | exact Or.inr rfl), ?_⟩
       try show _ ∧ _
       try dsimp only [bl_pv]
       refine ⟨⟨_, rfl, ?_⟩, rfl⟩
       first
       | exact Or.inl ⟨rfl, by first | trivial | omega⟩
       | exact Or.inr ⟨rfl, by omega⟩)
  · try simp (disch := omega) only [zI_n, zI_o, zI_lit, zI_neg, zI_add, zI_sub, zI_mul, zI_lt, zI_le, zI_eq, zI_clamp, zI_in, zI_div, zI_rem, lg_lt0, lg_gt0, lg_eq0, lg_le0, lg_ge0, Int.toNat_natCast, ge_iff_le, gt_iff_lt, List.length_cons, List.length_nil, bl_up2_at, bl_up2_nk, bl_up2_nx, zI_toInt] at h1
    match j1, ho1, h1 with
    | 0, ho1, h1 =>
      cases ho1
      first
      | (exfalso; omega)
      | (refine ⟨fun h41 => ?_, fun h41 => ?_⟩
         · try simp (disch := omega) only [zI_n, zI_o, zI_lit, zI_neg, zI_add, zI_sub, zI_mul, zI_lt, zI_le, zI_eq, zI_clamp, zI_in, zI_div, zI_rem, lg_lt0, lg_gt0, lg_eq0, lg_le0, lg_ge0, Int.toNat_natCast, ge_iff_le, gt_iff_lt, List.length_cons, List.length_nil, bl_up2_at, bl_up2_nk, bl_up2_nx] at h41
           first
           | (exfalso; omega)
           | (refine ⟨(fun _ => by first | exact Or.inl rfl | exact Or.inr rfl), ?_⟩
              try show _ ∧ _
              try dsimp only [bl_pv]
              refine ⟨⟨_, rfl, ?_⟩, rfl⟩
              first
              | exact Or.inl ⟨rfl, by first | trivial | omega⟩
              | exact Or.inr ⟨rfl, by omega⟩)
         · try simp (disch := omega) only [zI_n, zI_o, zI_lit, zI_neg, zI_add, zI_sub, zI_mul, zI_lt, zI_le, zI_eq, zI_clamp, zI_in, zI_div, zI_rem, lg_lt0, lg_gt0, lg_eq0, lg_le0, lg_ge0, Int.toNat_natCast, ge_iff_le, gt_iff_lt, List.length_cons, List.length_nil, bl_up2_at, bl_up2_nk, bl_up2_nx] at h41
           first
           | (exfalso; omega)
           | (refine ⟨(fun _ => by first | exact Or.inl rfl | exact Or.inr rfl), ?_⟩
              try show _ ∧ _
              try dsimp only [bl_pv]
              refine ⟨⟨_, rfl, ?_⟩, rfl⟩
              first
              | exact Or.inl ⟨rfl, by first | trivial | omega⟩
              | exact Or.inr ⟨rfl, by omega⟩))
    | 1, ho1, h1 =>
      cases ho1
      first
      | (exfalso; omega)
      | (refine ⟨fun h51 => ?_, fun h51 => ?_⟩
         · try simp (disch := omega) only [zI_n, zI_o, zI_lit, zI_neg, zI_add, zI_sub, zI_mul, zI_lt, zI_le, zI_eq, zI_clamp, zI_in, zI_div, zI_rem, lg_lt0, lg_gt0, lg_eq0, lg_le0, lg_ge0, Int.toNat_natCast, ge_iff_le, gt_iff_lt, List.length_cons, List.length_nil, bl_up2_at, bl_up2_nk, bl_up2_nx] at h51
           first
           | (exfalso; omega)
           | (refine ⟨(fun _ => by first | exact Or.inl rfl | exact Or.inr rfl), ?_⟩
              try show _ ∧ _
              try dsimp only [bl_pv]
              refine ⟨⟨_, rfl, ?_⟩, rfl⟩
              first
              | exact Or.inl ⟨rfl, by first | trivial | omega⟩
              | exact Or.inr ⟨rfl, by omega⟩)
         · try simp (disch := omega) only [zI_n, zI_o, zI_lit, zI_neg, zI_add, zI_sub, zI_mul, zI_lt, zI_le, zI_eq, zI_clamp, zI_in, zI_div, zI_rem, lg_lt0, lg_gt0, lg_eq0, lg_le0, lg_ge0, Int.toNat_natCast, ge_iff_le, gt_iff_lt, List.length_cons, List.length_nil, bl_up2_at, bl_up2_nk, bl_up2_nx] at h51
           first
           | (exfalso; omega)
           | (refine ⟨(by first | decide | (simp (disch := omega) only [zI_n, zI_o, zI_lit, zI_neg, zI_add, zI_sub, zI_mul, zI_lt, zI_le, zI_eq, zI_clamp, zI_in, zI_div, zI_rem, lg_lt0, lg_gt0, lg_eq0, lg_le0, lg_ge0, Int.toNat_natCast, ge_iff_le, gt_iff_lt, List.length_cons, List.length_nil, bl_up2_at, bl_up2_nk, bl_up2_nx] <;> omega)), fun h57 => ?_, fun h57 => ?_⟩
              · try simp (disch := omega) only [zI_n, zI_o, zI_lit, zI_neg, zI_add, zI_sub, zI_mul, zI_lt, zI_le, zI_eq, zI_clamp, zI_in, zI_div, zI_rem, lg_lt0, lg_gt0, lg_eq0, lg_le0, lg_ge0, Int.toNat_natCast, ge_iff_le, gt_iff_lt, List.length_cons, List.length_nil, bl_up2_at, bl_up2_nk, bl_up2_nx] at h57
                first
                | (exfalso; omega)
                | (refine ⟨(fun _ => by first | exact Or.inl rfl | exact Or.inr rfl), ?_⟩
                   try show _ ∧ _
                   try dsimp only [bl_pv]
                   refine ⟨⟨_, rfl, ?_⟩, rfl⟩
                   first
                   | exact Or.inl ⟨rfl, by first | trivial | omega⟩
                   | exact Or.inr ⟨rfl, by omega⟩)
              · try simp (disch := omega) only [zI_n, zI_o, zI_lit, zI_neg, zI_add, zI_sub, zI_mul, zI_lt, zI_le, zI_eq, zI_clamp, zI_in, zI_div, zI_rem, lg_lt0, lg_gt0, lg_eq0, lg_le0, lg_ge0, Int.toNat_natCast, ge_iff_le, gt_iff_lt, List.length_cons, List.length_nil, bl_up2_at, bl_up2_nk, bl_up2_nx] at h57
                first
                | (exfalso; omega)
                | (refine ⟨(fun _ => by first | exact Or.inl rfl | exact Or.inr rfl), ?_⟩
                   try show _ ∧ _
                   try dsimp only [bl_pv]
                   refine ⟨⟨_, rfl, ?_⟩, rfl⟩
                   first
                   | exact Or.inl ⟨rfl, by first | trivial | omega⟩
                   | exact Or.inr ⟨rfl, by omega⟩)))
    | 2, ho1, h1 =>
      cases ho1
      first
      | (exfalso; omega)
      | (refine ⟨(by first | decide | (simp (disch := omega) only [zI_n, zI_o, zI_lit, zI_neg, zI_add, zI_sub, zI_mul, zI_lt, zI_le, zI_eq, zI_clamp, zI_in, zI_div, zI_rem, lg_lt0, lg_gt0, lg_eq0, lg_le0, lg_ge0, Int.toNat_natCast, ge_iff_le, gt_iff_lt, List.length_cons, List.length_nil, bl_up2_at, bl_up2_nk, bl_up2_nx] <;> omega)), fun h69 => ?_, fun h69 => ?_⟩
         · try simp (disch := omega) only [zI_n, zI_o, zI_lit, zI_neg, zI_add, zI_sub, zI_mul, zI_lt, zI_le, zI_eq, zI_clamp, zI_in, zI_div, zI_rem, lg_lt0, lg_gt0, lg_eq0, lg_le0, lg_ge0, Int.toNat_natCast, ge_iff_le, gt_iff_lt, List.length_cons, List.length_nil, bl_up2_at, bl_up2_nk, bl_up2_nx] at h69
           first
           | (exfalso; omega)
           | (refine ⟨(fun _ => by first | exact Or.inl rfl | exact Or.inr rfl), ?_⟩
              try show _ ∧ _
              try dsimp only [bl_pv]
              refine ⟨⟨_, rfl, ?_⟩, rfl⟩
              first
              | exact Or.inl ⟨rfl, by first | trivial | omega⟩
              | exact Or.inr ⟨rfl, by omega⟩)
         · try simp (disch := omega) only [zI_n, zI_o, zI_lit, zI_neg, zI_add, zI_sub, zI_mul, zI_lt, zI_le, zI_eq, zI_clamp, zI_in, zI_div, zI_rem, lg_lt0, lg_gt0, lg_eq0, lg_le0, lg_ge0, Int.toNat_natCast, ge_iff_le, gt_iff_lt, List.length_cons, List.length_nil, bl_up2_at, bl_up2_nk, bl_up2_nx] at h69
           first
           | (exfalso; omega)
           | (refine ⟨(fun _ => by first | exact Or.inl rfl | exact Or.inr rfl), ?_⟩
              try show _ ∧ _
              try dsimp only [bl_pv]
              refine ⟨⟨_, rfl, ?_⟩, rfl⟩
              first
              | exact Or.inl ⟨rfl, by first | trivial | omega⟩
              | exact Or.inr ⟨rfl, by omega⟩))
    | 3, ho1, h1 =>
      cases ho1
      first
      | (exfalso; omega)
      | (refine ⟨fun h82 => ?_, fun h82 => ?_⟩
         · try simp (disch := omega) only [zI_n, zI_o, zI_lit, zI_neg, zI_add, zI_sub, zI_mul, zI_lt, zI_le, zI_eq, zI_clamp, zI_in, zI_div, zI_rem, lg_lt0, lg_gt0, lg_eq0, lg_le0, lg_ge0, Int.toNat_natCast, ge_iff_le, gt_iff_lt, List.length_cons, List.length_nil, bl_up2_at, bl_up2_nk, bl_up2_nx] at h82
           first
           | (exfalso; omega)
           | (refine ⟨(fun _ => by first | exact Or.inl rfl | exact Or.inr rfl), ?_⟩
              try show _ ∧ _
              try dsimp only [bl_pv]
              refine ⟨⟨_, rfl, ?_⟩, rfl⟩
              first
              | exact Or.inl ⟨rfl, by first | trivial | omega⟩
              | exact Or.inr ⟨rfl, by omega⟩)
         · try simp (disch := omega) only [zI_n, zI_o, zI_lit, zI_neg, zI_add, zI_sub, zI_mul, zI_lt, zI_le, zI_eq, zI_clamp, zI_in, zI_div, zI_rem, lg_lt0, lg_gt0, lg_eq0, lg_le0, lg_ge0, Int.toNat_natCast, ge_iff_le, gt_iff_lt, List.length_cons, List.length_nil, bl_up2_at, bl_up2_nk, bl_up2_nx] at h82
           first
           | (exfalso; omega)
           | (refine ⟨(fun _ => by first | exact Or.inl rfl | exact Or.inr rfl), ?_⟩
              try show _ ∧ _
              try dsimp only [bl_pv]
              refine ⟨⟨_, rfl, ?_⟩, rfl⟩
              first
              | exact Or.inl ⟨rfl, by first | trivial | omega⟩
              | exact Or.inr ⟨rfl, by omega⟩))
    | 4, ho1, h1 =>
      cases ho1
      first
      | (exfalso; omega)
      | (refine ⟨fun h95 => ?_, fun h95 => ?_⟩
         · try simp (disch := omega) only [zI_n, zI_o, zI_lit, zI_neg, zI_add, zI_sub, zI_mul, zI_lt, zI_le, zI_eq, zI_clamp, zI_in, zI_div, zI_rem, lg_lt0, lg_gt0, lg_eq0, lg_le0, lg_ge0, Int.toNat_natCast, ge_iff_le, gt_iff_lt, List.length_cons, List.length_nil, bl_up2_at, bl_up2_nk, bl_up2_nx] at h95
           first
           | (exfalso; omega)
           | (refine ⟨(fun _ => by first | exact Or.inl rfl | exact Or.inr rfl), ?_⟩
              try show _ ∧ _
              try dsimp only [bl_pv]
              refine ⟨⟨_, rfl, ?_⟩, rfl⟩
              first
              | exact Or.inl ⟨rfl, by first | trivial | omega⟩
              | exact Or.inr ⟨rfl, by omega⟩)
         · try simp (disch := omega) only [zI_n, zI_o, zI_lit, zI_neg, zI_add, zI_sub, zI_mul, zI_lt, zI_le, zI_eq, zI_clamp, zI_in, zI_div, zI_rem, lg_lt0, lg_gt0, lg_eq0, lg_le0, lg_ge0, Int.toNat_natCast, ge_iff_le, gt_iff_lt, List.length_cons, List.length_nil, bl_up2_at, bl_up2_nk, bl_up2_nx] at h95
           first
           | (exfalso; omega)
           | (refine ⟨(fun _ => by first | exact Or.inl rfl | exact Or.inr rfl), ?_⟩
              try show _ ∧ _
              try dsimp only [bl_pv]
              refine ⟨⟨_, rfl, ?_⟩, rfl⟩
              first
              | exact Or.inl ⟨rfl, by first | trivial | omega⟩
              | exact Or.inr ⟨rfl, by omega⟩))
    | _ + 5, ho1, _ => exact absurd ho1 (by simp)
theorem c_Slab_canTake_2 {n L : Nat} {x y z : Int32} (hx : x = nI 2) (hy : y = nI n) (hz : z = nI L) (hn : n ≤ 36) (hL : L ≤ 48) : bl_MC G l d mX7_canTake [.int x, .int y, .int z] (I, J, R, K, N) (0, 0) (fun o σ' => (∃ w, o = .inl (some (.int w)) ∧ ((w = 1 ∧ sl_can 2 n L) ∨ (w = 0 ∧ ¬ sl_can 2 n L))) ∧ σ' = (I, J, R, K, N)) := by
  subst hx hy hz
  have hLn : (L : Int) * (n : Int) ≤ 48 * 36 := by have := Nat.mul_le_mul hL hn; rw [← Int.natCast_mul]; omega
  have hLn0 : (L : Int) * (n : Int) = ((L * n : Nat) : Int) := (Int.natCast_mul _ _).symm
  have e1 : ∀ p, sl_can 2 n L = p → sl_can 2 n L = p := fun _ h => h
  simp only [sl_can]
  refine bl_MC_intro (by decide +kernel) rfl (Nat.le_of_ble_eq_true rfl) ?_
  refine bl_go oX7_canTake 80 [] rfl ?_
  refine ⟨fun h1 => ?_, fun j1 o1 ho1 h1 _ => ?_⟩
  · try simp (disch := omega) only [zI_n, zI_o, zI_lit, zI_neg, zI_add, zI_sub, zI_mul, zI_lt, zI_le, zI_eq, zI_clamp, zI_in, zI_div, zI_rem, lg_lt0, lg_gt0, lg_eq0, lg_le0, lg_ge0, Int.toNat_natCast, ge_iff_le, gt_iff_lt, List.length_cons, List.length_nil, bl_up2_at, bl_up2_nk, bl_up2_nx, zI_toInt] at h1
    first
    | (exfalso; omega)
    | (refine ⟨(fun _ => by first | exact Or.inl rfl | exact Or.inr rfl), ?_⟩
       try show _ ∧ _
       try dsimp only [bl_pv]
       refine ⟨⟨_, rfl, ?_⟩, rfl⟩
       first
       | exact Or.inl ⟨rfl, by first | trivial | omega⟩
       | exact Or.inr ⟨rfl, by omega⟩)
  · try simp (disch := omega) only [zI_n, zI_o, zI_lit, zI_neg, zI_add, zI_sub, zI_mul, zI_lt, zI_le, zI_eq, zI_clamp, zI_in, zI_div, zI_rem, lg_lt0, lg_gt0, lg_eq0, lg_le0, lg_ge0, Int.toNat_natCast, ge_iff_le, gt_iff_lt, List.length_cons, List.length_nil, bl_up2_at, bl_up2_nk, bl_up2_nx, zI_toInt] at h1
    match j1, ho1, h1 with
    | 0, ho1, h1 =>
      cases ho1
      first
      | (exfalso; omega)
      | (refine ⟨fun h41 => ?_, fun h41 => ?_⟩
         · try simp (disch := omega) only [zI_n, zI_o, zI_lit, zI_neg, zI_add, zI_sub, zI_mul, zI_lt, zI_le, zI_eq, zI_clamp, zI_in, zI_div, zI_rem, lg_lt0, lg_gt0, lg_eq0, lg_le0, lg_ge0, Int.toNat_natCast, ge_iff_le, gt_iff_lt, List.length_cons, List.length_nil, bl_up2_at, bl_up2_nk, bl_up2_nx] at h41
           first
           | (exfalso; omega)
           | (refine ⟨(fun _ => by first | exact Or.inl rfl | exact Or.inr rfl), ?_⟩
              try show _ ∧ _
              try dsimp only [bl_pv]
              refine ⟨⟨_, rfl, ?_⟩, rfl⟩
              first
              | exact Or.inl ⟨rfl, by first | trivial | omega⟩
              | exact Or.inr ⟨rfl, by omega⟩)
         · try simp (disch := omega) only [zI_n, zI_o, zI_lit, zI_neg, zI_add, zI_sub, zI_mul, zI_lt, zI_le, zI_eq, zI_clamp, zI_in, zI_div, zI_rem, lg_lt0, lg_gt0, lg_eq0, lg_le0, lg_ge0, Int.toNat_natCast, ge_iff_le, gt_iff_lt, List.length_cons, List.length_nil, bl_up2_at, bl_up2_nk, bl_up2_nx] at h41
           first
           | (exfalso; omega)
           | (refine ⟨(fun _ => by first | exact Or.inl rfl | exact Or.inr rfl), ?_⟩
              try show _ ∧ _
              try dsimp only [bl_pv]
              refine ⟨⟨_, rfl, ?_⟩, rfl⟩
              first
              | exact Or.inl ⟨rfl, by first | trivial | omega⟩
              | exact Or.inr ⟨rfl, by omega⟩))
    | 1, ho1, h1 =>
      cases ho1
      first
      | (exfalso; omega)
      | (refine ⟨fun h51 => ?_, fun h51 => ?_⟩
         · try simp (disch := omega) only [zI_n, zI_o, zI_lit, zI_neg, zI_add, zI_sub, zI_mul, zI_lt, zI_le, zI_eq, zI_clamp, zI_in, zI_div, zI_rem, lg_lt0, lg_gt0, lg_eq0, lg_le0, lg_ge0, Int.toNat_natCast, ge_iff_le, gt_iff_lt, List.length_cons, List.length_nil, bl_up2_at, bl_up2_nk, bl_up2_nx] at h51
           first
           | (exfalso; omega)
           | (refine ⟨(fun _ => by first | exact Or.inl rfl | exact Or.inr rfl), ?_⟩
              try show _ ∧ _
              try dsimp only [bl_pv]
              refine ⟨⟨_, rfl, ?_⟩, rfl⟩
              first
              | exact Or.inl ⟨rfl, by first | trivial | omega⟩
              | exact Or.inr ⟨rfl, by omega⟩)
         · try simp (disch := omega) only [zI_n, zI_o, zI_lit, zI_neg, zI_add, zI_sub, zI_mul, zI_lt, zI_le, zI_eq, zI_clamp, zI_in, zI_div, zI_rem, lg_lt0, lg_gt0, lg_eq0, lg_le0, lg_ge0, Int.toNat_natCast, ge_iff_le, gt_iff_lt, List.length_cons, List.length_nil, bl_up2_at, bl_up2_nk, bl_up2_nx] at h51
           first
           | (exfalso; omega)
           | (refine ⟨(by first | decide | (simp (disch := omega) only [zI_n, zI_o, zI_lit, zI_neg, zI_add, zI_sub, zI_mul, zI_lt, zI_le, zI_eq, zI_clamp, zI_in, zI_div, zI_rem, lg_lt0, lg_gt0, lg_eq0, lg_le0, lg_ge0, Int.toNat_natCast, ge_iff_le, gt_iff_lt, List.length_cons, List.length_nil, bl_up2_at, bl_up2_nk, bl_up2_nx] <;> omega)), fun h57 => ?_, fun h57 => ?_⟩
              · try simp (disch := omega) only [zI_n, zI_o, zI_lit, zI_neg, zI_add, zI_sub, zI_mul, zI_lt, zI_le, zI_eq, zI_clamp, zI_in, zI_div, zI_rem, lg_lt0, lg_gt0, lg_eq0, lg_le0, lg_ge0, Int.toNat_natCast, ge_iff_le, gt_iff_lt, List.length_cons, List.length_nil, bl_up2_at, bl_up2_nk, bl_up2_nx] at h57
                first
                | (exfalso; omega)
                | (refine ⟨(fun _ => by first | exact Or.inl rfl | exact Or.inr rfl), ?_⟩
                   try show _ ∧ _
                   try dsimp only [bl_pv]
                   refine ⟨⟨_, rfl, ?_⟩, rfl⟩
                   first
                   | exact Or.inl ⟨rfl, by first | trivial | omega⟩
                   | exact Or.inr ⟨rfl, by omega⟩)
              · try simp (disch := omega) only [zI_n, zI_o, zI_lit, zI_neg, zI_add, zI_sub, zI_mul, zI_lt, zI_le, zI_eq, zI_clamp, zI_in, zI_div, zI_rem, lg_lt0, lg_gt0, lg_eq0, lg_le0, lg_ge0, Int.toNat_natCast, ge_iff_le, gt_iff_lt, List.length_cons, List.length_nil, bl_up2_at, bl_up2_nk, bl_up2_nx] at h57
                first
                | (exfalso; omega)
                | (refine ⟨(fun _ => by first | exact Or.inl rfl | exact Or.inr rfl), ?_⟩
                   try show _ ∧ _
                   try dsimp only [bl_pv]
                   refine ⟨⟨_, rfl, ?_⟩, rfl⟩
                   first
                   | exact Or.inl ⟨rfl, by first | trivial | omega⟩
                   | exact Or.inr ⟨rfl, by omega⟩)))
    | 2, ho1, h1 =>
      cases ho1
      first
      | (exfalso; omega)
      | (refine ⟨(by first | decide | (simp (disch := omega) only [zI_n, zI_o, zI_lit, zI_neg, zI_add, zI_sub, zI_mul, zI_lt, zI_le, zI_eq, zI_clamp, zI_in, zI_div, zI_rem, lg_lt0, lg_gt0, lg_eq0, lg_le0, lg_ge0, Int.toNat_natCast, ge_iff_le, gt_iff_lt, List.length_cons, List.length_nil, bl_up2_at, bl_up2_nk, bl_up2_nx] <;> omega)), fun h69 => ?_, fun h69 => ?_⟩
         · try simp (disch := omega) only [zI_n, zI_o, zI_lit, zI_neg, zI_add, zI_sub, zI_mul, zI_lt, zI_le, zI_eq, zI_clamp, zI_in, zI_div, zI_rem, lg_lt0, lg_gt0, lg_eq0, lg_le0, lg_ge0, Int.toNat_natCast, ge_iff_le, gt_iff_lt, List.length_cons, List.length_nil, bl_up2_at, bl_up2_nk, bl_up2_nx] at h69
           first
           | (exfalso; omega)
           | (refine ⟨(fun _ => by first | exact Or.inl rfl | exact Or.inr rfl), ?_⟩
              try show _ ∧ _
              try dsimp only [bl_pv]
              refine ⟨⟨_, rfl, ?_⟩, rfl⟩
              first
              | exact Or.inl ⟨rfl, by first | trivial | omega⟩
              | exact Or.inr ⟨rfl, by omega⟩)
         · try simp (disch := omega) only [zI_n, zI_o, zI_lit, zI_neg, zI_add, zI_sub, zI_mul, zI_lt, zI_le, zI_eq, zI_clamp, zI_in, zI_div, zI_rem, lg_lt0, lg_gt0, lg_eq0, lg_le0, lg_ge0, Int.toNat_natCast, ge_iff_le, gt_iff_lt, List.length_cons, List.length_nil, bl_up2_at, bl_up2_nk, bl_up2_nx] at h69
           first
           | (exfalso; omega)
           | (refine ⟨(fun _ => by first | exact Or.inl rfl | exact Or.inr rfl), ?_⟩
              try show _ ∧ _
              try dsimp only [bl_pv]
              refine ⟨⟨_, rfl, ?_⟩, rfl⟩
              first
              | exact Or.inl ⟨rfl, by first | trivial | omega⟩
              | exact Or.inr ⟨rfl, by omega⟩))
    | 3, ho1, h1 =>
      cases ho1
      first
      | (exfalso; omega)
      | (refine ⟨fun h82 => ?_, fun h82 => ?_⟩
         · try simp (disch := omega) only [zI_n, zI_o, zI_lit, zI_neg, zI_add, zI_sub, zI_mul, zI_lt, zI_le, zI_eq, zI_clamp, zI_in, zI_div, zI_rem, lg_lt0, lg_gt0, lg_eq0, lg_le0, lg_ge0, Int.toNat_natCast, ge_iff_le, gt_iff_lt, List.length_cons, List.length_nil, bl_up2_at, bl_up2_nk, bl_up2_nx] at h82
           first
           | (exfalso; omega)
           | (refine ⟨(fun _ => by first | exact Or.inl rfl | exact Or.inr rfl), ?_⟩
              try show _ ∧ _
              try dsimp only [bl_pv]
              refine ⟨⟨_, rfl, ?_⟩, rfl⟩
              first
              | exact Or.inl ⟨rfl, by first | trivial | omega⟩
              | exact Or.inr ⟨rfl, by omega⟩)
         · try simp (disch := omega) only [zI_n, zI_o, zI_lit, zI_neg, zI_add, zI_sub, zI_mul, zI_lt, zI_le, zI_eq, zI_clamp, zI_in, zI_div, zI_rem, lg_lt0, lg_gt0, lg_eq0, lg_le0, lg_ge0, Int.toNat_natCast, ge_iff_le, gt_iff_lt, List.length_cons, List.length_nil, bl_up2_at, bl_up2_nk, bl_up2_nx] at h82
           first
           | (exfalso; omega)
           | (refine ⟨(fun _ => by first | exact Or.inl rfl | exact Or.inr rfl), ?_⟩
              try show _ ∧ _
              try dsimp only [bl_pv]
              refine ⟨⟨_, rfl, ?_⟩, rfl⟩
              first
              | exact Or.inl ⟨rfl, by first | trivial | omega⟩
              | exact Or.inr ⟨rfl, by omega⟩))
    | 4, ho1, h1 =>
      cases ho1
      first
      | (exfalso; omega)
      | (refine ⟨fun h95 => ?_, fun h95 => ?_⟩
         · try simp (disch := omega) only [zI_n, zI_o, zI_lit, zI_neg, zI_add, zI_sub, zI_mul, zI_lt, zI_le, zI_eq, zI_clamp, zI_in, zI_div, zI_rem, lg_lt0, lg_gt0, lg_eq0, lg_le0, lg_ge0, Int.toNat_natCast, ge_iff_le, gt_iff_lt, List.length_cons, List.length_nil, bl_up2_at, bl_up2_nk, bl_up2_nx] at h95
           first
           | (exfalso; omega)
           | (refine ⟨(fun _ => by first | exact Or.inl rfl | exact Or.inr rfl), ?_⟩
              try show _ ∧ _
              try dsimp only [bl_pv]
              refine ⟨⟨_, rfl, ?_⟩, rfl⟩
              first
              | exact Or.inl ⟨rfl, by first | trivial | omega⟩
              | exact Or.inr ⟨rfl, by omega⟩)
         · try simp (disch := omega) only [zI_n, zI_o, zI_lit, zI_neg, zI_add, zI_sub, zI_mul, zI_lt, zI_le, zI_eq, zI_clamp, zI_in, zI_div, zI_rem, lg_lt0, lg_gt0, lg_eq0, lg_le0, lg_ge0, Int.toNat_natCast, ge_iff_le, gt_iff_lt, List.length_cons, List.length_nil, bl_up2_at, bl_up2_nk, bl_up2_nx] at h95
           first
           | (exfalso; omega)
           | (refine ⟨(fun _ => by first | exact Or.inl rfl | exact Or.inr rfl), ?_⟩
              try show _ ∧ _
              try dsimp only [bl_pv]
              refine ⟨⟨_, rfl, ?_⟩, rfl⟩
              first
              | exact Or.inl ⟨rfl, by first | trivial | omega⟩
              | exact Or.inr ⟨rfl, by omega⟩))
    | _ + 5, ho1, _ => exact absurd ho1 (by simp)
theorem c_Slab_canTake_3 {n L : Nat} {x y z : Int32} (hx : x = nI 3) (hy : y = nI n) (hz : z = nI L) (hn : n ≤ 36) (hL : L ≤ 48) : bl_MC G l d mX7_canTake [.int x, .int y, .int z] (I, J, R, K, N) (0, 0) (fun o σ' => (∃ w, o = .inl (some (.int w)) ∧ ((w = 1 ∧ sl_can 3 n L) ∨ (w = 0 ∧ ¬ sl_can 3 n L))) ∧ σ' = (I, J, R, K, N)) := by
  subst hx hy hz
  have hLn : (L : Int) * (n : Int) ≤ 48 * 36 := by have := Nat.mul_le_mul hL hn; rw [← Int.natCast_mul]; omega
  have hLn0 : (L : Int) * (n : Int) = ((L * n : Nat) : Int) := (Int.natCast_mul _ _).symm
  have e1 : ∀ p, sl_can 3 n L = p → sl_can 3 n L = p := fun _ h => h
  simp only [sl_can]
  refine bl_MC_intro (by decide +kernel) rfl (Nat.le_of_ble_eq_true rfl) ?_
  refine bl_go oX7_canTake 80 [] rfl ?_
  refine ⟨fun h1 => ?_, fun j1 o1 ho1 h1 _ => ?_⟩
  · try simp (disch := omega) only [zI_n, zI_o, zI_lit, zI_neg, zI_add, zI_sub, zI_mul, zI_lt, zI_le, zI_eq, zI_clamp, zI_in, zI_div, zI_rem, lg_lt0, lg_gt0, lg_eq0, lg_le0, lg_ge0, Int.toNat_natCast, ge_iff_le, gt_iff_lt, List.length_cons, List.length_nil, bl_up2_at, bl_up2_nk, bl_up2_nx, zI_toInt] at h1
    first
    | (exfalso; omega)
    | (refine ⟨(fun _ => by first | exact Or.inl rfl | exact Or.inr rfl), ?_⟩
       try show _ ∧ _
       try dsimp only [bl_pv]
       refine ⟨⟨_, rfl, ?_⟩, rfl⟩
       first
       | exact Or.inl ⟨rfl, by first | trivial | omega⟩
       | exact Or.inr ⟨rfl, by omega⟩)
  · try simp (disch := omega) only [zI_n, zI_o, zI_lit, zI_neg, zI_add, zI_sub, zI_mul, zI_lt, zI_le, zI_eq, zI_clamp, zI_in, zI_div, zI_rem, lg_lt0, lg_gt0, lg_eq0, lg_le0, lg_ge0, Int.toNat_natCast, ge_iff_le, gt_iff_lt, List.length_cons, List.length_nil, bl_up2_at, bl_up2_nk, bl_up2_nx, zI_toInt] at h1
    match j1, ho1, h1 with
    | 0, ho1, h1 =>
      cases ho1
      first
      | (exfalso; omega)
      | (refine ⟨fun h41 => ?_, fun h41 => ?_⟩
         · try simp (disch := omega) only [zI_n, zI_o, zI_lit, zI_neg, zI_add, zI_sub, zI_mul, zI_lt, zI_le, zI_eq, zI_clamp, zI_in, zI_div, zI_rem, lg_lt0, lg_gt0, lg_eq0, lg_le0, lg_ge0, Int.toNat_natCast, ge_iff_le, gt_iff_lt, List.length_cons, List.length_nil, bl_up2_at, bl_up2_nk, bl_up2_nx] at h41
           first
           | (exfalso; omega)
           | (refine ⟨(fun _ => by first | exact Or.inl rfl | exact Or.inr rfl), ?_⟩
              try show _ ∧ _
              try dsimp only [bl_pv]
              refine ⟨⟨_, rfl, ?_⟩, rfl⟩
              first
              | exact Or.inl ⟨rfl, by first | trivial | omega⟩
              | exact Or.inr ⟨rfl, by omega⟩)
         · try simp (disch := omega) only [zI_n, zI_o, zI_lit, zI_neg, zI_add, zI_sub, zI_mul, zI_lt, zI_le, zI_eq, zI_clamp, zI_in, zI_div, zI_rem, lg_lt0, lg_gt0, lg_eq0, lg_le0, lg_ge0, Int.toNat_natCast, ge_iff_le, gt_iff_lt, List.length_cons, List.length_nil, bl_up2_at, bl_up2_nk, bl_up2_nx] at h41
           first
           | (exfalso; omega)
           | (refine ⟨(fun _ => by first | exact Or.inl rfl | exact Or.inr rfl), ?_⟩
              try show _ ∧ _
              try dsimp only [bl_pv]
              refine ⟨⟨_, rfl, ?_⟩, rfl⟩
              first
              | exact Or.inl ⟨rfl, by first | trivial | omega⟩
              | exact Or.inr ⟨rfl, by omega⟩))
    | 1, ho1, h1 =>
      cases ho1
      first
      | (exfalso; omega)
      | (refine ⟨fun h51 => ?_, fun h51 => ?_⟩
         · try simp (disch := omega) only [zI_n, zI_o, zI_lit, zI_neg, zI_add, zI_sub, zI_mul, zI_lt, zI_le, zI_eq, zI_clamp, zI_in, zI_div, zI_rem, lg_lt0, lg_gt0, lg_eq0, lg_le0, lg_ge0, Int.toNat_natCast, ge_iff_le, gt_iff_lt, List.length_cons, List.length_nil, bl_up2_at, bl_up2_nk, bl_up2_nx] at h51
           first
           | (exfalso; omega)
           | (refine ⟨(fun _ => by first | exact Or.inl rfl | exact Or.inr rfl), ?_⟩
              try show _ ∧ _
              try dsimp only [bl_pv]
              refine ⟨⟨_, rfl, ?_⟩, rfl⟩
              first
              | exact Or.inl ⟨rfl, by first | trivial | omega⟩
              | exact Or.inr ⟨rfl, by omega⟩)
         · try simp (disch := omega) only [zI_n, zI_o, zI_lit, zI_neg, zI_add, zI_sub, zI_mul, zI_lt, zI_le, zI_eq, zI_clamp, zI_in, zI_div, zI_rem, lg_lt0, lg_gt0, lg_eq0, lg_le0, lg_ge0, Int.toNat_natCast, ge_iff_le, gt_iff_lt, List.length_cons, List.length_nil, bl_up2_at, bl_up2_nk, bl_up2_nx] at h51
           first
           | (exfalso; omega)
           | (refine ⟨(by first | decide | (simp (disch := omega) only [zI_n, zI_o, zI_lit, zI_neg, zI_add, zI_sub, zI_mul, zI_lt, zI_le, zI_eq, zI_clamp, zI_in, zI_div, zI_rem, lg_lt0, lg_gt0, lg_eq0, lg_le0, lg_ge0, Int.toNat_natCast, ge_iff_le, gt_iff_lt, List.length_cons, List.length_nil, bl_up2_at, bl_up2_nk, bl_up2_nx] <;> omega)), fun h57 => ?_, fun h57 => ?_⟩
              · try simp (disch := omega) only [zI_n, zI_o, zI_lit, zI_neg, zI_add, zI_sub, zI_mul, zI_lt, zI_le, zI_eq, zI_clamp, zI_in, zI_div, zI_rem, lg_lt0, lg_gt0, lg_eq0, lg_le0, lg_ge0, Int.toNat_natCast, ge_iff_le, gt_iff_lt, List.length_cons, List.length_nil, bl_up2_at, bl_up2_nk, bl_up2_nx] at h57
                first
                | (exfalso; omega)
                | (refine ⟨(fun _ => by first | exact Or.inl rfl | exact Or.inr rfl), ?_⟩
                   try show _ ∧ _
                   try dsimp only [bl_pv]
                   refine ⟨⟨_, rfl, ?_⟩, rfl⟩
                   first
                   | exact Or.inl ⟨rfl, by first | trivial | omega⟩
                   | exact Or.inr ⟨rfl, by omega⟩)
              · try simp (disch := omega) only [zI_n, zI_o, zI_lit, zI_neg, zI_add, zI_sub, zI_mul, zI_lt, zI_le, zI_eq, zI_clamp, zI_in, zI_div, zI_rem, lg_lt0, lg_gt0, lg_eq0, lg_le0, lg_ge0, Int.toNat_natCast, ge_iff_le, gt_iff_lt, List.length_cons, List.length_nil, bl_up2_at, bl_up2_nk, bl_up2_nx] at h57
                first
                | (exfalso; omega)
                | (refine ⟨(fun _ => by first | exact Or.inl rfl | exact Or.inr rfl), ?_⟩
                   try show _ ∧ _
                   try dsimp only [bl_pv]
                   refine ⟨⟨_, rfl, ?_⟩, rfl⟩
                   first
                   | exact Or.inl ⟨rfl, by first | trivial | omega⟩
                   | exact Or.inr ⟨rfl, by omega⟩)))
    | 2, ho1, h1 =>
      cases ho1
      first
      | (exfalso; omega)
      | (refine ⟨(by first | decide | (simp (disch := omega) only [zI_n, zI_o, zI_lit, zI_neg, zI_add, zI_sub, zI_mul, zI_lt, zI_le, zI_eq, zI_clamp, zI_in, zI_div, zI_rem, lg_lt0, lg_gt0, lg_eq0, lg_le0, lg_ge0, Int.toNat_natCast, ge_iff_le, gt_iff_lt, List.length_cons, List.length_nil, bl_up2_at, bl_up2_nk, bl_up2_nx] <;> omega)), fun h69 => ?_, fun h69 => ?_⟩
         · try simp (disch := omega) only [zI_n, zI_o, zI_lit, zI_neg, zI_add, zI_sub, zI_mul, zI_lt, zI_le, zI_eq, zI_clamp, zI_in, zI_div, zI_rem, lg_lt0, lg_gt0, lg_eq0, lg_le0, lg_ge0, Int.toNat_natCast, ge_iff_le, gt_iff_lt, List.length_cons, List.length_nil, bl_up2_at, bl_up2_nk, bl_up2_nx] at h69
           first
           | (exfalso; omega)
           | (refine ⟨(fun _ => by first | exact Or.inl rfl | exact Or.inr rfl), ?_⟩
              try show _ ∧ _
              try dsimp only [bl_pv]
              refine ⟨⟨_, rfl, ?_⟩, rfl⟩
              first
              | exact Or.inl ⟨rfl, by first | trivial | omega⟩
              | exact Or.inr ⟨rfl, by omega⟩)
         · try simp (disch := omega) only [zI_n, zI_o, zI_lit, zI_neg, zI_add, zI_sub, zI_mul, zI_lt, zI_le, zI_eq, zI_clamp, zI_in, zI_div, zI_rem, lg_lt0, lg_gt0, lg_eq0, lg_le0, lg_ge0, Int.toNat_natCast, ge_iff_le, gt_iff_lt, List.length_cons, List.length_nil, bl_up2_at, bl_up2_nk, bl_up2_nx] at h69
           first
           | (exfalso; omega)
           | (refine ⟨(fun _ => by first | exact Or.inl rfl | exact Or.inr rfl), ?_⟩
              try show _ ∧ _
              try dsimp only [bl_pv]
              refine ⟨⟨_, rfl, ?_⟩, rfl⟩
              first
              | exact Or.inl ⟨rfl, by first | trivial | omega⟩
              | exact Or.inr ⟨rfl, by omega⟩))
    | 3, ho1, h1 =>
      cases ho1
      first
      | (exfalso; omega)
      | (refine ⟨fun h82 => ?_, fun h82 => ?_⟩
         · try simp (disch := omega) only [zI_n, zI_o, zI_lit, zI_neg, zI_add, zI_sub, zI_mul, zI_lt, zI_le, zI_eq, zI_clamp, zI_in, zI_div, zI_rem, lg_lt0, lg_gt0, lg_eq0, lg_le0, lg_ge0, Int.toNat_natCast, ge_iff_le, gt_iff_lt, List.length_cons, List.length_nil, bl_up2_at, bl_up2_nk, bl_up2_nx] at h82
           first
           | (exfalso; omega)
           | (refine ⟨(fun _ => by first | exact Or.inl rfl | exact Or.inr rfl), ?_⟩
              try show _ ∧ _
              try dsimp only [bl_pv]
              refine ⟨⟨_, rfl, ?_⟩, rfl⟩
              first
              | exact Or.inl ⟨rfl, by first | trivial | omega⟩
              | exact Or.inr ⟨rfl, by omega⟩)
         · try simp (disch := omega) only [zI_n, zI_o, zI_lit, zI_neg, zI_add, zI_sub, zI_mul, zI_lt, zI_le, zI_eq, zI_clamp, zI_in, zI_div, zI_rem, lg_lt0, lg_gt0, lg_eq0, lg_le0, lg_ge0, Int.toNat_natCast, ge_iff_le, gt_iff_lt, List.length_cons, List.length_nil, bl_up2_at, bl_up2_nk, bl_up2_nx] at h82
           first
           | (exfalso; omega)
           | (refine ⟨(fun _ => by first | exact Or.inl rfl | exact Or.inr rfl), ?_⟩
              try show _ ∧ _
              try dsimp only [bl_pv]
              refine ⟨⟨_, rfl, ?_⟩, rfl⟩
              first
              | exact Or.inl ⟨rfl, by first | trivial | omega⟩
              | exact Or.inr ⟨rfl, by omega⟩))
    | 4, ho1, h1 =>
      cases ho1
      first
      | (exfalso; omega)
      | (refine ⟨fun h95 => ?_, fun h95 => ?_⟩
         · try simp (disch := omega) only [zI_n, zI_o, zI_lit, zI_neg, zI_add, zI_sub, zI_mul, zI_lt, zI_le, zI_eq, zI_clamp, zI_in, zI_div, zI_rem, lg_lt0, lg_gt0, lg_eq0, lg_le0, lg_ge0, Int.toNat_natCast, ge_iff_le, gt_iff_lt, List.length_cons, List.length_nil, bl_up2_at, bl_up2_nk, bl_up2_nx] at h95
           first
           | (exfalso; omega)
           | (refine ⟨(fun _ => by first | exact Or.inl rfl | exact Or.inr rfl), ?_⟩
              try show _ ∧ _
              try dsimp only [bl_pv]
              refine ⟨⟨_, rfl, ?_⟩, rfl⟩
              first
              | exact Or.inl ⟨rfl, by first | trivial | omega⟩
              | exact Or.inr ⟨rfl, by omega⟩)
         · try simp (disch := omega) only [zI_n, zI_o, zI_lit, zI_neg, zI_add, zI_sub, zI_mul, zI_lt, zI_le, zI_eq, zI_clamp, zI_in, zI_div, zI_rem, lg_lt0, lg_gt0, lg_eq0, lg_le0, lg_ge0, Int.toNat_natCast, ge_iff_le, gt_iff_lt, List.length_cons, List.length_nil, bl_up2_at, bl_up2_nk, bl_up2_nx] at h95
           first
           | (exfalso; omega)
           | (refine ⟨(fun _ => by first | exact Or.inl rfl | exact Or.inr rfl), ?_⟩
              try show _ ∧ _
              try dsimp only [bl_pv]
              refine ⟨⟨_, rfl, ?_⟩, rfl⟩
              first
              | exact Or.inl ⟨rfl, by first | trivial | omega⟩
              | exact Or.inr ⟨rfl, by omega⟩))
    | _ + 5, ho1, _ => exact absurd ho1 (by simp)
theorem c_Slab_canTake_4 {n L : Nat} {x y z : Int32} (hx : x = nI 4) (hy : y = nI n) (hz : z = nI L) (hn : n ≤ 36) (hL : L ≤ 48) : bl_MC G l d mX7_canTake [.int x, .int y, .int z] (I, J, R, K, N) (0, 0) (fun o σ' => (∃ w, o = .inl (some (.int w)) ∧ ((w = 1 ∧ sl_can 4 n L) ∨ (w = 0 ∧ ¬ sl_can 4 n L))) ∧ σ' = (I, J, R, K, N)) := by
  subst hx hy hz
  have hLn : (L : Int) * (n : Int) ≤ 48 * 36 := by have := Nat.mul_le_mul hL hn; rw [← Int.natCast_mul]; omega
  have hLn0 : (L : Int) * (n : Int) = ((L * n : Nat) : Int) := (Int.natCast_mul _ _).symm
  have e1 : ∀ p, sl_can 4 n L = p → sl_can 4 n L = p := fun _ h => h
  simp only [sl_can]
  refine bl_MC_intro (by decide +kernel) rfl (Nat.le_of_ble_eq_true rfl) ?_
  refine bl_go oX7_canTake 80 [] rfl ?_
  refine ⟨fun h1 => ?_, fun j1 o1 ho1 h1 _ => ?_⟩
  · try simp (disch := omega) only [zI_n, zI_o, zI_lit, zI_neg, zI_add, zI_sub, zI_mul, zI_lt, zI_le, zI_eq, zI_clamp, zI_in, zI_div, zI_rem, lg_lt0, lg_gt0, lg_eq0, lg_le0, lg_ge0, Int.toNat_natCast, ge_iff_le, gt_iff_lt, List.length_cons, List.length_nil, bl_up2_at, bl_up2_nk, bl_up2_nx, zI_toInt] at h1
    first
    | (exfalso; omega)
    | (refine ⟨(fun _ => by first | exact Or.inl rfl | exact Or.inr rfl), ?_⟩
       try show _ ∧ _
       try dsimp only [bl_pv]
       refine ⟨⟨_, rfl, ?_⟩, rfl⟩
       first
       | exact Or.inl ⟨rfl, by first | trivial | omega⟩
       | exact Or.inr ⟨rfl, by omega⟩)
  · try simp (disch := omega) only [zI_n, zI_o, zI_lit, zI_neg, zI_add, zI_sub, zI_mul, zI_lt, zI_le, zI_eq, zI_clamp, zI_in, zI_div, zI_rem, lg_lt0, lg_gt0, lg_eq0, lg_le0, lg_ge0, Int.toNat_natCast, ge_iff_le, gt_iff_lt, List.length_cons, List.length_nil, bl_up2_at, bl_up2_nk, bl_up2_nx, zI_toInt] at h1
    match j1, ho1, h1 with
    | 0, ho1, h1 =>
      cases ho1
      first
      | (exfalso; omega)
      | (refine ⟨fun h41 => ?_, fun h41 => ?_⟩
         · try simp (disch := omega) only [zI_n, zI_o, zI_lit, zI_neg, zI_add, zI_sub, zI_mul, zI_lt, zI_le, zI_eq, zI_clamp, zI_in, zI_div, zI_rem, lg_lt0, lg_gt0, lg_eq0, lg_le0, lg_ge0, Int.toNat_natCast, ge_iff_le, gt_iff_lt, List.length_cons, List.length_nil, bl_up2_at, bl_up2_nk, bl_up2_nx] at h41
           first
           | (exfalso; omega)
           | (refine ⟨(fun _ => by first | exact Or.inl rfl | exact Or.inr rfl), ?_⟩
              try show _ ∧ _
              try dsimp only [bl_pv]
              refine ⟨⟨_, rfl, ?_⟩, rfl⟩
              first
              | exact Or.inl ⟨rfl, by first | trivial | omega⟩
              | exact Or.inr ⟨rfl, by omega⟩)
         · try simp (disch := omega) only [zI_n, zI_o, zI_lit, zI_neg, zI_add, zI_sub, zI_mul, zI_lt, zI_le, zI_eq, zI_clamp, zI_in, zI_div, zI_rem, lg_lt0, lg_gt0, lg_eq0, lg_le0, lg_ge0, Int.toNat_natCast, ge_iff_le, gt_iff_lt, List.length_cons, List.length_nil, bl_up2_at, bl_up2_nk, bl_up2_nx] at h41
           first
           | (exfalso; omega)
           | (refine ⟨(fun _ => by first | exact Or.inl rfl | exact Or.inr rfl), ?_⟩
              try show _ ∧ _
              try dsimp only [bl_pv]
              refine ⟨⟨_, rfl, ?_⟩, rfl⟩
              first
              | exact Or.inl ⟨rfl, by first | trivial | omega⟩
              | exact Or.inr ⟨rfl, by omega⟩))
    | 1, ho1, h1 =>
      cases ho1
      first
      | (exfalso; omega)
      | (refine ⟨fun h51 => ?_, fun h51 => ?_⟩
         · try simp (disch := omega) only [zI_n, zI_o, zI_lit, zI_neg, zI_add, zI_sub, zI_mul, zI_lt, zI_le, zI_eq, zI_clamp, zI_in, zI_div, zI_rem, lg_lt0, lg_gt0, lg_eq0, lg_le0, lg_ge0, Int.toNat_natCast, ge_iff_le, gt_iff_lt, List.length_cons, List.length_nil, bl_up2_at, bl_up2_nk, bl_up2_nx] at h51
           first
           | (exfalso; omega)
           | (refine ⟨(fun _ => by first | exact Or.inl rfl | exact Or.inr rfl), ?_⟩
              try show _ ∧ _
              try dsimp only [bl_pv]
              refine ⟨⟨_, rfl, ?_⟩, rfl⟩
              first
              | exact Or.inl ⟨rfl, by first | trivial | omega⟩
              | exact Or.inr ⟨rfl, by omega⟩)
         · try simp (disch := omega) only [zI_n, zI_o, zI_lit, zI_neg, zI_add, zI_sub, zI_mul, zI_lt, zI_le, zI_eq, zI_clamp, zI_in, zI_div, zI_rem, lg_lt0, lg_gt0, lg_eq0, lg_le0, lg_ge0, Int.toNat_natCast, ge_iff_le, gt_iff_lt, List.length_cons, List.length_nil, bl_up2_at, bl_up2_nk, bl_up2_nx] at h51
           first
           | (exfalso; omega)
           | (refine ⟨(by first | decide | (simp (disch := omega) only [zI_n, zI_o, zI_lit, zI_neg, zI_add, zI_sub, zI_mul, zI_lt, zI_le, zI_eq, zI_clamp, zI_in, zI_div, zI_rem, lg_lt0, lg_gt0, lg_eq0, lg_le0, lg_ge0, Int.toNat_natCast, ge_iff_le, gt_iff_lt, List.length_cons, List.length_nil, bl_up2_at, bl_up2_nk, bl_up2_nx] <;> omega)), fun h57 => ?_, fun h57 => ?_⟩
              · try simp (disch := omega) only [zI_n, zI_o, zI_lit, zI_neg, zI_add, zI_sub, zI_mul, zI_lt, zI_le, zI_eq, zI_clamp, zI_in, zI_div, zI_rem, lg_lt0, lg_gt0, lg_eq0, lg_le0, lg_ge0, Int.toNat_natCast, ge_iff_le, gt_iff_lt, List.length_cons, List.length_nil, bl_up2_at, bl_up2_nk, bl_up2_nx] at h57
                first
                | (exfalso; omega)
                | (refine ⟨(fun _ => by first | exact Or.inl rfl | exact Or.inr rfl), ?_⟩
                   try show _ ∧ _
                   try dsimp only [bl_pv]
                   refine ⟨⟨_, rfl, ?_⟩, rfl⟩
                   first
                   | exact Or.inl ⟨rfl, by first | trivial | omega⟩
                   | exact Or.inr ⟨rfl, by omega⟩)
              · try simp (disch := omega) only [zI_n, zI_o, zI_lit, zI_neg, zI_add, zI_sub, zI_mul, zI_lt, zI_le, zI_eq, zI_clamp, zI_in, zI_div, zI_rem, lg_lt0, lg_gt0, lg_eq0, lg_le0, lg_ge0, Int.toNat_natCast, ge_iff_le, gt_iff_lt, List.length_cons, List.length_nil, bl_up2_at, bl_up2_nk, bl_up2_nx] at h57
                first
                | (exfalso; omega)
                | (refine ⟨(fun _ => by first | exact Or.inl rfl | exact Or.inr rfl), ?_⟩
                   try show _ ∧ _
                   try dsimp only [bl_pv]
                   refine ⟨⟨_, rfl, ?_⟩, rfl⟩
                   first
                   | exact Or.inl ⟨rfl, by first | trivial | omega⟩
                   | exact Or.inr ⟨rfl, by omega⟩)))
    | 2, ho1, h1 =>
      cases ho1
      first
      | (exfalso; omega)
      | (refine ⟨(by first | decide | (simp (disch := omega) only [zI_n, zI_o, zI_lit, zI_neg, zI_add, zI_sub, zI_mul, zI_lt, zI_le, zI_eq, zI_clamp, zI_in, zI_div, zI_rem, lg_lt0, lg_gt0, lg_eq0, lg_le0, lg_ge0, Int.toNat_natCast, ge_iff_le, gt_iff_lt, List.length_cons, List.length_nil, bl_up2_at, bl_up2_nk, bl_up2_nx] <;> omega)), fun h69 => ?_, fun h69 => ?_⟩
         · try simp (disch := omega) only [zI_n, zI_o, zI_lit, zI_neg, zI_add, zI_sub, zI_mul, zI_lt, zI_le, zI_eq, zI_clamp, zI_in, zI_div, zI_rem, lg_lt0, lg_gt0, lg_eq0, lg_le0, lg_ge0, Int.toNat_natCast, ge_iff_le, gt_iff_lt, List.length_cons, List.length_nil, bl_up2_at, bl_up2_nk, bl_up2_nx] at h69
           first
           | (exfalso; omega)
           | (refine ⟨(fun _ => by first | exact Or.inl rfl | exact Or.inr rfl), ?_⟩
              try show _ ∧ _
              try dsimp only [bl_pv]
              refine ⟨⟨_, rfl, ?_⟩, rfl⟩
              first
              | exact Or.inl ⟨rfl, by first | trivial | omega⟩
              | exact Or.inr ⟨rfl, by omega⟩)
         · try simp (disch := omega) only [zI_n, zI_o, zI_lit, zI_neg, zI_add, zI_sub, zI_mul, zI_lt, zI_le, zI_eq, zI_clamp, zI_in, zI_div, zI_rem, lg_lt0, lg_gt0, lg_eq0, lg_le0, lg_ge0, Int.toNat_natCast, ge_iff_le, gt_iff_lt, List.length_cons, List.length_nil, bl_up2_at, bl_up2_nk, bl_up2_nx] at h69
           first
           | (exfalso; omega)
           | (refine ⟨(fun _ => by first | exact Or.inl rfl | exact Or.inr rfl), ?_⟩
              try show _ ∧ _
              try dsimp only [bl_pv]
              refine ⟨⟨_, rfl, ?_⟩, rfl⟩
              first
              | exact Or.inl ⟨rfl, by first | trivial | omega⟩
              | exact Or.inr ⟨rfl, by omega⟩))
    | 3, ho1, h1 =>
      cases ho1
      first
      | (exfalso; omega)
      | (refine ⟨fun h82 => ?_, fun h82 => ?_⟩
         · try simp (disch := omega) only [zI_n, zI_o, zI_lit, zI_neg, zI_add, zI_sub, zI_mul, zI_lt, zI_le, zI_eq, zI_clamp, zI_in, zI_div, zI_rem, lg_lt0, lg_gt0, lg_eq0, lg_le0, lg_ge0, Int.toNat_natCast, ge_iff_le, gt_iff_lt, List.length_cons, List.length_nil, bl_up2_at, bl_up2_nk, bl_up2_nx] at h82
           first
           | (exfalso; omega)
           | (refine ⟨(fun _ => by first | exact Or.inl rfl | exact Or.inr rfl), ?_⟩
              try show _ ∧ _
              try dsimp only [bl_pv]
              refine ⟨⟨_, rfl, ?_⟩, rfl⟩
              first
              | exact Or.inl ⟨rfl, by first | trivial | omega⟩
              | exact Or.inr ⟨rfl, by omega⟩)
         · try simp (disch := omega) only [zI_n, zI_o, zI_lit, zI_neg, zI_add, zI_sub, zI_mul, zI_lt, zI_le, zI_eq, zI_clamp, zI_in, zI_div, zI_rem, lg_lt0, lg_gt0, lg_eq0, lg_le0, lg_ge0, Int.toNat_natCast, ge_iff_le, gt_iff_lt, List.length_cons, List.length_nil, bl_up2_at, bl_up2_nk, bl_up2_nx] at h82
           first
           | (exfalso; omega)
           | (refine ⟨(fun _ => by first | exact Or.inl rfl | exact Or.inr rfl), ?_⟩
              try show _ ∧ _
              try dsimp only [bl_pv]
              refine ⟨⟨_, rfl, ?_⟩, rfl⟩
              first
              | exact Or.inl ⟨rfl, by first | trivial | omega⟩
              | exact Or.inr ⟨rfl, by omega⟩))
    | 4, ho1, h1 =>
      cases ho1
      first
      | (exfalso; omega)
      | (refine ⟨fun h95 => ?_, fun h95 => ?_⟩
         · try simp (disch := omega) only [zI_n, zI_o, zI_lit, zI_neg, zI_add, zI_sub, zI_mul, zI_lt, zI_le, zI_eq, zI_clamp, zI_in, zI_div, zI_rem, lg_lt0, lg_gt0, lg_eq0, lg_le0, lg_ge0, Int.toNat_natCast, ge_iff_le, gt_iff_lt, List.length_cons, List.length_nil, bl_up2_at, bl_up2_nk, bl_up2_nx] at h95
           first
           | (exfalso; omega)
           | (refine ⟨(fun _ => by first | exact Or.inl rfl | exact Or.inr rfl), ?_⟩
              try show _ ∧ _
              try dsimp only [bl_pv]
              refine ⟨⟨_, rfl, ?_⟩, rfl⟩
              first
              | exact Or.inl ⟨rfl, by first | trivial | omega⟩
              | exact Or.inr ⟨rfl, by omega⟩)
         · try simp (disch := omega) only [zI_n, zI_o, zI_lit, zI_neg, zI_add, zI_sub, zI_mul, zI_lt, zI_le, zI_eq, zI_clamp, zI_in, zI_div, zI_rem, lg_lt0, lg_gt0, lg_eq0, lg_le0, lg_ge0, Int.toNat_natCast, ge_iff_le, gt_iff_lt, List.length_cons, List.length_nil, bl_up2_at, bl_up2_nk, bl_up2_nx] at h95
           first
           | (exfalso; omega)
           | (refine ⟨(fun _ => by first | exact Or.inl rfl | exact Or.inr rfl), ?_⟩
              try show _ ∧ _
              try dsimp only [bl_pv]
              refine ⟨⟨_, rfl, ?_⟩, rfl⟩
              first
              | exact Or.inl ⟨rfl, by first | trivial | omega⟩
              | exact Or.inr ⟨rfl, by omega⟩))
    | _ + 5, ho1, _ => exact absurd ho1 (by simp)
theorem c_Slab_canTake_5 {n L : Nat} {x y z : Int32} (hx : x = nI 5) (hy : y = nI n) (hz : z = nI L) (hn : n ≤ 36) (hL : L ≤ 48) : bl_MC G l d mX7_canTake [.int x, .int y, .int z] (I, J, R, K, N) (0, 0) (fun o σ' => (∃ w, o = .inl (some (.int w)) ∧ ((w = 1 ∧ sl_can 5 n L) ∨ (w = 0 ∧ ¬ sl_can 5 n L))) ∧ σ' = (I, J, R, K, N)) := by
  subst hx hy hz
  have hLn : (L : Int) * (n : Int) ≤ 48 * 36 := by have := Nat.mul_le_mul hL hn; rw [← Int.natCast_mul]; omega
  have hLn0 : (L : Int) * (n : Int) = ((L * n : Nat) : Int) := (Int.natCast_mul _ _).symm
  have e1 : ∀ p, sl_can 5 n L = p → sl_can 5 n L = p := fun _ h => h
  simp only [sl_can]
  refine bl_MC_intro (by decide +kernel) rfl (Nat.le_of_ble_eq_true rfl) ?_
  refine bl_go oX7_canTake 80 [] rfl ?_
  refine ⟨fun h1 => ?_, fun j1 o1 ho1 h1 _ => ?_⟩
  · try simp (disch := omega) only [zI_n, zI_o, zI_lit, zI_neg, zI_add, zI_sub, zI_mul, zI_lt, zI_le, zI_eq, zI_clamp, zI_in, zI_div, zI_rem, lg_lt0, lg_gt0, lg_eq0, lg_le0, lg_ge0, Int.toNat_natCast, ge_iff_le, gt_iff_lt, List.length_cons, List.length_nil, bl_up2_at, bl_up2_nk, bl_up2_nx, zI_toInt] at h1
    first
    | (exfalso; omega)
    | (refine ⟨(fun _ => by first | exact Or.inl rfl | exact Or.inr rfl), ?_⟩
       try show _ ∧ _
       try dsimp only [bl_pv]
       refine ⟨⟨_, rfl, ?_⟩, rfl⟩
       first
       | exact Or.inl ⟨rfl, by first | trivial | omega⟩
       | exact Or.inr ⟨rfl, by omega⟩)
  · try simp (disch := omega) only [zI_n, zI_o, zI_lit, zI_neg, zI_add, zI_sub, zI_mul, zI_lt, zI_le, zI_eq, zI_clamp, zI_in, zI_div, zI_rem, lg_lt0, lg_gt0, lg_eq0, lg_le0, lg_ge0, Int.toNat_natCast, ge_iff_le, gt_iff_lt, List.length_cons, List.length_nil, bl_up2_at, bl_up2_nk, bl_up2_nx, zI_toInt] at h1
    match j1, ho1, h1 with
    | 0, ho1, h1 =>
      cases ho1
      first
      | (exfalso; omega)
      | (refine ⟨fun h41 => ?_, fun h41 => ?_⟩
         · try simp (disch := omega) only [zI_n, zI_o, zI_lit, zI_neg, zI_add, zI_sub, zI_mul, zI_lt, zI_le, zI_eq, zI_clamp, zI_in, zI_div, zI_rem, lg_lt0, lg_gt0, lg_eq0, lg_le0, lg_ge0, Int.toNat_natCast, ge_iff_le, gt_iff_lt, List.length_cons, List.length_nil, bl_up2_at, bl_up2_nk, bl_up2_nx] at h41
           first
           | (exfalso; omega)
           | (refine ⟨(fun _ => by first | exact Or.inl rfl | exact Or.inr rfl), ?_⟩
              try show _ ∧ _
              try dsimp only [bl_pv]
              refine ⟨⟨_, rfl, ?_⟩, rfl⟩
              first
              | exact Or.inl ⟨rfl, by first | trivial | omega⟩
              | exact Or.inr ⟨rfl, by omega⟩)
         · try simp (disch := omega) only [zI_n, zI_o, zI_lit, zI_neg, zI_add, zI_sub, zI_mul, zI_lt, zI_le, zI_eq, zI_clamp, zI_in, zI_div, zI_rem, lg_lt0, lg_gt0, lg_eq0, lg_le0, lg_ge0, Int.toNat_natCast, ge_iff_le, gt_iff_lt, List.length_cons, List.length_nil, bl_up2_at, bl_up2_nk, bl_up2_nx] at h41
           first
           | (exfalso; omega)
           | (refine ⟨(fun _ => by first | exact Or.inl rfl | exact Or.inr rfl), ?_⟩
              try show _ ∧ _
              try dsimp only [bl_pv]
              refine ⟨⟨_, rfl, ?_⟩, rfl⟩
              first
              | exact Or.inl ⟨rfl, by first | trivial | omega⟩
              | exact Or.inr ⟨rfl, by omega⟩))
    | 1, ho1, h1 =>
      cases ho1
      first
      | (exfalso; omega)
      | (refine ⟨fun h51 => ?_, fun h51 => ?_⟩
         · try simp (disch := omega) only [zI_n, zI_o, zI_lit, zI_neg, zI_add, zI_sub, zI_mul, zI_lt, zI_le, zI_eq, zI_clamp, zI_in, zI_div, zI_rem, lg_lt0, lg_gt0, lg_eq0, lg_le0, lg_ge0, Int.toNat_natCast, ge_iff_le, gt_iff_lt, List.length_cons, List.length_nil, bl_up2_at, bl_up2_nk, bl_up2_nx] at h51
           first
           | (exfalso; omega)
           | (refine ⟨(fun _ => by first | exact Or.inl rfl | exact Or.inr rfl), ?_⟩
              try show _ ∧ _
              try dsimp only [bl_pv]
              refine ⟨⟨_, rfl, ?_⟩, rfl⟩
              first
              | exact Or.inl ⟨rfl, by first | trivial | omega⟩
              | exact Or.inr ⟨rfl, by omega⟩)
         · try simp (disch := omega) only [zI_n, zI_o, zI_lit, zI_neg, zI_add, zI_sub, zI_mul, zI_lt, zI_le, zI_eq, zI_clamp, zI_in, zI_div, zI_rem, lg_lt0, lg_gt0, lg_eq0, lg_le0, lg_ge0, Int.toNat_natCast, ge_iff_le, gt_iff_lt, List.length_cons, List.length_nil, bl_up2_at, bl_up2_nk, bl_up2_nx] at h51
           first
           | (exfalso; omega)
           | (refine ⟨(by first | decide | (simp (disch := omega) only [zI_n, zI_o, zI_lit, zI_neg, zI_add, zI_sub, zI_mul, zI_lt, zI_le, zI_eq, zI_clamp, zI_in, zI_div, zI_rem, lg_lt0, lg_gt0, lg_eq0, lg_le0, lg_ge0, Int.toNat_natCast, ge_iff_le, gt_iff_lt, List.length_cons, List.length_nil, bl_up2_at, bl_up2_nk, bl_up2_nx] <;> omega)), fun h57 => ?_, fun h57 => ?_⟩
              · try simp (disch := omega) only [zI_n, zI_o, zI_lit, zI_neg, zI_add, zI_sub, zI_mul, zI_lt, zI_le, zI_eq, zI_clamp, zI_in, zI_div, zI_rem, lg_lt0, lg_gt0, lg_eq0, lg_le0, lg_ge0, Int.toNat_natCast, ge_iff_le, gt_iff_lt, List.length_cons, List.length_nil, bl_up2_at, bl_up2_nk, bl_up2_nx] at h57
                first
                | (exfalso; omega)
                | (refine ⟨(fun _ => by first | exact Or.inl rfl | exact Or.inr rfl), ?_⟩
                   try show _ ∧ _
                   try dsimp only [bl_pv]
                   refine ⟨⟨_, rfl, ?_⟩, rfl⟩
                   first
                   | exact Or.inl ⟨rfl, by first | trivial | omega⟩
                   | exact Or.inr ⟨rfl, by omega⟩)
              · try simp (disch := omega) only [zI_n, zI_o, zI_lit, zI_neg, zI_add, zI_sub, zI_mul, zI_lt, zI_le, zI_eq, zI_clamp, zI_in, zI_div, zI_rem, lg_lt0, lg_gt0, lg_eq0, lg_le0, lg_ge0, Int.toNat_natCast, ge_iff_le, gt_iff_lt, List.length_cons, List.length_nil, bl_up2_at, bl_up2_nk, bl_up2_nx] at h57
                first
                | (exfalso; omega)
                | (refine ⟨(fun _ => by first | exact Or.inl rfl | exact Or.inr rfl), ?_⟩
                   try show _ ∧ _
                   try dsimp only [bl_pv]
                   refine ⟨⟨_, rfl, ?_⟩, rfl⟩
                   first
                   | exact Or.inl ⟨rfl, by first | trivial | omega⟩
                   | exact Or.inr ⟨rfl, by omega⟩)))
    | 2, ho1, h1 =>
      cases ho1
      first
      | (exfalso; omega)
      | (refine ⟨(by first | decide | (simp (disch := omega) only [zI_n, zI_o, zI_lit, zI_neg, zI_add, zI_sub, zI_mul, zI_lt, zI_le, zI_eq, zI_clamp, zI_in, zI_div, zI_rem, lg_lt0, lg_gt0, lg_eq0, lg_le0, lg_ge0, Int.toNat_natCast, ge_iff_le, gt_iff_lt, List.length_cons, List.length_nil, bl_up2_at, bl_up2_nk, bl_up2_nx] <;> omega)), fun h69 => ?_, fun h69 => ?_⟩
         · try simp (disch := omega) only [zI_n, zI_o, zI_lit, zI_neg, zI_add, zI_sub, zI_mul, zI_lt, zI_le, zI_eq, zI_clamp, zI_in, zI_div, zI_rem, lg_lt0, lg_gt0, lg_eq0, lg_le0, lg_ge0, Int.toNat_natCast, ge_iff_le, gt_iff_lt, List.length_cons, List.length_nil, bl_up2_at, bl_up2_nk, bl_up2_nx] at h69
           first
           | (exfalso; omega)
           | (refine ⟨(fun _ => by first | exact Or.inl rfl | exact Or.inr rfl), ?_⟩
              try show _ ∧ _
              try dsimp only [bl_pv]
              refine ⟨⟨_, rfl, ?_⟩, rfl⟩
              first
              | exact Or.inl ⟨rfl, by first | trivial | omega⟩
              | exact Or.inr ⟨rfl, by omega⟩)
         · try simp (disch := omega) only [zI_n, zI_o, zI_lit, zI_neg, zI_add, zI_sub, zI_mul, zI_lt, zI_le, zI_eq, zI_clamp, zI_in, zI_div, zI_rem, lg_lt0, lg_gt0, lg_eq0, lg_le0, lg_ge0, Int.toNat_natCast, ge_iff_le, gt_iff_lt, List.length_cons, List.length_nil, bl_up2_at, bl_up2_nk, bl_up2_nx] at h69
           first
           | (exfalso; omega)
           | (refine ⟨(fun _ => by first | exact Or.inl rfl | exact Or.inr rfl), ?_⟩
              try show _ ∧ _
              try dsimp only [bl_pv]
              refine ⟨⟨_, rfl, ?_⟩, rfl⟩
              first
              | exact Or.inl ⟨rfl, by first | trivial | omega⟩
              | exact Or.inr ⟨rfl, by omega⟩))
    | 3, ho1, h1 =>
      cases ho1
      first
      | (exfalso; omega)
      | (refine ⟨fun h82 => ?_, fun h82 => ?_⟩
         · try simp (disch := omega) only [zI_n, zI_o, zI_lit, zI_neg, zI_add, zI_sub, zI_mul, zI_lt, zI_le, zI_eq, zI_clamp, zI_in, zI_div, zI_rem, lg_lt0, lg_gt0, lg_eq0, lg_le0, lg_ge0, Int.toNat_natCast, ge_iff_le, gt_iff_lt, List.length_cons, List.length_nil, bl_up2_at, bl_up2_nk, bl_up2_nx] at h82
           first
           | (exfalso; omega)
           | (refine ⟨(fun _ => by first | exact Or.inl rfl | exact Or.inr rfl), ?_⟩
              try show _ ∧ _
              try dsimp only [bl_pv]
              refine ⟨⟨_, rfl, ?_⟩, rfl⟩
              first
              | exact Or.inl ⟨rfl, by first | trivial | omega⟩
              | exact Or.inr ⟨rfl, by omega⟩)
         · try simp (disch := omega) only [zI_n, zI_o, zI_lit, zI_neg, zI_add, zI_sub, zI_mul, zI_lt, zI_le, zI_eq, zI_clamp, zI_in, zI_div, zI_rem, lg_lt0, lg_gt0, lg_eq0, lg_le0, lg_ge0, Int.toNat_natCast, ge_iff_le, gt_iff_lt, List.length_cons, List.length_nil, bl_up2_at, bl_up2_nk, bl_up2_nx] at h82
           first
           | (exfalso; omega)
           | (refine ⟨(fun _ => by first | exact Or.inl rfl | exact Or.inr rfl), ?_⟩
              try show _ ∧ _
              try dsimp only [bl_pv]
              refine ⟨⟨_, rfl, ?_⟩, rfl⟩
              first
              | exact Or.inl ⟨rfl, by first | trivial | omega⟩
              | exact Or.inr ⟨rfl, by omega⟩))
    | 4, ho1, h1 =>
      cases ho1
      first
      | (exfalso; omega)
      | (refine ⟨fun h95 => ?_, fun h95 => ?_⟩
         · try simp (disch := omega) only [zI_n, zI_o, zI_lit, zI_neg, zI_add, zI_sub, zI_mul, zI_lt, zI_le, zI_eq, zI_clamp, zI_in, zI_div, zI_rem, lg_lt0, lg_gt0, lg_eq0, lg_le0, lg_ge0, Int.toNat_natCast, ge_iff_le, gt_iff_lt, List.length_cons, List.length_nil, bl_up2_at, bl_up2_nk, bl_up2_nx] at h95
           first
           | (exfalso; omega)
           | (refine ⟨(fun _ => by first | exact Or.inl rfl | exact Or.inr rfl), ?_⟩
              try show _ ∧ _
              try dsimp only [bl_pv]
              refine ⟨⟨_, rfl, ?_⟩, rfl⟩
              first
              | exact Or.inl ⟨rfl, by first | trivial | omega⟩
              | exact Or.inr ⟨rfl, by omega⟩)
         · try simp (disch := omega) only [zI_n, zI_o, zI_lit, zI_neg, zI_add, zI_sub, zI_mul, zI_lt, zI_le, zI_eq, zI_clamp, zI_in, zI_div, zI_rem, lg_lt0, lg_gt0, lg_eq0, lg_le0, lg_ge0, Int.toNat_natCast, ge_iff_le, gt_iff_lt, List.length_cons, List.length_nil, bl_up2_at, bl_up2_nk, bl_up2_nx] at h95
           first
           | (exfalso; omega)
           | (refine ⟨(fun _ => by first | exact Or.inl rfl | exact Or.inr rfl), ?_⟩
              try show _ ∧ _
              try dsimp only [bl_pv]
              refine ⟨⟨_, rfl, ?_⟩, rfl⟩
              first
              | exact Or.inl ⟨rfl, by first | trivial | omega⟩
              | exact Or.inr ⟨rfl, by omega⟩))
    | _ + 5, ho1, _ => exact absurd ho1 (by simp)
theorem c_Slab_canTake_6 {n L : Nat} {x y z : Int32} (hx : x = nI 6) (hy : y = nI n) (hz : z = nI L) (hn : n ≤ 36) (hL : L ≤ 48) : bl_MC G l d mX7_canTake [.int x, .int y, .int z] (I, J, R, K, N) (0, 0) (fun o σ' => (∃ w, o = .inl (some (.int w)) ∧ ((w = 1 ∧ sl_can 6 n L) ∨ (w = 0 ∧ ¬ sl_can 6 n L))) ∧ σ' = (I, J, R, K, N)) := by
  subst hx hy hz
  have hLn : (L : Int) * (n : Int) ≤ 48 * 36 := by have := Nat.mul_le_mul hL hn; rw [← Int.natCast_mul]; omega
  have hLn0 : (L : Int) * (n : Int) = ((L * n : Nat) : Int) := (Int.natCast_mul _ _).symm
  have e1 : ∀ p, sl_can 6 n L = p → sl_can 6 n L = p := fun _ h => h
  simp only [sl_can]
  refine bl_MC_intro (by decide +kernel) rfl (Nat.le_of_ble_eq_true rfl) ?_
  refine bl_go oX7_canTake 80 [] rfl ?_
  refine ⟨fun h1 => ?_, fun j1 o1 ho1 h1 _ => ?_⟩
  · try simp (disch := omega) only [zI_n, zI_o, zI_lit, zI_neg, zI_add, zI_sub, zI_mul, zI_lt, zI_le, zI_eq, zI_clamp, zI_in, zI_div, zI_rem, lg_lt0, lg_gt0, lg_eq0, lg_le0, lg_ge0, Int.toNat_natCast, ge_iff_le, gt_iff_lt, List.length_cons, List.length_nil, bl_up2_at, bl_up2_nk, bl_up2_nx, zI_toInt] at h1
    first
    | (exfalso; omega)
    | (refine ⟨(fun _ => by first | exact Or.inl rfl | exact Or.inr rfl), ?_⟩
       try show _ ∧ _
       try dsimp only [bl_pv]
       refine ⟨⟨_, rfl, ?_⟩, rfl⟩
       first
       | exact Or.inl ⟨rfl, by first | trivial | omega⟩
       | exact Or.inr ⟨rfl, by omega⟩)
  · try simp (disch := omega) only [zI_n, zI_o, zI_lit, zI_neg, zI_add, zI_sub, zI_mul, zI_lt, zI_le, zI_eq, zI_clamp, zI_in, zI_div, zI_rem, lg_lt0, lg_gt0, lg_eq0, lg_le0, lg_ge0, Int.toNat_natCast, ge_iff_le, gt_iff_lt, List.length_cons, List.length_nil, bl_up2_at, bl_up2_nk, bl_up2_nx, zI_toInt] at h1
    match j1, ho1, h1 with
    | 0, ho1, h1 =>
      cases ho1
      first
      | (exfalso; omega)
      | (refine ⟨fun h41 => ?_, fun h41 => ?_⟩
         · try simp (disch := omega) only [zI_n, zI_o, zI_lit, zI_neg, zI_add, zI_sub, zI_mul, zI_lt, zI_le, zI_eq, zI_clamp, zI_in, zI_div, zI_rem, lg_lt0, lg_gt0, lg_eq0, lg_le0, lg_ge0, Int.toNat_natCast, ge_iff_le, gt_iff_lt, List.length_cons, List.length_nil, bl_up2_at, bl_up2_nk, bl_up2_nx] at h41
           first
           | (exfalso; omega)
           | (refine ⟨(fun _ => by first | exact Or.inl rfl | exact Or.inr rfl), ?_⟩
              try show _ ∧ _
              try dsimp only [bl_pv]
              refine ⟨⟨_, rfl, ?_⟩, rfl⟩
              first
              | exact Or.inl ⟨rfl, by first | trivial | omega⟩
              | exact Or.inr ⟨rfl, by omega⟩)
         · try simp (disch := omega) only [zI_n, zI_o, zI_lit, zI_neg, zI_add, zI_sub, zI_mul, zI_lt, zI_le, zI_eq, zI_clamp, zI_in, zI_div, zI_rem, lg_lt0, lg_gt0, lg_eq0, lg_le0, lg_ge0, Int.toNat_natCast, ge_iff_le, gt_iff_lt, List.length_cons, List.length_nil, bl_up2_at, bl_up2_nk, bl_up2_nx] at h41
           first
           | (exfalso; omega)
           | (refine ⟨(fun _ => by first | exact Or.inl rfl | exact Or.inr rfl), ?_⟩
              try show _ ∧ _
              try dsimp only [bl_pv]
              refine ⟨⟨_, rfl, ?_⟩, rfl⟩
              first
              | exact Or.inl ⟨rfl, by first | trivial | omega⟩
              | exact Or.inr ⟨rfl, by omega⟩))
    | 1, ho1, h1 =>
      cases ho1
      first
      | (exfalso; omega)
      | (refine ⟨fun h51 => ?_, fun h51 => ?_⟩
         · try simp (disch := omega) only [zI_n, zI_o, zI_lit, zI_neg, zI_add, zI_sub, zI_mul, zI_lt, zI_le, zI_eq, zI_clamp, zI_in, zI_div, zI_rem, lg_lt0, lg_gt0, lg_eq0, lg_le0, lg_ge0, Int.toNat_natCast, ge_iff_le, gt_iff_lt, List.length_cons, List.length_nil, bl_up2_at, bl_up2_nk, bl_up2_nx] at h51
           first
           | (exfalso; omega)
           | (refine ⟨(fun _ => by first | exact Or.inl rfl | exact Or.inr rfl), ?_⟩
              try show _ ∧ _
              try dsimp only [bl_pv]
              refine ⟨⟨_, rfl, ?_⟩, rfl⟩
              first
              | exact Or.inl ⟨rfl, by first | trivial | omega⟩
              | exact Or.inr ⟨rfl, by omega⟩)
         · try simp (disch := omega) only [zI_n, zI_o, zI_lit, zI_neg, zI_add, zI_sub, zI_mul, zI_lt, zI_le, zI_eq, zI_clamp, zI_in, zI_div, zI_rem, lg_lt0, lg_gt0, lg_eq0, lg_le0, lg_ge0, Int.toNat_natCast, ge_iff_le, gt_iff_lt, List.length_cons, List.length_nil, bl_up2_at, bl_up2_nk, bl_up2_nx] at h51
           first
           | (exfalso; omega)
           | (refine ⟨(by first | decide | (simp (disch := omega) only [zI_n, zI_o, zI_lit, zI_neg, zI_add, zI_sub, zI_mul, zI_lt, zI_le, zI_eq, zI_clamp, zI_in, zI_div, zI_rem, lg_lt0, lg_gt0, lg_eq0, lg_le0, lg_ge0, Int.toNat_natCast, ge_iff_le, gt_iff_lt, List.length_cons, List.length_nil, bl_up2_at, bl_up2_nk, bl_up2_nx] <;> omega)), fun h57 => ?_, fun h57 => ?_⟩
              · try simp (disch := omega) only [zI_n, zI_o, zI_lit, zI_neg, zI_add, zI_sub, zI_mul, zI_lt, zI_le, zI_eq, zI_clamp, zI_in, zI_div, zI_rem, lg_lt0, lg_gt0, lg_eq0, lg_le0, lg_ge0, Int.toNat_natCast, ge_iff_le, gt_iff_lt, List.length_cons, List.length_nil, bl_up2_at, bl_up2_nk, bl_up2_nx] at h57
                first
                | (exfalso; omega)
                | (refine ⟨(fun _ => by first | exact Or.inl rfl | exact Or.inr rfl), ?_⟩
                   try show _ ∧ _
                   try dsimp only [bl_pv]
                   refine ⟨⟨_, rfl, ?_⟩, rfl⟩
                   first
                   | exact Or.inl ⟨rfl, by first | trivial | omega⟩
                   | exact Or.inr ⟨rfl, by omega⟩)
              · try simp (disch := omega) only [zI_n, zI_o, zI_lit, zI_neg, zI_add, zI_sub, zI_mul, zI_lt, zI_le, zI_eq, zI_clamp, zI_in, zI_div, zI_rem, lg_lt0, lg_gt0, lg_eq0, lg_le0, lg_ge0, Int.toNat_natCast, ge_iff_le, gt_iff_lt, List.length_cons, List.length_nil, bl_up2_at, bl_up2_nk, bl_up2_nx] at h57
                first
                | (exfalso; omega)
                | (refine ⟨(fun _ => by first | exact Or.inl rfl | exact Or.inr rfl), ?_⟩
                   try show _ ∧ _
                   try dsimp only [bl_pv]
                   refine ⟨⟨_, rfl, ?_⟩, rfl⟩
                   first
                   | exact Or.inl ⟨rfl, by first | trivial | omega⟩
                   | exact Or.inr ⟨rfl, by omega⟩)))
    | 2, ho1, h1 =>
      cases ho1
      first
      | (exfalso; omega)
      | (refine ⟨(by first | decide | (simp (disch := omega) only [zI_n, zI_o, zI_lit, zI_neg, zI_add, zI_sub, zI_mul, zI_lt, zI_le, zI_eq, zI_clamp, zI_in, zI_div, zI_rem, lg_lt0, lg_gt0, lg_eq0, lg_le0, lg_ge0, Int.toNat_natCast, ge_iff_le, gt_iff_lt, List.length_cons, List.length_nil, bl_up2_at, bl_up2_nk, bl_up2_nx] <;> omega)), fun h69 => ?_, fun h69 => ?_⟩
         · try simp (disch := omega) only [zI_n, zI_o, zI_lit, zI_neg, zI_add, zI_sub, zI_mul, zI_lt, zI_le, zI_eq, zI_clamp, zI_in, zI_div, zI_rem, lg_lt0, lg_gt0, lg_eq0, lg_le0, lg_ge0, Int.toNat_natCast, ge_iff_le, gt_iff_lt, List.length_cons, List.length_nil, bl_up2_at, bl_up2_nk, bl_up2_nx] at h69
           first
           | (exfalso; omega)
           | (refine ⟨(fun _ => by first | exact Or.inl rfl | exact Or.inr rfl), ?_⟩
              try show _ ∧ _
              try dsimp only [bl_pv]
              refine ⟨⟨_, rfl, ?_⟩, rfl⟩
              first
              | exact Or.inl ⟨rfl, by first | trivial | omega⟩
              | exact Or.inr ⟨rfl, by omega⟩)
         · try simp (disch := omega) only [zI_n, zI_o, zI_lit, zI_neg, zI_add, zI_sub, zI_mul, zI_lt, zI_le, zI_eq, zI_clamp, zI_in, zI_div, zI_rem, lg_lt0, lg_gt0, lg_eq0, lg_le0, lg_ge0, Int.toNat_natCast, ge_iff_le, gt_iff_lt, List.length_cons, List.length_nil, bl_up2_at, bl_up2_nk, bl_up2_nx] at h69
           first
           | (exfalso; omega)
           | (refine ⟨(fun _ => by first | exact Or.inl rfl | exact Or.inr rfl), ?_⟩
              try show _ ∧ _
              try dsimp only [bl_pv]
              refine ⟨⟨_, rfl, ?_⟩, rfl⟩
              first
              | exact Or.inl ⟨rfl, by first | trivial | omega⟩
              | exact Or.inr ⟨rfl, by omega⟩))
    | 3, ho1, h1 =>
      cases ho1
      first
      | (exfalso; omega)
      | (refine ⟨fun h82 => ?_, fun h82 => ?_⟩
         · try simp (disch := omega) only [zI_n, zI_o, zI_lit, zI_neg, zI_add, zI_sub, zI_mul, zI_lt, zI_le, zI_eq, zI_clamp, zI_in, zI_div, zI_rem, lg_lt0, lg_gt0, lg_eq0, lg_le0, lg_ge0, Int.toNat_natCast, ge_iff_le, gt_iff_lt, List.length_cons, List.length_nil, bl_up2_at, bl_up2_nk, bl_up2_nx] at h82
           first
           | (exfalso; omega)
           | (refine ⟨(fun _ => by first | exact Or.inl rfl | exact Or.inr rfl), ?_⟩
              try show _ ∧ _
              try dsimp only [bl_pv]
              refine ⟨⟨_, rfl, ?_⟩, rfl⟩
              first
              | exact Or.inl ⟨rfl, by first | trivial | omega⟩
              | exact Or.inr ⟨rfl, by omega⟩)
         · try simp (disch := omega) only [zI_n, zI_o, zI_lit, zI_neg, zI_add, zI_sub, zI_mul, zI_lt, zI_le, zI_eq, zI_clamp, zI_in, zI_div, zI_rem, lg_lt0, lg_gt0, lg_eq0, lg_le0, lg_ge0, Int.toNat_natCast, ge_iff_le, gt_iff_lt, List.length_cons, List.length_nil, bl_up2_at, bl_up2_nk, bl_up2_nx] at h82
           first
           | (exfalso; omega)
           | (refine ⟨(fun _ => by first | exact Or.inl rfl | exact Or.inr rfl), ?_⟩
              try show _ ∧ _
              try dsimp only [bl_pv]
              refine ⟨⟨_, rfl, ?_⟩, rfl⟩
              first
              | exact Or.inl ⟨rfl, by first | trivial | omega⟩
              | exact Or.inr ⟨rfl, by omega⟩))
    | 4, ho1, h1 =>
      cases ho1
      first
      | (exfalso; omega)
      | (refine ⟨fun h95 => ?_, fun h95 => ?_⟩
         · try simp (disch := omega) only [zI_n, zI_o, zI_lit, zI_neg, zI_add, zI_sub, zI_mul, zI_lt, zI_le, zI_eq, zI_clamp, zI_in, zI_div, zI_rem, lg_lt0, lg_gt0, lg_eq0, lg_le0, lg_ge0, Int.toNat_natCast, ge_iff_le, gt_iff_lt, List.length_cons, List.length_nil, bl_up2_at, bl_up2_nk, bl_up2_nx] at h95
           first
           | (exfalso; omega)
           | (refine ⟨(fun _ => by first | exact Or.inl rfl | exact Or.inr rfl), ?_⟩
              try show _ ∧ _
              try dsimp only [bl_pv]
              refine ⟨⟨_, rfl, ?_⟩, rfl⟩
              first
              | exact Or.inl ⟨rfl, by first | trivial | omega⟩
              | exact Or.inr ⟨rfl, by omega⟩)
         · try simp (disch := omega) only [zI_n, zI_o, zI_lit, zI_neg, zI_add, zI_sub, zI_mul, zI_lt, zI_le, zI_eq, zI_clamp, zI_in, zI_div, zI_rem, lg_lt0, lg_gt0, lg_eq0, lg_le0, lg_ge0, Int.toNat_natCast, ge_iff_le, gt_iff_lt, List.length_cons, List.length_nil, bl_up2_at, bl_up2_nk, bl_up2_nx] at h95
           first
           | (exfalso; omega)
           | (refine ⟨(fun _ => by first | exact Or.inl rfl | exact Or.inr rfl), ?_⟩
              try show _ ∧ _
              try dsimp only [bl_pv]
              refine ⟨⟨_, rfl, ?_⟩, rfl⟩
              first
              | exact Or.inl ⟨rfl, by first | trivial | omega⟩
              | exact Or.inr ⟨rfl, by omega⟩))
    | _ + 5, ho1, _ => exact absurd ho1 (by simp)
theorem c_Slab_canTake_7 {n L : Nat} {x y z : Int32} (hx : x = nI 7) (hy : y = nI n) (hz : z = nI L) (hn : n ≤ 36) (hL : L ≤ 48) : bl_MC G l d mX7_canTake [.int x, .int y, .int z] (I, J, R, K, N) (0, 0) (fun o σ' => (∃ w, o = .inl (some (.int w)) ∧ ((w = 1 ∧ sl_can 7 n L) ∨ (w = 0 ∧ ¬ sl_can 7 n L))) ∧ σ' = (I, J, R, K, N)) := by
  subst hx hy hz
  have hLn : (L : Int) * (n : Int) ≤ 48 * 36 := by have := Nat.mul_le_mul hL hn; rw [← Int.natCast_mul]; omega
  have hLn0 : (L : Int) * (n : Int) = ((L * n : Nat) : Int) := (Int.natCast_mul _ _).symm
  have e1 : ∀ p, sl_can 7 n L = p → sl_can 7 n L = p := fun _ h => h
  simp only [sl_can]
  refine bl_MC_intro (by decide +kernel) rfl (Nat.le_of_ble_eq_true rfl) ?_
  refine bl_go oX7_canTake 80 [] rfl ?_
  refine ⟨fun h1 => ?_, fun j1 o1 ho1 h1 _ => ?_⟩
  · try simp (disch := omega) only [zI_n, zI_o, zI_lit, zI_neg, zI_add, zI_sub, zI_mul, zI_lt, zI_le, zI_eq, zI_clamp, zI_in, zI_div, zI_rem, lg_lt0, lg_gt0, lg_eq0, lg_le0, lg_ge0, Int.toNat_natCast, ge_iff_le, gt_iff_lt, List.length_cons, List.length_nil, bl_up2_at, bl_up2_nk, bl_up2_nx, zI_toInt] at h1
    first
    | (exfalso; omega)
    | (refine ⟨(fun _ => by first | exact Or.inl rfl | exact Or.inr rfl), ?_⟩
       try show _ ∧ _
       try dsimp only [bl_pv]
       refine ⟨⟨_, rfl, ?_⟩, rfl⟩
       first
       | exact Or.inl ⟨rfl, by first | trivial | omega⟩
       | exact Or.inr ⟨rfl, by omega⟩)
  · try simp (disch := omega) only [zI_n, zI_o, zI_lit, zI_neg, zI_add, zI_sub, zI_mul, zI_lt, zI_le, zI_eq, zI_clamp, zI_in, zI_div, zI_rem, lg_lt0, lg_gt0, lg_eq0, lg_le0, lg_ge0, Int.toNat_natCast, ge_iff_le, gt_iff_lt, List.length_cons, List.length_nil, bl_up2_at, bl_up2_nk, bl_up2_nx, zI_toInt] at h1
    match j1, ho1, h1 with
    | 0, ho1, h1 =>
      cases ho1
      first
      | (exfalso; omega)
      | (refine ⟨fun h41 => ?_, fun h41 => ?_⟩
         · try simp (disch := omega) only [zI_n, zI_o, zI_lit, zI_neg, zI_add, zI_sub, zI_mul, zI_lt, zI_le, zI_eq, zI_clamp, zI_in, zI_div, zI_rem, lg_lt0, lg_gt0, lg_eq0, lg_le0, lg_ge0, Int.toNat_natCast, ge_iff_le, gt_iff_lt, List.length_cons, List.length_nil, bl_up2_at, bl_up2_nk, bl_up2_nx] at h41
           first
           | (exfalso; omega)
           | (refine ⟨(fun _ => by first | exact Or.inl rfl | exact Or.inr rfl), ?_⟩
              try show _ ∧ _
              try dsimp only [bl_pv]
              refine ⟨⟨_, rfl, ?_⟩, rfl⟩
              first
              | exact Or.inl ⟨rfl, by first | trivial | omega⟩
              | exact Or.inr ⟨rfl, by omega⟩)
         · try simp (disch := omega) only [zI_n, zI_o, zI_lit, zI_neg, zI_add, zI_sub, zI_mul, zI_lt, zI_le, zI_eq, zI_clamp, zI_in, zI_div, zI_rem, lg_lt0, lg_gt0, lg_eq0, lg_le0, lg_ge0, Int.toNat_natCast, ge_iff_le, gt_iff_lt, List.length_cons, List.length_nil, bl_up2_at, bl_up2_nk, bl_up2_nx] at h41
           first
           | (exfalso; omega)
           | (refine ⟨(fun _ => by first | exact Or.inl rfl | exact Or.inr rfl), ?_⟩
              try show _ ∧ _
              try dsimp only [bl_pv]
              refine ⟨⟨_, rfl, ?_⟩, rfl⟩
              first
              | exact Or.inl ⟨rfl, by first | trivial | omega⟩
              | exact Or.inr ⟨rfl, by omega⟩))
    | 1, ho1, h1 =>
      cases ho1
      first
      | (exfalso; omega)
      | (refine ⟨fun h51 => ?_, fun h51 => ?_⟩
         · try simp (disch := omega) only [zI_n, zI_o, zI_lit, zI_neg, zI_add, zI_sub, zI_mul, zI_lt, zI_le, zI_eq, zI_clamp, zI_in, zI_div, zI_rem, lg_lt0, lg_gt0, lg_eq0, lg_le0, lg_ge0, Int.toNat_natCast, ge_iff_le, gt_iff_lt, List.length_cons, List.length_nil, bl_up2_at, bl_up2_nk, bl_up2_nx] at h51
           first
           | (exfalso; omega)
           | (refine ⟨(fun _ => by first | exact Or.inl rfl | exact Or.inr rfl), ?_⟩
              try show _ ∧ _
              try dsimp only [bl_pv]
              refine ⟨⟨_, rfl, ?_⟩, rfl⟩
              first
              | exact Or.inl ⟨rfl, by first | trivial | omega⟩
              | exact Or.inr ⟨rfl, by omega⟩)
         · try simp (disch := omega) only [zI_n, zI_o, zI_lit, zI_neg, zI_add, zI_sub, zI_mul, zI_lt, zI_le, zI_eq, zI_clamp, zI_in, zI_div, zI_rem, lg_lt0, lg_gt0, lg_eq0, lg_le0, lg_ge0, Int.toNat_natCast, ge_iff_le, gt_iff_lt, List.length_cons, List.length_nil, bl_up2_at, bl_up2_nk, bl_up2_nx] at h51
           first
           | (exfalso; omega)
           | (refine ⟨(by first | decide | (simp (disch := omega) only [zI_n, zI_o, zI_lit, zI_neg, zI_add, zI_sub, zI_mul, zI_lt, zI_le, zI_eq, zI_clamp, zI_in, zI_div, zI_rem, lg_lt0, lg_gt0, lg_eq0, lg_le0, lg_ge0, Int.toNat_natCast, ge_iff_le, gt_iff_lt, List.length_cons, List.length_nil, bl_up2_at, bl_up2_nk, bl_up2_nx] <;> omega)), fun h57 => ?_, fun h57 => ?_⟩
              · try simp (disch := omega) only [zI_n, zI_o, zI_lit, zI_neg, zI_add, zI_sub, zI_mul, zI_lt, zI_le, zI_eq, zI_clamp, zI_in, zI_div, zI_rem, lg_lt0, lg_gt0, lg_eq0, lg_le0, lg_ge0, Int.toNat_natCast, ge_iff_le, gt_iff_lt, List.length_cons, List.length_nil, bl_up2_at, bl_up2_nk, bl_up2_nx] at h57
                first
                | (exfalso; omega)
                | (refine ⟨(fun _ => by first | exact Or.inl rfl | exact Or.inr rfl), ?_⟩
                   try show _ ∧ _
                   try dsimp only [bl_pv]
                   refine ⟨⟨_, rfl, ?_⟩, rfl⟩
                   first
                   | exact Or.inl ⟨rfl, by first | trivial | omega⟩
                   | exact Or.inr ⟨rfl, by omega⟩)
              · try simp (disch := omega) only [zI_n, zI_o, zI_lit, zI_neg, zI_add, zI_sub, zI_mul, zI_lt, zI_le, zI_eq, zI_clamp, zI_in, zI_div, zI_rem, lg_lt0, lg_gt0, lg_eq0, lg_le0, lg_ge0, Int.toNat_natCast, ge_iff_le, gt_iff_lt, List.length_cons, List.length_nil, bl_up2_at, bl_up2_nk, bl_up2_nx] at h57
                first
                | (exfalso; omega)
                | (refine ⟨(fun _ => by first | exact Or.inl rfl | exact Or.inr rfl), ?_⟩
                   try show _ ∧ _
                   try dsimp only [bl_pv]
                   refine ⟨⟨_, rfl, ?_⟩, rfl⟩
                   first
                   | exact Or.inl ⟨rfl, by first | trivial | omega⟩
                   | exact Or.inr ⟨rfl, by omega⟩)))
    | 2, ho1, h1 =>
      cases ho1
      first
      | (exfalso; omega)
      | (refine ⟨(by first | decide | (simp (disch := omega) only [zI_n, zI_o, zI_lit, zI_neg, zI_add, zI_sub, zI_mul, zI_lt, zI_le, zI_eq, zI_clamp, zI_in, zI_div, zI_rem, lg_lt0, lg_gt0, lg_eq0, lg_le0, lg_ge0, Int.toNat_natCast, ge_iff_le, gt_iff_lt, List.length_cons, List.length_nil, bl_up2_at, bl_up2_nk, bl_up2_nx] <;> omega)), fun h69 => ?_, fun h69 => ?_⟩
         · try simp (disch := omega) only [zI_n, zI_o, zI_lit, zI_neg, zI_add, zI_sub, zI_mul, zI_lt, zI_le, zI_eq, zI_clamp, zI_in, zI_div, zI_rem, lg_lt0, lg_gt0, lg_eq0, lg_le0, lg_ge0, Int.toNat_natCast, ge_iff_le, gt_iff_lt, List.length_cons, List.length_nil, bl_up2_at, bl_up2_nk, bl_up2_nx] at h69
           first
           | (exfalso; omega)
           | (refine ⟨(fun _ => by first | exact Or.inl rfl | exact Or.inr rfl), ?_⟩
              try show _ ∧ _
              try dsimp only [bl_pv]
              refine ⟨⟨_, rfl, ?_⟩, rfl⟩
              first
              | exact Or.inl ⟨rfl, by first | trivial | omega⟩
              | exact Or.inr ⟨rfl, by omega⟩)
         · try simp (disch := omega) only [zI_n, zI_o, zI_lit, zI_neg, zI_add, zI_sub, zI_mul, zI_lt, zI_le, zI_eq, zI_clamp, zI_in, zI_div, zI_rem, lg_lt0, lg_gt0, lg_eq0, lg_le0, lg_ge0, Int.toNat_natCast, ge_iff_le, gt_iff_lt, List.length_cons, List.length_nil, bl_up2_at, bl_up2_nk, bl_up2_nx] at h69
           first
           | (exfalso; omega)
           | (refine ⟨(fun _ => by first | exact Or.inl rfl | exact Or.inr rfl), ?_⟩
              try show _ ∧ _
              try dsimp only [bl_pv]
              refine ⟨⟨_, rfl, ?_⟩, rfl⟩
              first
              | exact Or.inl ⟨rfl, by first | trivial | omega⟩
              | exact Or.inr ⟨rfl, by omega⟩))
    | 3, ho1, h1 =>
      cases ho1
      first
      | (exfalso; omega)
      | (refine ⟨fun h82 => ?_, fun h82 => ?_⟩
         · try simp (disch := omega) only [zI_n, zI_o, zI_lit, zI_neg, zI_add, zI_sub, zI_mul, zI_lt, zI_le, zI_eq, zI_clamp, zI_in, zI_div, zI_rem, lg_lt0, lg_gt0, lg_eq0, lg_le0, lg_ge0, Int.toNat_natCast, ge_iff_le, gt_iff_lt, List.length_cons, List.length_nil, bl_up2_at, bl_up2_nk, bl_up2_nx] at h82
           first
           | (exfalso; omega)
           | (refine ⟨(fun _ => by first | exact Or.inl rfl | exact Or.inr rfl), ?_⟩
              try show _ ∧ _
              try dsimp only [bl_pv]
              refine ⟨⟨_, rfl, ?_⟩, rfl⟩
              first
              | exact Or.inl ⟨rfl, by first | trivial | omega⟩
              | exact Or.inr ⟨rfl, by omega⟩)
         · try simp (disch := omega) only [zI_n, zI_o, zI_lit, zI_neg, zI_add, zI_sub, zI_mul, zI_lt, zI_le, zI_eq, zI_clamp, zI_in, zI_div, zI_rem, lg_lt0, lg_gt0, lg_eq0, lg_le0, lg_ge0, Int.toNat_natCast, ge_iff_le, gt_iff_lt, List.length_cons, List.length_nil, bl_up2_at, bl_up2_nk, bl_up2_nx] at h82
           first
           | (exfalso; omega)
           | (refine ⟨(fun _ => by first | exact Or.inl rfl | exact Or.inr rfl), ?_⟩
              try show _ ∧ _
              try dsimp only [bl_pv]
              refine ⟨⟨_, rfl, ?_⟩, rfl⟩
              first
              | exact Or.inl ⟨rfl, by first | trivial | omega⟩
              | exact Or.inr ⟨rfl, by omega⟩))
    | 4, ho1, h1 =>
      cases ho1
      first
      | (exfalso; omega)
      | (refine ⟨fun h95 => ?_, fun h95 => ?_⟩
         · try simp (disch := omega) only [zI_n, zI_o, zI_lit, zI_neg, zI_add, zI_sub, zI_mul, zI_lt, zI_le, zI_eq, zI_clamp, zI_in, zI_div, zI_rem, lg_lt0, lg_gt0, lg_eq0, lg_le0, lg_ge0, Int.toNat_natCast, ge_iff_le, gt_iff_lt, List.length_cons, List.length_nil, bl_up2_at, bl_up2_nk, bl_up2_nx] at h95
           first
           | (exfalso; omega)
           | (refine ⟨(fun _ => by first | exact Or.inl rfl | exact Or.inr rfl), ?_⟩
              try show _ ∧ _
              try dsimp only [bl_pv]
              refine ⟨⟨_, rfl, ?_⟩, rfl⟩
              first
              | exact Or.inl ⟨rfl, by first | trivial | omega⟩
              | exact Or.inr ⟨rfl, by omega⟩)
         · try simp (disch := omega) only [zI_n, zI_o, zI_lit, zI_neg, zI_add, zI_sub, zI_mul, zI_lt, zI_le, zI_eq, zI_clamp, zI_in, zI_div, zI_rem, lg_lt0, lg_gt0, lg_eq0, lg_le0, lg_ge0, Int.toNat_natCast, ge_iff_le, gt_iff_lt, List.length_cons, List.length_nil, bl_up2_at, bl_up2_nk, bl_up2_nx] at h95
           first
           | (exfalso; omega)
           | (refine ⟨(fun _ => by first | exact Or.inl rfl | exact Or.inr rfl), ?_⟩
              try show _ ∧ _
              try dsimp only [bl_pv]
              refine ⟨⟨_, rfl, ?_⟩, rfl⟩
              first
              | exact Or.inl ⟨rfl, by first | trivial | omega⟩
              | exact Or.inr ⟨rfl, by omega⟩))
    | _ + 5, ho1, _ => exact absurd ho1 (by simp)
theorem c_Slab_canTake_1_2 {L : Nat} {x y z : Int32} (hx : x = nI 1) (hy : y = nI 2) (hz : z = nI L) (hL : L ≤ 48) : bl_MC G l d mX7_canTake [.int x, .int y, .int z] (I, J, R, K, N) (0, 0) (fun o σ' => (∃ w, o = .inl (some (.int w)) ∧ ((w = 1 ∧ sl_can 1 2 L) ∨ (w = 0 ∧ ¬ sl_can 1 2 L))) ∧ σ' = (I, J, R, K, N)) := by
  subst hx hy hz
  simp only [sl_can]
  refine bl_MC_intro (by decide +kernel) rfl (Nat.le_of_ble_eq_true rfl) ?_
  refine bl_go oX7_canTake 80 [] rfl ?_
  refine ⟨fun h1 => ?_, fun j1 o1 ho1 h1 _ => ?_⟩
  · try simp (disch := omega) only [zI_n, zI_o, zI_lit, zI_neg, zI_add, zI_sub, zI_mul, zI_lt, zI_le, zI_eq, zI_clamp, zI_in, zI_div, zI_rem, lg_lt0, lg_gt0, lg_eq0, lg_le0, lg_ge0, Int.toNat_natCast, ge_iff_le, gt_iff_lt, List.length_cons, List.length_nil, bl_up2_at, bl_up2_nk, bl_up2_nx, zI_toInt] at h1
    first
    | (exfalso; omega)
    | (refine ⟨(fun _ => by first | exact Or.inl rfl | exact Or.inr rfl), ?_⟩
       try show _ ∧ _
       try dsimp only [bl_pv]
       refine ⟨⟨_, rfl, ?_⟩, rfl⟩
       first
       | exact Or.inl ⟨rfl, by first | trivial | omega⟩
       | exact Or.inr ⟨rfl, by omega⟩)
  · try simp (disch := omega) only [zI_n, zI_o, zI_lit, zI_neg, zI_add, zI_sub, zI_mul, zI_lt, zI_le, zI_eq, zI_clamp, zI_in, zI_div, zI_rem, lg_lt0, lg_gt0, lg_eq0, lg_le0, lg_ge0, Int.toNat_natCast, ge_iff_le, gt_iff_lt, List.length_cons, List.length_nil, bl_up2_at, bl_up2_nk, bl_up2_nx, zI_toInt] at h1
    match j1, ho1, h1 with
    | 0, ho1, h1 =>
      cases ho1
      first
      | (exfalso; omega)
      | (refine ⟨fun h41 => ?_, fun h41 => ?_⟩
         · try simp (disch := omega) only [zI_n, zI_o, zI_lit, zI_neg, zI_add, zI_sub, zI_mul, zI_lt, zI_le, zI_eq, zI_clamp, zI_in, zI_div, zI_rem, lg_lt0, lg_gt0, lg_eq0, lg_le0, lg_ge0, Int.toNat_natCast, ge_iff_le, gt_iff_lt, List.length_cons, List.length_nil, bl_up2_at, bl_up2_nk, bl_up2_nx] at h41
           first
           | (exfalso; omega)
           | (refine ⟨(fun _ => by first | exact Or.inl rfl | exact Or.inr rfl), ?_⟩
              try show _ ∧ _
              try dsimp only [bl_pv]
              refine ⟨⟨_, rfl, ?_⟩, rfl⟩
              first
              | exact Or.inl ⟨rfl, by first | trivial | omega⟩
              | exact Or.inr ⟨rfl, by omega⟩)
         · try simp (disch := omega) only [zI_n, zI_o, zI_lit, zI_neg, zI_add, zI_sub, zI_mul, zI_lt, zI_le, zI_eq, zI_clamp, zI_in, zI_div, zI_rem, lg_lt0, lg_gt0, lg_eq0, lg_le0, lg_ge0, Int.toNat_natCast, ge_iff_le, gt_iff_lt, List.length_cons, List.length_nil, bl_up2_at, bl_up2_nk, bl_up2_nx] at h41
           first
           | (exfalso; omega)
           | (refine ⟨(fun _ => by first | exact Or.inl rfl | exact Or.inr rfl), ?_⟩
              try show _ ∧ _
              try dsimp only [bl_pv]
              refine ⟨⟨_, rfl, ?_⟩, rfl⟩
              first
              | exact Or.inl ⟨rfl, by first | trivial | omega⟩
              | exact Or.inr ⟨rfl, by omega⟩))
    | 1, ho1, h1 =>
      cases ho1
      first
      | (exfalso; omega)
      | (refine ⟨fun h51 => ?_, fun h51 => ?_⟩
         · try simp (disch := omega) only [zI_n, zI_o, zI_lit, zI_neg, zI_add, zI_sub, zI_mul, zI_lt, zI_le, zI_eq, zI_clamp, zI_in, zI_div, zI_rem, lg_lt0, lg_gt0, lg_eq0, lg_le0, lg_ge0, Int.toNat_natCast, ge_iff_le, gt_iff_lt, List.length_cons, List.length_nil, bl_up2_at, bl_up2_nk, bl_up2_nx] at h51
           first
           | (exfalso; omega)
           | (refine ⟨(fun _ => by first | exact Or.inl rfl | exact Or.inr rfl), ?_⟩
              try show _ ∧ _
              try dsimp only [bl_pv]
              refine ⟨⟨_, rfl, ?_⟩, rfl⟩
              first
              | exact Or.inl ⟨rfl, by first | trivial | omega⟩
              | exact Or.inr ⟨rfl, by omega⟩)
         · try simp (disch := omega) only [zI_n, zI_o, zI_lit, zI_neg, zI_add, zI_sub, zI_mul, zI_lt, zI_le, zI_eq, zI_clamp, zI_in, zI_div, zI_rem, lg_lt0, lg_gt0, lg_eq0, lg_le0, lg_ge0, Int.toNat_natCast, ge_iff_le, gt_iff_lt, List.length_cons, List.length_nil, bl_up2_at, bl_up2_nk, bl_up2_nx] at h51
           first
           | (exfalso; omega)
           | (refine ⟨(by first | decide | (simp (disch := omega) only [zI_n, zI_o, zI_lit, zI_neg, zI_add, zI_sub, zI_mul, zI_lt, zI_le, zI_eq, zI_clamp, zI_in, zI_div, zI_rem, lg_lt0, lg_gt0, lg_eq0, lg_le0, lg_ge0, Int.toNat_natCast, ge_iff_le, gt_iff_lt, List.length_cons, List.length_nil, bl_up2_at, bl_up2_nk, bl_up2_nx] <;> omega)), fun h57 => ?_, fun h57 => ?_⟩
              · try simp (disch := omega) only [zI_n, zI_o, zI_lit, zI_neg, zI_add, zI_sub, zI_mul, zI_lt, zI_le, zI_eq, zI_clamp, zI_in, zI_div, zI_rem, lg_lt0, lg_gt0, lg_eq0, lg_le0, lg_ge0, Int.toNat_natCast, ge_iff_le, gt_iff_lt, List.length_cons, List.length_nil, bl_up2_at, bl_up2_nk, bl_up2_nx] at h57
                first
                | (exfalso; omega)
                | (refine ⟨(fun _ => by first | exact Or.inl rfl | exact Or.inr rfl), ?_⟩
                   try show _ ∧ _
                   try dsimp only [bl_pv]
                   refine ⟨⟨_, rfl, ?_⟩, rfl⟩
                   first
                   | exact Or.inl ⟨rfl, by first | trivial | omega⟩
                   | exact Or.inr ⟨rfl, by omega⟩)
              · try simp (disch := omega) only [zI_n, zI_o, zI_lit, zI_neg, zI_add, zI_sub, zI_mul, zI_lt, zI_le, zI_eq, zI_clamp, zI_in, zI_div, zI_rem, lg_lt0, lg_gt0, lg_eq0, lg_le0, lg_ge0, Int.toNat_natCast, ge_iff_le, gt_iff_lt, List.length_cons, List.length_nil, bl_up2_at, bl_up2_nk, bl_up2_nx] at h57
                first
                | (exfalso; omega)
                | (refine ⟨(fun _ => by first | exact Or.inl rfl | exact Or.inr rfl), ?_⟩
                   try show _ ∧ _
                   try dsimp only [bl_pv]
                   refine ⟨⟨_, rfl, ?_⟩, rfl⟩
                   first
                   | exact Or.inl ⟨rfl, by first | trivial | omega⟩
                   | exact Or.inr ⟨rfl, by omega⟩)))
    | 2, ho1, h1 =>
      cases ho1
      first
      | (exfalso; omega)
      | (refine ⟨(by first | decide | (simp (disch := omega) only [zI_n, zI_o, zI_lit, zI_neg, zI_add, zI_sub, zI_mul, zI_lt, zI_le, zI_eq, zI_clamp, zI_in, zI_div, zI_rem, lg_lt0, lg_gt0, lg_eq0, lg_le0, lg_ge0, Int.toNat_natCast, ge_iff_le, gt_iff_lt, List.length_cons, List.length_nil, bl_up2_at, bl_up2_nk, bl_up2_nx] <;> omega)), fun h69 => ?_, fun h69 => ?_⟩
         · try simp (disch := omega) only [zI_n, zI_o, zI_lit, zI_neg, zI_add, zI_sub, zI_mul, zI_lt, zI_le, zI_eq, zI_clamp, zI_in, zI_div, zI_rem, lg_lt0, lg_gt0, lg_eq0, lg_le0, lg_ge0, Int.toNat_natCast, ge_iff_le, gt_iff_lt, List.length_cons, List.length_nil, bl_up2_at, bl_up2_nk, bl_up2_nx] at h69
           first
           | (exfalso; omega)
           | (refine ⟨(fun _ => by first | exact Or.inl rfl | exact Or.inr rfl), ?_⟩
              try show _ ∧ _
              try dsimp only [bl_pv]
              refine ⟨⟨_, rfl, ?_⟩, rfl⟩
              first
              | exact Or.inl ⟨rfl, by first | trivial | omega⟩
              | exact Or.inr ⟨rfl, by omega⟩)
         · try simp (disch := omega) only [zI_n, zI_o, zI_lit, zI_neg, zI_add, zI_sub, zI_mul, zI_lt, zI_le, zI_eq, zI_clamp, zI_in, zI_div, zI_rem, lg_lt0, lg_gt0, lg_eq0, lg_le0, lg_ge0, Int.toNat_natCast, ge_iff_le, gt_iff_lt, List.length_cons, List.length_nil, bl_up2_at, bl_up2_nk, bl_up2_nx] at h69
           first
           | (exfalso; omega)
           | (refine ⟨(fun _ => by first | exact Or.inl rfl | exact Or.inr rfl), ?_⟩
              try show _ ∧ _
              try dsimp only [bl_pv]
              refine ⟨⟨_, rfl, ?_⟩, rfl⟩
              first
              | exact Or.inl ⟨rfl, by first | trivial | omega⟩
              | exact Or.inr ⟨rfl, by omega⟩))
    | 3, ho1, h1 =>
      cases ho1
      first
      | (exfalso; omega)
      | (refine ⟨fun h82 => ?_, fun h82 => ?_⟩
         · try simp (disch := omega) only [zI_n, zI_o, zI_lit, zI_neg, zI_add, zI_sub, zI_mul, zI_lt, zI_le, zI_eq, zI_clamp, zI_in, zI_div, zI_rem, lg_lt0, lg_gt0, lg_eq0, lg_le0, lg_ge0, Int.toNat_natCast, ge_iff_le, gt_iff_lt, List.length_cons, List.length_nil, bl_up2_at, bl_up2_nk, bl_up2_nx] at h82
           first
           | (exfalso; omega)
           | (refine ⟨(fun _ => by first | exact Or.inl rfl | exact Or.inr rfl), ?_⟩
              try show _ ∧ _
              try dsimp only [bl_pv]
              refine ⟨⟨_, rfl, ?_⟩, rfl⟩
              first
              | exact Or.inl ⟨rfl, by first | trivial | omega⟩
              | exact Or.inr ⟨rfl, by omega⟩)
         · try simp (disch := omega) only [zI_n, zI_o, zI_lit, zI_neg, zI_add, zI_sub, zI_mul, zI_lt, zI_le, zI_eq, zI_clamp, zI_in, zI_div, zI_rem, lg_lt0, lg_gt0, lg_eq0, lg_le0, lg_ge0, Int.toNat_natCast, ge_iff_le, gt_iff_lt, List.length_cons, List.length_nil, bl_up2_at, bl_up2_nk, bl_up2_nx] at h82
           first
           | (exfalso; omega)
           | (refine ⟨(fun _ => by first | exact Or.inl rfl | exact Or.inr rfl), ?_⟩
              try show _ ∧ _
              try dsimp only [bl_pv]
              refine ⟨⟨_, rfl, ?_⟩, rfl⟩
              first
              | exact Or.inl ⟨rfl, by first | trivial | omega⟩
              | exact Or.inr ⟨rfl, by omega⟩))
    | 4, ho1, h1 =>
      cases ho1
      first
      | (exfalso; omega)
      | (refine ⟨fun h95 => ?_, fun h95 => ?_⟩
         · try simp (disch := omega) only [zI_n, zI_o, zI_lit, zI_neg, zI_add, zI_sub, zI_mul, zI_lt, zI_le, zI_eq, zI_clamp, zI_in, zI_div, zI_rem, lg_lt0, lg_gt0, lg_eq0, lg_le0, lg_ge0, Int.toNat_natCast, ge_iff_le, gt_iff_lt, List.length_cons, List.length_nil, bl_up2_at, bl_up2_nk, bl_up2_nx] at h95
           first
           | (exfalso; omega)
           | (refine ⟨(fun _ => by first | exact Or.inl rfl | exact Or.inr rfl), ?_⟩
              try show _ ∧ _
              try dsimp only [bl_pv]
              refine ⟨⟨_, rfl, ?_⟩, rfl⟩
              first
              | exact Or.inl ⟨rfl, by first | trivial | omega⟩
              | exact Or.inr ⟨rfl, by omega⟩)
         · try simp (disch := omega) only [zI_n, zI_o, zI_lit, zI_neg, zI_add, zI_sub, zI_mul, zI_lt, zI_le, zI_eq, zI_clamp, zI_in, zI_div, zI_rem, lg_lt0, lg_gt0, lg_eq0, lg_le0, lg_ge0, Int.toNat_natCast, ge_iff_le, gt_iff_lt, List.length_cons, List.length_nil, bl_up2_at, bl_up2_nk, bl_up2_nx] at h95
           first
           | (exfalso; omega)
           | (refine ⟨(fun _ => by first | exact Or.inl rfl | exact Or.inr rfl), ?_⟩
              try show _ ∧ _
              try dsimp only [bl_pv]
              refine ⟨⟨_, rfl, ?_⟩, rfl⟩
              first
              | exact Or.inl ⟨rfl, by first | trivial | omega⟩
              | exact Or.inr ⟨rfl, by omega⟩))
    | _ + 5, ho1, _ => exact absurd ho1 (by simp)
theorem c_Slab_canTake_1_3 {L : Nat} {x y z : Int32} (hx : x = nI 1) (hy : y = nI 3) (hz : z = nI L) (hL : L ≤ 48) : bl_MC G l d mX7_canTake [.int x, .int y, .int z] (I, J, R, K, N) (0, 0) (fun o σ' => (∃ w, o = .inl (some (.int w)) ∧ ((w = 1 ∧ sl_can 1 3 L) ∨ (w = 0 ∧ ¬ sl_can 1 3 L))) ∧ σ' = (I, J, R, K, N)) := by
  subst hx hy hz
  simp only [sl_can]
  refine bl_MC_intro (by decide +kernel) rfl (Nat.le_of_ble_eq_true rfl) ?_
  refine bl_go oX7_canTake 80 [] rfl ?_
  refine ⟨fun h1 => ?_, fun j1 o1 ho1 h1 _ => ?_⟩
  · try simp (disch := omega) only [zI_n, zI_o, zI_lit, zI_neg, zI_add, zI_sub, zI_mul, zI_lt, zI_le, zI_eq, zI_clamp, zI_in, zI_div, zI_rem, lg_lt0, lg_gt0, lg_eq0, lg_le0, lg_ge0, Int.toNat_natCast, ge_iff_le, gt_iff_lt, List.length_cons, List.length_nil, bl_up2_at, bl_up2_nk, bl_up2_nx, zI_toInt] at h1
    first
    | (exfalso; omega)
    | (refine ⟨(fun _ => by first | exact Or.inl rfl | exact Or.inr rfl), ?_⟩
       try show _ ∧ _
       try dsimp only [bl_pv]
       refine ⟨⟨_, rfl, ?_⟩, rfl⟩
       first
       | exact Or.inl ⟨rfl, by first | trivial | omega⟩
       | exact Or.inr ⟨rfl, by omega⟩)
  · try simp (disch := omega) only [zI_n, zI_o, zI_lit, zI_neg, zI_add, zI_sub, zI_mul, zI_lt, zI_le, zI_eq, zI_clamp, zI_in, zI_div, zI_rem, lg_lt0, lg_gt0, lg_eq0, lg_le0, lg_ge0, Int.toNat_natCast, ge_iff_le, gt_iff_lt, List.length_cons, List.length_nil, bl_up2_at, bl_up2_nk, bl_up2_nx, zI_toInt] at h1
    match j1, ho1, h1 with
    | 0, ho1, h1 =>
      cases ho1
      first
      | (exfalso; omega)
      | (refine ⟨fun h41 => ?_, fun h41 => ?_⟩
         · try simp (disch := omega) only [zI_n, zI_o, zI_lit, zI_neg, zI_add, zI_sub, zI_mul, zI_lt, zI_le, zI_eq, zI_clamp, zI_in, zI_div, zI_rem, lg_lt0, lg_gt0, lg_eq0, lg_le0, lg_ge0, Int.toNat_natCast, ge_iff_le, gt_iff_lt, List.length_cons, List.length_nil, bl_up2_at, bl_up2_nk, bl_up2_nx] at h41
           first
           | (exfalso; omega)
           | (refine ⟨(fun _ => by first | exact Or.inl rfl | exact Or.inr rfl), ?_⟩
              try show _ ∧ _
              try dsimp only [bl_pv]
              refine ⟨⟨_, rfl, ?_⟩, rfl⟩
              first
              | exact Or.inl ⟨rfl, by first | trivial | omega⟩
              | exact Or.inr ⟨rfl, by omega⟩)
         · try simp (disch := omega) only [zI_n, zI_o, zI_lit, zI_neg, zI_add, zI_sub, zI_mul, zI_lt, zI_le, zI_eq, zI_clamp, zI_in, zI_div, zI_rem, lg_lt0, lg_gt0, lg_eq0, lg_le0, lg_ge0, Int.toNat_natCast, ge_iff_le, gt_iff_lt, List.length_cons, List.length_nil, bl_up2_at, bl_up2_nk, bl_up2_nx] at h41
           first
           | (exfalso; omega)
           | (refine ⟨(fun _ => by first | exact Or.inl rfl | exact Or.inr rfl), ?_⟩
              try show _ ∧ _
              try dsimp only [bl_pv]
              refine ⟨⟨_, rfl, ?_⟩, rfl⟩
              first
              | exact Or.inl ⟨rfl, by first | trivial | omega⟩
              | exact Or.inr ⟨rfl, by omega⟩))
    | 1, ho1, h1 =>
      cases ho1
      first
      | (exfalso; omega)
      | (refine ⟨fun h51 => ?_, fun h51 => ?_⟩
         · try simp (disch := omega) only [zI_n, zI_o, zI_lit, zI_neg, zI_add, zI_sub, zI_mul, zI_lt, zI_le, zI_eq, zI_clamp, zI_in, zI_div, zI_rem, lg_lt0, lg_gt0, lg_eq0, lg_le0, lg_ge0, Int.toNat_natCast, ge_iff_le, gt_iff_lt, List.length_cons, List.length_nil, bl_up2_at, bl_up2_nk, bl_up2_nx] at h51
           first
           | (exfalso; omega)
           | (refine ⟨(fun _ => by first | exact Or.inl rfl | exact Or.inr rfl), ?_⟩
              try show _ ∧ _
              try dsimp only [bl_pv]
              refine ⟨⟨_, rfl, ?_⟩, rfl⟩
              first
              | exact Or.inl ⟨rfl, by first | trivial | omega⟩
              | exact Or.inr ⟨rfl, by omega⟩)
         · try simp (disch := omega) only [zI_n, zI_o, zI_lit, zI_neg, zI_add, zI_sub, zI_mul, zI_lt, zI_le, zI_eq, zI_clamp, zI_in, zI_div, zI_rem, lg_lt0, lg_gt0, lg_eq0, lg_le0, lg_ge0, Int.toNat_natCast, ge_iff_le, gt_iff_lt, List.length_cons, List.length_nil, bl_up2_at, bl_up2_nk, bl_up2_nx] at h51
           first
           | (exfalso; omega)
           | (refine ⟨(by first | decide | (simp (disch := omega) only [zI_n, zI_o, zI_lit, zI_neg, zI_add, zI_sub, zI_mul, zI_lt, zI_le, zI_eq, zI_clamp, zI_in, zI_div, zI_rem, lg_lt0, lg_gt0, lg_eq0, lg_le0, lg_ge0, Int.toNat_natCast, ge_iff_le, gt_iff_lt, List.length_cons, List.length_nil, bl_up2_at, bl_up2_nk, bl_up2_nx] <;> omega)), fun h57 => ?_, fun h57 => ?_⟩
              · try simp (disch := omega) only [zI_n, zI_o, zI_lit, zI_neg, zI_add, zI_sub, zI_mul, zI_lt, zI_le, zI_eq, zI_clamp, zI_in, zI_div, zI_rem, lg_lt0, lg_gt0, lg_eq0, lg_le0, lg_ge0, Int.toNat_natCast, ge_iff_le, gt_iff_lt, List.length_cons, List.length_nil, bl_up2_at, bl_up2_nk, bl_up2_nx] at h57
                first
                | (exfalso; omega)
                | (refine ⟨(fun _ => by first | exact Or.inl rfl | exact Or.inr rfl), ?_⟩
                   try show _ ∧ _
                   try dsimp only [bl_pv]
                   refine ⟨⟨_, rfl, ?_⟩, rfl⟩
                   first
                   | exact Or.inl ⟨rfl, by first | trivial | omega⟩
                   | exact Or.inr ⟨rfl, by omega⟩)
              · try simp (disch := omega) only [zI_n, zI_o, zI_lit, zI_neg, zI_add, zI_sub, zI_mul, zI_lt, zI_le, zI_eq, zI_clamp, zI_in, zI_div, zI_rem, lg_lt0, lg_gt0, lg_eq0, lg_le0, lg_ge0, Int.toNat_natCast, ge_iff_le, gt_iff_lt, List.length_cons, List.length_nil, bl_up2_at, bl_up2_nk, bl_up2_nx] at h57
                first
                | (exfalso; omega)
                | (refine ⟨(fun _ => by first | exact Or.inl rfl | exact Or.inr rfl), ?_⟩
                   try show _ ∧ _
                   try dsimp only [bl_pv]
                   refine ⟨⟨_, rfl, ?_⟩, rfl⟩
                   first
                   | exact Or.inl ⟨rfl, by first | trivial | omega⟩
                   | exact Or.inr ⟨rfl, by omega⟩)))
    | 2, ho1, h1 =>
      cases ho1
      first
      | (exfalso; omega)
      | (refine ⟨(by first | decide | (simp (disch := omega) only [zI_n, zI_o, zI_lit, zI_neg, zI_add, zI_sub, zI_mul, zI_lt, zI_le, zI_eq, zI_clamp, zI_in, zI_div, zI_rem, lg_lt0, lg_gt0, lg_eq0, lg_le0, lg_ge0, Int.toNat_natCast, ge_iff_le, gt_iff_lt, List.length_cons, List.length_nil, bl_up2_at, bl_up2_nk, bl_up2_nx] <;> omega)), fun h69 => ?_, fun h69 => ?_⟩
         · try simp (disch := omega) only [zI_n, zI_o, zI_lit, zI_neg, zI_add, zI_sub, zI_mul, zI_lt, zI_le, zI_eq, zI_clamp, zI_in, zI_div, zI_rem, lg_lt0, lg_gt0, lg_eq0, lg_le0, lg_ge0, Int.toNat_natCast, ge_iff_le, gt_iff_lt, List.length_cons, List.length_nil, bl_up2_at, bl_up2_nk, bl_up2_nx] at h69
           first
           | (exfalso; omega)
           | (refine ⟨(fun _ => by first | exact Or.inl rfl | exact Or.inr rfl), ?_⟩
              try show _ ∧ _
              try dsimp only [bl_pv]
              refine ⟨⟨_, rfl, ?_⟩, rfl⟩
              first
              | exact Or.inl ⟨rfl, by first | trivial | omega⟩
              | exact Or.inr ⟨rfl, by omega⟩)
         · try simp (disch := omega) only [zI_n, zI_o, zI_lit, zI_neg, zI_add, zI_sub, zI_mul, zI_lt, zI_le, zI_eq, zI_clamp, zI_in, zI_div, zI_rem, lg_lt0, lg_gt0, lg_eq0, lg_le0, lg_ge0, Int.toNat_natCast, ge_iff_le, gt_iff_lt, List.length_cons, List.length_nil, bl_up2_at, bl_up2_nk, bl_up2_nx] at h69
           first
           | (exfalso; omega)
           | (refine ⟨(fun _ => by first | exact Or.inl rfl | exact Or.inr rfl), ?_⟩
              try show _ ∧ _
              try dsimp only [bl_pv]
              refine ⟨⟨_, rfl, ?_⟩, rfl⟩
              first
              | exact Or.inl ⟨rfl, by first | trivial | omega⟩
              | exact Or.inr ⟨rfl, by omega⟩))
    | 3, ho1, h1 =>
      cases ho1
      first
      | (exfalso; omega)
      | (refine ⟨fun h82 => ?_, fun h82 => ?_⟩
         · try simp (disch := omega) only [zI_n, zI_o, zI_lit, zI_neg, zI_add, zI_sub, zI_mul, zI_lt, zI_le, zI_eq, zI_clamp, zI_in, zI_div, zI_rem, lg_lt0, lg_gt0, lg_eq0, lg_le0, lg_ge0, Int.toNat_natCast, ge_iff_le, gt_iff_lt, List.length_cons, List.length_nil, bl_up2_at, bl_up2_nk, bl_up2_nx] at h82
           first
           | (exfalso; omega)
           | (refine ⟨(fun _ => by first | exact Or.inl rfl | exact Or.inr rfl), ?_⟩
              try show _ ∧ _
              try dsimp only [bl_pv]
              refine ⟨⟨_, rfl, ?_⟩, rfl⟩
              first
              | exact Or.inl ⟨rfl, by first | trivial | omega⟩
              | exact Or.inr ⟨rfl, by omega⟩)
         · try simp (disch := omega) only [zI_n, zI_o, zI_lit, zI_neg, zI_add, zI_sub, zI_mul, zI_lt, zI_le, zI_eq, zI_clamp, zI_in, zI_div, zI_rem, lg_lt0, lg_gt0, lg_eq0, lg_le0, lg_ge0, Int.toNat_natCast, ge_iff_le, gt_iff_lt, List.length_cons, List.length_nil, bl_up2_at, bl_up2_nk, bl_up2_nx] at h82
           first
           | (exfalso; omega)
           | (refine ⟨(fun _ => by first | exact Or.inl rfl | exact Or.inr rfl), ?_⟩
              try show _ ∧ _
              try dsimp only [bl_pv]
              refine ⟨⟨_, rfl, ?_⟩, rfl⟩
              first
              | exact Or.inl ⟨rfl, by first | trivial | omega⟩
              | exact Or.inr ⟨rfl, by omega⟩))
    | 4, ho1, h1 =>
      cases ho1
      first
      | (exfalso; omega)
      | (refine ⟨fun h95 => ?_, fun h95 => ?_⟩
         · try simp (disch := omega) only [zI_n, zI_o, zI_lit, zI_neg, zI_add, zI_sub, zI_mul, zI_lt, zI_le, zI_eq, zI_clamp, zI_in, zI_div, zI_rem, lg_lt0, lg_gt0, lg_eq0, lg_le0, lg_ge0, Int.toNat_natCast, ge_iff_le, gt_iff_lt, List.length_cons, List.length_nil, bl_up2_at, bl_up2_nk, bl_up2_nx] at h95
           first
           | (exfalso; omega)
           | (refine ⟨(fun _ => by first | exact Or.inl rfl | exact Or.inr rfl), ?_⟩
              try show _ ∧ _
              try dsimp only [bl_pv]
              refine ⟨⟨_, rfl, ?_⟩, rfl⟩
              first
              | exact Or.inl ⟨rfl, by first | trivial | omega⟩
              | exact Or.inr ⟨rfl, by omega⟩)
         · try simp (disch := omega) only [zI_n, zI_o, zI_lit, zI_neg, zI_add, zI_sub, zI_mul, zI_lt, zI_le, zI_eq, zI_clamp, zI_in, zI_div, zI_rem, lg_lt0, lg_gt0, lg_eq0, lg_le0, lg_ge0, Int.toNat_natCast, ge_iff_le, gt_iff_lt, List.length_cons, List.length_nil, bl_up2_at, bl_up2_nk, bl_up2_nx] at h95
           first
           | (exfalso; omega)
           | (refine ⟨(fun _ => by first | exact Or.inl rfl | exact Or.inr rfl), ?_⟩
              try show _ ∧ _
              try dsimp only [bl_pv]
              refine ⟨⟨_, rfl, ?_⟩, rfl⟩
              first
              | exact Or.inl ⟨rfl, by first | trivial | omega⟩
              | exact Or.inr ⟨rfl, by omega⟩))
    | _ + 5, ho1, _ => exact absurd ho1 (by simp)
theorem c_Slab_canTake_1_4 {L : Nat} {x y z : Int32} (hx : x = nI 1) (hy : y = nI 4) (hz : z = nI L) (hL : L ≤ 48) : bl_MC G l d mX7_canTake [.int x, .int y, .int z] (I, J, R, K, N) (0, 0) (fun o σ' => (∃ w, o = .inl (some (.int w)) ∧ ((w = 1 ∧ sl_can 1 4 L) ∨ (w = 0 ∧ ¬ sl_can 1 4 L))) ∧ σ' = (I, J, R, K, N)) := by
  subst hx hy hz
  simp only [sl_can]
  refine bl_MC_intro (by decide +kernel) rfl (Nat.le_of_ble_eq_true rfl) ?_
  refine bl_go oX7_canTake 80 [] rfl ?_
  refine ⟨fun h1 => ?_, fun j1 o1 ho1 h1 _ => ?_⟩
  · try simp (disch := omega) only [zI_n, zI_o, zI_lit, zI_neg, zI_add, zI_sub, zI_mul, zI_lt, zI_le, zI_eq, zI_clamp, zI_in, zI_div, zI_rem, lg_lt0, lg_gt0, lg_eq0, lg_le0, lg_ge0, Int.toNat_natCast, ge_iff_le, gt_iff_lt, List.length_cons, List.length_nil, bl_up2_at, bl_up2_nk, bl_up2_nx, zI_toInt] at h1
    first
    | (exfalso; omega)
    | (refine ⟨(fun _ => by first | exact Or.inl rfl | exact Or.inr rfl), ?_⟩
       try show _ ∧ _
       try dsimp only [bl_pv]
       refine ⟨⟨_, rfl, ?_⟩, rfl⟩
       first
       | exact Or.inl ⟨rfl, by first | trivial | omega⟩
       | exact Or.inr ⟨rfl, by omega⟩)
  · try simp (disch := omega) only [zI_n, zI_o, zI_lit, zI_neg, zI_add, zI_sub, zI_mul, zI_lt, zI_le, zI_eq, zI_clamp, zI_in, zI_div, zI_rem, lg_lt0, lg_gt0, lg_eq0, lg_le0, lg_ge0, Int.toNat_natCast, ge_iff_le, gt_iff_lt, List.length_cons, List.length_nil, bl_up2_at, bl_up2_nk, bl_up2_nx, zI_toInt] at h1
    match j1, ho1, h1 with
    | 0, ho1, h1 =>
      cases ho1
      first
      | (exfalso; omega)
      | (refine ⟨fun h41 => ?_, fun h41 => ?_⟩
         · try simp (disch := omega) only [zI_n, zI_o, zI_lit, zI_neg, zI_add, zI_sub, zI_mul, zI_lt, zI_le, zI_eq, zI_clamp, zI_in, zI_div, zI_rem, lg_lt0, lg_gt0, lg_eq0, lg_le0, lg_ge0, Int.toNat_natCast, ge_iff_le, gt_iff_lt, List.length_cons, List.length_nil, bl_up2_at, bl_up2_nk, bl_up2_nx] at h41
           first
           | (exfalso; omega)
           | (refine ⟨(fun _ => by first | exact Or.inl rfl | exact Or.inr rfl), ?_⟩
              try show _ ∧ _
              try dsimp only [bl_pv]
              refine ⟨⟨_, rfl, ?_⟩, rfl⟩
              first
              | exact Or.inl ⟨rfl, by first | trivial | omega⟩
              | exact Or.inr ⟨rfl, by omega⟩)
         · try simp (disch := omega) only [zI_n, zI_o, zI_lit, zI_neg, zI_add, zI_sub, zI_mul, zI_lt, zI_le, zI_eq, zI_clamp, zI_in, zI_div, zI_rem, lg_lt0, lg_gt0, lg_eq0, lg_le0, lg_ge0, Int.toNat_natCast, ge_iff_le, gt_iff_lt, List.length_cons, List.length_nil, bl_up2_at, bl_up2_nk, bl_up2_nx] at h41
           first
           | (exfalso; omega)
           | (refine ⟨(fun _ => by first | exact Or.inl rfl | exact Or.inr rfl), ?_⟩
              try show _ ∧ _
              try dsimp only [bl_pv]
              refine ⟨⟨_, rfl, ?_⟩, rfl⟩
              first
              | exact Or.inl ⟨rfl, by first | trivial | omega⟩
              | exact Or.inr ⟨rfl, by omega⟩))
    | 1, ho1, h1 =>
      cases ho1
      first
      | (exfalso; omega)
      | (refine ⟨fun h51 => ?_, fun h51 => ?_⟩
         · try simp (disch := omega) only [zI_n, zI_o, zI_lit, zI_neg, zI_add, zI_sub, zI_mul, zI_lt, zI_le, zI_eq, zI_clamp, zI_in, zI_div, zI_rem, lg_lt0, lg_gt0, lg_eq0, lg_le0, lg_ge0, Int.toNat_natCast, ge_iff_le, gt_iff_lt, List.length_cons, List.length_nil, bl_up2_at, bl_up2_nk, bl_up2_nx] at h51
           first
           | (exfalso; omega)
           | (refine ⟨(fun _ => by first | exact Or.inl rfl | exact Or.inr rfl), ?_⟩
              try show _ ∧ _
              try dsimp only [bl_pv]
              refine ⟨⟨_, rfl, ?_⟩, rfl⟩
              first
              | exact Or.inl ⟨rfl, by first | trivial | omega⟩
              | exact Or.inr ⟨rfl, by omega⟩)
         · try simp (disch := omega) only [zI_n, zI_o, zI_lit, zI_neg, zI_add, zI_sub, zI_mul, zI_lt, zI_le, zI_eq, zI_clamp, zI_in, zI_div, zI_rem, lg_lt0, lg_gt0, lg_eq0, lg_le0, lg_ge0, Int.toNat_natCast, ge_iff_le, gt_iff_lt, List.length_cons, List.length_nil, bl_up2_at, bl_up2_nk, bl_up2_nx] at h51
           first
           | (exfalso; omega)
           | (refine ⟨(by first | decide | (simp (disch := omega) only [zI_n, zI_o, zI_lit, zI_neg, zI_add, zI_sub, zI_mul, zI_lt, zI_le, zI_eq, zI_clamp, zI_in, zI_div, zI_rem, lg_lt0, lg_gt0, lg_eq0, lg_le0, lg_ge0, Int.toNat_natCast, ge_iff_le, gt_iff_lt, List.length_cons, List.length_nil, bl_up2_at, bl_up2_nk, bl_up2_nx] <;> omega)), fun h57 => ?_, fun h57 => ?_⟩
              · try simp (disch := omega) only [zI_n, zI_o, zI_lit, zI_neg, zI_add, zI_sub, zI_mul, zI_lt, zI_le, zI_eq, zI_clamp, zI_in, zI_div, zI_rem, lg_lt0, lg_gt0, lg_eq0, lg_le0, lg_ge0, Int.toNat_natCast, ge_iff_le, gt_iff_lt, List.length_cons, List.length_nil, bl_up2_at, bl_up2_nk, bl_up2_nx] at h57
                first
                | (exfalso; omega)
                | (refine ⟨(fun _ => by first | exact Or.inl rfl | exact Or.inr rfl), ?_⟩
                   try show _ ∧ _
                   try dsimp only [bl_pv]
                   refine ⟨⟨_, rfl, ?_⟩, rfl⟩
                   first
                   | exact Or.inl ⟨rfl, by first | trivial | omega⟩
                   | exact Or.inr ⟨rfl, by omega⟩)
              · try simp (disch := omega) only [zI_n, zI_o, zI_lit, zI_neg, zI_add, zI_sub, zI_mul, zI_lt, zI_le, zI_eq, zI_clamp, zI_in, zI_div, zI_rem, lg_lt0, lg_gt0, lg_eq0, lg_le0, lg_ge0, Int.toNat_natCast, ge_iff_le, gt_iff_lt, List.length_cons, List.length_nil, bl_up2_at, bl_up2_nk, bl_up2_nx] at h57
                first
                | (exfalso; omega)
                | (refine ⟨(fun _ => by first | exact Or.inl rfl | exact Or.inr rfl), ?_⟩
                   try show _ ∧ _
                   try dsimp only [bl_pv]
                   refine ⟨⟨_, rfl, ?_⟩, rfl⟩
                   first
                   | exact Or.inl ⟨rfl, by first | trivial | omega⟩
                   | exact Or.inr ⟨rfl, by omega⟩)))
    | 2, ho1, h1 =>
      cases ho1
      first
      | (exfalso; omega)
      | (refine ⟨(by first | decide | (simp (disch := omega) only [zI_n, zI_o, zI_lit, zI_neg, zI_add, zI_sub, zI_mul, zI_lt, zI_le, zI_eq, zI_clamp, zI_in, zI_div, zI_rem, lg_lt0, lg_gt0, lg_eq0, lg_le0, lg_ge0, Int.toNat_natCast, ge_iff_le, gt_iff_lt, List.length_cons, List.length_nil, bl_up2_at, bl_up2_nk, bl_up2_nx] <;> omega)), fun h69 => ?_, fun h69 => ?_⟩
         · try simp (disch := omega) only [zI_n, zI_o, zI_lit, zI_neg, zI_add, zI_sub, zI_mul, zI_lt, zI_le, zI_eq, zI_clamp, zI_in, zI_div, zI_rem, lg_lt0, lg_gt0, lg_eq0, lg_le0, lg_ge0, Int.toNat_natCast, ge_iff_le, gt_iff_lt, List.length_cons, List.length_nil, bl_up2_at, bl_up2_nk, bl_up2_nx] at h69
           first
           | (exfalso; omega)
           | (refine ⟨(fun _ => by first | exact Or.inl rfl | exact Or.inr rfl), ?_⟩
              try show _ ∧ _
              try dsimp only [bl_pv]
              refine ⟨⟨_, rfl, ?_⟩, rfl⟩
              first
              | exact Or.inl ⟨rfl, by first | trivial | omega⟩
              | exact Or.inr ⟨rfl, by omega⟩)
         · try simp (disch := omega) only [zI_n, zI_o, zI_lit, zI_neg, zI_add, zI_sub, zI_mul, zI_lt, zI_le, zI_eq, zI_clamp, zI_in, zI_div, zI_rem, lg_lt0, lg_gt0, lg_eq0, lg_le0, lg_ge0, Int.toNat_natCast, ge_iff_le, gt_iff_lt, List.length_cons, List.length_nil, bl_up2_at, bl_up2_nk, bl_up2_nx] at h69
           first
           | (exfalso; omega)
           | (refine ⟨(fun _ => by first | exact Or.inl rfl | exact Or.inr rfl), ?_⟩
              try show _ ∧ _
              try dsimp only [bl_pv]
              refine ⟨⟨_, rfl, ?_⟩, rfl⟩
              first
              | exact Or.inl ⟨rfl, by first | trivial | omega⟩
              | exact Or.inr ⟨rfl, by omega⟩))
    | 3, ho1, h1 =>
      cases ho1
      first
      | (exfalso; omega)
      | (refine ⟨fun h82 => ?_, fun h82 => ?_⟩
         · try simp (disch := omega) only [zI_n, zI_o, zI_lit, zI_neg, zI_add, zI_sub, zI_mul, zI_lt, zI_le, zI_eq, zI_clamp, zI_in, zI_div, zI_rem, lg_lt0, lg_gt0, lg_eq0, lg_le0, lg_ge0, Int.toNat_natCast, ge_iff_le, gt_iff_lt, List.length_cons, List.length_nil, bl_up2_at, bl_up2_nk, bl_up2_nx] at h82
           first
           | (exfalso; omega)
           | (refine ⟨(fun _ => by first | exact Or.inl rfl | exact Or.inr rfl), ?_⟩
              try show _ ∧ _
              try dsimp only [bl_pv]
              refine ⟨⟨_, rfl, ?_⟩, rfl⟩
              first
              | exact Or.inl ⟨rfl, by first | trivial | omega⟩
              | exact Or.inr ⟨rfl, by omega⟩)
         · try simp (disch := omega) only [zI_n, zI_o, zI_lit, zI_neg, zI_add, zI_sub, zI_mul, zI_lt, zI_le, zI_eq, zI_clamp, zI_in, zI_div, zI_rem, lg_lt0, lg_gt0, lg_eq0, lg_le0, lg_ge0, Int.toNat_natCast, ge_iff_le, gt_iff_lt, List.length_cons, List.length_nil, bl_up2_at, bl_up2_nk, bl_up2_nx] at h82
           first
           | (exfalso; omega)
           | (refine ⟨(fun _ => by first | exact Or.inl rfl | exact Or.inr rfl), ?_⟩
              try show _ ∧ _
              try dsimp only [bl_pv]
              refine ⟨⟨_, rfl, ?_⟩, rfl⟩
              first
              | exact Or.inl ⟨rfl, by first | trivial | omega⟩
              | exact Or.inr ⟨rfl, by omega⟩))
    | 4, ho1, h1 =>
      cases ho1
      first
      | (exfalso; omega)
      | (refine ⟨fun h95 => ?_, fun h95 => ?_⟩
         · try simp (disch := omega) only [zI_n, zI_o, zI_lit, zI_neg, zI_add, zI_sub, zI_mul, zI_lt, zI_le, zI_eq, zI_clamp, zI_in, zI_div, zI_rem, lg_lt0, lg_gt0, lg_eq0, lg_le0, lg_ge0, Int.toNat_natCast, ge_iff_le, gt_iff_lt, List.length_cons, List.length_nil, bl_up2_at, bl_up2_nk, bl_up2_nx] at h95
           first
           | (exfalso; omega)
           | (refine ⟨(fun _ => by first | exact Or.inl rfl | exact Or.inr rfl), ?_⟩
              try show _ ∧ _
              try dsimp only [bl_pv]
              refine ⟨⟨_, rfl, ?_⟩, rfl⟩
              first
              | exact Or.inl ⟨rfl, by first | trivial | omega⟩
              | exact Or.inr ⟨rfl, by omega⟩)
         · try simp (disch := omega) only [zI_n, zI_o, zI_lit, zI_neg, zI_add, zI_sub, zI_mul, zI_lt, zI_le, zI_eq, zI_clamp, zI_in, zI_div, zI_rem, lg_lt0, lg_gt0, lg_eq0, lg_le0, lg_ge0, Int.toNat_natCast, ge_iff_le, gt_iff_lt, List.length_cons, List.length_nil, bl_up2_at, bl_up2_nk, bl_up2_nx] at h95
           first
           | (exfalso; omega)
           | (refine ⟨(fun _ => by first | exact Or.inl rfl | exact Or.inr rfl), ?_⟩
              try show _ ∧ _
              try dsimp only [bl_pv]
              refine ⟨⟨_, rfl, ?_⟩, rfl⟩
              first
              | exact Or.inl ⟨rfl, by first | trivial | omega⟩
              | exact Or.inr ⟨rfl, by omega⟩))
    | _ + 5, ho1, _ => exact absurd ho1 (by simp)
theorem c_Slab_canTake {k n L : Nat} {x y z : Int32} (hx : x = nI k) (hy : y = nI n) (hz : z = nI L) (hk : st_ok k n) (hL : L ≤ 48) : bl_MC G l d mX7_canTake [.int x, .int y, .int z] (I, J, R, K, N) (0, 0) (fun o σ' => (∃ w, o = .inl (some (.int w)) ∧ ((w = 1 ∧ sl_can k n L) ∨ (w = 0 ∧ ¬ sl_can k n L))) ∧ σ' = (I, J, R, K, N)) := by
  obtain ⟨h1, h2, h3, h4⟩ := hk
  have hn : n = 0 ∨ n = 1 ∨ n = 2 ∨ n = 3 ∨ n = 4 ∨ 4 < n := by omega
  match k, h1 with
  | 0, _ => exact c_Slab_canTake_0 hx hy hz h2 hL
  | 1, _ =>
    have h3' := h3 (by omega)
    rcases hn with h | h | h | h | h | h
    · omega
    · omega
    · subst h; exact c_Slab_canTake_1_2 hx hy hz hL
    · subst h; exact c_Slab_canTake_1_3 hx hy hz hL
    · subst h; exact c_Slab_canTake_1_4 hx hy hz hL
    · omega
  | 2, _ => exact c_Slab_canTake_2 hx hy hz h2 hL
  | 3, _ => exact c_Slab_canTake_3 hx hy hz h2 hL
  | 4, _ => exact c_Slab_canTake_4 hx hy hz h2 hL
  | 5, _ => exact c_Slab_canTake_5 hx hy hz h2 hL
  | 6, _ => exact c_Slab_canTake_6 hx hy hz h2 hL
  | 7, _ => exact c_Slab_canTake_7 hx hy hz h2 hL
theorem c_Slab_layEach {c L w : Nat} {x : Int32} (kb : K b = 8) (rb_1 : R b 1 = some (2 * b + 1)) (kbd : K (2 * b + 1) = 7) (hx : x = nI c) (hc : c < 2147483648) (hL : I (2 * b + 1) 2 = nI L) (hL2 : L ≤ 48) (hw : J b 3 = nJ w) : bl_MC G l d mX7_layEach [.ref b, .int x] (I, J, R, K, N) (0, 0) (fun o σ' => o = .inl none ∧ σ' = (I, bl_up2 J b 3 (nJ (w + c * L)), R, K, N)) := by
  subst hx
  refine bl_MC_intro (by decide +kernel) rfl (Nat.le_of_ble_eq_true rfl) ?_
  refine bl_go oX7_layEach 80 [] rfl ?_
  refine ⟨rfl, kb, kb, _, bl_vs rb_1, kbd, kb, Or.inr (Or.inl ⟨rfl, rfl, _, rfl⟩), (fun h => by cases h), ?_⟩
  try show _ ∧ _
  try dsimp only [bl_pv]
  rw [hL, hw, zI_n, zI_n, nJ_ofI hc, nJ_ofI (by omega), nJ_mul, nJ_add]
  exact ⟨rfl, rfl⟩
end SLAB
