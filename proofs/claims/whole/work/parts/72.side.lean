/-! ===== Side ===== -/
def sdS (R : Nat → Nat → Option Nat) (K N : Nat → Nat) (s : Nat) : Prop := (2000 ≤ s ∧ s < 3000) ∧ K s = 7 ∧ R s 0 = some (s + 1000) ∧ R s 1 = some (s + 2000) ∧ K (s + 1000) = 21 ∧ N (s + 1000) = 48 ∧ K (s + 2000) = 21 ∧ N (s + 2000) = 48
def sdC (I : Nat → Nat → Int32) (J : Nat → Nat → Int64) (s : Nat) (S : sq) : Prop := I s 2 = nI S.1 ∧ S.1 ≤ 48 ∧ ∀ i, i < S.1 → J (s + 1000) i = nJ (S.2.1 i) ∧ J (s + 2000) i = nJ (S.2.2 i)
/-- nothing but the side s has changed -/
def sdM (I I' : Nat → Nat → Int32) (J J' : Nat → Nat → Int64) (s : Nat) : Prop := (∀ x, x ≠ s → I' x = I x) ∧ ∀ x, x ≠ s + 1000 → x ≠ s + 2000 → J' x = J x
theorem sdM.trans {I I' I'' : Nat → Nat → Int32} {J J' J'' : Nat → Nat → Int64} {s : Nat} (h : sdM I I' J J' s) (h' : sdM I' I'' J' J'' s) : sdM I I'' J J'' s :=
  ⟨fun x hx => (h'.1 x hx).trans (h.1 x hx), fun x h1 h2 => (h'.2 x h1 h2).trans (h.2 x h1 h2)⟩
theorem sdM.rfl' {I : Nat → Nat → Int32} {J : Nat → Nat → Int64} {s : Nat} : sdM I I J J s := ⟨fun _ _ => rfl, fun _ _ _ => rfl⟩
theorem sdC.other {I I' : Nat → Nat → Int32} {J J' : Nat → Nat → Int64} {R : Nat → Nat → Option Nat} {K N : Nat → Nat} {s f : Nat} {S : sq} (h : sdC I J f S) (hm : sdM I I' J J' s) (hs : sdS R K N s) (hf : sdS R K N f) (hsf : s ≠ f) : sdC I' J' f S := by
  have a := hs.1; have b := hf.1
  refine ⟨?_, h.2.1, fun i hi => ?_⟩
  · rw [hm.1 f (by omega)]; exact h.1
  · rw [hm.2 (f + 1000) (by omega) (by omega), hm.2 (f + 2000) (by omega) (by omega)]; exact h.2.2 i hi
theorem sdC.congr {I : Nat → Nat → Int32} {J : Nat → Nat → Int64} {s : Nat} {S T : sq} (h : sdC I J s S) (h1 : S.1 = T.1) (h2 : ∀ j, j < T.1 → S.2.1 j = T.2.1 j ∧ S.2.2 j = T.2.2 j) : sdC I J s T := by
  refine ⟨h1 ▸ h.1, h1 ▸ h.2.1, fun i hi => ?_⟩
  have := h.2.2 i (by omega)
  rw [(h2 i hi).1, (h2 i hi).2] at this
  exact this
/-- two rows of a side filled up to i -/
def sd2 (J J1 : Nat → Nat → Int64) (s : Nat) (f g : Nat → Nat) (i : Nat) : Prop := (∀ x, x ≠ s + 1000 → x ≠ s + 2000 → J1 x = J x) ∧ ∀ j, j < i → J1 (s + 1000) j = nJ (f j) ∧ J1 (s + 2000) j = nJ (g j)
theorem sd2_0 {J : Nat → Nat → Int64} {s : Nat} {f g : Nat → Nat} : sd2 J J s f g 0 := ⟨fun _ _ _ => rfl, fun _ h => absurd h (Nat.not_lt_zero _)⟩
theorem sd2_s {J J1 : Nat → Nat → Int64} {s i : Nat} {f g : Nat → Nat} {v w : Int64} (h : sd2 J J1 s f g i) (hv : v = nJ (f i)) (hw : w = nJ (g i)) : sd2 J (bl_up2 (bl_up2 J1 (s + 1000) i v) (s + 2000) i w) s f g (i + 1) := by
  refine ⟨fun x h1 h2 => ?_, fun j hj => ?_⟩
  · rw [bl_up2_ne h2, bl_up2_ne h1]; exact h.1 x h1 h2
  · rw [bl_up2_ne (show s + 1000 ≠ s + 2000 by omega)]
    by_cases e : j = i
    · subst e; rw [bl_up2_at, bl_up2_at]; exact ⟨hv, hw⟩
    · rw [bl_up2_nk e, bl_up2_nk e, bl_up2_ne (show s + 2000 ≠ s + 1000 by omega)]; exact h.2 j (by omega)
theorem sd2_C {I : Nat → Nat → Int32} {J J1 : Nat → Nat → Int64} {s n : Nat} {f g : Nat → Nat} (h : sd2 J J1 s f g n) (hn : n ≤ 48) : sdM I (bl_up2 I s 2 (nI n)) J J1 s ∧ sdC (bl_up2 I s 2 (nI n)) J1 s (n, f, g) :=
  ⟨⟨fun _ hx => bl_up2_ne hx, h.1⟩, bl_up2_at, hn, h.2⟩
/-! what is done to a side -/
def sd_first (c rim : Nat) : sq := (c, fun _ => 1, fun i => if i < rim ∨ c - rim ≤ i then 0 else 1)
def sd_part (S : sq) (p c : Nat) : sq := (c, fun i => S.2.1 (p + i), fun i => S.2.2 (p + i))
def sd_roll (S : sq) (n : Nat) : sq := (S.1 * n, fun i => S.2.1 (i / n), fun i => S.2.2 (i / n))
def sd_on (T S : sq) (to col : Nat) : sq := (T.1, fun j => if j = to then T.2.1 j + S.2.1 col else T.2.1 j, fun j => if j = to then T.2.2 j + S.2.2 col else T.2.2 j)
def fo2 (L : Nat) (f : Nat → Nat) (i : Nat) : Nat := f i + f (L - 1 - i)
def fo3 (L : Nat) (f : Nat → Nat) (i : Nat) : Nat := f (L / 3 + i) + f (L - 1 - i) + f (L / 3 - 1 - i)
def fo4 (L : Nat) (f : Nat → Nat) (i : Nat) : Nat := f i + f (L - 1 - i) + f (2 * (L / 4) - 1 - i) + f (2 * (L / 4) + i)
def bo4 (L : Nat) (f : Nat → Nat) (i : Nat) : Nat := f (L / 4 + i) + f (L / 4 - 1 - i) + f (3 * (L / 4) - 1 - i) + f (3 * (L / 4) + i)
def tu1 (n L : Nat) (f : Nat → Nat) (j : Nat) : Nat := if j < n then f (n + j) + f (n - 1 - j) else if L - 3 * n ≤ j then f (n + j) + f (2 * L - 3 * n - 1 - j) else f (n + j)
/-- the greatest, the least, the sum of the first n -/
def mxf (f : Nat → Nat) : Nat → Nat
  | 0 => 0
  | i + 1 => if f i > mxf f i then f i else mxf f i
def mnf (f : Nat → Nat) : Nat → Nat
  | 0 => 1152921504606846976
  | i + 1 => if f i < mnf f i then f i else mnf f i
def smf (f : Nat → Nat) : Nat → Nat
  | 0 => 0
  | i + 1 => smf f i + f i
/-- the row of v that ends ahead of i, the longest one there -/
def rwf (f : Nat → Nat) (v : Nat) : Nat → Nat
  | 0 => 0
  | i + 1 => if f i = v then rwf f v i + 1 else 0
def lgf (f : Nat → Nat) (v : Nat) : Nat → Nat
  | 0 => 0
  | i + 1 => if lgf f v i < rwf f v (i + 1) then rwf f v (i + 1) else lgf f v i
theorem rwf_le (f : Nat → Nat) (v : Nat) : ∀ i, rwf f v i ≤ i
  | 0 => Nat.le_refl _
  | i + 1 => by
    have := rwf_le f v i
    show (if f i = v then rwf f v i + 1 else 0) ≤ i + 1
    split <;> omega
theorem lgf_le (f : Nat → Nat) (v : Nat) : ∀ i, lgf f v i ≤ i
  | 0 => Nat.le_refl _
  | i + 1 => by
    have := lgf_le f v i; have := rwf_le f v (i + 1)
    show (if lgf f v i < rwf f v (i + 1) then rwf f v (i + 1) else lgf f v i) ≤ i + 1
    split <;> omega
section SIDE
variable {G : bl_G} {l : Launch} {d s f : Nat} {I : Nat → Nat → Int32} {J : Nat → Nat → Int64} {R : Nat → Nat → Option Nat} {K N : Nat → Nat}
theorem c_Side_layFirst {c rim : Nat} {x y : Int32} (hs : sdS R K N s) (hx : x = nI c) (hy : y = nI rim) (hc : c ≤ 48) (hr : rim ≤ c) : bl_MC G l d mX6_layFirst [.ref s, .int x, .int y] (I, J, R, K, N) (0, 0) (fun o σ' => o = .inl none ∧ ∃ I' J', σ' = (I', J', R, K, N) ∧ sdM I I' J J' s ∧ sdC I' J' s (sd_first c rim)) := by
  obtain ⟨hr1, ks, rs_0, rs_1, kp, np, km, nm⟩ := hs
  subst hx hy
  refine bl_MC_intro (by decide +kernel) rfl (Nat.le_of_ble_eq_true rfl) ?_
  have L : ∀ i, i ≤ c → ∀ x J1, x = nI i → sd2 J J1 s (fun _ => 1) (fun i => if i < rim ∨ c - rim ≤ i then 0 else 1) i → bl_WP G l d mX6_layFirst 7 [(3, .int x), (0, .ref s), (1, .int (nI c)), (2, .int (nI rim))] [] (bl_up2 I s 2 (nI c), J1, R, K, N) (0, 0) (fun o σ' => o = .inl none ∧ ∃ I' J', σ' = (I', J', R, K, N) ∧ sdM I I' J J' s ∧ sdC I' J' s (sd_first c rim)) := by
    refine bl_for c ?_ (fun i hi ih => ?_)
    · intro x J1 hx hJ; subst hx
      refine bl_go oX6_layFirst 80 [7] rfl ?_
      refine ⟨fun h9 => ?_, fun h9 => ?_⟩
      · try simp (disch := omega) only [zI_n, zI_o, zI_lit, zI_neg, zI_add, zI_sub, zI_mul, zI_lt, zI_le, zI_eq, zI_clamp, zI_in, zI_div, zI_rem, lg_lt0, lg_gt0, lg_eq0, lg_le0, lg_ge0, Int.toNat_natCast, ge_iff_le, gt_iff_lt, List.length_cons, List.length_nil, bl_up2_at, bl_up2_nk, bl_up2_nx] at h9
        first
        | (exfalso; omega)
        | (try show _ ∧ _
           try dsimp only [bl_pv]
           exact ⟨rfl, _, _, rfl, sd2_C hJ hc⟩)
      · try simp (disch := omega) only [zI_n, zI_o, zI_lit, zI_neg, zI_add, zI_sub, zI_mul, zI_lt, zI_le, zI_eq, zI_clamp, zI_in, zI_div, zI_rem, lg_lt0, lg_gt0, lg_eq0, lg_le0, lg_ge0, Int.toNat_natCast, ge_iff_le, gt_iff_lt, List.length_cons, List.length_nil, bl_up2_at, bl_up2_nk, bl_up2_nx] at h9
        first
        | (exfalso; omega)
        | (refine ⟨fun h15 => ?_, fun h15 => ?_⟩
           · try simp (disch := omega) only [zI_n, zI_o, zI_lit, zI_neg, zI_add, zI_sub, zI_mul, zI_lt, zI_le, zI_eq, zI_clamp, zI_in, zI_div, zI_rem, lg_lt0, lg_gt0, lg_eq0, lg_le0, lg_ge0, Int.toNat_natCast, ge_iff_le, gt_iff_lt, List.length_cons, List.length_nil, bl_up2_at, bl_up2_nk, bl_up2_nx] at h15
             first
             | (exfalso; omega)
             | (try show _ ∧ _
                try dsimp only [bl_pv]
                exact ⟨rfl, _, _, rfl, sd2_C hJ hc⟩)
           · try simp (disch := omega) only [zI_n, zI_o, zI_lit, zI_neg, zI_add, zI_sub, zI_mul, zI_lt, zI_le, zI_eq, zI_clamp, zI_in, zI_div, zI_rem, lg_lt0, lg_gt0, lg_eq0, lg_le0, lg_ge0, Int.toNat_natCast, ge_iff_le, gt_iff_lt, List.length_cons, List.length_nil, bl_up2_at, bl_up2_nk, bl_up2_nx] at h15
             first
             | (exfalso; omega)
             | (refine ⟨ks, _, bl_vs rs_0, kp, (by first | exact (by rw [np]; exact vp_in_nI (by omega) (by omega)) | ((try dsimp only [bl_pv]); show vp_in _ (N _); rw [np]; simp (disch := omega) only [zI_n, zI_o, zI_lit, zI_neg, zI_add, zI_sub, zI_mul, zI_lt, zI_le, zI_eq, zI_clamp, zI_in, zI_div, zI_rem, lg_lt0, lg_gt0, lg_eq0, lg_le0, lg_ge0, Int.toNat_natCast, ge_iff_le, gt_iff_lt, List.length_cons, List.length_nil, bl_up2_at, bl_up2_nk, bl_up2_nx] <;> omega)), ks, _, bl_vs rs_1, fun h32 => ?_, fun h32 => ?_⟩
                · try simp (disch := omega) only [zI_n, zI_o, zI_lit, zI_neg, zI_add, zI_sub, zI_mul, zI_lt, zI_le, zI_eq, zI_clamp, zI_in, zI_div, zI_rem, lg_lt0, lg_gt0, lg_eq0, lg_le0, lg_ge0, Int.toNat_natCast, ge_iff_le, gt_iff_lt, List.length_cons, List.length_nil, bl_up2_at, bl_up2_nk, bl_up2_nx] at h32
                  first
                  | (exfalso; omega)
                  | (refine ⟨km, (by first | exact (by rw [nm]; exact vp_in_nI (by omega) (by omega)) | ((try dsimp only [bl_pv]); show vp_in _ (N _); rw [nm]; simp (disch := omega) only [zI_n, zI_o, zI_lit, zI_neg, zI_add, zI_sub, zI_mul, zI_lt, zI_le, zI_eq, zI_clamp, zI_in, zI_div, zI_rem, lg_lt0, lg_gt0, lg_eq0, lg_le0, lg_ge0, Int.toNat_natCast, ge_iff_le, gt_iff_lt, List.length_cons, List.length_nil, bl_up2_at, bl_up2_nk, bl_up2_nx] <;> omega)), ?_⟩
                     try dsimp only [bl_pv]
                     fail /- w7 lv=[3, 0, 1, 2] -/)
                · try simp (disch := omega) only [zI_n, zI_o, zI_lit, zI_neg, zI_add, zI_sub, zI_mul, zI_lt, zI_le, zI_eq, zI_clamp, zI_in, zI_div, zI_rem, lg_lt0, lg_gt0, lg_eq0, lg_le0, lg_ge0, Int.toNat_natCast, ge_iff_le, gt_iff_lt, List.length_cons, List.length_nil, bl_up2_at, bl_up2_nk, bl_up2_nx] at h32
                  first
                  | (exfalso; omega)
                  | (refine ⟨fun h39 => ?_, fun h39 => ?_⟩
                     · try simp (disch := omega) only [zI_n, zI_o, zI_lit, zI_neg, zI_add, zI_sub, zI_mul, zI_lt, zI_le, zI_eq, zI_clamp, zI_in, zI_div, zI_rem, lg_lt0, lg_gt0, lg_eq0, lg_le0, lg_ge0, Int.toNat_natCast, ge_iff_le, gt_iff_lt, List.length_cons, List.length_nil, bl_up2_at, bl_up2_nk, bl_up2_nx] at h39
                       first
                       | (exfalso; omega)
                       | (refine ⟨km, (by first | exact (by rw [nm]; exact vp_in_nI (by omega) (by omega)) | ((try dsimp only [bl_pv]); show vp_in _ (N _); rw [nm]; simp (disch := omega) only [zI_n, zI_o, zI_lit, zI_neg, zI_add, zI_sub, zI_mul, zI_lt, zI_le, zI_eq, zI_clamp, zI_in, zI_div, zI_rem, lg_lt0, lg_gt0, lg_eq0, lg_le0, lg_ge0, Int.toNat_natCast, ge_iff_le, gt_iff_lt, List.length_cons, List.length_nil, bl_up2_at, bl_up2_nk, bl_up2_nx] <;> omega)), ?_⟩
                          try dsimp only [bl_pv]
                          fail /- w7 lv=[3, 0, 1, 2] -/)
                     · try simp (disch := omega) only [zI_n, zI_o, zI_lit, zI_neg, zI_add, zI_sub, zI_mul, zI_lt, zI_le, zI_eq, zI_clamp, zI_in, zI_div, zI_rem, lg_lt0, lg_gt0, lg_eq0, lg_le0, lg_ge0, Int.toNat_natCast, ge_iff_le, gt_iff_lt, List.length_cons, List.length_nil, bl_up2_at, bl_up2_nk, bl_up2_nx] at h39
                       first
                       | (exfalso; omega)
                       | (refine ⟨km, (by first | exact (by rw [nm]; exact vp_in_nI (by omega) (by omega)) | ((try dsimp only [bl_pv]); show vp_in _ (N _); rw [nm]; simp (disch := omega) only [zI_n, zI_o, zI_lit, zI_neg, zI_add, zI_sub, zI_mul, zI_lt, zI_le, zI_eq, zI_clamp, zI_in, zI_div, zI_rem, lg_lt0, lg_gt0, lg_eq0, lg_le0, lg_ge0, Int.toNat_natCast, ge_iff_le, gt_iff_lt, List.length_cons, List.length_nil, bl_up2_at, bl_up2_nk, bl_up2_nx] <;> omega)), ?_⟩
                          try dsimp only [bl_pv]
                          fail /- w7 lv=[3, 0, 1, 2] -/))))
    · intro x J1 hx hJ; subst hx
      have ec : (nI i).toNatClampNeg = i := nI_clamp (by omega)
      refine bl_go oX6_layFirst 80 [7] rfl ?_
      refine ⟨fun h9 => ?_, fun h9 => ?_⟩
      · try simp (disch := omega) only [zI_n, zI_o, zI_lit, zI_neg, zI_add, zI_sub, zI_mul, zI_lt, zI_le, zI_eq, zI_clamp, zI_in, zI_div, zI_rem, lg_lt0, lg_gt0, lg_eq0, lg_le0, lg_ge0, Int.toNat_natCast, ge_iff_le, gt_iff_lt, List.length_cons, List.length_nil, bl_up2_at, bl_up2_nk, bl_up2_nx] at h9
        first
        | (exfalso; omega)
        | (try show _ ∧ _
           try dsimp only [bl_pv]
           fail /- ret54 -/)
      · try simp (disch := omega) only [zI_n, zI_o, zI_lit, zI_neg, zI_add, zI_sub, zI_mul, zI_lt, zI_le, zI_eq, zI_clamp, zI_in, zI_div, zI_rem, lg_lt0, lg_gt0, lg_eq0, lg_le0, lg_ge0, Int.toNat_natCast, ge_iff_le, gt_iff_lt, List.length_cons, List.length_nil, bl_up2_at, bl_up2_nk, bl_up2_nx] at h9
        first
        | (exfalso; omega)
        | (refine ⟨fun h15 => ?_, fun h15 => ?_⟩
           · try simp (disch := omega) only [zI_n, zI_o, zI_lit, zI_neg, zI_add, zI_sub, zI_mul, zI_lt, zI_le, zI_eq, zI_clamp, zI_in, zI_div, zI_rem, lg_lt0, lg_gt0, lg_eq0, lg_le0, lg_ge0, Int.toNat_natCast, ge_iff_le, gt_iff_lt, List.length_cons, List.length_nil, bl_up2_at, bl_up2_nk, bl_up2_nx] at h15
             first
             | (exfalso; omega)
             | (try show _ ∧ _
                try dsimp only [bl_pv]
                fail /- ret54 -/)
           · try simp (disch := omega) only [zI_n, zI_o, zI_lit, zI_neg, zI_add, zI_sub, zI_mul, zI_lt, zI_le, zI_eq, zI_clamp, zI_in, zI_div, zI_rem, lg_lt0, lg_gt0, lg_eq0, lg_le0, lg_ge0, Int.toNat_natCast, ge_iff_le, gt_iff_lt, List.length_cons, List.length_nil, bl_up2_at, bl_up2_nk, bl_up2_nx] at h15
             first
             | (exfalso; omega)
             | (refine ⟨ks, _, bl_vs rs_0, kp, (by first | exact (by rw [np]; exact vp_in_nI (by omega) (by omega)) | ((try dsimp only [bl_pv]); show vp_in _ (N _); rw [np]; simp (disch := omega) only [zI_n, zI_o, zI_lit, zI_neg, zI_add, zI_sub, zI_mul, zI_lt, zI_le, zI_eq, zI_clamp, zI_in, zI_div, zI_rem, lg_lt0, lg_gt0, lg_eq0, lg_le0, lg_ge0, Int.toNat_natCast, ge_iff_le, gt_iff_lt, List.length_cons, List.length_nil, bl_up2_at, bl_up2_nk, bl_up2_nx] <;> omega)), ks, _, bl_vs rs_1, fun h32 => ?_, fun h32 => ?_⟩
                · try simp (disch := omega) only [zI_n, zI_o, zI_lit, zI_neg, zI_add, zI_sub, zI_mul, zI_lt, zI_le, zI_eq, zI_clamp, zI_in, zI_div, zI_rem, lg_lt0, lg_gt0, lg_eq0, lg_le0, lg_ge0, Int.toNat_natCast, ge_iff_le, gt_iff_lt, List.length_cons, List.length_nil, bl_up2_at, bl_up2_nk, bl_up2_nx] at h32
                  first
                  | (exfalso; omega)
                  | (refine ⟨km, (by first | exact (by rw [nm]; exact vp_in_nI (by omega) (by omega)) | ((try dsimp only [bl_pv]); show vp_in _ (N _); rw [nm]; simp (disch := omega) only [zI_n, zI_o, zI_lit, zI_neg, zI_add, zI_sub, zI_mul, zI_lt, zI_le, zI_eq, zI_clamp, zI_in, zI_div, zI_rem, lg_lt0, lg_gt0, lg_eq0, lg_le0, lg_ge0, Int.toNat_natCast, ge_iff_le, gt_iff_lt, List.length_cons, List.length_nil, bl_up2_at, bl_up2_nk, bl_up2_nx] <;> omega)), ?_⟩
                     try dsimp only [bl_pv]
                     refine ih _ _ (nI_1 i) ?_
                     rw [ec]
                     refine sd2_s hJ rfl ?_
                     first
                     | (rw [if_pos (by omega)]; rfl)
                     | (rw [if_neg (by omega)]; rfl))
                · try simp (disch := omega) only [zI_n, zI_o, zI_lit, zI_neg, zI_add, zI_sub, zI_mul, zI_lt, zI_le, zI_eq, zI_clamp, zI_in, zI_div, zI_rem, lg_lt0, lg_gt0, lg_eq0, lg_le0, lg_ge0, Int.toNat_natCast, ge_iff_le, gt_iff_lt, List.length_cons, List.length_nil, bl_up2_at, bl_up2_nk, bl_up2_nx] at h32
                  first
                  | (exfalso; omega)
                  | (refine ⟨fun h39 => ?_, fun h39 => ?_⟩
                     · try simp (disch := omega) only [zI_n, zI_o, zI_lit, zI_neg, zI_add, zI_sub, zI_mul, zI_lt, zI_le, zI_eq, zI_clamp, zI_in, zI_div, zI_rem, lg_lt0, lg_gt0, lg_eq0, lg_le0, lg_ge0, Int.toNat_natCast, ge_iff_le, gt_iff_lt, List.length_cons, List.length_nil, bl_up2_at, bl_up2_nk, bl_up2_nx] at h39
                       first
                       | (exfalso; omega)
                       | (refine ⟨km, (by first | exact (by rw [nm]; exact vp_in_nI (by omega) (by omega)) | ((try dsimp only [bl_pv]); show vp_in _ (N _); rw [nm]; simp (disch := omega) only [zI_n, zI_o, zI_lit, zI_neg, zI_add, zI_sub, zI_mul, zI_lt, zI_le, zI_eq, zI_clamp, zI_in, zI_div, zI_rem, lg_lt0, lg_gt0, lg_eq0, lg_le0, lg_ge0, Int.toNat_natCast, ge_iff_le, gt_iff_lt, List.length_cons, List.length_nil, bl_up2_at, bl_up2_nk, bl_up2_nx] <;> omega)), ?_⟩
                          try dsimp only [bl_pv]
                          refine ih _ _ (nI_1 i) ?_
                          rw [ec]
                          refine sd2_s hJ rfl ?_
                          first
                          | (rw [if_pos (by omega)]; rfl)
                          | (rw [if_neg (by omega)]; rfl))
                     · try simp (disch := omega) only [zI_n, zI_o, zI_lit, zI_neg, zI_add, zI_sub, zI_mul, zI_lt, zI_le, zI_eq, zI_clamp, zI_in, zI_div, zI_rem, lg_lt0, lg_gt0, lg_eq0, lg_le0, lg_ge0, Int.toNat_natCast, ge_iff_le, gt_iff_lt, List.length_cons, List.length_nil, bl_up2_at, bl_up2_nk, bl_up2_nx] at h39
                       first
                       | (exfalso; omega)
                       | (refine ⟨km, (by first | exact (by rw [nm]; exact vp_in_nI (by omega) (by omega)) | ((try dsimp only [bl_pv]); show vp_in _ (N _); rw [nm]; simp (disch := omega) only [zI_n, zI_o, zI_lit, zI_neg, zI_add, zI_sub, zI_mul, zI_lt, zI_le, zI_eq, zI_clamp, zI_in, zI_div, zI_rem, lg_lt0, lg_gt0, lg_eq0, lg_le0, lg_ge0, Int.toNat_natCast, ge_iff_le, gt_iff_lt, List.length_cons, List.length_nil, bl_up2_at, bl_up2_nk, bl_up2_nx] <;> omega)), ?_⟩
                          try dsimp only [bl_pv]
                          refine ih _ _ (nI_1 i) ?_
                          rw [ec]
                          refine sd2_s hJ rfl ?_
                          first
                          | (rw [if_pos (by omega)]; rfl)
                          | (rw [if_neg (by omega)]; rfl)))))
  refine bl_go oX6_layFirst 80 [7] rfl ?_
  refine ⟨ks, Or.inr (Or.inr ⟨rfl, rfl, _, rfl⟩), (fun h => by cases h), ?_⟩
  try dsimp only [bl_pv]
  exact L 0 (by omega) _ _ rfl sd2_0
theorem c_Side_partOf {S : sq} {fr c : Nat} {x y : Int32} (hs : sdS R K N s) (hf : sdS R K N f) (hsf : s ≠ f) (hC : sdC I J f S) (hx : x = nI fr) (hy : y = nI c) (hc : fr + c ≤ S.1) : bl_MC G l d mX6_partOf [.ref s, .ref f, .int x, .int y] (I, J, R, K, N) (0, 0) (fun o σ' => o = .inl none ∧ ∃ I' J', σ' = (I', J', R, K, N) ∧ sdM I I' J J' s ∧ sdC I' J' s (sd_part S fr c)) := by
  obtain ⟨hr1, ks, rs_0, rs_1, kp, np, km, nm⟩ := hs
  obtain ⟨hr2, kf, rf_0, rf_1, kfp, nfp, kfm, nfm⟩ := hf
  obtain ⟨c0, c1, c2⟩ := hC
  subst hx hy
  refine bl_MC_intro (by decide +kernel) rfl (Nat.le_of_ble_eq_true rfl) ?_
  have L : ∀ i, i ≤ c → ∀ x J1, x = nI i → sd2 J J1 s (fun i => S.2.1 (fr + i)) (fun i => S.2.2 (fr + i)) i → bl_WP G l d mX6_partOf 8 [(4, .int x), (0, .ref s), (1, .ref f), (2, .int (nI fr)), (3, .int (nI c))] [] (bl_up2 I s 2 (nI c), J1, R, K, N) (0, 0) (fun o σ' => o = .inl none ∧ ∃ I' J', σ' = (I', J', R, K, N) ∧ sdM I I' J J' s ∧ sdC I' J' s (sd_part S fr c)) := by
    refine bl_for c ?_ (fun i hi ih => ?_)
    · intro x J1 hx hJ; subst hx
      refine bl_go oX6_partOf 80 [8] rfl ?_
      refine ⟨fun h11 => ?_, fun h11 => ?_⟩
      · try simp (disch := omega) only [zI_n, zI_o, zI_lit, zI_neg, zI_add, zI_sub, zI_mul, zI_lt, zI_le, zI_eq, zI_clamp, zI_in, zI_div, zI_rem, lg_lt0, lg_gt0, lg_eq0, lg_le0, lg_ge0, Int.toNat_natCast, ge_iff_le, gt_iff_lt, List.length_cons, List.length_nil, bl_up2_at, bl_up2_nk, bl_up2_nx] at h11
        first
        | (exfalso; omega)
        | (try show _ ∧ _
           try dsimp only [bl_pv]
           exact ⟨rfl, _, _, rfl, sd2_C hJ (by omega)⟩)
      · try simp (disch := omega) only [zI_n, zI_o, zI_lit, zI_neg, zI_add, zI_sub, zI_mul, zI_lt, zI_le, zI_eq, zI_clamp, zI_in, zI_div, zI_rem, lg_lt0, lg_gt0, lg_eq0, lg_le0, lg_ge0, Int.toNat_natCast, ge_iff_le, gt_iff_lt, List.length_cons, List.length_nil, bl_up2_at, bl_up2_nk, bl_up2_nx] at h11
        first
        | (exfalso; omega)
        | (refine ⟨fun h18 => ?_, fun h18 => ?_⟩
           · try simp (disch := omega) only [zI_n, zI_o, zI_lit, zI_neg, zI_add, zI_sub, zI_mul, zI_lt, zI_le, zI_eq, zI_clamp, zI_in, zI_div, zI_rem, lg_lt0, lg_gt0, lg_eq0, lg_le0, lg_ge0, Int.toNat_natCast, ge_iff_le, gt_iff_lt, List.length_cons, List.length_nil, bl_up2_at, bl_up2_nk, bl_up2_nx] at h18
             first
             | (exfalso; omega)
             | (try show _ ∧ _
                try dsimp only [bl_pv]
                exact ⟨rfl, _, _, rfl, sd2_C hJ (by omega)⟩)
           · try simp (disch := omega) only [zI_n, zI_o, zI_lit, zI_neg, zI_add, zI_sub, zI_mul, zI_lt, zI_le, zI_eq, zI_clamp, zI_in, zI_div, zI_rem, lg_lt0, lg_gt0, lg_eq0, lg_le0, lg_ge0, Int.toNat_natCast, ge_iff_le, gt_iff_lt, List.length_cons, List.length_nil, bl_up2_at, bl_up2_nk, bl_up2_nx] at h18
             first
             | (exfalso; omega)
             | (refine ⟨fun h29 => ?_, fun h29 => ?_⟩
                · try simp (disch := omega) only [zI_n, zI_o, zI_lit, zI_neg, zI_add, zI_sub, zI_mul, zI_lt, zI_le, zI_eq, zI_clamp, zI_in, zI_div, zI_rem, lg_lt0, lg_gt0, lg_eq0, lg_le0, lg_ge0, Int.toNat_natCast, ge_iff_le, gt_iff_lt, List.length_cons, List.length_nil, bl_up2_at, bl_up2_nk, bl_up2_nx] at h29
                  first
                  | (exfalso; omega)
                  | (refine bl_lv [0, 2, 3, 4, 5] rfl ?_
                     try dsimp only [bl_pv]
                     fail /- w8 lv=[4, 5, 0, 1, 2, 3] -/)
                · try simp (disch := omega) only [zI_n, zI_o, zI_lit, zI_neg, zI_add, zI_sub, zI_mul, zI_lt, zI_le, zI_eq, zI_clamp, zI_in, zI_div, zI_rem, lg_lt0, lg_gt0, lg_eq0, lg_le0, lg_ge0, Int.toNat_natCast, ge_iff_le, gt_iff_lt, List.length_cons, List.length_nil, bl_up2_at, bl_up2_nk, bl_up2_nx] at h29
                  first
                  | (exfalso; omega)
                  | (refine ⟨fun h36 => ?_, fun h36 => ?_⟩
                     · try simp (disch := omega) only [zI_n, zI_o, zI_lit, zI_neg, zI_add, zI_sub, zI_mul, zI_lt, zI_le, zI_eq, zI_clamp, zI_in, zI_div, zI_rem, lg_lt0, lg_gt0, lg_eq0, lg_le0, lg_ge0, Int.toNat_natCast, ge_iff_le, gt_iff_lt, List.length_cons, List.length_nil, bl_up2_at, bl_up2_nk, bl_up2_nx] at h36
                       first
                       | (exfalso; omega)
                       | (refine bl_lv [0, 2, 3, 4, 5] rfl ?_
                          try dsimp only [bl_pv]
                          fail /- w8 lv=[4, 5, 0, 1, 2, 3] -/)
                     · try simp (disch := omega) only [zI_n, zI_o, zI_lit, zI_neg, zI_add, zI_sub, zI_mul, zI_lt, zI_le, zI_eq, zI_clamp, zI_in, zI_div, zI_rem, lg_lt0, lg_gt0, lg_eq0, lg_le0, lg_ge0, Int.toNat_natCast, ge_iff_le, gt_iff_lt, List.length_cons, List.length_nil, bl_up2_at, bl_up2_nk, bl_up2_nx] at h36
                       first
                       | (exfalso; omega)
                       | (refine ⟨ks, _, bl_vs rs_0, kf, _, bl_vs rf_0, kfp, (by first | exact (by rw [nfp]; exact vp_in_nI (by omega) (by omega)) | ((try dsimp only [bl_pv]); show vp_in _ (N _); rw [nfp]; simp (disch := omega) only [zI_n, zI_o, zI_lit, zI_neg, zI_add, zI_sub, zI_mul, zI_lt, zI_le, zI_eq, zI_clamp, zI_in, zI_div, zI_rem, lg_lt0, lg_gt0, lg_eq0, lg_le0, lg_ge0, Int.toNat_natCast, ge_iff_le, gt_iff_lt, List.length_cons, List.length_nil, bl_up2_at, bl_up2_nk, bl_up2_nx] <;> omega)), kp, (by first | exact (by rw [np]; exact vp_in_nI (by omega) (by omega)) | ((try dsimp only [bl_pv]); show vp_in _ (N _); rw [np]; simp (disch := omega) only [zI_n, zI_o, zI_lit, zI_neg, zI_add, zI_sub, zI_mul, zI_lt, zI_le, zI_eq, zI_clamp, zI_in, zI_div, zI_rem, lg_lt0, lg_gt0, lg_eq0, lg_le0, lg_ge0, Int.toNat_natCast, ge_iff_le, gt_iff_lt, List.length_cons, List.length_nil, bl_up2_at, bl_up2_nk, bl_up2_nx] <;> omega)), ks, _, bl_vs rs_1, kf, _, bl_vs rf_1, kfm, (by first | exact (by rw [nfm]; exact vp_in_nI (by omega) (by omega)) | ((try dsimp only [bl_pv]); show vp_in _ (N _); rw [nfm]; simp (disch := omega) only [zI_n, zI_o, zI_lit, zI_neg, zI_add, zI_sub, zI_mul, zI_lt, zI_le, zI_eq, zI_clamp, zI_in, zI_div, zI_rem, lg_lt0, lg_gt0, lg_eq0, lg_le0, lg_ge0, Int.toNat_natCast, ge_iff_le, gt_iff_lt, List.length_cons, List.length_nil, bl_up2_at, bl_up2_nk, bl_up2_nx] <;> omega)), km, (by first | exact (by rw [nm]; exact vp_in_nI (by omega) (by omega)) | ((try dsimp only [bl_pv]); show vp_in _ (N _); rw [nm]; simp (disch := omega) only [zI_n, zI_o, zI_lit, zI_neg, zI_add, zI_sub, zI_mul, zI_lt, zI_le, zI_eq, zI_clamp, zI_in, zI_div, zI_rem, lg_lt0, lg_gt0, lg_eq0, lg_le0, lg_ge0, Int.toNat_natCast, ge_iff_le, gt_iff_lt, List.length_cons, List.length_nil, bl_up2_at, bl_up2_nk, bl_up2_nx] <;> omega)), ?_⟩
                          refine bl_lv [0, 2, 3, 4, 5] rfl ?_
                          try dsimp only [bl_pv]
                          fail /- w8 lv=[4, 5, 0, 1, 2, 3] -/))))
    · intro x J1 hx hJ; subst hx
      have ec : (nI i).toNatClampNeg = i := nI_clamp (by omega)
      have ec2 : (nI fr + nI i).toNatClampNeg = fr + i := by rw [nI_add]; exact nI_clamp (by omega)
      have v1 := (c2 (fr + i) (by omega)).1
      have v2 := (c2 (fr + i) (by omega)).2
      rw [← hJ.1 (f + 1000) (by omega) (by omega)] at v1
      rw [← hJ.1 (f + 2000) (by omega) (by omega)] at v2
      refine bl_go oX6_partOf 80 [8] rfl ?_
      refine ⟨fun h11 => ?_, fun h11 => ?_⟩
      · try simp (disch := omega) only [zI_n, zI_o, zI_lit, zI_neg, zI_add, zI_sub, zI_mul, zI_lt, zI_le, zI_eq, zI_clamp, zI_in, zI_div, zI_rem, lg_lt0, lg_gt0, lg_eq0, lg_le0, lg_ge0, Int.toNat_natCast, ge_iff_le, gt_iff_lt, List.length_cons, List.length_nil, bl_up2_at, bl_up2_nk, bl_up2_nx] at h11
        first
        | (exfalso; omega)
        | (try show _ ∧ _
           try dsimp only [bl_pv]
           fail /- ret73 -/)
      · try simp (disch := omega) only [zI_n, zI_o, zI_lit, zI_neg, zI_add, zI_sub, zI_mul, zI_lt, zI_le, zI_eq, zI_clamp, zI_in, zI_div, zI_rem, lg_lt0, lg_gt0, lg_eq0, lg_le0, lg_ge0, Int.toNat_natCast, ge_iff_le, gt_iff_lt, List.length_cons, List.length_nil, bl_up2_at, bl_up2_nk, bl_up2_nx] at h11
        first
        | (exfalso; omega)
        | (refine ⟨fun h18 => ?_, fun h18 => ?_⟩
           · try simp (disch := omega) only [zI_n, zI_o, zI_lit, zI_neg, zI_add, zI_sub, zI_mul, zI_lt, zI_le, zI_eq, zI_clamp, zI_in, zI_div, zI_rem, lg_lt0, lg_gt0, lg_eq0, lg_le0, lg_ge0, Int.toNat_natCast, ge_iff_le, gt_iff_lt, List.length_cons, List.length_nil, bl_up2_at, bl_up2_nk, bl_up2_nx] at h18
             first
             | (exfalso; omega)
             | (try show _ ∧ _
                try dsimp only [bl_pv]
                fail /- ret73 -/)
           · try simp (disch := omega) only [zI_n, zI_o, zI_lit, zI_neg, zI_add, zI_sub, zI_mul, zI_lt, zI_le, zI_eq, zI_clamp, zI_in, zI_div, zI_rem, lg_lt0, lg_gt0, lg_eq0, lg_le0, lg_ge0, Int.toNat_natCast, ge_iff_le, gt_iff_lt, List.length_cons, List.length_nil, bl_up2_at, bl_up2_nk, bl_up2_nx] at h18
             first
             | (exfalso; omega)
             | (refine ⟨fun h29 => ?_, fun h29 => ?_⟩
                · try simp (disch := omega) only [zI_n, zI_o, zI_lit, zI_neg, zI_add, zI_sub, zI_mul, zI_lt, zI_le, zI_eq, zI_clamp, zI_in, zI_div, zI_rem, lg_lt0, lg_gt0, lg_eq0, lg_le0, lg_ge0, Int.toNat_natCast, ge_iff_le, gt_iff_lt, List.length_cons, List.length_nil, bl_up2_at, bl_up2_nk, bl_up2_nx] at h29
                  first
                  | (exfalso; omega)
                  | (refine bl_lv [0, 2, 3, 4, 5] rfl ?_
                     try dsimp only [bl_pv]
                     refine ih _ _ (nI_1 i) ?_
                     rw [ec, ec2]
                     refine sd2_s hJ v1 ?_
                     rw [bl_up2_ne (by omega)]; exact v2)
                · try simp (disch := omega) only [zI_n, zI_o, zI_lit, zI_neg, zI_add, zI_sub, zI_mul, zI_lt, zI_le, zI_eq, zI_clamp, zI_in, zI_div, zI_rem, lg_lt0, lg_gt0, lg_eq0, lg_le0, lg_ge0, Int.toNat_natCast, ge_iff_le, gt_iff_lt, List.length_cons, List.length_nil, bl_up2_at, bl_up2_nk, bl_up2_nx] at h29
                  first
                  | (exfalso; omega)
                  | (refine ⟨fun h36 => ?_, fun h36 => ?_⟩
                     · try simp (disch := omega) only [zI_n, zI_o, zI_lit, zI_neg, zI_add, zI_sub, zI_mul, zI_lt, zI_le, zI_eq, zI_clamp, zI_in, zI_div, zI_rem, lg_lt0, lg_gt0, lg_eq0, lg_le0, lg_ge0, Int.toNat_natCast, ge_iff_le, gt_iff_lt, List.length_cons, List.length_nil, bl_up2_at, bl_up2_nk, bl_up2_nx] at h36
                       first
                       | (exfalso; omega)
                       | (refine bl_lv [0, 2, 3, 4, 5] rfl ?_
                          try dsimp only [bl_pv]
                          refine ih _ _ (nI_1 i) ?_
                          rw [ec, ec2]
                          refine sd2_s hJ v1 ?_
                          rw [bl_up2_ne (by omega)]; exact v2)
                     · try simp (disch := omega) only [zI_n, zI_o, zI_lit, zI_neg, zI_add, zI_sub, zI_mul, zI_lt, zI_le, zI_eq, zI_clamp, zI_in, zI_div, zI_rem, lg_lt0, lg_gt0, lg_eq0, lg_le0, lg_ge0, Int.toNat_natCast, ge_iff_le, gt_iff_lt, List.length_cons, List.length_nil, bl_up2_at, bl_up2_nk, bl_up2_nx] at h36
                       first
                       | (exfalso; omega)
                       | (refine ⟨ks, _, bl_vs rs_0, kf, _, bl_vs rf_0, kfp, (by first | exact (by rw [nfp]; exact vp_in_nI (by omega) (by omega)) | ((try dsimp only [bl_pv]); show vp_in _ (N _); rw [nfp]; simp (disch := omega) only [zI_n, zI_o, zI_lit, zI_neg, zI_add, zI_sub, zI_mul, zI_lt, zI_le, zI_eq, zI_clamp, zI_in, zI_div, zI_rem, lg_lt0, lg_gt0, lg_eq0, lg_le0, lg_ge0, Int.toNat_natCast, ge_iff_le, gt_iff_lt, List.length_cons, List.length_nil, bl_up2_at, bl_up2_nk, bl_up2_nx] <;> omega)), kp, (by first | exact (by rw [np]; exact vp_in_nI (by omega) (by omega)) | ((try dsimp only [bl_pv]); show vp_in _ (N _); rw [np]; simp (disch := omega) only [zI_n, zI_o, zI_lit, zI_neg, zI_add, zI_sub, zI_mul, zI_lt, zI_le, zI_eq, zI_clamp, zI_in, zI_div, zI_rem, lg_lt0, lg_gt0, lg_eq0, lg_le0, lg_ge0, Int.toNat_natCast, ge_iff_le, gt_iff_lt, List.length_cons, List.length_nil, bl_up2_at, bl_up2_nk, bl_up2_nx] <;> omega)), ks, _, bl_vs rs_1, kf, _, bl_vs rf_1, kfm, (by first | exact (by rw [nfm]; exact vp_in_nI (by omega) (by omega)) | ((try dsimp only [bl_pv]); show vp_in _ (N _); rw [nfm]; simp (disch := omega) only [zI_n, zI_o, zI_lit, zI_neg, zI_add, zI_sub, zI_mul, zI_lt, zI_le, zI_eq, zI_clamp, zI_in, zI_div, zI_rem, lg_lt0, lg_gt0, lg_eq0, lg_le0, lg_ge0, Int.toNat_natCast, ge_iff_le, gt_iff_lt, List.length_cons, List.length_nil, bl_up2_at, bl_up2_nk, bl_up2_nx] <;> omega)), km, (by first | exact (by rw [nm]; exact vp_in_nI (by omega) (by omega)) | ((try dsimp only [bl_pv]); show vp_in _ (N _); rw [nm]; simp (disch := omega) only [zI_n, zI_o, zI_lit, zI_neg, zI_add, zI_sub, zI_mul, zI_lt, zI_le, zI_eq, zI_clamp, zI_in, zI_div, zI_rem, lg_lt0, lg_gt0, lg_eq0, lg_le0, lg_ge0, Int.toNat_natCast, ge_iff_le, gt_iff_lt, List.length_cons, List.length_nil, bl_up2_at, bl_up2_nk, bl_up2_nx] <;> omega)), ?_⟩
                          refine bl_lv [0, 2, 3, 4, 5] rfl ?_
                          try dsimp only [bl_pv]
                          refine ih _ _ (nI_1 i) ?_
                          rw [ec, ec2]
                          refine sd2_s hJ v1 ?_
                          rw [bl_up2_ne (by omega)]; exact v2))))
  refine bl_go oX6_partOf 80 [8] rfl ?_
  refine ⟨ks, Or.inr (Or.inr ⟨rfl, rfl, _, rfl⟩), (fun h => by cases h), ?_⟩
  try dsimp only [bl_pv]
  exact L 0 (by omega) _ _ rfl sd2_0
theorem c_Side_rollOf {S : sq} {n : Nat} {x : Int32} (hs : sdS R K N s) (hf : sdS R K N f) (hsf : s ≠ f) (hC : sdC I J f S) (hx : x = nI n) (hn : 2 ≤ n ∧ n ≤ 4) (hc : S.1 * n ≤ 48) : bl_MC G l d mX6_rollOf [.ref s, .ref f, .int x] (I, J, R, K, N) (0, 0) (fun o σ' => o = .inl none ∧ ∃ I' J', σ' = (I', J', R, K, N) ∧ sdM I I' J J' s ∧ sdC I' J' s (sd_roll S n)) := by
  obtain ⟨hr1, ks, rs_0, rs_1, kp, np, km, nm⟩ := hs
  obtain ⟨hr2, kf, rf_0, rf_1, kfp, nfp, kfm, nfm⟩ := hf
  obtain ⟨c0, c1, c2⟩ := hC
  subst hx
  refine bl_MC_intro (by decide +kernel) rfl (Nat.le_of_ble_eq_true rfl) ?_
  have e0 : bl_up2 I s 2 (nI (S.1 * n)) s 2 = nI (S.1 * n) := bl_up2_at
  have L : ∀ i, i ≤ S.1 * n → ∀ x J1, x = nI i → sd2 J J1 s (fun i => S.2.1 (i / n)) (fun i => S.2.2 (i / n)) i → bl_WP G l d mX6_rollOf 12 [(3, .int x), (0, .ref s), (1, .ref f), (2, .int (nI n))] [] (bl_up2 I s 2 (nI (S.1 * n)), J1, R, K, N) (0, 0) (fun o σ' => o = .inl none ∧ ∃ I' J', σ' = (I', J', R, K, N) ∧ sdM I I' J J' s ∧ sdC I' J' s (sd_roll S n)) := by
    refine bl_for (S.1 * n) ?_ (fun i hi ih => ?_)
    · intro x J1 hx hJ; subst hx
      refine bl_go oX6_rollOf 80 [12] rfl ?_
      refine ⟨ks, fun h17 => ?_, fun h17 => ?_⟩
      · try simp (disch := omega) only [zI_n, zI_o, zI_lit, zI_neg, zI_add, zI_sub, zI_mul, zI_lt, zI_le, zI_eq, zI_clamp, zI_in, zI_div, zI_rem, lg_lt0, lg_gt0, lg_eq0, lg_le0, lg_ge0, Int.toNat_natCast, ge_iff_le, gt_iff_lt, List.length_cons, List.length_nil, bl_up2_at, bl_up2_nk, bl_up2_nx] at h17
        first
        | (exfalso; omega)
        | (try show _ ∧ _
           try dsimp only [bl_pv]
           exact ⟨rfl, _, _, rfl, sd2_C hJ (by omega)⟩)
      · try simp (disch := omega) only [zI_n, zI_o, zI_lit, zI_neg, zI_add, zI_sub, zI_mul, zI_lt, zI_le, zI_eq, zI_clamp, zI_in, zI_div, zI_rem, lg_lt0, lg_gt0, lg_eq0, lg_le0, lg_ge0, Int.toNat_natCast, ge_iff_le, gt_iff_lt, List.length_cons, List.length_nil, bl_up2_at, bl_up2_nk, bl_up2_nx] at h17
        first
        | (exfalso; omega)
        | (refine ⟨fun h23 => ?_, fun h23 => ?_⟩
           · try simp (disch := omega) only [zI_n, zI_o, zI_lit, zI_neg, zI_add, zI_sub, zI_mul, zI_lt, zI_le, zI_eq, zI_clamp, zI_in, zI_div, zI_rem, lg_lt0, lg_gt0, lg_eq0, lg_le0, lg_ge0, Int.toNat_natCast, ge_iff_le, gt_iff_lt, List.length_cons, List.length_nil, bl_up2_at, bl_up2_nk, bl_up2_nx] at h23
             first
             | (exfalso; omega)
             | (try show _ ∧ _
                try dsimp only [bl_pv]
                exact ⟨rfl, _, _, rfl, sd2_C hJ (by omega)⟩)
           · try simp (disch := omega) only [zI_n, zI_o, zI_lit, zI_neg, zI_add, zI_sub, zI_mul, zI_lt, zI_le, zI_eq, zI_clamp, zI_in, zI_div, zI_rem, lg_lt0, lg_gt0, lg_eq0, lg_le0, lg_ge0, Int.toNat_natCast, ge_iff_le, gt_iff_lt, List.length_cons, List.length_nil, bl_up2_at, bl_up2_nk, bl_up2_nx] at h23
             first
             | (exfalso; omega)
             | (refine ⟨fun h27 => ?_, fun h27 => ?_⟩
                · try simp (disch := omega) only [zI_n, zI_o, zI_lit, zI_neg, zI_add, zI_sub, zI_mul, zI_lt, zI_le, zI_eq, zI_clamp, zI_in, zI_div, zI_rem, lg_lt0, lg_gt0, lg_eq0, lg_le0, lg_ge0, Int.toNat_natCast, ge_iff_le, gt_iff_lt, List.length_cons, List.length_nil, bl_up2_at, bl_up2_nk, bl_up2_nx] at h27
                  first
                  | (exfalso; omega)
                  | (refine ⟨ks, _, bl_vs rs_0, kf, _, bl_vs rf_0, kfp, (by first | exact (by rw [nfp]; exact vp_in_nI (by omega) (by omega)) | ((try dsimp only [bl_pv]); show vp_in _ (N _); rw [nfp]; simp (disch := omega) only [zI_n, zI_o, zI_lit, zI_neg, zI_add, zI_sub, zI_mul, zI_lt, zI_le, zI_eq, zI_clamp, zI_in, zI_div, zI_rem, lg_lt0, lg_gt0, lg_eq0, lg_le0, lg_ge0, Int.toNat_natCast, ge_iff_le, gt_iff_lt, List.length_cons, List.length_nil, bl_up2_at, bl_up2_nk, bl_up2_nx] <;> omega)), kp, (by first | exact (by rw [np]; exact vp_in_nI (by omega) (by omega)) | ((try dsimp only [bl_pv]); show vp_in _ (N _); rw [np]; simp (disch := omega) only [zI_n, zI_o, zI_lit, zI_neg, zI_add, zI_sub, zI_mul, zI_lt, zI_le, zI_eq, zI_clamp, zI_in, zI_div, zI_rem, lg_lt0, lg_gt0, lg_eq0, lg_le0, lg_ge0, Int.toNat_natCast, ge_iff_le, gt_iff_lt, List.length_cons, List.length_nil, bl_up2_at, bl_up2_nk, bl_up2_nx] <;> omega)), ks, _, bl_vs rs_1, kf, _, bl_vs rf_1, kfm, (by first | exact (by rw [nfm]; exact vp_in_nI (by omega) (by omega)) | ((try dsimp only [bl_pv]); show vp_in _ (N _); rw [nfm]; simp (disch := omega) only [zI_n, zI_o, zI_lit, zI_neg, zI_add, zI_sub, zI_mul, zI_lt, zI_le, zI_eq, zI_clamp, zI_in, zI_div, zI_rem, lg_lt0, lg_gt0, lg_eq0, lg_le0, lg_ge0, Int.toNat_natCast, ge_iff_le, gt_iff_lt, List.length_cons, List.length_nil, bl_up2_at, bl_up2_nk, bl_up2_nx] <;> omega)), km, (by first | exact (by rw [nm]; exact vp_in_nI (by omega) (by omega)) | ((try dsimp only [bl_pv]); show vp_in _ (N _); rw [nm]; simp (disch := omega) only [zI_n, zI_o, zI_lit, zI_neg, zI_add, zI_sub, zI_mul, zI_lt, zI_le, zI_eq, zI_clamp, zI_in, zI_div, zI_rem, lg_lt0, lg_gt0, lg_eq0, lg_le0, lg_ge0, Int.toNat_natCast, ge_iff_le, gt_iff_lt, List.length_cons, List.length_nil, bl_up2_at, bl_up2_nk, bl_up2_nx] <;> omega)), ?_⟩
                     refine bl_lv [0, 2, 3, 4] rfl ?_
                     try dsimp only [bl_pv]
                     fail /- w12 lv=[3, 4, 0, 1, 2] -/)
                · try simp (disch := omega) only [zI_n, zI_o, zI_lit, zI_neg, zI_add, zI_sub, zI_mul, zI_lt, zI_le, zI_eq, zI_clamp, zI_in, zI_div, zI_rem, lg_lt0, lg_gt0, lg_eq0, lg_le0, lg_ge0, Int.toNat_natCast, ge_iff_le, gt_iff_lt, List.length_cons, List.length_nil, bl_up2_at, bl_up2_nk, bl_up2_nx] at h27
                  first
                  | (exfalso; omega)
                  | (refine ⟨(by first | decide | (simp (disch := omega) only [zI_n, zI_o, zI_lit, zI_neg, zI_add, zI_sub, zI_mul, zI_lt, zI_le, zI_eq, zI_clamp, zI_in, zI_div, zI_rem, lg_lt0, lg_gt0, lg_eq0, lg_le0, lg_ge0, Int.toNat_natCast, ge_iff_le, gt_iff_lt, List.length_cons, List.length_nil, bl_up2_at, bl_up2_nk, bl_up2_nx] <;> omega)), ks, _, bl_vs rs_0, kf, _, bl_vs rf_0, kfp, (by first | exact (by rw [nfp]; exact vp_in_nI (by omega) (by omega)) | ((try dsimp only [bl_pv]); show vp_in _ (N _); rw [nfp]; simp (disch := omega) only [zI_n, zI_o, zI_lit, zI_neg, zI_add, zI_sub, zI_mul, zI_lt, zI_le, zI_eq, zI_clamp, zI_in, zI_div, zI_rem, lg_lt0, lg_gt0, lg_eq0, lg_le0, lg_ge0, Int.toNat_natCast, ge_iff_le, gt_iff_lt, List.length_cons, List.length_nil, bl_up2_at, bl_up2_nk, bl_up2_nx] <;> omega)), kp, (by first | exact (by rw [np]; exact vp_in_nI (by omega) (by omega)) | ((try dsimp only [bl_pv]); show vp_in _ (N _); rw [np]; simp (disch := omega) only [zI_n, zI_o, zI_lit, zI_neg, zI_add, zI_sub, zI_mul, zI_lt, zI_le, zI_eq, zI_clamp, zI_in, zI_div, zI_rem, lg_lt0, lg_gt0, lg_eq0, lg_le0, lg_ge0, Int.toNat_natCast, ge_iff_le, gt_iff_lt, List.length_cons, List.length_nil, bl_up2_at, bl_up2_nk, bl_up2_nx] <;> omega)), ks, _, bl_vs rs_1, kf, _, bl_vs rf_1, kfm, (by first | exact (by rw [nfm]; exact vp_in_nI (by omega) (by omega)) | ((try dsimp only [bl_pv]); show vp_in _ (N _); rw [nfm]; simp (disch := omega) only [zI_n, zI_o, zI_lit, zI_neg, zI_add, zI_sub, zI_mul, zI_lt, zI_le, zI_eq, zI_clamp, zI_in, zI_div, zI_rem, lg_lt0, lg_gt0, lg_eq0, lg_le0, lg_ge0, Int.toNat_natCast, ge_iff_le, gt_iff_lt, List.length_cons, List.length_nil, bl_up2_at, bl_up2_nk, bl_up2_nx] <;> omega)), km, (by first | exact (by rw [nm]; exact vp_in_nI (by omega) (by omega)) | ((try dsimp only [bl_pv]); show vp_in _ (N _); rw [nm]; simp (disch := omega) only [zI_n, zI_o, zI_lit, zI_neg, zI_add, zI_sub, zI_mul, zI_lt, zI_le, zI_eq, zI_clamp, zI_in, zI_div, zI_rem, lg_lt0, lg_gt0, lg_eq0, lg_le0, lg_ge0, Int.toNat_natCast, ge_iff_le, gt_iff_lt, List.length_cons, List.length_nil, bl_up2_at, bl_up2_nk, bl_up2_nx] <;> omega)), ?_⟩
                     refine bl_lv [0, 2, 3, 4] rfl ?_
                     try dsimp only [bl_pv]
                     fail /- w12 lv=[3, 4, 0, 1, 2] -/)))
    · intro x J1 hx hJ; subst hx
      have ec : (nI i).toNatClampNeg = i := nI_clamp (by omega)
      have hin : i / n < S.1 := by rw [Nat.div_lt_iff_lt_mul (by omega)]; exact hi
      have ed : nI i / nI n = nI (i / n) := by
        simp (disch := omega) only [zI_n, zI_o, zI_lit, zI_neg, zI_add, zI_sub, zI_mul, zI_lt, zI_le, zI_eq, zI_clamp, zI_in, zI_div, zI_rem, lg_lt0, lg_gt0, lg_eq0, lg_le0, lg_ge0, Int.toNat_natCast, ge_iff_le, gt_iff_lt, List.length_cons, List.length_nil, bl_up2_at, bl_up2_nk, bl_up2_nx]
        rw [Int.natCast_ediv]
      have ec2 : (nI i / nI n).toNatClampNeg = i / n := by rw [ed]; exact nI_clamp (by omega)
      have v1 := (c2 (i / n) hin).1
      have v2 := (c2 (i / n) hin).2
      rw [← hJ.1 (f + 1000) (by omega) (by omega)] at v1
      rw [← hJ.1 (f + 2000) (by omega) (by omega)] at v2
      refine bl_go oX6_rollOf 80 [12] rfl ?_
      refine ⟨ks, fun h17 => ?_, fun h17 => ?_⟩
      · try simp (disch := omega) only [zI_n, zI_o, zI_lit, zI_neg, zI_add, zI_sub, zI_mul, zI_lt, zI_le, zI_eq, zI_clamp, zI_in, zI_div, zI_rem, lg_lt0, lg_gt0, lg_eq0, lg_le0, lg_ge0, Int.toNat_natCast, ge_iff_le, gt_iff_lt, List.length_cons, List.length_nil, bl_up2_at, bl_up2_nk, bl_up2_nx] at h17
        first
        | (exfalso; omega)
        | (try show _ ∧ _
           try dsimp only [bl_pv]
           fail /- ret71 -/)
      · try simp (disch := omega) only [zI_n, zI_o, zI_lit, zI_neg, zI_add, zI_sub, zI_mul, zI_lt, zI_le, zI_eq, zI_clamp, zI_in, zI_div, zI_rem, lg_lt0, lg_gt0, lg_eq0, lg_le0, lg_ge0, Int.toNat_natCast, ge_iff_le, gt_iff_lt, List.length_cons, List.length_nil, bl_up2_at, bl_up2_nk, bl_up2_nx] at h17
        first
        | (exfalso; omega)
        | (refine ⟨fun h23 => ?_, fun h23 => ?_⟩
           · try simp (disch := omega) only [zI_n, zI_o, zI_lit, zI_neg, zI_add, zI_sub, zI_mul, zI_lt, zI_le, zI_eq, zI_clamp, zI_in, zI_div, zI_rem, lg_lt0, lg_gt0, lg_eq0, lg_le0, lg_ge0, Int.toNat_natCast, ge_iff_le, gt_iff_lt, List.length_cons, List.length_nil, bl_up2_at, bl_up2_nk, bl_up2_nx] at h23
             first
             | (exfalso; omega)
             | (try show _ ∧ _
                try dsimp only [bl_pv]
                fail /- ret71 -/)
           · try simp (disch := omega) only [zI_n, zI_o, zI_lit, zI_neg, zI_add, zI_sub, zI_mul, zI_lt, zI_le, zI_eq, zI_clamp, zI_in, zI_div, zI_rem, lg_lt0, lg_gt0, lg_eq0, lg_le0, lg_ge0, Int.toNat_natCast, ge_iff_le, gt_iff_lt, List.length_cons, List.length_nil, bl_up2_at, bl_up2_nk, bl_up2_nx] at h23
             first
             | (exfalso; omega)
             | (refine ⟨fun h27 => ?_, fun h27 => ?_⟩
                · try simp (disch := omega) only [zI_n, zI_o, zI_lit, zI_neg, zI_add, zI_sub, zI_mul, zI_lt, zI_le, zI_eq, zI_clamp, zI_in, zI_div, zI_rem, lg_lt0, lg_gt0, lg_eq0, lg_le0, lg_ge0, Int.toNat_natCast, ge_iff_le, gt_iff_lt, List.length_cons, List.length_nil, bl_up2_at, bl_up2_nk, bl_up2_nx] at h27
                  first
                  | (exfalso; omega)
                  | (refine ⟨ks, _, bl_vs rs_0, kf, _, bl_vs rf_0, kfp, (by (try dsimp only [bl_pv]); rw [nfp, ed]; exact vp_in_nI (by omega) (by omega)), kp, (by first | exact (by rw [np]; exact vp_in_nI (by omega) (by omega)) | ((try dsimp only [bl_pv]); show vp_in _ (N _); rw [np]; simp (disch := omega) only [zI_n, zI_o, zI_lit, zI_neg, zI_add, zI_sub, zI_mul, zI_lt, zI_le, zI_eq, zI_clamp, zI_in, zI_div, zI_rem, lg_lt0, lg_gt0, lg_eq0, lg_le0, lg_ge0, Int.toNat_natCast, ge_iff_le, gt_iff_lt, List.length_cons, List.length_nil, bl_up2_at, bl_up2_nk, bl_up2_nx] <;> omega)), ks, _, bl_vs rs_1, kf, _, bl_vs rf_1, kfm, (by (try dsimp only [bl_pv]); rw [nfm, ed]; exact vp_in_nI (by omega) (by omega)), km, (by first | exact (by rw [nm]; exact vp_in_nI (by omega) (by omega)) | ((try dsimp only [bl_pv]); show vp_in _ (N _); rw [nm]; simp (disch := omega) only [zI_n, zI_o, zI_lit, zI_neg, zI_add, zI_sub, zI_mul, zI_lt, zI_le, zI_eq, zI_clamp, zI_in, zI_div, zI_rem, lg_lt0, lg_gt0, lg_eq0, lg_le0, lg_ge0, Int.toNat_natCast, ge_iff_le, gt_iff_lt, List.length_cons, List.length_nil, bl_up2_at, bl_up2_nk, bl_up2_nx] <;> omega)), ?_⟩
                     refine bl_lv [0, 2, 3, 4] rfl ?_
                     try dsimp only [bl_pv]
                     refine ih _ _ (nI_1 i) ?_
                     rw [ec, ec2]
                     refine sd2_s hJ v1 ?_
                     rw [bl_up2_ne (by omega)]; exact v2)
                · try simp (disch := omega) only [zI_n, zI_o, zI_lit, zI_neg, zI_add, zI_sub, zI_mul, zI_lt, zI_le, zI_eq, zI_clamp, zI_in, zI_div, zI_rem, lg_lt0, lg_gt0, lg_eq0, lg_le0, lg_ge0, Int.toNat_natCast, ge_iff_le, gt_iff_lt, List.length_cons, List.length_nil, bl_up2_at, bl_up2_nk, bl_up2_nx] at h27
                  first
                  | (exfalso; omega)
                  | (refine ⟨(by first | decide | (simp (disch := omega) only [zI_n, zI_o, zI_lit, zI_neg, zI_add, zI_sub, zI_mul, zI_lt, zI_le, zI_eq, zI_clamp, zI_in, zI_div, zI_rem, lg_lt0, lg_gt0, lg_eq0, lg_le0, lg_ge0, Int.toNat_natCast, ge_iff_le, gt_iff_lt, List.length_cons, List.length_nil, bl_up2_at, bl_up2_nk, bl_up2_nx] <;> omega)), ks, _, bl_vs rs_0, kf, _, bl_vs rf_0, kfp, (by (try dsimp only [bl_pv]); rw [nfp, ed]; exact vp_in_nI (by omega) (by omega)), kp, (by first | exact (by rw [np]; exact vp_in_nI (by omega) (by omega)) | ((try dsimp only [bl_pv]); show vp_in _ (N _); rw [np]; simp (disch := omega) only [zI_n, zI_o, zI_lit, zI_neg, zI_add, zI_sub, zI_mul, zI_lt, zI_le, zI_eq, zI_clamp, zI_in, zI_div, zI_rem, lg_lt0, lg_gt0, lg_eq0, lg_le0, lg_ge0, Int.toNat_natCast, ge_iff_le, gt_iff_lt, List.length_cons, List.length_nil, bl_up2_at, bl_up2_nk, bl_up2_nx] <;> omega)), ks, _, bl_vs rs_1, kf, _, bl_vs rf_1, kfm, (by (try dsimp only [bl_pv]); rw [nfm, ed]; exact vp_in_nI (by omega) (by omega)), km, (by first | exact (by rw [nm]; exact vp_in_nI (by omega) (by omega)) | ((try dsimp only [bl_pv]); show vp_in _ (N _); rw [nm]; simp (disch := omega) only [zI_n, zI_o, zI_lit, zI_neg, zI_add, zI_sub, zI_mul, zI_lt, zI_le, zI_eq, zI_clamp, zI_in, zI_div, zI_rem, lg_lt0, lg_gt0, lg_eq0, lg_le0, lg_ge0, Int.toNat_natCast, ge_iff_le, gt_iff_lt, List.length_cons, List.length_nil, bl_up2_at, bl_up2_nk, bl_up2_nx] <;> omega)), ?_⟩
                     refine bl_lv [0, 2, 3, 4] rfl ?_
                     try dsimp only [bl_pv]
                     refine ih _ _ (nI_1 i) ?_
                     rw [ec, ec2]
                     refine sd2_s hJ v1 ?_
                     rw [bl_up2_ne (by omega)]; exact v2)))
  refine bl_go oX6_rollOf 80 [12] rfl ?_
  refine ⟨kf, ks, Or.inr (Or.inr ⟨rfl, rfl, _, rfl⟩), (fun h => by cases h), ?_⟩
  try dsimp only [bl_pv]
  rw [c0, show nI S.1 * nI n = nI (S.1 * n) from (Int32.ofNat_mul _ _).symm]
  exact L 0 (by omega) _ _ rfl sd2_0
theorem c_Side_layOn {T S : sq} {to col : Nat} {x y : Int32} (hs : sdS R K N s) (hf : sdS R K N f) (hsf : s ≠ f) (hT : sdC I J s T) (hC : sdC I J f S) (hx : x = nI to) (hy : y = nI col) (hto : to < T.1) (hcol : col < S.1) : bl_MC G l d mX6_layOn [.ref s, .int x, .ref f, .int y] (I, J, R, K, N) (0, 0) (fun o σ' => o = .inl none ∧ ∃ J', σ' = (I, J', R, K, N) ∧ sdM I I J J' s ∧ sdC I J' s (sd_on T S to col)) := by
  obtain ⟨hr1, ks, rs_0, rs_1, kp, np, km, nm⟩ := hs
  obtain ⟨hr2, kf, rf_0, rf_1, kfp, nfp, kfm, nfm⟩ := hf
  obtain ⟨c0, c1, c2⟩ := hC
  obtain ⟨t0, t1, t2⟩ := hT
  subst hx hy
  have ec : (nI to).toNatClampNeg = to := nI_clamp (by omega)
  have ec2 : (nI col).toNatClampNeg = col := nI_clamp (by omega)
  refine bl_MC_intro (by decide +kernel) rfl (Nat.le_of_ble_eq_true rfl) ?_
  refine bl_go oX6_layOn 80 [] rfl ?_
  refine ⟨fun h1 => ?_, fun h1 => ?_⟩
  · try simp (disch := omega) only [zI_n, zI_o, zI_lit, zI_neg, zI_add, zI_sub, zI_mul, zI_lt, zI_le, zI_eq, zI_clamp, zI_in, zI_div, zI_rem, lg_lt0, lg_gt0, lg_eq0, lg_le0, lg_ge0, Int.toNat_natCast, ge_iff_le, gt_iff_lt, List.length_cons, List.length_nil, bl_up2_at, bl_up2_nk, bl_up2_nx] at h1
    exfalso; omega
  · try simp (disch := omega) only [zI_n, zI_o, zI_lit, zI_neg, zI_add, zI_sub, zI_mul, zI_lt, zI_le, zI_eq, zI_clamp, zI_in, zI_div, zI_rem, lg_lt0, lg_gt0, lg_eq0, lg_le0, lg_ge0, Int.toNat_natCast, ge_iff_le, gt_iff_lt, List.length_cons, List.length_nil, bl_up2_at, bl_up2_nk, bl_up2_nx] at h1
    refine ⟨fun h7 => ?_, fun h7 => ?_⟩
    · try simp (disch := omega) only [zI_n, zI_o, zI_lit, zI_neg, zI_add, zI_sub, zI_mul, zI_lt, zI_le, zI_eq, zI_clamp, zI_in, zI_div, zI_rem, lg_lt0, lg_gt0, lg_eq0, lg_le0, lg_ge0, Int.toNat_natCast, ge_iff_le, gt_iff_lt, List.length_cons, List.length_nil, bl_up2_at, bl_up2_nk, bl_up2_nx] at h7
      exfalso; omega
    · try simp (disch := omega) only [zI_n, zI_o, zI_lit, zI_neg, zI_add, zI_sub, zI_mul, zI_lt, zI_le, zI_eq, zI_clamp, zI_in, zI_div, zI_rem, lg_lt0, lg_gt0, lg_eq0, lg_le0, lg_ge0, Int.toNat_natCast, ge_iff_le, gt_iff_lt, List.length_cons, List.length_nil, bl_up2_at, bl_up2_nk, bl_up2_nx] at h7
      refine ⟨fun h11 => ?_, fun h11 => ?_⟩
      · try simp (disch := omega) only [zI_n, zI_o, zI_lit, zI_neg, zI_add, zI_sub, zI_mul, zI_lt, zI_le, zI_eq, zI_clamp, zI_in, zI_div, zI_rem, lg_lt0, lg_gt0, lg_eq0, lg_le0, lg_ge0, Int.toNat_natCast, ge_iff_le, gt_iff_lt, List.length_cons, List.length_nil, bl_up2_at, bl_up2_nk, bl_up2_nx] at h11
        exfalso; omega
      · try simp (disch := omega) only [zI_n, zI_o, zI_lit, zI_neg, zI_add, zI_sub, zI_mul, zI_lt, zI_le, zI_eq, zI_clamp, zI_in, zI_div, zI_rem, lg_lt0, lg_gt0, lg_eq0, lg_le0, lg_ge0, Int.toNat_natCast, ge_iff_le, gt_iff_lt, List.length_cons, List.length_nil, bl_up2_at, bl_up2_nk, bl_up2_nx] at h11
        refine ⟨fun h17 => ?_, fun h17 => ?_⟩
        · try simp (disch := omega) only [zI_n, zI_o, zI_lit, zI_neg, zI_add, zI_sub, zI_mul, zI_lt, zI_le, zI_eq, zI_clamp, zI_in, zI_div, zI_rem, lg_lt0, lg_gt0, lg_eq0, lg_le0, lg_ge0, Int.toNat_natCast, ge_iff_le, gt_iff_lt, List.length_cons, List.length_nil, bl_up2_at, bl_up2_nk, bl_up2_nx] at h17
          exfalso; omega
        · try simp (disch := omega) only [zI_n, zI_o, zI_lit, zI_neg, zI_add, zI_sub, zI_mul, zI_lt, zI_le, zI_eq, zI_clamp, zI_in, zI_div, zI_rem, lg_lt0, lg_gt0, lg_eq0, lg_le0, lg_ge0, Int.toNat_natCast, ge_iff_le, gt_iff_lt, List.length_cons, List.length_nil, bl_up2_at, bl_up2_nk, bl_up2_nx] at h17
          refine ⟨ks, _, bl_vs rs_0, ⟨rfl, rfl⟩, kp, (by first | exact (by rw [np]; exact vp_in_nI (by omega) (by omega)) | ((try dsimp only [bl_pv]); show vp_in _ (N _); rw [np]; simp (disch := omega) only [zI_n, zI_o, zI_lit, zI_neg, zI_add, zI_sub, zI_mul, zI_lt, zI_le, zI_eq, zI_clamp, zI_in, zI_div, zI_rem, lg_lt0, lg_gt0, lg_eq0, lg_le0, lg_ge0, Int.toNat_natCast, ge_iff_le, gt_iff_lt, List.length_cons, List.length_nil, bl_up2_at, bl_up2_nk, bl_up2_nx] <;> omega)), kf, _, bl_vs rf_0, kfp, (by first | exact (by rw [nfp]; exact vp_in_nI (by omega) (by omega)) | ((try dsimp only [bl_pv]); show vp_in _ (N _); rw [nfp]; simp (disch := omega) only [zI_n, zI_o, zI_lit, zI_neg, zI_add, zI_sub, zI_mul, zI_lt, zI_le, zI_eq, zI_clamp, zI_in, zI_div, zI_rem, lg_lt0, lg_gt0, lg_eq0, lg_le0, lg_ge0, Int.toNat_natCast, ge_iff_le, gt_iff_lt, List.length_cons, List.length_nil, bl_up2_at, bl_up2_nk, bl_up2_nx] <;> omega)), kp, (by first | exact (by rw [np]; exact vp_in_nI (by omega) (by omega)) | ((try dsimp only [bl_pv]); show vp_in _ (N _); rw [np]; simp (disch := omega) only [zI_n, zI_o, zI_lit, zI_neg, zI_add, zI_sub, zI_mul, zI_lt, zI_le, zI_eq, zI_clamp, zI_in, zI_div, zI_rem, lg_lt0, lg_gt0, lg_eq0, lg_le0, lg_ge0, Int.toNat_natCast, ge_iff_le, gt_iff_lt, List.length_cons, List.length_nil, bl_up2_at, bl_up2_nk, bl_up2_nx] <;> omega)), ks, _, bl_vs rs_1, ⟨rfl, rfl⟩, km, (by first | exact (by rw [nm]; exact vp_in_nI (by omega) (by omega)) | ((try dsimp only [bl_pv]); show vp_in _ (N _); rw [nm]; simp (disch := omega) only [zI_n, zI_o, zI_lit, zI_neg, zI_add, zI_sub, zI_mul, zI_lt, zI_le, zI_eq, zI_clamp, zI_in, zI_div, zI_rem, lg_lt0, lg_gt0, lg_eq0, lg_le0, lg_ge0, Int.toNat_natCast, ge_iff_le, gt_iff_lt, List.length_cons, List.length_nil, bl_up2_at, bl_up2_nk, bl_up2_nx] <;> omega)), kf, _, bl_vs rf_1, kfm, (by first | exact (by rw [nfm]; exact vp_in_nI (by omega) (by omega)) | ((try dsimp only [bl_pv]); show vp_in _ (N _); rw [nfm]; simp (disch := omega) only [zI_n, zI_o, zI_lit, zI_neg, zI_add, zI_sub, zI_mul, zI_lt, zI_le, zI_eq, zI_clamp, zI_in, zI_div, zI_rem, lg_lt0, lg_gt0, lg_eq0, lg_le0, lg_ge0, Int.toNat_natCast, ge_iff_le, gt_iff_lt, List.length_cons, List.length_nil, bl_up2_at, bl_up2_nk, bl_up2_nx] <;> omega)), km, (by first | exact (by rw [nm]; exact vp_in_nI (by omega) (by omega)) | ((try dsimp only [bl_pv]); show vp_in _ (N _); rw [nm]; simp (disch := omega) only [zI_n, zI_o, zI_lit, zI_neg, zI_add, zI_sub, zI_mul, zI_lt, zI_le, zI_eq, zI_clamp, zI_in, zI_div, zI_rem, lg_lt0, lg_gt0, lg_eq0, lg_le0, lg_ge0, Int.toNat_natCast, ge_iff_le, gt_iff_lt, List.length_cons, List.length_nil, bl_up2_at, bl_up2_nk, bl_up2_nx] <;> omega)), ?_⟩
          try show _ ∧ _
          try dsimp only [bl_pv]
          refine ⟨rfl, _, rfl, ⟨fun _ _ => rfl, fun x y1 y2 => ?_⟩, t0, t1, fun j hj => ?_⟩
          · rw [bl_up2_ne y2, bl_up2_ne y1]
          · have hj' : j < T.1 := hj
            rw [bl_up2_ne (show s + 1000 ≠ s + 2000 by omega), ec, ec2, bl_up2_ne (show s + 2000 ≠ s + 1000 by omega), bl_up2_ne (show f + 2000 ≠ s + 1000 by omega), (c2 col hcol).1, (c2 col hcol).2, (t2 to hto).1, (t2 to hto).2, nJ_add, nJ_add]
            show _ = nJ (if j = to then _ else _) ∧ _ = nJ (if j = to then _ else _)
            by_cases e : j = to
            · subst e; rw [bl_up2_at, bl_up2_at, if_pos rfl, if_pos rfl]; exact ⟨rfl, rfl⟩
            · rw [bl_up2_nk e, bl_up2_nk e, if_neg e, if_neg e, bl_up2_ne (show s + 2000 ≠ s + 1000 by omega)]; exact t2 j hj'
theorem c_Side_fold2 {S : sq} {x : Int32} (hs : sdS R K N s) (hf : sdS R K N f) (hsf : s ≠ f) (hC : sdC I J f S) (hx : x = nI 2) (hdv : S.1 % 2 = 0) : bl_MC G l (d + 1) mX6_foldOf [.ref s, .ref f, .int x] (I, J, R, K, N) (0, 0) (fun o σ' => o = .inl none ∧ ∃ I' J', σ' = (I', J', R, K, N) ∧ sdM I I' J J' s ∧ sdC I' J' s (S.1 / 2, fo2 S.1 S.2.1, fo2 S.1 S.2.2)) := by
  have hs' := hs; have hf' := hf; have hC' := hC
  obtain ⟨hr1, ks, rs_0, rs_1, kp, np, km, nm⟩ := hs
  obtain ⟨hr2, kf, rf_0, rf_1, kfp, nfp, kfm, nfm⟩ := hf
  obtain ⟨c0, c1, c2⟩ := hC
  subst hx
  refine bl_MC_intro (by decide +kernel) rfl (Nat.le_of_ble_eq_true rfl) ?_
  have L : ∀ i, i ≤ S.1 / 2 → ∀ x y I1 J1, x = nI i → y = nI (S.1 / 2) → sdM I I1 J J1 s → sdC I1 J1 s (S.1 / 2, (fun j => if j < i then fo2 S.1 S.2.1 j else S.2.1 ((if 2 = 3 then S.1 / 2 else 0) + j)), (fun j => if j < i then fo2 S.1 S.2.2 j else S.2.2 ((if 2 = 3 then S.1 / 2 else 0) + j))) → bl_WP G l (d + 1) mX6_foldOf 34 [(4, .int x), (3, .int y), (0, .ref s), (1, .ref f), (2, .int (nI 2))] [] (I1, J1, R, K, N) (0, 0) (fun o σ' => o = .inl none ∧ ∃ I' J', σ' = (I', J', R, K, N) ∧ sdM I I' J J' s ∧ sdC I' J' s (S.1 / 2, fo2 S.1 S.2.1, fo2 S.1 S.2.2)) := by
    refine bl_for (S.1 / 2) ?_ (fun i hi ih => ?_)
    · intro x y I1 J1 hx hy hM hT; subst hx hy
      refine bl_go oX6_foldOf 80 [34] rfl ?_
      refine ⟨fun h37 => ?_, fun h37 => ?_⟩
      · try simp (disch := omega) only [zI_n, zI_o, zI_lit, zI_neg, zI_add, zI_sub, zI_mul, zI_lt, zI_le, zI_eq, zI_clamp, zI_in, zI_div, zI_rem, lg_lt0, lg_gt0, lg_eq0, lg_le0, lg_ge0, Int.toNat_natCast, ge_iff_le, gt_iff_lt, List.length_cons, List.length_nil, bl_up2_at, bl_up2_nk, bl_up2_nx] at h37
        try show _ ∧ _
        try dsimp only [bl_pv]
        refine ⟨rfl, _, _, rfl, hM, hT.congr rfl (fun j hj => ?_)⟩
        have hj' : j < S.1 / 2 := hj
        show (if j < S.1 / 2 then _ else _) = _ ∧ (if j < S.1 / 2 then _ else _) = _
        rw [if_pos hj', if_pos hj']; exact ⟨rfl, rfl⟩
      · try simp (disch := omega) only [zI_n, zI_o, zI_lit, zI_neg, zI_add, zI_sub, zI_mul, zI_lt, zI_le, zI_eq, zI_clamp, zI_in, zI_div, zI_rem, lg_lt0, lg_gt0, lg_eq0, lg_le0, lg_ge0, Int.toNat_natCast, ge_iff_le, gt_iff_lt, List.length_cons, List.length_nil, bl_up2_at, bl_up2_nk, bl_up2_nx] at h37
        exfalso; omega
    · intro x y I1 J1 hx hy hM hT; subst hx hy
      have hF := hC'.other hM hs' hf' hsf
      refine bl_go oX6_foldOf 80 [34] rfl ?_
      refine ⟨fun h37 => ?_, fun h37 => ?_⟩
      · try simp (disch := omega) only [hF.1, zI_n, zI_o, zI_lit, zI_neg, zI_add, zI_sub, zI_mul, zI_lt, zI_le, zI_eq, zI_clamp, zI_in, zI_div, zI_rem, lg_lt0, lg_gt0, lg_eq0, lg_le0, lg_ge0, Int.toNat_natCast, ge_iff_le, gt_iff_lt, List.length_cons, List.length_nil, bl_up2_at, bl_up2_nk, bl_up2_nx] at h37
        first
        | (exfalso; omega)
        | (try show _ ∧ _
           try dsimp only [bl_pv]
           fail /- ret113 -/)
      · try simp (disch := omega) only [hF.1, zI_n, zI_o, zI_lit, zI_neg, zI_add, zI_sub, zI_mul, zI_lt, zI_le, zI_eq, zI_clamp, zI_in, zI_div, zI_rem, lg_lt0, lg_gt0, lg_eq0, lg_le0, lg_ge0, Int.toNat_natCast, ge_iff_le, gt_iff_lt, List.length_cons, List.length_nil, bl_up2_at, bl_up2_nk, bl_up2_nx] at h37
        first
        | (exfalso; omega)
        | (refine ⟨kf, rfl, rfl, ks, (Nat.le_of_ble_eq_true rfl), (0, 0), Nat.le_refl _, Nat.le_refl _, bl_MC_mono (c_Side_layOn hs' hf' hsf hT hF (to := i) (col := S.1 - 1 - i) (by first | with_reducible rfl | ((try dsimp only [bl_pv]); simp (disch := omega) only [hF.1, zI_n, zI_o, zI_lit, zI_neg, zI_add, zI_sub, zI_mul, zI_lt, zI_le, zI_eq, zI_clamp, zI_in, zI_div, zI_rem, lg_lt0, lg_gt0, lg_eq0, lg_le0, lg_ge0, Int.toNat_natCast, ge_iff_le, gt_iff_lt, List.length_cons, List.length_nil, bl_up2_at, bl_up2_nk, bl_up2_nx] <;> omega)) (by first | with_reducible rfl | ((try dsimp only [bl_pv]); simp (disch := omega) only [hF.1, zI_n, zI_o, zI_lit, zI_neg, zI_add, zI_sub, zI_mul, zI_lt, zI_le, zI_eq, zI_clamp, zI_in, zI_div, zI_rem, lg_lt0, lg_gt0, lg_eq0, lg_le0, lg_ge0, Int.toNat_natCast, ge_iff_le, gt_iff_lt, List.length_cons, List.length_nil, bl_up2_at, bl_up2_nk, bl_up2_nx] <;> omega)) hi (by omega)) (fun o53 σ53 q53 => ?_)⟩
           try dsimp only [bl_pv] at q53
           obtain ⟨rfl, J2, rfl, m2, t2⟩ := q53
           have hF2 := hF.other m2 hs' hf' hsf
           refine bl_go oX6_foldOf 80 [34] rfl ?_
           refine ⟨fun h58 => ?_, fun h58 => ?_⟩
           · try simp (disch := omega) only [hF.1, zI_n, zI_o, zI_lit, zI_neg, zI_add, zI_sub, zI_mul, zI_lt, zI_le, zI_eq, zI_clamp, zI_in, zI_div, zI_rem, lg_lt0, lg_gt0, lg_eq0, lg_le0, lg_ge0, Int.toNat_natCast, ge_iff_le, gt_iff_lt, List.length_cons, List.length_nil, bl_up2_at, bl_up2_nk, bl_up2_nx] at h58
             first
             | (exfalso; omega)
             | (refine ⟨fun h76 => ?_, fun h76 => ?_⟩
                · try simp (disch := omega) only [hF.1, zI_n, zI_o, zI_lit, zI_neg, zI_add, zI_sub, zI_mul, zI_lt, zI_le, zI_eq, zI_clamp, zI_in, zI_div, zI_rem, lg_lt0, lg_gt0, lg_eq0, lg_le0, lg_ge0, Int.toNat_natCast, ge_iff_le, gt_iff_lt, List.length_cons, List.length_nil, bl_up2_at, bl_up2_nk, bl_up2_nx] at h76
                  first
                  | (exfalso; omega)
                  | (try dsimp only [bl_pv]
                     first
                     | (refine ih _ _ _ _ (nI_1 i) rfl (((hM.trans m2).trans m3).trans m4) (t4.congr rfl (fun j hj => ?_))
                        have hj' : j < S.1 / 2 := hj
                        by_cases e : j = i
                        · subst e; simp [sd_on, fo2]
                        · have e2 : j < i + 1 ↔ j < i := by omega
                          simp [sd_on, e, e2])
                     | (refine ih _ _ _ _ (nI_1 i) rfl ((hM.trans m2).trans m3) (t3.congr rfl (fun j hj => ?_))
                        have hj' : j < S.1 / 2 := hj
                        by_cases e : j = i
                        · subst e; simp [sd_on, fo2]
                        · have e2 : j < i + 1 ↔ j < i := by omega
                          simp [sd_on, e, e2])
                     | (refine ih _ _ _ _ (nI_1 i) rfl (hM.trans m2) (t2.congr rfl (fun j hj => ?_))
                        have hj' : j < S.1 / 2 := hj
                        by_cases e : j = i
                        · subst e; simp [sd_on, fo2]
                        · have e2 : j < i + 1 ↔ j < i := by omega
                          simp [sd_on, e, e2]))
                · try simp (disch := omega) only [hF.1, zI_n, zI_o, zI_lit, zI_neg, zI_add, zI_sub, zI_mul, zI_lt, zI_le, zI_eq, zI_clamp, zI_in, zI_div, zI_rem, lg_lt0, lg_gt0, lg_eq0, lg_le0, lg_ge0, Int.toNat_natCast, ge_iff_le, gt_iff_lt, List.length_cons, List.length_nil, bl_up2_at, bl_up2_nk, bl_up2_nx] at h76
                  first
                  | (exfalso; omega)
                  | (refine ⟨rfl, rfl, ks, (Nat.le_of_ble_eq_true rfl), (0, 0), Nat.le_refl _, Nat.le_refl _, bl_MC_mono (c_Side_layOn hs' hf' hsf t2 hF2 (to := i) (col := 2 * (S.1 / 2) - 1 - i) rfl (by first | with_reducible rfl | ((try dsimp only [bl_pv]); simp (disch := omega) only [zI_n, zI_o, zI_lit, zI_neg, zI_add, zI_sub, zI_mul, zI_lt, zI_le, zI_eq, zI_clamp, zI_in, zI_div, zI_rem, lg_lt0, lg_gt0, lg_eq0, lg_le0, lg_ge0, Int.toNat_natCast, ge_iff_le, gt_iff_lt, List.length_cons, List.length_nil, bl_up2_at, bl_up2_nk, bl_up2_nx] <;> omega)) hi (by omega)) (fun o91 σ91 q91 => ?_)⟩
                     try dsimp only [bl_pv] at q91
                     obtain ⟨rfl, J3, rfl, m3, t3⟩ := q91
                     have hF3 := hF2.other m3 hs' hf' hsf
                     refine bl_go oX6_foldOf 80 [34] rfl ?_
                     refine ⟨rfl, rfl, ks, (Nat.le_of_ble_eq_true rfl), (0, 0), Nat.le_refl _, Nat.le_refl _, bl_MC_mono (c_Side_layOn hs' hf' hsf t3 hF3 (to := i) (col := 2 * (S.1 / 2) + i) rfl (by first | with_reducible rfl | ((try dsimp only [bl_pv]); simp (disch := omega) only [zI_n, zI_o, zI_lit, zI_neg, zI_add, zI_sub, zI_mul, zI_lt, zI_le, zI_eq, zI_clamp, zI_in, zI_div, zI_rem, lg_lt0, lg_gt0, lg_eq0, lg_le0, lg_ge0, Int.toNat_natCast, ge_iff_le, gt_iff_lt, List.length_cons, List.length_nil, bl_up2_at, bl_up2_nk, bl_up2_nx] <;> omega)) hi (by omega)) (fun o104 σ104 q104 => ?_)⟩
                     try dsimp only [bl_pv] at q104
                     obtain ⟨rfl, J4, rfl, m4, t4⟩ := q104
                     refine bl_go oX6_foldOf 80 [34] rfl ?_
                     try dsimp only [bl_pv]
                     first
                     | (refine ih _ _ _ _ (nI_1 i) rfl (((hM.trans m2).trans m3).trans m4) (t4.congr rfl (fun j hj => ?_))
                        have hj' : j < S.1 / 2 := hj
                        by_cases e : j = i
                        · subst e; simp [sd_on, fo2]
                        · have e2 : j < i + 1 ↔ j < i := by omega
                          simp [sd_on, e, e2])
                     | (refine ih _ _ _ _ (nI_1 i) rfl ((hM.trans m2).trans m3) (t3.congr rfl (fun j hj => ?_))
                        have hj' : j < S.1 / 2 := hj
                        by_cases e : j = i
                        · subst e; simp [sd_on, fo2]
                        · have e2 : j < i + 1 ↔ j < i := by omega
                          simp [sd_on, e, e2])
                     | (refine ih _ _ _ _ (nI_1 i) rfl (hM.trans m2) (t2.congr rfl (fun j hj => ?_))
                        have hj' : j < S.1 / 2 := hj
                        by_cases e : j = i
                        · subst e; simp [sd_on, fo2]
                        · have e2 : j < i + 1 ↔ j < i := by omega
                          simp [sd_on, e, e2])))
           · try simp (disch := omega) only [hF.1, zI_n, zI_o, zI_lit, zI_neg, zI_add, zI_sub, zI_mul, zI_lt, zI_le, zI_eq, zI_clamp, zI_in, zI_div, zI_rem, lg_lt0, lg_gt0, lg_eq0, lg_le0, lg_ge0, Int.toNat_natCast, ge_iff_le, gt_iff_lt, List.length_cons, List.length_nil, bl_up2_at, bl_up2_nk, bl_up2_nx] at h58
             first
             | (exfalso; omega)
             | (refine ⟨rfl, rfl, ks, (Nat.le_of_ble_eq_true rfl), (0, 0), Nat.le_refl _, Nat.le_refl _, bl_MC_mono (c_Side_layOn hs' hf' hsf t2 hF2 (to := i) (col := S.1 / 2 - 1 - i) rfl (by first | with_reducible rfl | ((try dsimp only [bl_pv]); simp (disch := omega) only [zI_n, zI_o, zI_lit, zI_neg, zI_add, zI_sub, zI_mul, zI_lt, zI_le, zI_eq, zI_clamp, zI_in, zI_div, zI_rem, lg_lt0, lg_gt0, lg_eq0, lg_le0, lg_ge0, Int.toNat_natCast, ge_iff_le, gt_iff_lt, List.length_cons, List.length_nil, bl_up2_at, bl_up2_nk, bl_up2_nx] <;> omega)) hi (by omega)) (fun o71 σ71 q71 => ?_)⟩
                try dsimp only [bl_pv] at q71
                obtain ⟨rfl, J3, rfl, m3, t3⟩ := q71
                refine bl_go oX6_foldOf 80 [34] rfl ?_
                refine ⟨fun h76 => ?_, fun h76 => ?_⟩
                · try simp (disch := omega) only [hF.1, zI_n, zI_o, zI_lit, zI_neg, zI_add, zI_sub, zI_mul, zI_lt, zI_le, zI_eq, zI_clamp, zI_in, zI_div, zI_rem, lg_lt0, lg_gt0, lg_eq0, lg_le0, lg_ge0, Int.toNat_natCast, ge_iff_le, gt_iff_lt, List.length_cons, List.length_nil, bl_up2_at, bl_up2_nk, bl_up2_nx] at h76
                  first
                  | (exfalso; omega)
                  | (try dsimp only [bl_pv]
                     first
                     | (refine ih _ _ _ _ (nI_1 i) rfl (((hM.trans m2).trans m3).trans m4) (t4.congr rfl (fun j hj => ?_))
                        have hj' : j < S.1 / 2 := hj
                        by_cases e : j = i
                        · subst e; simp [sd_on, fo2]
                        · have e2 : j < i + 1 ↔ j < i := by omega
                          simp [sd_on, e, e2])
                     | (refine ih _ _ _ _ (nI_1 i) rfl ((hM.trans m2).trans m3) (t3.congr rfl (fun j hj => ?_))
                        have hj' : j < S.1 / 2 := hj
                        by_cases e : j = i
                        · subst e; simp [sd_on, fo2]
                        · have e2 : j < i + 1 ↔ j < i := by omega
                          simp [sd_on, e, e2])
                     | (refine ih _ _ _ _ (nI_1 i) rfl (hM.trans m2) (t2.congr rfl (fun j hj => ?_))
                        have hj' : j < S.1 / 2 := hj
                        by_cases e : j = i
                        · subst e; simp [sd_on, fo2]
                        · have e2 : j < i + 1 ↔ j < i := by omega
                          simp [sd_on, e, e2]))
                · try simp (disch := omega) only [hF.1, zI_n, zI_o, zI_lit, zI_neg, zI_add, zI_sub, zI_mul, zI_lt, zI_le, zI_eq, zI_clamp, zI_in, zI_div, zI_rem, lg_lt0, lg_gt0, lg_eq0, lg_le0, lg_ge0, Int.toNat_natCast, ge_iff_le, gt_iff_lt, List.length_cons, List.length_nil, bl_up2_at, bl_up2_nk, bl_up2_nx] at h76
                  first
                  | (exfalso; omega)
                  | (refine ⟨rfl, rfl, ks, (Nat.le_of_ble_eq_true rfl), (0, 0), Nat.le_refl _, Nat.le_refl _, bl_MC_mono (c_Side_layOn hs' hf' hsf t2 hF2 (to := i) (col := 2 * (S.1 / 2) - 1 - i) rfl (by first | with_reducible rfl | ((try dsimp only [bl_pv]); simp (disch := omega) only [zI_n, zI_o, zI_lit, zI_neg, zI_add, zI_sub, zI_mul, zI_lt, zI_le, zI_eq, zI_clamp, zI_in, zI_div, zI_rem, lg_lt0, lg_gt0, lg_eq0, lg_le0, lg_ge0, Int.toNat_natCast, ge_iff_le, gt_iff_lt, List.length_cons, List.length_nil, bl_up2_at, bl_up2_nk, bl_up2_nx] <;> omega)) hi (by omega)) (fun o91 σ91 q91 => ?_)⟩
                     try dsimp only [bl_pv] at q91
                     obtain ⟨rfl, J3, rfl, m3, t3⟩ := q91
                     have hF3 := hF2.other m3 hs' hf' hsf
                     refine bl_go oX6_foldOf 80 [34] rfl ?_
                     refine ⟨rfl, rfl, ks, (Nat.le_of_ble_eq_true rfl), (0, 0), Nat.le_refl _, Nat.le_refl _, bl_MC_mono (c_Side_layOn hs' hf' hsf t3 hF3 (to := i) (col := 2 * (S.1 / 2) + i) rfl (by first | with_reducible rfl | ((try dsimp only [bl_pv]); simp (disch := omega) only [zI_n, zI_o, zI_lit, zI_neg, zI_add, zI_sub, zI_mul, zI_lt, zI_le, zI_eq, zI_clamp, zI_in, zI_div, zI_rem, lg_lt0, lg_gt0, lg_eq0, lg_le0, lg_ge0, Int.toNat_natCast, ge_iff_le, gt_iff_lt, List.length_cons, List.length_nil, bl_up2_at, bl_up2_nk, bl_up2_nx] <;> omega)) hi (by omega)) (fun o104 σ104 q104 => ?_)⟩
                     try dsimp only [bl_pv] at q104
                     obtain ⟨rfl, J4, rfl, m4, t4⟩ := q104
                     refine bl_go oX6_foldOf 80 [34] rfl ?_
                     try dsimp only [bl_pv]
                     first
                     | (refine ih _ _ _ _ (nI_1 i) rfl (((hM.trans m2).trans m3).trans m4) (t4.congr rfl (fun j hj => ?_))
                        have hj' : j < S.1 / 2 := hj
                        by_cases e : j = i
                        · subst e; simp [sd_on, fo2]
                        · have e2 : j < i + 1 ↔ j < i := by omega
                          simp [sd_on, e, e2])
                     | (refine ih _ _ _ _ (nI_1 i) rfl ((hM.trans m2).trans m3) (t3.congr rfl (fun j hj => ?_))
                        have hj' : j < S.1 / 2 := hj
                        by_cases e : j = i
                        · subst e; simp [sd_on, fo2]
                        · have e2 : j < i + 1 ↔ j < i := by omega
                          simp [sd_on, e, e2])
                     | (refine ih _ _ _ _ (nI_1 i) rfl (hM.trans m2) (t2.congr rfl (fun j hj => ?_))
                        have hj' : j < S.1 / 2 := hj
                        by_cases e : j = i
                        · subst e; simp [sd_on, fo2]
                        · have e2 : j < i + 1 ↔ j < i := by omega
                          simp [sd_on, e, e2]))))
  refine bl_go oX6_foldOf 80 [34] rfl ?_
  refine ⟨fun h1 => ?_, fun h1 => ?_⟩
  · try simp (disch := omega) only [c0, zI_n, zI_o, zI_lit, zI_neg, zI_add, zI_sub, zI_mul, zI_lt, zI_le, zI_eq, zI_clamp, zI_in, zI_div, zI_rem, lg_lt0, lg_gt0, lg_eq0, lg_le0, lg_ge0, Int.toNat_natCast, ge_iff_le, gt_iff_lt, List.length_cons, List.length_nil, bl_up2_at, bl_up2_nk, bl_up2_nx] at h1
    first
    | (exfalso; omega)
    | (refine ⟨fun h19 => ?_, fun h19 => ?_⟩
       · try simp (disch := omega) only [c0, zI_n, zI_o, zI_lit, zI_neg, zI_add, zI_sub, zI_mul, zI_lt, zI_le, zI_eq, zI_clamp, zI_in, zI_div, zI_rem, lg_lt0, lg_gt0, lg_eq0, lg_le0, lg_ge0, Int.toNat_natCast, ge_iff_le, gt_iff_lt, List.length_cons, List.length_nil, bl_up2_at, bl_up2_nk, bl_up2_nx] at h19
         first
         | (exfalso; omega)
         | (refine ⟨rfl, rfl, ks, (Nat.le_of_ble_eq_true rfl), (0, 0), Nat.le_refl _, Nat.le_refl _, bl_MC_mono (c_Side_partOf hs' hf' hsf hC' (fr := if 2 = 3 then S.1 / 2 else 0) (c := S.1 / 2) (by (try rw [if_neg (show ¬ 2 = 3 by decide)]); (try rw [if_pos (show 2 = 3 by decide)]); (try dsimp only [bl_pv]); simp (disch := omega) only [c0, zI_n, zI_o, zI_lit, zI_neg, zI_add, zI_sub, zI_mul, zI_lt, zI_le, zI_eq, zI_clamp, zI_in, zI_div, zI_rem, lg_lt0, lg_gt0, lg_eq0, lg_le0, lg_ge0, Int.toNat_natCast, ge_iff_le, gt_iff_lt, List.length_cons, List.length_nil, bl_up2_at, bl_up2_nk, bl_up2_nx] <;> omega) (by first | with_reducible rfl | ((try dsimp only [bl_pv]); simp (disch := omega) only [c0, zI_n, zI_o, zI_lit, zI_neg, zI_add, zI_sub, zI_mul, zI_lt, zI_le, zI_eq, zI_clamp, zI_in, zI_div, zI_rem, lg_lt0, lg_gt0, lg_eq0, lg_le0, lg_ge0, Int.toNat_natCast, ge_iff_le, gt_iff_lt, List.length_cons, List.length_nil, bl_up2_at, bl_up2_nk, bl_up2_nx] <;> omega)) (by simp; omega)) (fun o28 σ28 q28 => ?_)⟩
            try dsimp only [bl_pv] at q28
            obtain ⟨rfl, I2, J2, rfl, m2, t2⟩ := q28
            refine bl_go oX6_foldOf 80 [34] rfl ?_
            try dsimp only [bl_pv]
            refine L 0 (by omega) _ _ _ _ rfl (by first | with_reducible rfl | ((try dsimp only [bl_pv]); simp (disch := omega) only [c0, zI_n, zI_o, zI_lit, zI_neg, zI_add, zI_sub, zI_mul, zI_lt, zI_le, zI_eq, zI_clamp, zI_in, zI_div, zI_rem, lg_lt0, lg_gt0, lg_eq0, lg_le0, lg_ge0, Int.toNat_natCast, ge_iff_le, gt_iff_lt, List.length_cons, List.length_nil, bl_up2_at, bl_up2_nk, bl_up2_nx] <;> omega)) m2 (t2.congr rfl (fun j hj => ⟨?_, ?_⟩)) <;> simp [sd_part])
       · try simp (disch := omega) only [c0, zI_n, zI_o, zI_lit, zI_neg, zI_add, zI_sub, zI_mul, zI_lt, zI_le, zI_eq, zI_clamp, zI_in, zI_div, zI_rem, lg_lt0, lg_gt0, lg_eq0, lg_le0, lg_ge0, Int.toNat_natCast, ge_iff_le, gt_iff_lt, List.length_cons, List.length_nil, bl_up2_at, bl_up2_nk, bl_up2_nx] at h19
         first
         | (exfalso; omega)
         | (refine ⟨rfl, rfl, ks, (Nat.le_of_ble_eq_true rfl), (0, 0), Nat.le_refl _, Nat.le_refl _, bl_MC_mono (c_Side_partOf hs' hf' hsf hC' (fr := if 2 = 3 then S.1 / 2 else 0) (c := S.1 / 2) (by (try rw [if_neg (show ¬ 2 = 3 by decide)]); (try rw [if_pos (show 2 = 3 by decide)]); (try dsimp only [bl_pv]); simp (disch := omega) only [c0, zI_n, zI_o, zI_lit, zI_neg, zI_add, zI_sub, zI_mul, zI_lt, zI_le, zI_eq, zI_clamp, zI_in, zI_div, zI_rem, lg_lt0, lg_gt0, lg_eq0, lg_le0, lg_ge0, Int.toNat_natCast, ge_iff_le, gt_iff_lt, List.length_cons, List.length_nil, bl_up2_at, bl_up2_nk, bl_up2_nx] <;> omega) (by first | with_reducible rfl | ((try dsimp only [bl_pv]); simp (disch := omega) only [c0, zI_n, zI_o, zI_lit, zI_neg, zI_add, zI_sub, zI_mul, zI_lt, zI_le, zI_eq, zI_clamp, zI_in, zI_div, zI_rem, lg_lt0, lg_gt0, lg_eq0, lg_le0, lg_ge0, Int.toNat_natCast, ge_iff_le, gt_iff_lt, List.length_cons, List.length_nil, bl_up2_at, bl_up2_nk, bl_up2_nx] <;> omega)) (by simp; omega)) (fun o28 σ28 q28 => ?_)⟩
            try dsimp only [bl_pv] at q28
            obtain ⟨rfl, I2, J2, rfl, m2, t2⟩ := q28
            refine bl_go oX6_foldOf 80 [34] rfl ?_
            try dsimp only [bl_pv]
            refine L 0 (by omega) _ _ _ _ rfl (by first | with_reducible rfl | ((try dsimp only [bl_pv]); simp (disch := omega) only [c0, zI_n, zI_o, zI_lit, zI_neg, zI_add, zI_sub, zI_mul, zI_lt, zI_le, zI_eq, zI_clamp, zI_in, zI_div, zI_rem, lg_lt0, lg_gt0, lg_eq0, lg_le0, lg_ge0, Int.toNat_natCast, ge_iff_le, gt_iff_lt, List.length_cons, List.length_nil, bl_up2_at, bl_up2_nk, bl_up2_nx] <;> omega)) m2 (t2.congr rfl (fun j hj => ⟨?_, ?_⟩)) <;> simp [sd_part]))
  · try simp (disch := omega) only [c0, zI_n, zI_o, zI_lit, zI_neg, zI_add, zI_sub, zI_mul, zI_lt, zI_le, zI_eq, zI_clamp, zI_in, zI_div, zI_rem, lg_lt0, lg_gt0, lg_eq0, lg_le0, lg_ge0, Int.toNat_natCast, ge_iff_le, gt_iff_lt, List.length_cons, List.length_nil, bl_up2_at, bl_up2_nk, bl_up2_nx] at h1
    first
    | (exfalso; omega)
    | (refine ⟨kf, (by first | decide | (simp (disch := omega) only [c0, zI_n, zI_o, zI_lit, zI_neg, zI_add, zI_sub, zI_mul, zI_lt, zI_le, zI_eq, zI_clamp, zI_in, zI_div, zI_rem, lg_lt0, lg_gt0, lg_eq0, lg_le0, lg_ge0, Int.toNat_natCast, ge_iff_le, gt_iff_lt, List.length_cons, List.length_nil, bl_up2_at, bl_up2_nk, bl_up2_nx] <;> omega)), fun h19 => ?_, fun h19 => ?_⟩
       · try simp (disch := omega) only [c0, zI_n, zI_o, zI_lit, zI_neg, zI_add, zI_sub, zI_mul, zI_lt, zI_le, zI_eq, zI_clamp, zI_in, zI_div, zI_rem, lg_lt0, lg_gt0, lg_eq0, lg_le0, lg_ge0, Int.toNat_natCast, ge_iff_le, gt_iff_lt, List.length_cons, List.length_nil, bl_up2_at, bl_up2_nk, bl_up2_nx] at h19
         first
         | (exfalso; omega)
         | (refine ⟨rfl, rfl, ks, (Nat.le_of_ble_eq_true rfl), (0, 0), Nat.le_refl _, Nat.le_refl _, bl_MC_mono (c_Side_partOf hs' hf' hsf hC' (fr := if 2 = 3 then S.1 / 2 else 0) (c := S.1 / 2) (by (try rw [if_neg (show ¬ 2 = 3 by decide)]); (try rw [if_pos (show 2 = 3 by decide)]); (try dsimp only [bl_pv]); simp (disch := omega) only [c0, zI_n, zI_o, zI_lit, zI_neg, zI_add, zI_sub, zI_mul, zI_lt, zI_le, zI_eq, zI_clamp, zI_in, zI_div, zI_rem, lg_lt0, lg_gt0, lg_eq0, lg_le0, lg_ge0, Int.toNat_natCast, ge_iff_le, gt_iff_lt, List.length_cons, List.length_nil, bl_up2_at, bl_up2_nk, bl_up2_nx] <;> omega) (by first | with_reducible rfl | ((try dsimp only [bl_pv]); simp (disch := omega) only [c0, zI_n, zI_o, zI_lit, zI_neg, zI_add, zI_sub, zI_mul, zI_lt, zI_le, zI_eq, zI_clamp, zI_in, zI_div, zI_rem, lg_lt0, lg_gt0, lg_eq0, lg_le0, lg_ge0, Int.toNat_natCast, ge_iff_le, gt_iff_lt, List.length_cons, List.length_nil, bl_up2_at, bl_up2_nk, bl_up2_nx] <;> omega)) (by simp; omega)) (fun o28 σ28 q28 => ?_)⟩
            try dsimp only [bl_pv] at q28
            obtain ⟨rfl, I2, J2, rfl, m2, t2⟩ := q28
            refine bl_go oX6_foldOf 80 [34] rfl ?_
            try dsimp only [bl_pv]
            refine L 0 (by omega) _ _ _ _ rfl (by first | with_reducible rfl | ((try dsimp only [bl_pv]); simp (disch := omega) only [c0, zI_n, zI_o, zI_lit, zI_neg, zI_add, zI_sub, zI_mul, zI_lt, zI_le, zI_eq, zI_clamp, zI_in, zI_div, zI_rem, lg_lt0, lg_gt0, lg_eq0, lg_le0, lg_ge0, Int.toNat_natCast, ge_iff_le, gt_iff_lt, List.length_cons, List.length_nil, bl_up2_at, bl_up2_nk, bl_up2_nx] <;> omega)) m2 (t2.congr rfl (fun j hj => ⟨?_, ?_⟩)) <;> simp [sd_part])
       · try simp (disch := omega) only [c0, zI_n, zI_o, zI_lit, zI_neg, zI_add, zI_sub, zI_mul, zI_lt, zI_le, zI_eq, zI_clamp, zI_in, zI_div, zI_rem, lg_lt0, lg_gt0, lg_eq0, lg_le0, lg_ge0, Int.toNat_natCast, ge_iff_le, gt_iff_lt, List.length_cons, List.length_nil, bl_up2_at, bl_up2_nk, bl_up2_nx] at h19
         first
         | (exfalso; omega)
         | (refine ⟨rfl, rfl, ks, (Nat.le_of_ble_eq_true rfl), (0, 0), Nat.le_refl _, Nat.le_refl _, bl_MC_mono (c_Side_partOf hs' hf' hsf hC' (fr := if 2 = 3 then S.1 / 2 else 0) (c := S.1 / 2) (by (try rw [if_neg (show ¬ 2 = 3 by decide)]); (try rw [if_pos (show 2 = 3 by decide)]); (try dsimp only [bl_pv]); simp (disch := omega) only [c0, zI_n, zI_o, zI_lit, zI_neg, zI_add, zI_sub, zI_mul, zI_lt, zI_le, zI_eq, zI_clamp, zI_in, zI_div, zI_rem, lg_lt0, lg_gt0, lg_eq0, lg_le0, lg_ge0, Int.toNat_natCast, ge_iff_le, gt_iff_lt, List.length_cons, List.length_nil, bl_up2_at, bl_up2_nk, bl_up2_nx] <;> omega) (by first | with_reducible rfl | ((try dsimp only [bl_pv]); simp (disch := omega) only [c0, zI_n, zI_o, zI_lit, zI_neg, zI_add, zI_sub, zI_mul, zI_lt, zI_le, zI_eq, zI_clamp, zI_in, zI_div, zI_rem, lg_lt0, lg_gt0, lg_eq0, lg_le0, lg_ge0, Int.toNat_natCast, ge_iff_le, gt_iff_lt, List.length_cons, List.length_nil, bl_up2_at, bl_up2_nk, bl_up2_nx] <;> omega)) (by simp; omega)) (fun o28 σ28 q28 => ?_)⟩
            try dsimp only [bl_pv] at q28
            obtain ⟨rfl, I2, J2, rfl, m2, t2⟩ := q28
            refine bl_go oX6_foldOf 80 [34] rfl ?_
            try dsimp only [bl_pv]
            refine L 0 (by omega) _ _ _ _ rfl (by first | with_reducible rfl | ((try dsimp only [bl_pv]); simp (disch := omega) only [c0, zI_n, zI_o, zI_lit, zI_neg, zI_add, zI_sub, zI_mul, zI_lt, zI_le, zI_eq, zI_clamp, zI_in, zI_div, zI_rem, lg_lt0, lg_gt0, lg_eq0, lg_le0, lg_ge0, Int.toNat_natCast, ge_iff_le, gt_iff_lt, List.length_cons, List.length_nil, bl_up2_at, bl_up2_nk, bl_up2_nx] <;> omega)) m2 (t2.congr rfl (fun j hj => ⟨?_, ?_⟩)) <;> simp [sd_part]))
theorem c_Side_fold3 {S : sq} {x : Int32} (hs : sdS R K N s) (hf : sdS R K N f) (hsf : s ≠ f) (hC : sdC I J f S) (hx : x = nI 3) (hdv : S.1 % 3 = 0) : bl_MC G l (d + 1) mX6_foldOf [.ref s, .ref f, .int x] (I, J, R, K, N) (0, 0) (fun o σ' => o = .inl none ∧ ∃ I' J', σ' = (I', J', R, K, N) ∧ sdM I I' J J' s ∧ sdC I' J' s (S.1 / 3, fo3 S.1 S.2.1, fo3 S.1 S.2.2)) := by
  have hs' := hs; have hf' := hf; have hC' := hC
  obtain ⟨hr1, ks, rs_0, rs_1, kp, np, km, nm⟩ := hs
  obtain ⟨hr2, kf, rf_0, rf_1, kfp, nfp, kfm, nfm⟩ := hf
  obtain ⟨c0, c1, c2⟩ := hC
  subst hx
  refine bl_MC_intro (by decide +kernel) rfl (Nat.le_of_ble_eq_true rfl) ?_
  have L : ∀ i, i ≤ S.1 / 3 → ∀ x y I1 J1, x = nI i → y = nI (S.1 / 3) → sdM I I1 J J1 s → sdC I1 J1 s (S.1 / 3, (fun j => if j < i then fo3 S.1 S.2.1 j else S.2.1 ((if 3 = 3 then S.1 / 3 else 0) + j)), (fun j => if j < i then fo3 S.1 S.2.2 j else S.2.2 ((if 3 = 3 then S.1 / 3 else 0) + j))) → bl_WP G l (d + 1) mX6_foldOf 34 [(4, .int x), (3, .int y), (0, .ref s), (1, .ref f), (2, .int (nI 3))] [] (I1, J1, R, K, N) (0, 0) (fun o σ' => o = .inl none ∧ ∃ I' J', σ' = (I', J', R, K, N) ∧ sdM I I' J J' s ∧ sdC I' J' s (S.1 / 3, fo3 S.1 S.2.1, fo3 S.1 S.2.2)) := by
    refine bl_for (S.1 / 3) ?_ (fun i hi ih => ?_)
    · intro x y I1 J1 hx hy hM hT; subst hx hy
      refine bl_go oX6_foldOf 80 [34] rfl ?_
      refine ⟨fun h37 => ?_, fun h37 => ?_⟩
      · try simp (disch := omega) only [zI_n, zI_o, zI_lit, zI_neg, zI_add, zI_sub, zI_mul, zI_lt, zI_le, zI_eq, zI_clamp, zI_in, zI_div, zI_rem, lg_lt0, lg_gt0, lg_eq0, lg_le0, lg_ge0, Int.toNat_natCast, ge_iff_le, gt_iff_lt, List.length_cons, List.length_nil, bl_up2_at, bl_up2_nk, bl_up2_nx] at h37
        try show _ ∧ _
        try dsimp only [bl_pv]
        refine ⟨rfl, _, _, rfl, hM, hT.congr rfl (fun j hj => ?_)⟩
        have hj' : j < S.1 / 3 := hj
        show (if j < S.1 / 3 then _ else _) = _ ∧ (if j < S.1 / 3 then _ else _) = _
        rw [if_pos hj', if_pos hj']; exact ⟨rfl, rfl⟩
      · try simp (disch := omega) only [zI_n, zI_o, zI_lit, zI_neg, zI_add, zI_sub, zI_mul, zI_lt, zI_le, zI_eq, zI_clamp, zI_in, zI_div, zI_rem, lg_lt0, lg_gt0, lg_eq0, lg_le0, lg_ge0, Int.toNat_natCast, ge_iff_le, gt_iff_lt, List.length_cons, List.length_nil, bl_up2_at, bl_up2_nk, bl_up2_nx] at h37
        exfalso; omega
    · intro x y I1 J1 hx hy hM hT; subst hx hy
      have hF := hC'.other hM hs' hf' hsf
      refine bl_go oX6_foldOf 80 [34] rfl ?_
      refine ⟨fun h37 => ?_, fun h37 => ?_⟩
      · try simp (disch := omega) only [hF.1, zI_n, zI_o, zI_lit, zI_neg, zI_add, zI_sub, zI_mul, zI_lt, zI_le, zI_eq, zI_clamp, zI_in, zI_div, zI_rem, lg_lt0, lg_gt0, lg_eq0, lg_le0, lg_ge0, Int.toNat_natCast, ge_iff_le, gt_iff_lt, List.length_cons, List.length_nil, bl_up2_at, bl_up2_nk, bl_up2_nx] at h37
        first
        | (exfalso; omega)
        | (try show _ ∧ _
           try dsimp only [bl_pv]
           fail /- ret113 -/)
      · try simp (disch := omega) only [hF.1, zI_n, zI_o, zI_lit, zI_neg, zI_add, zI_sub, zI_mul, zI_lt, zI_le, zI_eq, zI_clamp, zI_in, zI_div, zI_rem, lg_lt0, lg_gt0, lg_eq0, lg_le0, lg_ge0, Int.toNat_natCast, ge_iff_le, gt_iff_lt, List.length_cons, List.length_nil, bl_up2_at, bl_up2_nk, bl_up2_nx] at h37
        first
        | (exfalso; omega)
        | (refine ⟨kf, rfl, rfl, ks, (Nat.le_of_ble_eq_true rfl), (0, 0), Nat.le_refl _, Nat.le_refl _, bl_MC_mono (c_Side_layOn hs' hf' hsf hT hF (to := i) (col := S.1 - 1 - i) (by first | with_reducible rfl | ((try dsimp only [bl_pv]); simp (disch := omega) only [hF.1, zI_n, zI_o, zI_lit, zI_neg, zI_add, zI_sub, zI_mul, zI_lt, zI_le, zI_eq, zI_clamp, zI_in, zI_div, zI_rem, lg_lt0, lg_gt0, lg_eq0, lg_le0, lg_ge0, Int.toNat_natCast, ge_iff_le, gt_iff_lt, List.length_cons, List.length_nil, bl_up2_at, bl_up2_nk, bl_up2_nx] <;> omega)) (by first | with_reducible rfl | ((try dsimp only [bl_pv]); simp (disch := omega) only [hF.1, zI_n, zI_o, zI_lit, zI_neg, zI_add, zI_sub, zI_mul, zI_lt, zI_le, zI_eq, zI_clamp, zI_in, zI_div, zI_rem, lg_lt0, lg_gt0, lg_eq0, lg_le0, lg_ge0, Int.toNat_natCast, ge_iff_le, gt_iff_lt, List.length_cons, List.length_nil, bl_up2_at, bl_up2_nk, bl_up2_nx] <;> omega)) hi (by omega)) (fun o53 σ53 q53 => ?_)⟩
           try dsimp only [bl_pv] at q53
           obtain ⟨rfl, J2, rfl, m2, t2⟩ := q53
           have hF2 := hF.other m2 hs' hf' hsf
           refine bl_go oX6_foldOf 80 [34] rfl ?_
           refine ⟨fun h58 => ?_, fun h58 => ?_⟩
           · try simp (disch := omega) only [hF.1, zI_n, zI_o, zI_lit, zI_neg, zI_add, zI_sub, zI_mul, zI_lt, zI_le, zI_eq, zI_clamp, zI_in, zI_div, zI_rem, lg_lt0, lg_gt0, lg_eq0, lg_le0, lg_ge0, Int.toNat_natCast, ge_iff_le, gt_iff_lt, List.length_cons, List.length_nil, bl_up2_at, bl_up2_nk, bl_up2_nx] at h58
             first
             | (exfalso; omega)
             | (refine ⟨fun h76 => ?_, fun h76 => ?_⟩
                · try simp (disch := omega) only [hF.1, zI_n, zI_o, zI_lit, zI_neg, zI_add, zI_sub, zI_mul, zI_lt, zI_le, zI_eq, zI_clamp, zI_in, zI_div, zI_rem, lg_lt0, lg_gt0, lg_eq0, lg_le0, lg_ge0, Int.toNat_natCast, ge_iff_le, gt_iff_lt, List.length_cons, List.length_nil, bl_up2_at, bl_up2_nk, bl_up2_nx] at h76
                  first
                  | (exfalso; omega)
                  | (try dsimp only [bl_pv]
                     first
                     | (refine ih _ _ _ _ (nI_1 i) rfl (((hM.trans m2).trans m3).trans m4) (t4.congr rfl (fun j hj => ?_))
                        have hj' : j < S.1 / 3 := hj
                        by_cases e : j = i
                        · subst e; simp [sd_on, fo3]
                        · have e2 : j < i + 1 ↔ j < i := by omega
                          simp [sd_on, e, e2])
                     | (refine ih _ _ _ _ (nI_1 i) rfl ((hM.trans m2).trans m3) (t3.congr rfl (fun j hj => ?_))
                        have hj' : j < S.1 / 3 := hj
                        by_cases e : j = i
                        · subst e; simp [sd_on, fo3]
                        · have e2 : j < i + 1 ↔ j < i := by omega
                          simp [sd_on, e, e2])
                     | (refine ih _ _ _ _ (nI_1 i) rfl (hM.trans m2) (t2.congr rfl (fun j hj => ?_))
                        have hj' : j < S.1 / 3 := hj
                        by_cases e : j = i
                        · subst e; simp [sd_on, fo3]
                        · have e2 : j < i + 1 ↔ j < i := by omega
                          simp [sd_on, e, e2]))
                · try simp (disch := omega) only [hF.1, zI_n, zI_o, zI_lit, zI_neg, zI_add, zI_sub, zI_mul, zI_lt, zI_le, zI_eq, zI_clamp, zI_in, zI_div, zI_rem, lg_lt0, lg_gt0, lg_eq0, lg_le0, lg_ge0, Int.toNat_natCast, ge_iff_le, gt_iff_lt, List.length_cons, List.length_nil, bl_up2_at, bl_up2_nk, bl_up2_nx] at h76
                  first
                  | (exfalso; omega)
                  | (refine ⟨rfl, rfl, ks, (Nat.le_of_ble_eq_true rfl), (0, 0), Nat.le_refl _, Nat.le_refl _, bl_MC_mono (c_Side_layOn hs' hf' hsf t2 hF2 (to := i) (col := 2 * (S.1 / 3) - 1 - i) rfl (by first | with_reducible rfl | ((try dsimp only [bl_pv]); simp (disch := omega) only [zI_n, zI_o, zI_lit, zI_neg, zI_add, zI_sub, zI_mul, zI_lt, zI_le, zI_eq, zI_clamp, zI_in, zI_div, zI_rem, lg_lt0, lg_gt0, lg_eq0, lg_le0, lg_ge0, Int.toNat_natCast, ge_iff_le, gt_iff_lt, List.length_cons, List.length_nil, bl_up2_at, bl_up2_nk, bl_up2_nx] <;> omega)) hi (by omega)) (fun o91 σ91 q91 => ?_)⟩
                     try dsimp only [bl_pv] at q91
                     obtain ⟨rfl, J3, rfl, m3, t3⟩ := q91
                     have hF3 := hF2.other m3 hs' hf' hsf
                     refine bl_go oX6_foldOf 80 [34] rfl ?_
                     refine ⟨rfl, rfl, ks, (Nat.le_of_ble_eq_true rfl), (0, 0), Nat.le_refl _, Nat.le_refl _, bl_MC_mono (c_Side_layOn hs' hf' hsf t3 hF3 (to := i) (col := 2 * (S.1 / 3) + i) rfl (by first | with_reducible rfl | ((try dsimp only [bl_pv]); simp (disch := omega) only [zI_n, zI_o, zI_lit, zI_neg, zI_add, zI_sub, zI_mul, zI_lt, zI_le, zI_eq, zI_clamp, zI_in, zI_div, zI_rem, lg_lt0, lg_gt0, lg_eq0, lg_le0, lg_ge0, Int.toNat_natCast, ge_iff_le, gt_iff_lt, List.length_cons, List.length_nil, bl_up2_at, bl_up2_nk, bl_up2_nx] <;> omega)) hi (by omega)) (fun o104 σ104 q104 => ?_)⟩
                     try dsimp only [bl_pv] at q104
                     obtain ⟨rfl, J4, rfl, m4, t4⟩ := q104
                     refine bl_go oX6_foldOf 80 [34] rfl ?_
                     try dsimp only [bl_pv]
                     first
                     | (refine ih _ _ _ _ (nI_1 i) rfl (((hM.trans m2).trans m3).trans m4) (t4.congr rfl (fun j hj => ?_))
                        have hj' : j < S.1 / 3 := hj
                        by_cases e : j = i
                        · subst e; simp [sd_on, fo3]
                        · have e2 : j < i + 1 ↔ j < i := by omega
                          simp [sd_on, e, e2])
                     | (refine ih _ _ _ _ (nI_1 i) rfl ((hM.trans m2).trans m3) (t3.congr rfl (fun j hj => ?_))
                        have hj' : j < S.1 / 3 := hj
                        by_cases e : j = i
                        · subst e; simp [sd_on, fo3]
                        · have e2 : j < i + 1 ↔ j < i := by omega
                          simp [sd_on, e, e2])
                     | (refine ih _ _ _ _ (nI_1 i) rfl (hM.trans m2) (t2.congr rfl (fun j hj => ?_))
                        have hj' : j < S.1 / 3 := hj
                        by_cases e : j = i
                        · subst e; simp [sd_on, fo3]
                        · have e2 : j < i + 1 ↔ j < i := by omega
                          simp [sd_on, e, e2])))
           · try simp (disch := omega) only [hF.1, zI_n, zI_o, zI_lit, zI_neg, zI_add, zI_sub, zI_mul, zI_lt, zI_le, zI_eq, zI_clamp, zI_in, zI_div, zI_rem, lg_lt0, lg_gt0, lg_eq0, lg_le0, lg_ge0, Int.toNat_natCast, ge_iff_le, gt_iff_lt, List.length_cons, List.length_nil, bl_up2_at, bl_up2_nk, bl_up2_nx] at h58
             first
             | (exfalso; omega)
             | (refine ⟨rfl, rfl, ks, (Nat.le_of_ble_eq_true rfl), (0, 0), Nat.le_refl _, Nat.le_refl _, bl_MC_mono (c_Side_layOn hs' hf' hsf t2 hF2 (to := i) (col := S.1 / 3 - 1 - i) rfl (by first | with_reducible rfl | ((try dsimp only [bl_pv]); simp (disch := omega) only [zI_n, zI_o, zI_lit, zI_neg, zI_add, zI_sub, zI_mul, zI_lt, zI_le, zI_eq, zI_clamp, zI_in, zI_div, zI_rem, lg_lt0, lg_gt0, lg_eq0, lg_le0, lg_ge0, Int.toNat_natCast, ge_iff_le, gt_iff_lt, List.length_cons, List.length_nil, bl_up2_at, bl_up2_nk, bl_up2_nx] <;> omega)) hi (by omega)) (fun o71 σ71 q71 => ?_)⟩
                try dsimp only [bl_pv] at q71
                obtain ⟨rfl, J3, rfl, m3, t3⟩ := q71
                refine bl_go oX6_foldOf 80 [34] rfl ?_
                refine ⟨fun h76 => ?_, fun h76 => ?_⟩
                · try simp (disch := omega) only [hF.1, zI_n, zI_o, zI_lit, zI_neg, zI_add, zI_sub, zI_mul, zI_lt, zI_le, zI_eq, zI_clamp, zI_in, zI_div, zI_rem, lg_lt0, lg_gt0, lg_eq0, lg_le0, lg_ge0, Int.toNat_natCast, ge_iff_le, gt_iff_lt, List.length_cons, List.length_nil, bl_up2_at, bl_up2_nk, bl_up2_nx] at h76
                  first
                  | (exfalso; omega)
                  | (try dsimp only [bl_pv]
                     first
                     | (refine ih _ _ _ _ (nI_1 i) rfl (((hM.trans m2).trans m3).trans m4) (t4.congr rfl (fun j hj => ?_))
                        have hj' : j < S.1 / 3 := hj
                        by_cases e : j = i
                        · subst e; simp [sd_on, fo3]
                        · have e2 : j < i + 1 ↔ j < i := by omega
                          simp [sd_on, e, e2])
                     | (refine ih _ _ _ _ (nI_1 i) rfl ((hM.trans m2).trans m3) (t3.congr rfl (fun j hj => ?_))
                        have hj' : j < S.1 / 3 := hj
                        by_cases e : j = i
                        · subst e; simp [sd_on, fo3]
                        · have e2 : j < i + 1 ↔ j < i := by omega
                          simp [sd_on, e, e2])
                     | (refine ih _ _ _ _ (nI_1 i) rfl (hM.trans m2) (t2.congr rfl (fun j hj => ?_))
                        have hj' : j < S.1 / 3 := hj
                        by_cases e : j = i
                        · subst e; simp [sd_on, fo3]
                        · have e2 : j < i + 1 ↔ j < i := by omega
                          simp [sd_on, e, e2]))
                · try simp (disch := omega) only [hF.1, zI_n, zI_o, zI_lit, zI_neg, zI_add, zI_sub, zI_mul, zI_lt, zI_le, zI_eq, zI_clamp, zI_in, zI_div, zI_rem, lg_lt0, lg_gt0, lg_eq0, lg_le0, lg_ge0, Int.toNat_natCast, ge_iff_le, gt_iff_lt, List.length_cons, List.length_nil, bl_up2_at, bl_up2_nk, bl_up2_nx] at h76
                  first
                  | (exfalso; omega)
                  | (refine ⟨rfl, rfl, ks, (Nat.le_of_ble_eq_true rfl), (0, 0), Nat.le_refl _, Nat.le_refl _, bl_MC_mono (c_Side_layOn hs' hf' hsf t2 hF2 (to := i) (col := 2 * (S.1 / 3) - 1 - i) rfl (by first | with_reducible rfl | ((try dsimp only [bl_pv]); simp (disch := omega) only [zI_n, zI_o, zI_lit, zI_neg, zI_add, zI_sub, zI_mul, zI_lt, zI_le, zI_eq, zI_clamp, zI_in, zI_div, zI_rem, lg_lt0, lg_gt0, lg_eq0, lg_le0, lg_ge0, Int.toNat_natCast, ge_iff_le, gt_iff_lt, List.length_cons, List.length_nil, bl_up2_at, bl_up2_nk, bl_up2_nx] <;> omega)) hi (by omega)) (fun o91 σ91 q91 => ?_)⟩
                     try dsimp only [bl_pv] at q91
                     obtain ⟨rfl, J3, rfl, m3, t3⟩ := q91
                     have hF3 := hF2.other m3 hs' hf' hsf
                     refine bl_go oX6_foldOf 80 [34] rfl ?_
                     refine ⟨rfl, rfl, ks, (Nat.le_of_ble_eq_true rfl), (0, 0), Nat.le_refl _, Nat.le_refl _, bl_MC_mono (c_Side_layOn hs' hf' hsf t3 hF3 (to := i) (col := 2 * (S.1 / 3) + i) rfl (by first | with_reducible rfl | ((try dsimp only [bl_pv]); simp (disch := omega) only [zI_n, zI_o, zI_lit, zI_neg, zI_add, zI_sub, zI_mul, zI_lt, zI_le, zI_eq, zI_clamp, zI_in, zI_div, zI_rem, lg_lt0, lg_gt0, lg_eq0, lg_le0, lg_ge0, Int.toNat_natCast, ge_iff_le, gt_iff_lt, List.length_cons, List.length_nil, bl_up2_at, bl_up2_nk, bl_up2_nx] <;> omega)) hi (by omega)) (fun o104 σ104 q104 => ?_)⟩
                     try dsimp only [bl_pv] at q104
                     obtain ⟨rfl, J4, rfl, m4, t4⟩ := q104
                     refine bl_go oX6_foldOf 80 [34] rfl ?_
                     try dsimp only [bl_pv]
                     first
                     | (refine ih _ _ _ _ (nI_1 i) rfl (((hM.trans m2).trans m3).trans m4) (t4.congr rfl (fun j hj => ?_))
                        have hj' : j < S.1 / 3 := hj
                        by_cases e : j = i
                        · subst e; simp [sd_on, fo3]
                        · have e2 : j < i + 1 ↔ j < i := by omega
                          simp [sd_on, e, e2])
                     | (refine ih _ _ _ _ (nI_1 i) rfl ((hM.trans m2).trans m3) (t3.congr rfl (fun j hj => ?_))
                        have hj' : j < S.1 / 3 := hj
                        by_cases e : j = i
                        · subst e; simp [sd_on, fo3]
                        · have e2 : j < i + 1 ↔ j < i := by omega
                          simp [sd_on, e, e2])
                     | (refine ih _ _ _ _ (nI_1 i) rfl (hM.trans m2) (t2.congr rfl (fun j hj => ?_))
                        have hj' : j < S.1 / 3 := hj
                        by_cases e : j = i
                        · subst e; simp [sd_on, fo3]
                        · have e2 : j < i + 1 ↔ j < i := by omega
                          simp [sd_on, e, e2]))))
  refine bl_go oX6_foldOf 80 [34] rfl ?_
  refine ⟨fun h1 => ?_, fun h1 => ?_⟩
  · try simp (disch := omega) only [c0, zI_n, zI_o, zI_lit, zI_neg, zI_add, zI_sub, zI_mul, zI_lt, zI_le, zI_eq, zI_clamp, zI_in, zI_div, zI_rem, lg_lt0, lg_gt0, lg_eq0, lg_le0, lg_ge0, Int.toNat_natCast, ge_iff_le, gt_iff_lt, List.length_cons, List.length_nil, bl_up2_at, bl_up2_nk, bl_up2_nx] at h1
    first
    | (exfalso; omega)
    | (refine ⟨fun h19 => ?_, fun h19 => ?_⟩
       · try simp (disch := omega) only [c0, zI_n, zI_o, zI_lit, zI_neg, zI_add, zI_sub, zI_mul, zI_lt, zI_le, zI_eq, zI_clamp, zI_in, zI_div, zI_rem, lg_lt0, lg_gt0, lg_eq0, lg_le0, lg_ge0, Int.toNat_natCast, ge_iff_le, gt_iff_lt, List.length_cons, List.length_nil, bl_up2_at, bl_up2_nk, bl_up2_nx] at h19
         first
         | (exfalso; omega)
         | (refine ⟨rfl, rfl, ks, (Nat.le_of_ble_eq_true rfl), (0, 0), Nat.le_refl _, Nat.le_refl _, bl_MC_mono (c_Side_partOf hs' hf' hsf hC' (fr := if 3 = 3 then S.1 / 3 else 0) (c := S.1 / 3) (by (try rw [if_neg (show ¬ 3 = 3 by decide)]); (try rw [if_pos (show 3 = 3 by decide)]); (try dsimp only [bl_pv]); simp (disch := omega) only [c0, zI_n, zI_o, zI_lit, zI_neg, zI_add, zI_sub, zI_mul, zI_lt, zI_le, zI_eq, zI_clamp, zI_in, zI_div, zI_rem, lg_lt0, lg_gt0, lg_eq0, lg_le0, lg_ge0, Int.toNat_natCast, ge_iff_le, gt_iff_lt, List.length_cons, List.length_nil, bl_up2_at, bl_up2_nk, bl_up2_nx] <;> omega) (by first | with_reducible rfl | ((try dsimp only [bl_pv]); simp (disch := omega) only [c0, zI_n, zI_o, zI_lit, zI_neg, zI_add, zI_sub, zI_mul, zI_lt, zI_le, zI_eq, zI_clamp, zI_in, zI_div, zI_rem, lg_lt0, lg_gt0, lg_eq0, lg_le0, lg_ge0, Int.toNat_natCast, ge_iff_le, gt_iff_lt, List.length_cons, List.length_nil, bl_up2_at, bl_up2_nk, bl_up2_nx] <;> omega)) (by simp; omega)) (fun o28 σ28 q28 => ?_)⟩
            try dsimp only [bl_pv] at q28
            obtain ⟨rfl, I2, J2, rfl, m2, t2⟩ := q28
            refine bl_go oX6_foldOf 80 [34] rfl ?_
            try dsimp only [bl_pv]
            refine L 0 (by omega) _ _ _ _ rfl (by first | with_reducible rfl | ((try dsimp only [bl_pv]); simp (disch := omega) only [c0, zI_n, zI_o, zI_lit, zI_neg, zI_add, zI_sub, zI_mul, zI_lt, zI_le, zI_eq, zI_clamp, zI_in, zI_div, zI_rem, lg_lt0, lg_gt0, lg_eq0, lg_le0, lg_ge0, Int.toNat_natCast, ge_iff_le, gt_iff_lt, List.length_cons, List.length_nil, bl_up2_at, bl_up2_nk, bl_up2_nx] <;> omega)) m2 (t2.congr rfl (fun j hj => ⟨?_, ?_⟩)) <;> simp [sd_part])
       · try simp (disch := omega) only [c0, zI_n, zI_o, zI_lit, zI_neg, zI_add, zI_sub, zI_mul, zI_lt, zI_le, zI_eq, zI_clamp, zI_in, zI_div, zI_rem, lg_lt0, lg_gt0, lg_eq0, lg_le0, lg_ge0, Int.toNat_natCast, ge_iff_le, gt_iff_lt, List.length_cons, List.length_nil, bl_up2_at, bl_up2_nk, bl_up2_nx] at h19
         first
         | (exfalso; omega)
         | (refine ⟨rfl, rfl, ks, (Nat.le_of_ble_eq_true rfl), (0, 0), Nat.le_refl _, Nat.le_refl _, bl_MC_mono (c_Side_partOf hs' hf' hsf hC' (fr := if 3 = 3 then S.1 / 3 else 0) (c := S.1 / 3) (by (try rw [if_neg (show ¬ 3 = 3 by decide)]); (try rw [if_pos (show 3 = 3 by decide)]); (try dsimp only [bl_pv]); simp (disch := omega) only [c0, zI_n, zI_o, zI_lit, zI_neg, zI_add, zI_sub, zI_mul, zI_lt, zI_le, zI_eq, zI_clamp, zI_in, zI_div, zI_rem, lg_lt0, lg_gt0, lg_eq0, lg_le0, lg_ge0, Int.toNat_natCast, ge_iff_le, gt_iff_lt, List.length_cons, List.length_nil, bl_up2_at, bl_up2_nk, bl_up2_nx] <;> omega) (by first | with_reducible rfl | ((try dsimp only [bl_pv]); simp (disch := omega) only [c0, zI_n, zI_o, zI_lit, zI_neg, zI_add, zI_sub, zI_mul, zI_lt, zI_le, zI_eq, zI_clamp, zI_in, zI_div, zI_rem, lg_lt0, lg_gt0, lg_eq0, lg_le0, lg_ge0, Int.toNat_natCast, ge_iff_le, gt_iff_lt, List.length_cons, List.length_nil, bl_up2_at, bl_up2_nk, bl_up2_nx] <;> omega)) (by simp; omega)) (fun o28 σ28 q28 => ?_)⟩
            try dsimp only [bl_pv] at q28
            obtain ⟨rfl, I2, J2, rfl, m2, t2⟩ := q28
            refine bl_go oX6_foldOf 80 [34] rfl ?_
            try dsimp only [bl_pv]
            refine L 0 (by omega) _ _ _ _ rfl (by first | with_reducible rfl | ((try dsimp only [bl_pv]); simp (disch := omega) only [c0, zI_n, zI_o, zI_lit, zI_neg, zI_add, zI_sub, zI_mul, zI_lt, zI_le, zI_eq, zI_clamp, zI_in, zI_div, zI_rem, lg_lt0, lg_gt0, lg_eq0, lg_le0, lg_ge0, Int.toNat_natCast, ge_iff_le, gt_iff_lt, List.length_cons, List.length_nil, bl_up2_at, bl_up2_nk, bl_up2_nx] <;> omega)) m2 (t2.congr rfl (fun j hj => ⟨?_, ?_⟩)) <;> simp [sd_part]))
  · try simp (disch := omega) only [c0, zI_n, zI_o, zI_lit, zI_neg, zI_add, zI_sub, zI_mul, zI_lt, zI_le, zI_eq, zI_clamp, zI_in, zI_div, zI_rem, lg_lt0, lg_gt0, lg_eq0, lg_le0, lg_ge0, Int.toNat_natCast, ge_iff_le, gt_iff_lt, List.length_cons, List.length_nil, bl_up2_at, bl_up2_nk, bl_up2_nx] at h1
    first
    | (exfalso; omega)
    | (refine ⟨kf, (by first | decide | (simp (disch := omega) only [c0, zI_n, zI_o, zI_lit, zI_neg, zI_add, zI_sub, zI_mul, zI_lt, zI_le, zI_eq, zI_clamp, zI_in, zI_div, zI_rem, lg_lt0, lg_gt0, lg_eq0, lg_le0, lg_ge0, Int.toNat_natCast, ge_iff_le, gt_iff_lt, List.length_cons, List.length_nil, bl_up2_at, bl_up2_nk, bl_up2_nx] <;> omega)), fun h19 => ?_, fun h19 => ?_⟩
       · try simp (disch := omega) only [c0, zI_n, zI_o, zI_lit, zI_neg, zI_add, zI_sub, zI_mul, zI_lt, zI_le, zI_eq, zI_clamp, zI_in, zI_div, zI_rem, lg_lt0, lg_gt0, lg_eq0, lg_le0, lg_ge0, Int.toNat_natCast, ge_iff_le, gt_iff_lt, List.length_cons, List.length_nil, bl_up2_at, bl_up2_nk, bl_up2_nx] at h19
         first
         | (exfalso; omega)
         | (refine ⟨rfl, rfl, ks, (Nat.le_of_ble_eq_true rfl), (0, 0), Nat.le_refl _, Nat.le_refl _, bl_MC_mono (c_Side_partOf hs' hf' hsf hC' (fr := if 3 = 3 then S.1 / 3 else 0) (c := S.1 / 3) (by (try rw [if_neg (show ¬ 3 = 3 by decide)]); (try rw [if_pos (show 3 = 3 by decide)]); (try dsimp only [bl_pv]); simp (disch := omega) only [c0, zI_n, zI_o, zI_lit, zI_neg, zI_add, zI_sub, zI_mul, zI_lt, zI_le, zI_eq, zI_clamp, zI_in, zI_div, zI_rem, lg_lt0, lg_gt0, lg_eq0, lg_le0, lg_ge0, Int.toNat_natCast, ge_iff_le, gt_iff_lt, List.length_cons, List.length_nil, bl_up2_at, bl_up2_nk, bl_up2_nx] <;> omega) (by first | with_reducible rfl | ((try dsimp only [bl_pv]); simp (disch := omega) only [c0, zI_n, zI_o, zI_lit, zI_neg, zI_add, zI_sub, zI_mul, zI_lt, zI_le, zI_eq, zI_clamp, zI_in, zI_div, zI_rem, lg_lt0, lg_gt0, lg_eq0, lg_le0, lg_ge0, Int.toNat_natCast, ge_iff_le, gt_iff_lt, List.length_cons, List.length_nil, bl_up2_at, bl_up2_nk, bl_up2_nx] <;> omega)) (by simp; omega)) (fun o28 σ28 q28 => ?_)⟩
            try dsimp only [bl_pv] at q28
            obtain ⟨rfl, I2, J2, rfl, m2, t2⟩ := q28
            refine bl_go oX6_foldOf 80 [34] rfl ?_
            try dsimp only [bl_pv]
            refine L 0 (by omega) _ _ _ _ rfl (by first | with_reducible rfl | ((try dsimp only [bl_pv]); simp (disch := omega) only [c0, zI_n, zI_o, zI_lit, zI_neg, zI_add, zI_sub, zI_mul, zI_lt, zI_le, zI_eq, zI_clamp, zI_in, zI_div, zI_rem, lg_lt0, lg_gt0, lg_eq0, lg_le0, lg_ge0, Int.toNat_natCast, ge_iff_le, gt_iff_lt, List.length_cons, List.length_nil, bl_up2_at, bl_up2_nk, bl_up2_nx] <;> omega)) m2 (t2.congr rfl (fun j hj => ⟨?_, ?_⟩)) <;> simp [sd_part])
       · try simp (disch := omega) only [c0, zI_n, zI_o, zI_lit, zI_neg, zI_add, zI_sub, zI_mul, zI_lt, zI_le, zI_eq, zI_clamp, zI_in, zI_div, zI_rem, lg_lt0, lg_gt0, lg_eq0, lg_le0, lg_ge0, Int.toNat_natCast, ge_iff_le, gt_iff_lt, List.length_cons, List.length_nil, bl_up2_at, bl_up2_nk, bl_up2_nx] at h19
         first
         | (exfalso; omega)
         | (refine ⟨rfl, rfl, ks, (Nat.le_of_ble_eq_true rfl), (0, 0), Nat.le_refl _, Nat.le_refl _, bl_MC_mono (c_Side_partOf hs' hf' hsf hC' (fr := if 3 = 3 then S.1 / 3 else 0) (c := S.1 / 3) (by (try rw [if_neg (show ¬ 3 = 3 by decide)]); (try rw [if_pos (show 3 = 3 by decide)]); (try dsimp only [bl_pv]); simp (disch := omega) only [c0, zI_n, zI_o, zI_lit, zI_neg, zI_add, zI_sub, zI_mul, zI_lt, zI_le, zI_eq, zI_clamp, zI_in, zI_div, zI_rem, lg_lt0, lg_gt0, lg_eq0, lg_le0, lg_ge0, Int.toNat_natCast, ge_iff_le, gt_iff_lt, List.length_cons, List.length_nil, bl_up2_at, bl_up2_nk, bl_up2_nx] <;> omega) (by first | with_reducible rfl | ((try dsimp only [bl_pv]); simp (disch := omega) only [c0, zI_n, zI_o, zI_lit, zI_neg, zI_add, zI_sub, zI_mul, zI_lt, zI_le, zI_eq, zI_clamp, zI_in, zI_div, zI_rem, lg_lt0, lg_gt0, lg_eq0, lg_le0, lg_ge0, Int.toNat_natCast, ge_iff_le, gt_iff_lt, List.length_cons, List.length_nil, bl_up2_at, bl_up2_nk, bl_up2_nx] <;> omega)) (by simp; omega)) (fun o28 σ28 q28 => ?_)⟩
            try dsimp only [bl_pv] at q28
            obtain ⟨rfl, I2, J2, rfl, m2, t2⟩ := q28
            refine bl_go oX6_foldOf 80 [34] rfl ?_
            try dsimp only [bl_pv]
            refine L 0 (by omega) _ _ _ _ rfl (by first | with_reducible rfl | ((try dsimp only [bl_pv]); simp (disch := omega) only [c0, zI_n, zI_o, zI_lit, zI_neg, zI_add, zI_sub, zI_mul, zI_lt, zI_le, zI_eq, zI_clamp, zI_in, zI_div, zI_rem, lg_lt0, lg_gt0, lg_eq0, lg_le0, lg_ge0, Int.toNat_natCast, ge_iff_le, gt_iff_lt, List.length_cons, List.length_nil, bl_up2_at, bl_up2_nk, bl_up2_nx] <;> omega)) m2 (t2.congr rfl (fun j hj => ⟨?_, ?_⟩)) <;> simp [sd_part]))
theorem c_Side_fold4 {S : sq} {x : Int32} (hs : sdS R K N s) (hf : sdS R K N f) (hsf : s ≠ f) (hC : sdC I J f S) (hx : x = nI 4) (hdv : S.1 % 4 = 0) : bl_MC G l (d + 1) mX6_foldOf [.ref s, .ref f, .int x] (I, J, R, K, N) (0, 0) (fun o σ' => o = .inl none ∧ ∃ I' J', σ' = (I', J', R, K, N) ∧ sdM I I' J J' s ∧ sdC I' J' s (S.1 / 4, fo4 S.1 S.2.1, fo4 S.1 S.2.2)) := by
  have hs' := hs; have hf' := hf; have hC' := hC
  obtain ⟨hr1, ks, rs_0, rs_1, kp, np, km, nm⟩ := hs
  obtain ⟨hr2, kf, rf_0, rf_1, kfp, nfp, kfm, nfm⟩ := hf
  obtain ⟨c0, c1, c2⟩ := hC
  subst hx
  refine bl_MC_intro (by decide +kernel) rfl (Nat.le_of_ble_eq_true rfl) ?_
  have L : ∀ i, i ≤ S.1 / 4 → ∀ x y I1 J1, x = nI i → y = nI (S.1 / 4) → sdM I I1 J J1 s → sdC I1 J1 s (S.1 / 4, (fun j => if j < i then fo4 S.1 S.2.1 j else S.2.1 ((if 4 = 3 then S.1 / 4 else 0) + j)), (fun j => if j < i then fo4 S.1 S.2.2 j else S.2.2 ((if 4 = 3 then S.1 / 4 else 0) + j))) → bl_WP G l (d + 1) mX6_foldOf 34 [(4, .int x), (3, .int y), (0, .ref s), (1, .ref f), (2, .int (nI 4))] [] (I1, J1, R, K, N) (0, 0) (fun o σ' => o = .inl none ∧ ∃ I' J', σ' = (I', J', R, K, N) ∧ sdM I I' J J' s ∧ sdC I' J' s (S.1 / 4, fo4 S.1 S.2.1, fo4 S.1 S.2.2)) := by
    refine bl_for (S.1 / 4) ?_ (fun i hi ih => ?_)
    · intro x y I1 J1 hx hy hM hT; subst hx hy
      refine bl_go oX6_foldOf 80 [34] rfl ?_
      refine ⟨fun h37 => ?_, fun h37 => ?_⟩
      · try simp (disch := omega) only [zI_n, zI_o, zI_lit, zI_neg, zI_add, zI_sub, zI_mul, zI_lt, zI_le, zI_eq, zI_clamp, zI_in, zI_div, zI_rem, lg_lt0, lg_gt0, lg_eq0, lg_le0, lg_ge0, Int.toNat_natCast, ge_iff_le, gt_iff_lt, List.length_cons, List.length_nil, bl_up2_at, bl_up2_nk, bl_up2_nx] at h37
        try show _ ∧ _
        try dsimp only [bl_pv]
        refine ⟨rfl, _, _, rfl, hM, hT.congr rfl (fun j hj => ?_)⟩
        have hj' : j < S.1 / 4 := hj
        show (if j < S.1 / 4 then _ else _) = _ ∧ (if j < S.1 / 4 then _ else _) = _
        rw [if_pos hj', if_pos hj']; exact ⟨rfl, rfl⟩
      · try simp (disch := omega) only [zI_n, zI_o, zI_lit, zI_neg, zI_add, zI_sub, zI_mul, zI_lt, zI_le, zI_eq, zI_clamp, zI_in, zI_div, zI_rem, lg_lt0, lg_gt0, lg_eq0, lg_le0, lg_ge0, Int.toNat_natCast, ge_iff_le, gt_iff_lt, List.length_cons, List.length_nil, bl_up2_at, bl_up2_nk, bl_up2_nx] at h37
        exfalso; omega
    · intro x y I1 J1 hx hy hM hT; subst hx hy
      have hF := hC'.other hM hs' hf' hsf
      refine bl_go oX6_foldOf 80 [34] rfl ?_
      refine ⟨fun h37 => ?_, fun h37 => ?_⟩
      · try simp (disch := omega) only [hF.1, zI_n, zI_o, zI_lit, zI_neg, zI_add, zI_sub, zI_mul, zI_lt, zI_le, zI_eq, zI_clamp, zI_in, zI_div, zI_rem, lg_lt0, lg_gt0, lg_eq0, lg_le0, lg_ge0, Int.toNat_natCast, ge_iff_le, gt_iff_lt, List.length_cons, List.length_nil, bl_up2_at, bl_up2_nk, bl_up2_nx] at h37
        first
        | (exfalso; omega)
        | (try show _ ∧ _
           try dsimp only [bl_pv]
           fail /- ret113 -/)
      · try simp (disch := omega) only [hF.1, zI_n, zI_o, zI_lit, zI_neg, zI_add, zI_sub, zI_mul, zI_lt, zI_le, zI_eq, zI_clamp, zI_in, zI_div, zI_rem, lg_lt0, lg_gt0, lg_eq0, lg_le0, lg_ge0, Int.toNat_natCast, ge_iff_le, gt_iff_lt, List.length_cons, List.length_nil, bl_up2_at, bl_up2_nk, bl_up2_nx] at h37
        first
        | (exfalso; omega)
        | (refine ⟨kf, rfl, rfl, ks, (Nat.le_of_ble_eq_true rfl), (0, 0), Nat.le_refl _, Nat.le_refl _, bl_MC_mono (c_Side_layOn hs' hf' hsf hT hF (to := i) (col := S.1 - 1 - i) (by first | with_reducible rfl | ((try dsimp only [bl_pv]); simp (disch := omega) only [hF.1, zI_n, zI_o, zI_lit, zI_neg, zI_add, zI_sub, zI_mul, zI_lt, zI_le, zI_eq, zI_clamp, zI_in, zI_div, zI_rem, lg_lt0, lg_gt0, lg_eq0, lg_le0, lg_ge0, Int.toNat_natCast, ge_iff_le, gt_iff_lt, List.length_cons, List.length_nil, bl_up2_at, bl_up2_nk, bl_up2_nx] <;> omega)) (by first | with_reducible rfl | ((try dsimp only [bl_pv]); simp (disch := omega) only [hF.1, zI_n, zI_o, zI_lit, zI_neg, zI_add, zI_sub, zI_mul, zI_lt, zI_le, zI_eq, zI_clamp, zI_in, zI_div, zI_rem, lg_lt0, lg_gt0, lg_eq0, lg_le0, lg_ge0, Int.toNat_natCast, ge_iff_le, gt_iff_lt, List.length_cons, List.length_nil, bl_up2_at, bl_up2_nk, bl_up2_nx] <;> omega)) hi (by omega)) (fun o53 σ53 q53 => ?_)⟩
           try dsimp only [bl_pv] at q53
           obtain ⟨rfl, J2, rfl, m2, t2⟩ := q53
           have hF2 := hF.other m2 hs' hf' hsf
           refine bl_go oX6_foldOf 80 [34] rfl ?_
           refine ⟨fun h58 => ?_, fun h58 => ?_⟩
           · try simp (disch := omega) only [hF.1, zI_n, zI_o, zI_lit, zI_neg, zI_add, zI_sub, zI_mul, zI_lt, zI_le, zI_eq, zI_clamp, zI_in, zI_div, zI_rem, lg_lt0, lg_gt0, lg_eq0, lg_le0, lg_ge0, Int.toNat_natCast, ge_iff_le, gt_iff_lt, List.length_cons, List.length_nil, bl_up2_at, bl_up2_nk, bl_up2_nx] at h58
             first
             | (exfalso; omega)
             | (refine ⟨fun h76 => ?_, fun h76 => ?_⟩
                · try simp (disch := omega) only [hF.1, zI_n, zI_o, zI_lit, zI_neg, zI_add, zI_sub, zI_mul, zI_lt, zI_le, zI_eq, zI_clamp, zI_in, zI_div, zI_rem, lg_lt0, lg_gt0, lg_eq0, lg_le0, lg_ge0, Int.toNat_natCast, ge_iff_le, gt_iff_lt, List.length_cons, List.length_nil, bl_up2_at, bl_up2_nk, bl_up2_nx] at h76
                  first
                  | (exfalso; omega)
                  | (try dsimp only [bl_pv]
                     first
                     | (refine ih _ _ _ _ (nI_1 i) rfl (((hM.trans m2).trans m3).trans m4) (t4.congr rfl (fun j hj => ?_))
                        have hj' : j < S.1 / 4 := hj
                        by_cases e : j = i
                        · subst e; simp [sd_on, fo4]
                        · have e2 : j < i + 1 ↔ j < i := by omega
                          simp [sd_on, e, e2])
                     | (refine ih _ _ _ _ (nI_1 i) rfl ((hM.trans m2).trans m3) (t3.congr rfl (fun j hj => ?_))
                        have hj' : j < S.1 / 4 := hj
                        by_cases e : j = i
                        · subst e; simp [sd_on, fo4]
                        · have e2 : j < i + 1 ↔ j < i := by omega
                          simp [sd_on, e, e2])
                     | (refine ih _ _ _ _ (nI_1 i) rfl (hM.trans m2) (t2.congr rfl (fun j hj => ?_))
                        have hj' : j < S.1 / 4 := hj
                        by_cases e : j = i
                        · subst e; simp [sd_on, fo4]
                        · have e2 : j < i + 1 ↔ j < i := by omega
                          simp [sd_on, e, e2]))
                · try simp (disch := omega) only [hF.1, zI_n, zI_o, zI_lit, zI_neg, zI_add, zI_sub, zI_mul, zI_lt, zI_le, zI_eq, zI_clamp, zI_in, zI_div, zI_rem, lg_lt0, lg_gt0, lg_eq0, lg_le0, lg_ge0, Int.toNat_natCast, ge_iff_le, gt_iff_lt, List.length_cons, List.length_nil, bl_up2_at, bl_up2_nk, bl_up2_nx] at h76
                  first
                  | (exfalso; omega)
                  | (refine ⟨rfl, rfl, ks, (Nat.le_of_ble_eq_true rfl), (0, 0), Nat.le_refl _, Nat.le_refl _, bl_MC_mono (c_Side_layOn hs' hf' hsf t2 hF2 (to := i) (col := 2 * (S.1 / 4) - 1 - i) rfl (by first | with_reducible rfl | ((try dsimp only [bl_pv]); simp (disch := omega) only [zI_n, zI_o, zI_lit, zI_neg, zI_add, zI_sub, zI_mul, zI_lt, zI_le, zI_eq, zI_clamp, zI_in, zI_div, zI_rem, lg_lt0, lg_gt0, lg_eq0, lg_le0, lg_ge0, Int.toNat_natCast, ge_iff_le, gt_iff_lt, List.length_cons, List.length_nil, bl_up2_at, bl_up2_nk, bl_up2_nx] <;> omega)) hi (by omega)) (fun o91 σ91 q91 => ?_)⟩
                     try dsimp only [bl_pv] at q91
                     obtain ⟨rfl, J3, rfl, m3, t3⟩ := q91
                     have hF3 := hF2.other m3 hs' hf' hsf
                     refine bl_go oX6_foldOf 80 [34] rfl ?_
                     refine ⟨rfl, rfl, ks, (Nat.le_of_ble_eq_true rfl), (0, 0), Nat.le_refl _, Nat.le_refl _, bl_MC_mono (c_Side_layOn hs' hf' hsf t3 hF3 (to := i) (col := 2 * (S.1 / 4) + i) rfl (by first | with_reducible rfl | ((try dsimp only [bl_pv]); simp (disch := omega) only [zI_n, zI_o, zI_lit, zI_neg, zI_add, zI_sub, zI_mul, zI_lt, zI_le, zI_eq, zI_clamp, zI_in, zI_div, zI_rem, lg_lt0, lg_gt0, lg_eq0, lg_le0, lg_ge0, Int.toNat_natCast, ge_iff_le, gt_iff_lt, List.length_cons, List.length_nil, bl_up2_at, bl_up2_nk, bl_up2_nx] <;> omega)) hi (by omega)) (fun o104 σ104 q104 => ?_)⟩
                     try dsimp only [bl_pv] at q104
                     obtain ⟨rfl, J4, rfl, m4, t4⟩ := q104
                     refine bl_go oX6_foldOf 80 [34] rfl ?_
                     try dsimp only [bl_pv]
                     first
                     | (refine ih _ _ _ _ (nI_1 i) rfl (((hM.trans m2).trans m3).trans m4) (t4.congr rfl (fun j hj => ?_))
                        have hj' : j < S.1 / 4 := hj
                        by_cases e : j = i
                        · subst e; simp [sd_on, fo4]
                        · have e2 : j < i + 1 ↔ j < i := by omega
                          simp [sd_on, e, e2])
                     | (refine ih _ _ _ _ (nI_1 i) rfl ((hM.trans m2).trans m3) (t3.congr rfl (fun j hj => ?_))
                        have hj' : j < S.1 / 4 := hj
                        by_cases e : j = i
                        · subst e; simp [sd_on, fo4]
                        · have e2 : j < i + 1 ↔ j < i := by omega
                          simp [sd_on, e, e2])
                     | (refine ih _ _ _ _ (nI_1 i) rfl (hM.trans m2) (t2.congr rfl (fun j hj => ?_))
                        have hj' : j < S.1 / 4 := hj
                        by_cases e : j = i
                        · subst e; simp [sd_on, fo4]
                        · have e2 : j < i + 1 ↔ j < i := by omega
                          simp [sd_on, e, e2])))
           · try simp (disch := omega) only [hF.1, zI_n, zI_o, zI_lit, zI_neg, zI_add, zI_sub, zI_mul, zI_lt, zI_le, zI_eq, zI_clamp, zI_in, zI_div, zI_rem, lg_lt0, lg_gt0, lg_eq0, lg_le0, lg_ge0, Int.toNat_natCast, ge_iff_le, gt_iff_lt, List.length_cons, List.length_nil, bl_up2_at, bl_up2_nk, bl_up2_nx] at h58
             first
             | (exfalso; omega)
             | (refine ⟨rfl, rfl, ks, (Nat.le_of_ble_eq_true rfl), (0, 0), Nat.le_refl _, Nat.le_refl _, bl_MC_mono (c_Side_layOn hs' hf' hsf t2 hF2 (to := i) (col := S.1 / 4 - 1 - i) rfl (by first | with_reducible rfl | ((try dsimp only [bl_pv]); simp (disch := omega) only [zI_n, zI_o, zI_lit, zI_neg, zI_add, zI_sub, zI_mul, zI_lt, zI_le, zI_eq, zI_clamp, zI_in, zI_div, zI_rem, lg_lt0, lg_gt0, lg_eq0, lg_le0, lg_ge0, Int.toNat_natCast, ge_iff_le, gt_iff_lt, List.length_cons, List.length_nil, bl_up2_at, bl_up2_nk, bl_up2_nx] <;> omega)) hi (by omega)) (fun o71 σ71 q71 => ?_)⟩
                try dsimp only [bl_pv] at q71
                obtain ⟨rfl, J3, rfl, m3, t3⟩ := q71
                refine bl_go oX6_foldOf 80 [34] rfl ?_
                refine ⟨fun h76 => ?_, fun h76 => ?_⟩
                · try simp (disch := omega) only [hF.1, zI_n, zI_o, zI_lit, zI_neg, zI_add, zI_sub, zI_mul, zI_lt, zI_le, zI_eq, zI_clamp, zI_in, zI_div, zI_rem, lg_lt0, lg_gt0, lg_eq0, lg_le0, lg_ge0, Int.toNat_natCast, ge_iff_le, gt_iff_lt, List.length_cons, List.length_nil, bl_up2_at, bl_up2_nk, bl_up2_nx] at h76
                  first
                  | (exfalso; omega)
                  | (try dsimp only [bl_pv]
                     first
                     | (refine ih _ _ _ _ (nI_1 i) rfl (((hM.trans m2).trans m3).trans m4) (t4.congr rfl (fun j hj => ?_))
                        have hj' : j < S.1 / 4 := hj
                        by_cases e : j = i
                        · subst e; simp [sd_on, fo4]
                        · have e2 : j < i + 1 ↔ j < i := by omega
                          simp [sd_on, e, e2])
                     | (refine ih _ _ _ _ (nI_1 i) rfl ((hM.trans m2).trans m3) (t3.congr rfl (fun j hj => ?_))
                        have hj' : j < S.1 / 4 := hj
                        by_cases e : j = i
                        · subst e; simp [sd_on, fo4]
                        · have e2 : j < i + 1 ↔ j < i := by omega
                          simp [sd_on, e, e2])
                     | (refine ih _ _ _ _ (nI_1 i) rfl (hM.trans m2) (t2.congr rfl (fun j hj => ?_))
                        have hj' : j < S.1 / 4 := hj
                        by_cases e : j = i
                        · subst e; simp [sd_on, fo4]
                        · have e2 : j < i + 1 ↔ j < i := by omega
                          simp [sd_on, e, e2]))
                · try simp (disch := omega) only [hF.1, zI_n, zI_o, zI_lit, zI_neg, zI_add, zI_sub, zI_mul, zI_lt, zI_le, zI_eq, zI_clamp, zI_in, zI_div, zI_rem, lg_lt0, lg_gt0, lg_eq0, lg_le0, lg_ge0, Int.toNat_natCast, ge_iff_le, gt_iff_lt, List.length_cons, List.length_nil, bl_up2_at, bl_up2_nk, bl_up2_nx] at h76
                  first
                  | (exfalso; omega)
                  | (refine ⟨rfl, rfl, ks, (Nat.le_of_ble_eq_true rfl), (0, 0), Nat.le_refl _, Nat.le_refl _, bl_MC_mono (c_Side_layOn hs' hf' hsf t2 hF2 (to := i) (col := 2 * (S.1 / 4) - 1 - i) rfl (by first | with_reducible rfl | ((try dsimp only [bl_pv]); simp (disch := omega) only [zI_n, zI_o, zI_lit, zI_neg, zI_add, zI_sub, zI_mul, zI_lt, zI_le, zI_eq, zI_clamp, zI_in, zI_div, zI_rem, lg_lt0, lg_gt0, lg_eq0, lg_le0, lg_ge0, Int.toNat_natCast, ge_iff_le, gt_iff_lt, List.length_cons, List.length_nil, bl_up2_at, bl_up2_nk, bl_up2_nx] <;> omega)) hi (by omega)) (fun o91 σ91 q91 => ?_)⟩
                     try dsimp only [bl_pv] at q91
                     obtain ⟨rfl, J3, rfl, m3, t3⟩ := q91
                     have hF3 := hF2.other m3 hs' hf' hsf
                     refine bl_go oX6_foldOf 80 [34] rfl ?_
                     refine ⟨rfl, rfl, ks, (Nat.le_of_ble_eq_true rfl), (0, 0), Nat.le_refl _, Nat.le_refl _, bl_MC_mono (c_Side_layOn hs' hf' hsf t3 hF3 (to := i) (col := 2 * (S.1 / 4) + i) rfl (by first | with_reducible rfl | ((try dsimp only [bl_pv]); simp (disch := omega) only [zI_n, zI_o, zI_lit, zI_neg, zI_add, zI_sub, zI_mul, zI_lt, zI_le, zI_eq, zI_clamp, zI_in, zI_div, zI_rem, lg_lt0, lg_gt0, lg_eq0, lg_le0, lg_ge0, Int.toNat_natCast, ge_iff_le, gt_iff_lt, List.length_cons, List.length_nil, bl_up2_at, bl_up2_nk, bl_up2_nx] <;> omega)) hi (by omega)) (fun o104 σ104 q104 => ?_)⟩
                     try dsimp only [bl_pv] at q104
                     obtain ⟨rfl, J4, rfl, m4, t4⟩ := q104
                     refine bl_go oX6_foldOf 80 [34] rfl ?_
                     try dsimp only [bl_pv]
                     first
                     | (refine ih _ _ _ _ (nI_1 i) rfl (((hM.trans m2).trans m3).trans m4) (t4.congr rfl (fun j hj => ?_))
                        have hj' : j < S.1 / 4 := hj
                        by_cases e : j = i
                        · subst e; simp [sd_on, fo4]
                        · have e2 : j < i + 1 ↔ j < i := by omega
                          simp [sd_on, e, e2])
                     | (refine ih _ _ _ _ (nI_1 i) rfl ((hM.trans m2).trans m3) (t3.congr rfl (fun j hj => ?_))
                        have hj' : j < S.1 / 4 := hj
                        by_cases e : j = i
                        · subst e; simp [sd_on, fo4]
                        · have e2 : j < i + 1 ↔ j < i := by omega
                          simp [sd_on, e, e2])
                     | (refine ih _ _ _ _ (nI_1 i) rfl (hM.trans m2) (t2.congr rfl (fun j hj => ?_))
                        have hj' : j < S.1 / 4 := hj
                        by_cases e : j = i
                        · subst e; simp [sd_on, fo4]
                        · have e2 : j < i + 1 ↔ j < i := by omega
                          simp [sd_on, e, e2]))))
  refine bl_go oX6_foldOf 80 [34] rfl ?_
  refine ⟨fun h1 => ?_, fun h1 => ?_⟩
  · try simp (disch := omega) only [c0, zI_n, zI_o, zI_lit, zI_neg, zI_add, zI_sub, zI_mul, zI_lt, zI_le, zI_eq, zI_clamp, zI_in, zI_div, zI_rem, lg_lt0, lg_gt0, lg_eq0, lg_le0, lg_ge0, Int.toNat_natCast, ge_iff_le, gt_iff_lt, List.length_cons, List.length_nil, bl_up2_at, bl_up2_nk, bl_up2_nx] at h1
    first
    | (exfalso; omega)
    | (refine ⟨fun h19 => ?_, fun h19 => ?_⟩
       · try simp (disch := omega) only [c0, zI_n, zI_o, zI_lit, zI_neg, zI_add, zI_sub, zI_mul, zI_lt, zI_le, zI_eq, zI_clamp, zI_in, zI_div, zI_rem, lg_lt0, lg_gt0, lg_eq0, lg_le0, lg_ge0, Int.toNat_natCast, ge_iff_le, gt_iff_lt, List.length_cons, List.length_nil, bl_up2_at, bl_up2_nk, bl_up2_nx] at h19
         first
         | (exfalso; omega)
         | (refine ⟨rfl, rfl, ks, (Nat.le_of_ble_eq_true rfl), (0, 0), Nat.le_refl _, Nat.le_refl _, bl_MC_mono (c_Side_partOf hs' hf' hsf hC' (fr := if 4 = 3 then S.1 / 4 else 0) (c := S.1 / 4) (by (try rw [if_neg (show ¬ 4 = 3 by decide)]); (try rw [if_pos (show 4 = 3 by decide)]); (try dsimp only [bl_pv]); simp (disch := omega) only [c0, zI_n, zI_o, zI_lit, zI_neg, zI_add, zI_sub, zI_mul, zI_lt, zI_le, zI_eq, zI_clamp, zI_in, zI_div, zI_rem, lg_lt0, lg_gt0, lg_eq0, lg_le0, lg_ge0, Int.toNat_natCast, ge_iff_le, gt_iff_lt, List.length_cons, List.length_nil, bl_up2_at, bl_up2_nk, bl_up2_nx] <;> omega) (by first | with_reducible rfl | ((try dsimp only [bl_pv]); simp (disch := omega) only [c0, zI_n, zI_o, zI_lit, zI_neg, zI_add, zI_sub, zI_mul, zI_lt, zI_le, zI_eq, zI_clamp, zI_in, zI_div, zI_rem, lg_lt0, lg_gt0, lg_eq0, lg_le0, lg_ge0, Int.toNat_natCast, ge_iff_le, gt_iff_lt, List.length_cons, List.length_nil, bl_up2_at, bl_up2_nk, bl_up2_nx] <;> omega)) (by simp; omega)) (fun o28 σ28 q28 => ?_)⟩
            try dsimp only [bl_pv] at q28
            obtain ⟨rfl, I2, J2, rfl, m2, t2⟩ := q28
            refine bl_go oX6_foldOf 80 [34] rfl ?_
            try dsimp only [bl_pv]
            refine L 0 (by omega) _ _ _ _ rfl (by first | with_reducible rfl | ((try dsimp only [bl_pv]); simp (disch := omega) only [c0, zI_n, zI_o, zI_lit, zI_neg, zI_add, zI_sub, zI_mul, zI_lt, zI_le, zI_eq, zI_clamp, zI_in, zI_div, zI_rem, lg_lt0, lg_gt0, lg_eq0, lg_le0, lg_ge0, Int.toNat_natCast, ge_iff_le, gt_iff_lt, List.length_cons, List.length_nil, bl_up2_at, bl_up2_nk, bl_up2_nx] <;> omega)) m2 (t2.congr rfl (fun j hj => ⟨?_, ?_⟩)) <;> simp [sd_part])
       · try simp (disch := omega) only [c0, zI_n, zI_o, zI_lit, zI_neg, zI_add, zI_sub, zI_mul, zI_lt, zI_le, zI_eq, zI_clamp, zI_in, zI_div, zI_rem, lg_lt0, lg_gt0, lg_eq0, lg_le0, lg_ge0, Int.toNat_natCast, ge_iff_le, gt_iff_lt, List.length_cons, List.length_nil, bl_up2_at, bl_up2_nk, bl_up2_nx] at h19
         first
         | (exfalso; omega)
         | (refine ⟨rfl, rfl, ks, (Nat.le_of_ble_eq_true rfl), (0, 0), Nat.le_refl _, Nat.le_refl _, bl_MC_mono (c_Side_partOf hs' hf' hsf hC' (fr := if 4 = 3 then S.1 / 4 else 0) (c := S.1 / 4) (by (try rw [if_neg (show ¬ 4 = 3 by decide)]); (try rw [if_pos (show 4 = 3 by decide)]); (try dsimp only [bl_pv]); simp (disch := omega) only [c0, zI_n, zI_o, zI_lit, zI_neg, zI_add, zI_sub, zI_mul, zI_lt, zI_le, zI_eq, zI_clamp, zI_in, zI_div, zI_rem, lg_lt0, lg_gt0, lg_eq0, lg_le0, lg_ge0, Int.toNat_natCast, ge_iff_le, gt_iff_lt, List.length_cons, List.length_nil, bl_up2_at, bl_up2_nk, bl_up2_nx] <;> omega) (by first | with_reducible rfl | ((try dsimp only [bl_pv]); simp (disch := omega) only [c0, zI_n, zI_o, zI_lit, zI_neg, zI_add, zI_sub, zI_mul, zI_lt, zI_le, zI_eq, zI_clamp, zI_in, zI_div, zI_rem, lg_lt0, lg_gt0, lg_eq0, lg_le0, lg_ge0, Int.toNat_natCast, ge_iff_le, gt_iff_lt, List.length_cons, List.length_nil, bl_up2_at, bl_up2_nk, bl_up2_nx] <;> omega)) (by simp; omega)) (fun o28 σ28 q28 => ?_)⟩
            try dsimp only [bl_pv] at q28
            obtain ⟨rfl, I2, J2, rfl, m2, t2⟩ := q28
            refine bl_go oX6_foldOf 80 [34] rfl ?_
            try dsimp only [bl_pv]
            refine L 0 (by omega) _ _ _ _ rfl (by first | with_reducible rfl | ((try dsimp only [bl_pv]); simp (disch := omega) only [c0, zI_n, zI_o, zI_lit, zI_neg, zI_add, zI_sub, zI_mul, zI_lt, zI_le, zI_eq, zI_clamp, zI_in, zI_div, zI_rem, lg_lt0, lg_gt0, lg_eq0, lg_le0, lg_ge0, Int.toNat_natCast, ge_iff_le, gt_iff_lt, List.length_cons, List.length_nil, bl_up2_at, bl_up2_nk, bl_up2_nx] <;> omega)) m2 (t2.congr rfl (fun j hj => ⟨?_, ?_⟩)) <;> simp [sd_part]))
  · try simp (disch := omega) only [c0, zI_n, zI_o, zI_lit, zI_neg, zI_add, zI_sub, zI_mul, zI_lt, zI_le, zI_eq, zI_clamp, zI_in, zI_div, zI_rem, lg_lt0, lg_gt0, lg_eq0, lg_le0, lg_ge0, Int.toNat_natCast, ge_iff_le, gt_iff_lt, List.length_cons, List.length_nil, bl_up2_at, bl_up2_nk, bl_up2_nx] at h1
    first
    | (exfalso; omega)
    | (refine ⟨kf, (by first | decide | (simp (disch := omega) only [c0, zI_n, zI_o, zI_lit, zI_neg, zI_add, zI_sub, zI_mul, zI_lt, zI_le, zI_eq, zI_clamp, zI_in, zI_div, zI_rem, lg_lt0, lg_gt0, lg_eq0, lg_le0, lg_ge0, Int.toNat_natCast, ge_iff_le, gt_iff_lt, List.length_cons, List.length_nil, bl_up2_at, bl_up2_nk, bl_up2_nx] <;> omega)), fun h19 => ?_, fun h19 => ?_⟩
       · try simp (disch := omega) only [c0, zI_n, zI_o, zI_lit, zI_neg, zI_add, zI_sub, zI_mul, zI_lt, zI_le, zI_eq, zI_clamp, zI_in, zI_div, zI_rem, lg_lt0, lg_gt0, lg_eq0, lg_le0, lg_ge0, Int.toNat_natCast, ge_iff_le, gt_iff_lt, List.length_cons, List.length_nil, bl_up2_at, bl_up2_nk, bl_up2_nx] at h19
         first
         | (exfalso; omega)
         | (refine ⟨rfl, rfl, ks, (Nat.le_of_ble_eq_true rfl), (0, 0), Nat.le_refl _, Nat.le_refl _, bl_MC_mono (c_Side_partOf hs' hf' hsf hC' (fr := if 4 = 3 then S.1 / 4 else 0) (c := S.1 / 4) (by (try rw [if_neg (show ¬ 4 = 3 by decide)]); (try rw [if_pos (show 4 = 3 by decide)]); (try dsimp only [bl_pv]); simp (disch := omega) only [c0, zI_n, zI_o, zI_lit, zI_neg, zI_add, zI_sub, zI_mul, zI_lt, zI_le, zI_eq, zI_clamp, zI_in, zI_div, zI_rem, lg_lt0, lg_gt0, lg_eq0, lg_le0, lg_ge0, Int.toNat_natCast, ge_iff_le, gt_iff_lt, List.length_cons, List.length_nil, bl_up2_at, bl_up2_nk, bl_up2_nx] <;> omega) (by first | with_reducible rfl | ((try dsimp only [bl_pv]); simp (disch := omega) only [c0, zI_n, zI_o, zI_lit, zI_neg, zI_add, zI_sub, zI_mul, zI_lt, zI_le, zI_eq, zI_clamp, zI_in, zI_div, zI_rem, lg_lt0, lg_gt0, lg_eq0, lg_le0, lg_ge0, Int.toNat_natCast, ge_iff_le, gt_iff_lt, List.length_cons, List.length_nil, bl_up2_at, bl_up2_nk, bl_up2_nx] <;> omega)) (by simp; omega)) (fun o28 σ28 q28 => ?_)⟩
            try dsimp only [bl_pv] at q28
            obtain ⟨rfl, I2, J2, rfl, m2, t2⟩ := q28
            refine bl_go oX6_foldOf 80 [34] rfl ?_
            try dsimp only [bl_pv]
            refine L 0 (by omega) _ _ _ _ rfl (by first | with_reducible rfl | ((try dsimp only [bl_pv]); simp (disch := omega) only [c0, zI_n, zI_o, zI_lit, zI_neg, zI_add, zI_sub, zI_mul, zI_lt, zI_le, zI_eq, zI_clamp, zI_in, zI_div, zI_rem, lg_lt0, lg_gt0, lg_eq0, lg_le0, lg_ge0, Int.toNat_natCast, ge_iff_le, gt_iff_lt, List.length_cons, List.length_nil, bl_up2_at, bl_up2_nk, bl_up2_nx] <;> omega)) m2 (t2.congr rfl (fun j hj => ⟨?_, ?_⟩)) <;> simp [sd_part])
       · try simp (disch := omega) only [c0, zI_n, zI_o, zI_lit, zI_neg, zI_add, zI_sub, zI_mul, zI_lt, zI_le, zI_eq, zI_clamp, zI_in, zI_div, zI_rem, lg_lt0, lg_gt0, lg_eq0, lg_le0, lg_ge0, Int.toNat_natCast, ge_iff_le, gt_iff_lt, List.length_cons, List.length_nil, bl_up2_at, bl_up2_nk, bl_up2_nx] at h19
         first
         | (exfalso; omega)
         | (refine ⟨rfl, rfl, ks, (Nat.le_of_ble_eq_true rfl), (0, 0), Nat.le_refl _, Nat.le_refl _, bl_MC_mono (c_Side_partOf hs' hf' hsf hC' (fr := if 4 = 3 then S.1 / 4 else 0) (c := S.1 / 4) (by (try rw [if_neg (show ¬ 4 = 3 by decide)]); (try rw [if_pos (show 4 = 3 by decide)]); (try dsimp only [bl_pv]); simp (disch := omega) only [c0, zI_n, zI_o, zI_lit, zI_neg, zI_add, zI_sub, zI_mul, zI_lt, zI_le, zI_eq, zI_clamp, zI_in, zI_div, zI_rem, lg_lt0, lg_gt0, lg_eq0, lg_le0, lg_ge0, Int.toNat_natCast, ge_iff_le, gt_iff_lt, List.length_cons, List.length_nil, bl_up2_at, bl_up2_nk, bl_up2_nx] <;> omega) (by first | with_reducible rfl | ((try dsimp only [bl_pv]); simp (disch := omega) only [c0, zI_n, zI_o, zI_lit, zI_neg, zI_add, zI_sub, zI_mul, zI_lt, zI_le, zI_eq, zI_clamp, zI_in, zI_div, zI_rem, lg_lt0, lg_gt0, lg_eq0, lg_le0, lg_ge0, Int.toNat_natCast, ge_iff_le, gt_iff_lt, List.length_cons, List.length_nil, bl_up2_at, bl_up2_nk, bl_up2_nx] <;> omega)) (by simp; omega)) (fun o28 σ28 q28 => ?_)⟩
            try dsimp only [bl_pv] at q28
            obtain ⟨rfl, I2, J2, rfl, m2, t2⟩ := q28
            refine bl_go oX6_foldOf 80 [34] rfl ?_
            try dsimp only [bl_pv]
            refine L 0 (by omega) _ _ _ _ rfl (by first | with_reducible rfl | ((try dsimp only [bl_pv]); simp (disch := omega) only [c0, zI_n, zI_o, zI_lit, zI_neg, zI_add, zI_sub, zI_mul, zI_lt, zI_le, zI_eq, zI_clamp, zI_in, zI_div, zI_rem, lg_lt0, lg_gt0, lg_eq0, lg_le0, lg_ge0, Int.toNat_natCast, ge_iff_le, gt_iff_lt, List.length_cons, List.length_nil, bl_up2_at, bl_up2_nk, bl_up2_nx] <;> omega)) m2 (t2.congr rfl (fun j hj => ⟨?_, ?_⟩)) <;> simp [sd_part]))
end SIDE
