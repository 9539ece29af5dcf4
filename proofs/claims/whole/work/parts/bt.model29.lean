/-! ===== Model: block ===== -/
def rwb (p : Nat → Bool) : Nat → Nat
  | 0 => 0
  | i + 1 => if p i then rwb p i + 1 else 0
def lgb (p : Nat → Bool) : Nat → Nat
  | 0 => 0
  | i + 1 => max (lgb p i) (rwb p (i + 1))
def rnb (p : Nat → Bool) (a n : Nat) : Prop := ∀ i, a ≤ i → i < a + n → p i = true
theorem rwb_le (p : Nat → Bool) : ∀ n, rwb p n ≤ n
  | 0 => Nat.le_refl _
  | n + 1 => by have := rwb_le p n; show (if p n then rwb p n + 1 else 0) ≤ n + 1; split <;> omega
theorem rwb_run (p : Nat → Bool) : ∀ n, rnb p (n - rwb p n) (rwb p n)
  | 0 => fun i _ h => absurd h (by show ¬ i < 0 + 0 - 0; omega)
  | n + 1 => by
    have ih := rwb_run p n
    have hl := rwb_le p n
    show rnb p (n + 1 - (if p n then rwb p n + 1 else 0)) (if p n then rwb p n + 1 else 0)
    by_cases h : p n = true
    · rw [if_pos h]
      intro i h1 h2
      by_cases e : i = n
      · subst e; exact h
      · exact ih i (by omega) (by omega)
    · rw [if_neg h]; intro i h1 h2; omega
theorem rwb_max (p : Nat → Bool) : ∀ n k, k ≤ n → rnb p (n - k) k → k ≤ rwb p n
  | 0, k, hk, _ => by omega
  | n + 1, 0, _, _ => Nat.zero_le _
  | n + 1, k + 1, hk, hr => by
    have h : p n = true := hr n (by omega) (by omega)
    show k + 1 ≤ if p n then rwb p n + 1 else 0
    rw [if_pos h]
    exact Nat.succ_le_succ (rwb_max p n k (by omega) (fun i h1 h2 => hr i (by omega) (by omega)))
theorem lgb_ex (p : Nat → Bool) : ∀ n, ∃ a, a + lgb p n ≤ n ∧ rnb p a (lgb p n)
  | 0 => ⟨0, Nat.le_refl _, fun i _ h => absurd h (by show ¬ i < 0 + 0; omega)⟩
  | n + 1 => by
    obtain ⟨a, h1, h2⟩ := lgb_ex p n
    show ∃ a, a + max (lgb p n) (rwb p (n + 1)) ≤ n + 1 ∧ rnb p a (max (lgb p n) (rwb p (n + 1)))
    have hl := rwb_le p (n + 1)
    by_cases h : lgb p n ≤ rwb p (n + 1)
    · rw [Nat.max_eq_right h]; exact ⟨n + 1 - rwb p (n + 1), by omega, rwb_run p (n + 1)⟩
    · rw [Nat.max_eq_left (by omega)]; exact ⟨a, by omega, h2⟩
theorem lgb_max (p : Nat → Bool) : ∀ n a k, a + k ≤ n → rnb p a k → k ≤ lgb p n
  | 0, a, k, h, _ => by omega
  | n + 1, a, k, h, hr => by
    show k ≤ max (lgb p n) (rwb p (n + 1))
    by_cases e : a + k = n + 1
    · have := rwb_max p (n + 1) k (by omega) (by rw [show n + 1 - k = a by omega]; exact hr)
      omega
    · have := lgb_max p n a k (by omega) hr
      omega
theorem lgb_le (p : Nat → Bool) (n : Nat) : lgb p n ≤ n := by
  obtain ⟨a, h, -⟩ := lgb_ex p n; omega
theorem rwb_lg (p : Nat → Bool) (n : Nat) : rwb p (n + 1) ≤ lgb p (n + 1) := Nat.le_max_right _ _
theorem rwb_f (f : Nat → Nat) (v : Nat) : ∀ n, rwb (fun i => decide (f i = v)) n = rwf f v n
  | 0 => rfl
  | n + 1 => by
    show (if decide (f n = v) = true then rwb _ n + 1 else 0) = if f n = v then rwf f v n + 1 else 0
    rw [rwb_f f v n]
    by_cases h : f n = v
    · rw [if_pos h, if_pos (decide_eq_true h)]
    · rw [if_neg h, if_neg (fun q => h (of_decide_eq_true q))]
theorem lgb_f (f : Nat → Nat) (v : Nat) : ∀ n, lgb (fun i => decide (f i = v)) n = lgf f v n
  | 0 => rfl
  | n + 1 => by
    show max (lgb _ n) (rwb (fun i => decide (f i = v)) (n + 1)) = if lgf f v n < rwf f v (n + 1) then rwf f v (n + 1) else lgf f v n
    rw [lgb_f f v n, rwb_f f v (n + 1)]
    split <;> omega
theorem rwb_all : ∀ n, rwb (fun _ => true) n = n
  | 0 => rfl
  | n + 1 => by show rwb (fun _ => true) n + 1 = n + 1; rw [rwb_all n]
theorem lgb_all (n : Nat) : lgb (fun _ => true) n = n := Nat.le_antisymm (lgb_le _ _) (lgb_max _ n 0 n (by omega) (fun _ _ _ => rfl))
theorem nI_lek {a b : Nat} (ha : a < 2147483648) (hb : b < 2147483648) : nI a ≤ nI b ↔ a ≤ b := by
  rw [Int32.le_iff_toInt_le, nI_toInt ha, nI_toInt hb]; omega
def bkV (S : sl) : Nat := if mxf S.1.2.2 S.1.1 = 0 ∨ mxf S.2.1.2.2 S.2.1.1 = 0 then S.1.1 * S.2.1.1 else lgf S.1.2.2 (mxf S.1.2.2 S.1.1) S.1.1 * lgf S.2.1.2.2 (mxf S.2.1.2.2 S.2.1.1) S.2.1.1
theorem mul_mx {a b A B : Nat} (ha : a ≤ A) (hb : b ≤ B) (hA : 0 < A) (hB : 0 < B) : a * b = A * B ↔ a = A ∧ b = B := by
  constructor
  · intro e
    have h1 : a * b ≤ a * B := Nat.mul_le_mul_left _ hb
    have h2 : a * B ≤ A * B := Nat.mul_le_mul_right _ ha
    have h3 : a * B = A * B := by omega
    have h4 : a = A := Nat.eq_of_mul_eq_mul_right hB h3
    subst h4
    exact ⟨rfl, Nat.eq_of_mul_eq_mul_left hA e⟩
  · rintro ⟨rfl, rfl⟩; rfl
theorem bk_pq {S : sl} (hS : slOk S) (hB : slB S) : ∃ p q : Nat → Bool, (∀ x y, x < S.1.1 → y < S.2.1.1 → (nJ (slP S x y) = nJ (mxf S.1.2.2 S.1.1 * mxf S.2.1.2.2 S.2.1.1) ↔ (p x = true ∧ q y = true))) ∧ lgb p S.1.1 * lgb q S.2.1.1 = bkV S := by
  obtain ⟨⟨o0, o1⟩, o3, o2⟩ := hS
  have hMx := isMx_mul (a := S.1.2.2) (d := S.2.1.2.2) o0 o3
  have hMb : mxf S.1.2.2 S.1.1 * mxf S.2.1.2.2 S.2.1.1 < 9223372036854775808 := by
    obtain ⟨x, y, hx, hy, e⟩ := hMx.1
    rw [← e]; have := hB.P hx hy; unfold slP at this; dsimp only at this ⊢; omega
  unfold bkV
  by_cases h0 : mxf S.1.2.2 S.1.1 = 0 ∨ mxf S.2.1.2.2 S.2.1.1 = 0
  · refine ⟨fun _ => true, fun _ => true, fun x y hx hy => ⟨fun _ => ⟨rfl, rfl⟩, fun _ => ?_⟩, ?_⟩
    · have hM0 : mxf S.1.2.2 S.1.1 * mxf S.2.1.2.2 S.2.1.1 = 0 := by rcases h0 with e | e <;> rw [e] <;> simp
      have := hMx.2 x y hx hy
      have hz : slP S x y = 0 := by unfold slP; dsimp only at this; omega
      rw [hz, hM0]
    · rw [if_pos h0, lgb_all, lgb_all]
  · refine ⟨fun x => decide (S.1.2.2 x = mxf S.1.2.2 S.1.1), fun y => decide (S.2.1.2.2 y = mxf S.2.1.2.2 S.2.1.1), fun x y hx hy => ?_, ?_⟩
    · have hb := hB.P hx hy
      rw [nJ_eq (by omega) hMb, decide_eq_true_iff, decide_eq_true_iff]
      exact mul_mx (mxf_le hx) (mxf_le hy) (by omega) (by omega)
    · rw [if_neg h0, lgb_f, lgb_f]
section MODEL29
variable {G : bl_G} {l : Launch} {d m : Nat} {I : Nat → Nat → Int32} {J : Nat → Nat → Int64} {R : Nat → Nat → Option Nat} {K N : Nat → Nat} {A : aS} {x y w : Int32} {S : sl}
def hgh (p : Nat → Bool) (r x : Nat) : Nat := if p x then r else 0
theorem c_Model_bl22 {M : Int64} {p q : Nat → Bool} (hm : mdS R K N m) (hs : msC I J m S.1.1 S.2.1.1 (slP S) (slQ S)) (hS : slOk S) (hpq : ∀ x y, x < S.1.1 → y < S.2.1.1 → (nJ (slP S x y) = M ↔ (p x = true ∧ q y = true))) : bl_WP G l (d + 1) mX11_block 22 [(3, .long M), (0, .ref m)] [] (I, J, R, K, N) (0, 0) (fun o σ' => o = .inl (some (.int (nI (lgb p S.1.1 * lgb q S.2.1.1)))) ∧ ∃ I', σ' = (I', J, R, K, N) ∧ ∀ z, z ≠ m + 42 → I' z = I z) := by
  have km := hm.2.1
  obtain ⟨rm_32, km32, nm32⟩ := hm.f32
  obtain ⟨rm_42, km42, nm42⟩ := hm.f42
  have hS' := hS
  obtain ⟨⟨o0, o1⟩, o3, o2⟩ := hS'
  have L54 : ∀ k, k ≤ S.2.1.1 → ∀ z b I1, z = nI k → b = nI (lgb p S.1.1 * lgb q k) → (∀ z, z ≠ m + 42 → I1 z = I z) → (∀ x, x < S.1.1 → I1 (m + 42) x = nI (hgh p (rwb q k) x)) → bl_WP G l (d + 1) mX11_block 54 [(6, .int z), (5, .int b), (3, .long M), (0, .ref m)] [] (I1, J, R, K, N) (0, 0) (fun o σ' => o = .inl (some (.int (nI (lgb p S.1.1 * lgb q S.2.1.1)))) ∧ ∃ I', σ' = (I', J, R, K, N) ∧ ∀ z, z ≠ m + 42 → I' z = I z) := by
    refine bl_for S.2.1.1 ?_ (fun k hk ih => ?_)
    · intro z b I1 hz hb f1 f2; subst hz hb
      have e22 : I1 m 22 = nI S.2.1.1 := (congrFun (f1 m (by omega)) 22).trans hs.2.1
      refine bl_go oX11_block 80 [22, 28, 54, 66, 121, 143] rfl ?_
      refine ⟨km, fun h60 => ?_, fun h60 => ?_⟩
      · try simp (disch := omega) only [e22, zI_n, zI_o, zI_lit, zI_neg, zI_add, zI_sub, zI_mul, zI_lt, zI_le, zI_eq, zI_clamp, zI_in, zI_div, zI_rem, lg_lt0, lg_gt0, lg_eq0, lg_le0, lg_ge0, Int.toNat_natCast, ge_iff_le, gt_iff_lt, List.length_cons, List.length_nil, bl_up2_at, bl_up2_nk, bl_up2_nx] at h60
        refine ⟨(fun h => by cases h), ?_⟩
        try show _ ∧ _
        try dsimp only [bl_pv]
        exact ⟨rfl, I1, rfl, f1⟩
      · try simp (disch := omega) only [e22, zI_n, zI_o, zI_lit, zI_neg, zI_add, zI_sub, zI_mul, zI_lt, zI_le, zI_eq, zI_clamp, zI_in, zI_div, zI_rem, lg_lt0, lg_gt0, lg_eq0, lg_le0, lg_ge0, Int.toNat_natCast, ge_iff_le, gt_iff_lt, List.length_cons, List.length_nil, bl_up2_at, bl_up2_nk, bl_up2_nx] at h60
        exfalso; omega
    · intro z b I1 hz hb f1 f2; subst hz hb
      have e22 : I1 m 22 = nI S.2.1.1 := (congrFun (f1 m (by omega)) 22).trans hs.2.1
      have hrle := rwb_le q k
      have hrle1 := rwb_le q (k + 1)
      have hR : rwb q (k + 1) = if q k then rwb q k + 1 else 0 := rfl
      have hRl := rwb_lg q k
      have hlq : lgb q (k + 1) = max (lgb q k) (rwb q (k + 1)) := rfl
      have hlp := lgb_le p S.1.1
      have hlq1 := lgb_le q (k + 1)
      have L121 : ∀ i, i ≤ S.1.1 → ∀ z b I1, z = nI i → (∀ z, z ≠ m + 42 → I1 z = I z) → (∀ x, x < S.1.1 → I1 (m + 42) x = nI (hgh p (rwb q (k + 1)) x)) → b ≤ lgb p S.1.1 * lgb q (k + 1) → lgb p S.1.1 * lgb q k ≤ b → (∀ x n, x < i → x + n ≤ S.1.1 → rnb p x n → rwb q (k + 1) * n ≤ b) → bl_WP G l (d + 1) mX11_block 121 [(7, .int z), (6, .int (nI k)), (5, .int (nI b)), (3, .long M), (0, .ref m)] [] (I1, J, R, K, N) (0, 0) (fun o σ' => o = .inl (some (.int (nI (lgb p S.1.1 * lgb q S.2.1.1)))) ∧ ∃ I', σ' = (I', J, R, K, N) ∧ ∀ z, z ≠ m + 42 → I' z = I z) := by
        refine bl_for S.1.1 ?_ (fun i hi ih2 => ?_)
        · intro z b I1 hz f1 f2 f3 f4 f5; subst hz
          have e21 : I1 m 21 = nI S.1.1 := (congrFun (f1 m (by omega)) 21).trans hs.1
          have hbe : b = lgb p S.1.1 * lgb q (k + 1) := by
            refine Nat.le_antisymm f3 ?_
            have h5 : rwb q (k + 1) * lgb p S.1.1 ≤ b := by
              obtain ⟨a, ha, hr⟩ := lgb_ex p S.1.1
              by_cases h0 : lgb p S.1.1 = 0
              · rw [h0]; exact Nat.zero_le _
              · exact f5 a _ (by omega) ha hr
            rw [hlq]
            by_cases hc : lgb q k ≤ rwb q (k + 1)
            · rw [Nat.max_eq_right hc, Nat.mul_comm]; exact h5
            · rw [Nat.max_eq_left (by omega)]; exact f4
          refine bl_go oX11_block 80 [22, 28, 54, 66, 121, 143] rfl ?_
          refine ⟨km, fun h127 => ?_, fun h127 => ?_⟩
          · try simp (disch := omega) only [e21, zI_n, zI_o, zI_lit, zI_neg, zI_add, zI_sub, zI_mul, zI_lt, zI_le, zI_eq, zI_clamp, zI_in, zI_div, zI_rem, lg_lt0, lg_gt0, lg_eq0, lg_le0, lg_ge0, Int.toNat_natCast, ge_iff_le, gt_iff_lt, List.length_cons, List.length_nil, bl_up2_at, bl_up2_nk, bl_up2_nx] at h127
            refine bl_lv [0, 2, 3, 4] rfl ?_
            try dsimp only [bl_pv]
            exact ih _ _ _ (nI_1 _) (by rw [hbe]) f1 f2
          · try simp (disch := omega) only [e21, zI_n, zI_o, zI_lit, zI_neg, zI_add, zI_sub, zI_mul, zI_lt, zI_le, zI_eq, zI_clamp, zI_in, zI_div, zI_rem, lg_lt0, lg_gt0, lg_eq0, lg_le0, lg_ge0, Int.toNat_natCast, ge_iff_le, gt_iff_lt, List.length_cons, List.length_nil, bl_up2_at, bl_up2_nk, bl_up2_nx] at h127
            exfalso; omega
        · intro z b I1 hz f1 f2 f3 f4 f5; subst hz
          have e21 : I1 m 21 = nI S.1.1 := (congrFun (f1 m (by omega)) 21).trans hs.1
          have hU : lgb p S.1.1 * lgb q (k + 1) ≤ 48 * 48 := Nat.mul_le_mul (by omega) (by omega)
          generalize hUU : lgb p S.1.1 * lgb q (k + 1) = U at *
          have ecx : ∀ j, j < 48 → (nI j).toNatClampNeg = j := fun j hj => nI_clamp (by omega)
          have fin : ∀ z b2, z = nI i + 1 → b2 ≤ U → b ≤ b2 → (∀ n, i + n ≤ S.1.1 → rnb p i n → rwb q (k + 1) * n ≤ b2) → bl_WP G l (d + 1) mX11_block 121 [(7, .int z), (6, .int (nI k)), (5, .int (nI b2)), (3, .long M), (0, .ref m)] [] (I1, J, R, K, N) (0, 0) (fun o σ' => o = .inl (some (.int (nI (lgb p S.1.1 * lgb q S.2.1.1)))) ∧ ∃ I', σ' = (I', J, R, K, N) ∧ ∀ z, z ≠ m + 42 → I' z = I z) := by
            intro z b2 hz g1 g2 g3
            refine ih2 _ _ _ (hz.trans (nI_1 _)) f1 f2 g1 (by omega) (fun x n hx hn hr => ?_)
            by_cases ex : x = i
            · subst ex; exact g3 n hn hr
            · exact Nat.le_trans (f5 x n (by omega) hn hr) g2
          have L143x : ∀ z t b2, z = nI t → t ≤ 49 → b2 ≤ U → b ≤ b2 → (∀ n, i + n ≤ S.1.1 → rnb p i n → rwb q (k + 1) * n ≤ b2) → bl_WP G l (d + 1) mX11_block 143 [(9, .int z), (8, .int (nI 0)), (7, .int (nI i)), (6, .int (nI k)), (5, .int (nI b2)), (3, .long M), (0, .ref m)] [] (I1, J, R, K, N) (0, 0) (fun o σ' => o = .inl (some (.int (nI (lgb p S.1.1 * lgb q S.2.1.1)))) ∧ ∃ I', σ' = (I', J, R, K, N) ∧ ∀ z, z ≠ m + 42 → I' z = I z) := by
            intro z t b2 hz ht g1 g2 g3; subst hz
            refine bl_go oX11_block 80 [22, 28, 54, 66, 121, 143] rfl ?_
            refine ⟨km, fun h149 => ?_, fun h149 => ?_⟩
            · try simp (disch := omega) only [e21, zI_n, zI_o, zI_lit, zI_neg, zI_add, zI_sub, zI_mul, zI_lt, zI_le, zI_eq, zI_clamp, zI_in, zI_div, zI_rem, lg_lt0, lg_gt0, lg_eq0, lg_le0, lg_ge0, Int.toNat_natCast, ge_iff_le, gt_iff_lt, List.length_cons, List.length_nil, bl_up2_at, bl_up2_nk, bl_up2_nx] at h149
              first
              | (exfalso; first | omega | exact h149 trivial)
              | (refine bl_lv [0, 3, 4, 5, 6] rfl ?_
                 try dsimp only [bl_pv]
                 exact fin _ _ rfl g1 g2 g3)
            · try simp (disch := omega) only [e21, zI_n, zI_o, zI_lit, zI_neg, zI_add, zI_sub, zI_mul, zI_lt, zI_le, zI_eq, zI_clamp, zI_in, zI_div, zI_rem, lg_lt0, lg_gt0, lg_eq0, lg_le0, lg_ge0, Int.toNat_natCast, ge_iff_le, gt_iff_lt, List.length_cons, List.length_nil, bl_up2_at, bl_up2_nk, bl_up2_nx] at h149
              first
              | (exfalso; first | omega | exact h149 trivial)
              | (refine ⟨fun h154 => ?_, fun h154 => ?_⟩
                 · try simp (disch := omega) only [e21, zI_n, zI_o, zI_lit, zI_neg, zI_add, zI_sub, zI_mul, zI_lt, zI_le, zI_eq, zI_clamp, zI_in, zI_div, zI_rem, lg_lt0, lg_gt0, lg_eq0, lg_le0, lg_ge0, Int.toNat_natCast, ge_iff_le, gt_iff_lt, List.length_cons, List.length_nil, bl_up2_at, bl_up2_nk, bl_up2_nx] at h154
                   first
                   | (exfalso; first | omega | exact h154 trivial)
                   | (refine bl_lv [0, 3, 4, 5, 6] rfl ?_
                      try dsimp only [bl_pv]
                      exact fin _ _ rfl g1 g2 g3)
                 · try simp (disch := omega) only [e21, zI_n, zI_o, zI_lit, zI_neg, zI_add, zI_sub, zI_mul, zI_lt, zI_le, zI_eq, zI_clamp, zI_in, zI_div, zI_rem, lg_lt0, lg_gt0, lg_eq0, lg_le0, lg_ge0, Int.toNat_natCast, ge_iff_le, gt_iff_lt, List.length_cons, List.length_nil, bl_up2_at, bl_up2_nk, bl_up2_nx] at h154
                   exfalso; omega)
          have L143 : 0 < rwb q (k + 1) → ∀ t, t ≤ S.1.1 → i ≤ t → ∀ z b2, z = nI t → rnb p i (t - i) → b2 ≤ U → b ≤ b2 → rwb q (k + 1) * (t - i) ≤ b2 → bl_WP G l (d + 1) mX11_block 143 [(9, .int z), (8, .int (nI (rwb q (k + 1)))), (7, .int (nI i)), (6, .int (nI k)), (5, .int (nI b2)), (3, .long M), (0, .ref m)] [] (I1, J, R, K, N) (0, 0) (fun o σ' => o = .inl (some (.int (nI (lgb p S.1.1 * lgb q S.2.1.1)))) ∧ ∃ I', σ' = (I', J, R, K, N) ∧ ∀ z, z ≠ m + 42 → I' z = I z) := by
            intro hr0
            refine bl_for S.1.1 ?_ (fun t ht ih3 => ?_)
            · intro hit z b2 hz g0 g1 g2 g3; subst hz
              refine bl_go oX11_block 80 [22, 28, 54, 66, 121, 143] rfl ?_
              refine ⟨km, fun h149 => ?_, fun h149 => ?_⟩
              · try simp (disch := omega) only [e21, zI_n, zI_o, zI_lit, zI_neg, zI_add, zI_sub, zI_mul, zI_lt, zI_le, zI_eq, zI_clamp, zI_in, zI_div, zI_rem, lg_lt0, lg_gt0, lg_eq0, lg_le0, lg_ge0, Int.toNat_natCast, ge_iff_le, gt_iff_lt, List.length_cons, List.length_nil, bl_up2_at, bl_up2_nk, bl_up2_nx] at h149
                refine bl_lv [0, 3, 4, 5, 6] rfl ?_
                try dsimp only [bl_pv]
                exact fin _ _ rfl g1 g2 (fun n hn _ => Nat.le_trans (Nat.mul_le_mul_left _ (by omega)) g3)
              · try simp (disch := omega) only [e21, zI_n, zI_o, zI_lit, zI_neg, zI_add, zI_sub, zI_mul, zI_lt, zI_le, zI_eq, zI_clamp, zI_in, zI_div, zI_rem, lg_lt0, lg_gt0, lg_eq0, lg_le0, lg_ge0, Int.toNat_natCast, ge_iff_le, gt_iff_lt, List.length_cons, List.length_nil, bl_up2_at, bl_up2_nk, bl_up2_nx] at h149
                exfalso; omega
            · intro hit z b2 hz g0 g1 g2 g3; subst hz
              have ft := f2 t ht
              have ect : (nI t).toNatClampNeg = t := ecx t (by omega)
              by_cases hpt : p t = true
              · have ft' : I1 (m + 42) t = nI (rwb q (k + 1)) := by rw [ft]; unfold hgh; rw [if_pos hpt]
                have hrun : rnb p i (t - i + 1) := fun j h1 h2 => by
                  by_cases e : j = t
                  · subst e; exact hpt
                  · exact g0 j h1 (by omega)
                have hlen := lgb_max p S.1.1 i (t - i + 1) (by omega) hrun
                have hA : rwb q (k + 1) * (t - i + 1) ≤ U := by
                  rw [← hUU, Nat.mul_comm]; exact Nat.mul_le_mul hlen hRl
                have earea : nI (rwb q (k + 1)) * (nI t - nI i + 1) = nI (rwb q (k + 1) * (t - i + 1)) := by
                  rw [nI_subs hit, nI_1, nI_mulc]
                generalize hAA : rwb q (k + 1) * (t - i + 1) = AR at *
                refine bl_go oX11_block 80 [22, 28, 54, 66, 121, 143] rfl ?_
                refine ⟨km, fun h149 => ?_, fun h149 => ?_⟩
                · try simp (disch := omega) only [e21, ft', zI_n, zI_o, zI_lit, zI_neg, zI_add, zI_sub, zI_mul, zI_lt, zI_le, zI_eq, zI_clamp, zI_in, zI_div, zI_rem, lg_lt0, lg_gt0, lg_eq0, lg_le0, lg_ge0, Int.toNat_natCast, ge_iff_le, gt_iff_lt, List.length_cons, List.length_nil, bl_up2_at, bl_up2_nk, bl_up2_nx] at h149
                  exfalso; omega
                · try simp (disch := omega) only [e21, ft', zI_n, zI_o, zI_lit, zI_neg, zI_add, zI_sub, zI_mul, zI_lt, zI_le, zI_eq, zI_clamp, zI_in, zI_div, zI_rem, lg_lt0, lg_gt0, lg_eq0, lg_le0, lg_ge0, Int.toNat_natCast, ge_iff_le, gt_iff_lt, List.length_cons, List.length_nil, bl_up2_at, bl_up2_nk, bl_up2_nx] at h149
                  first
                  | (exfalso; first | omega | exact h149 trivial)
                  | (refine ⟨fun h154 => ?_, fun h154 => ?_⟩
                     · try simp (disch := omega) only [e21, ft', zI_n, zI_o, zI_lit, zI_neg, zI_add, zI_sub, zI_mul, zI_lt, zI_le, zI_eq, zI_clamp, zI_in, zI_div, zI_rem, lg_lt0, lg_gt0, lg_eq0, lg_le0, lg_ge0, Int.toNat_natCast, ge_iff_le, gt_iff_lt, List.length_cons, List.length_nil, bl_up2_at, bl_up2_nk, bl_up2_nx] at h154
                       exfalso; omega
                     · try simp (disch := omega) only [e21, ft', zI_n, zI_o, zI_lit, zI_neg, zI_add, zI_sub, zI_mul, zI_lt, zI_le, zI_eq, zI_clamp, zI_in, zI_div, zI_rem, lg_lt0, lg_gt0, lg_eq0, lg_le0, lg_ge0, Int.toNat_natCast, ge_iff_le, gt_iff_lt, List.length_cons, List.length_nil, bl_up2_at, bl_up2_nk, bl_up2_nx] at h154
                       first
                       | (exfalso; first | omega | exact h154 trivial)
                       | (refine ⟨km, _, bl_vs rm_42, Or.inl ⟨km42, (by first | exact (by rw [nm42]; exact vp_in_nI (by omega) (by omega)) | ((try dsimp only [bl_pv]); show vp_in _ (N _); rw [nm42]; simp (disch := omega) only [e21, ft', zI_n, zI_o, zI_lit, zI_neg, zI_add, zI_sub, zI_mul, zI_lt, zI_le, zI_eq, zI_clamp, zI_in, zI_div, zI_rem, lg_lt0, lg_gt0, lg_eq0, lg_le0, lg_ge0, Int.toNat_natCast, ge_iff_le, gt_iff_lt, List.length_cons, List.length_nil, bl_up2_at, bl_up2_nk, bl_up2_nx] <;> omega)), fun h166 => ?_, fun h166 => ?_⟩⟩
                          · try simp (disch := omega) only [e21, ft', zI_n, zI_o, zI_lit, zI_neg, zI_add, zI_sub, zI_mul, zI_lt, zI_le, zI_eq, zI_clamp, zI_in, zI_div, zI_rem, lg_lt0, lg_gt0, lg_eq0, lg_le0, lg_ge0, Int.toNat_natCast, ge_iff_le, gt_iff_lt, List.length_cons, List.length_nil, bl_up2_at, bl_up2_nk, bl_up2_nx] at h166
                            first
                            | (exfalso; first | omega | exact h166 trivial)
                            | (refine ⟨fun h195 => ?_, fun h195 => ?_⟩
                               · try simp (disch := omega) only [bl_pv, cl0, cl1, cl2, cl3, cl4, cl5, cl6, cl7, cl8, cl9, bl_up2_at, bl_up2_nk, bl_up2_nx] at h195
                                 refine bl_lv [0, 2, 3, 4, 1, 5, 6] rfl ?_
                                 try dsimp only [bl_pv]
                                 first
                                 | (have hq := h195
                                    rw [earea] at hq
                                    have hq' : b2 < AR := by rw [nI_lek (by omega) (by omega)] at hq; omega
                                    rw [earea]
                                    exact ih3 (by omega) _ _ (nI_1 _) (by rw [show t + 1 - i = t - i + 1 by omega]; exact hrun) hA (by omega) (by rw [show t + 1 - i = t - i + 1 by omega, hAA]; exact Nat.le_refl _))
                                 | (have hq := h195
                                    rw [earea, nI_lek (by omega) (by omega)] at hq
                                    exact ih3 (by omega) _ _ (nI_1 _) (by rw [show t + 1 - i = t - i + 1 by omega]; exact hrun) g1 g2 (by rw [show t + 1 - i = t - i + 1 by omega, hAA]; exact hq))
                               · try simp (disch := omega) only [bl_pv, cl0, cl1, cl2, cl3, cl4, cl5, cl6, cl7, cl8, cl9, bl_up2_at, bl_up2_nk, bl_up2_nx] at h195
                                 refine bl_lv [0, 2, 3, 4, 1, 5, 6] rfl ?_
                                 try dsimp only [bl_pv]
                                 first
                                 | (have hq := h195
                                    rw [earea] at hq
                                    have hq' : b2 < AR := by rw [nI_lek (by omega) (by omega)] at hq; omega
                                    rw [earea]
                                    exact ih3 (by omega) _ _ (nI_1 _) (by rw [show t + 1 - i = t - i + 1 by omega]; exact hrun) hA (by omega) (by rw [show t + 1 - i = t - i + 1 by omega, hAA]; exact Nat.le_refl _))
                                 | (have hq := h195
                                    rw [earea, nI_lek (by omega) (by omega)] at hq
                                    exact ih3 (by omega) _ _ (nI_1 _) (by rw [show t + 1 - i = t - i + 1 by omega]; exact hrun) g1 g2 (by rw [show t + 1 - i = t - i + 1 by omega, hAA]; exact hq)))
                          · try simp (disch := omega) only [e21, ft', zI_n, zI_o, zI_lit, zI_neg, zI_add, zI_sub, zI_mul, zI_lt, zI_le, zI_eq, zI_clamp, zI_in, zI_div, zI_rem, lg_lt0, lg_gt0, lg_eq0, lg_le0, lg_ge0, Int.toNat_natCast, ge_iff_le, gt_iff_lt, List.length_cons, List.length_nil, bl_up2_at, bl_up2_nk, bl_up2_nx] at h166
                            exfalso; omega))
              · have ft' : I1 (m + 42) t = nI 0 := by rw [ft]; unfold hgh; rw [if_neg hpt]
                have earea : nI 0 * (nI t - nI i + 1) = nI 0 := Int32.zero_mul
                have ec2 : I1 (m + 42) (nI t).toNatClampNeg = nI 0 := by rw [ect]; exact ft'
                have g4 : ∀ n, i + n ≤ S.1.1 → rnb p i n → rwb q (k + 1) * n ≤ b2 := fun n hn hr => by
                  by_cases hc : n ≤ t - i
                  · exact Nat.le_trans (Nat.mul_le_mul_left _ hc) g3
                  · exact absurd (hr t (by omega) (by omega)) hpt
                refine bl_go oX11_block 80 [22, 28, 54, 66, 121, 143] rfl ?_
                refine ⟨km, fun h149 => ?_, fun h149 => ?_⟩
                · try simp (disch := omega) only [e21, ft', zI_n, zI_o, zI_lit, zI_neg, zI_add, zI_sub, zI_mul, zI_lt, zI_le, zI_eq, zI_clamp, zI_in, zI_div, zI_rem, lg_lt0, lg_gt0, lg_eq0, lg_le0, lg_ge0, Int.toNat_natCast, ge_iff_le, gt_iff_lt, List.length_cons, List.length_nil, bl_up2_at, bl_up2_nk, bl_up2_nx] at h149
                  exfalso; omega
                · try simp (disch := omega) only [e21, ft', zI_n, zI_o, zI_lit, zI_neg, zI_add, zI_sub, zI_mul, zI_lt, zI_le, zI_eq, zI_clamp, zI_in, zI_div, zI_rem, lg_lt0, lg_gt0, lg_eq0, lg_le0, lg_ge0, Int.toNat_natCast, ge_iff_le, gt_iff_lt, List.length_cons, List.length_nil, bl_up2_at, bl_up2_nk, bl_up2_nx] at h149
                  first
                  | (exfalso; first | omega | exact h149 trivial)
                  | (refine ⟨fun h154 => ?_, fun h154 => ?_⟩
                     · try simp (disch := omega) only [e21, ft', zI_n, zI_o, zI_lit, zI_neg, zI_add, zI_sub, zI_mul, zI_lt, zI_le, zI_eq, zI_clamp, zI_in, zI_div, zI_rem, lg_lt0, lg_gt0, lg_eq0, lg_le0, lg_ge0, Int.toNat_natCast, ge_iff_le, gt_iff_lt, List.length_cons, List.length_nil, bl_up2_at, bl_up2_nk, bl_up2_nx] at h154
                       exfalso; omega
                     · try simp (disch := omega) only [e21, ft', zI_n, zI_o, zI_lit, zI_neg, zI_add, zI_sub, zI_mul, zI_lt, zI_le, zI_eq, zI_clamp, zI_in, zI_div, zI_rem, lg_lt0, lg_gt0, lg_eq0, lg_le0, lg_ge0, Int.toNat_natCast, ge_iff_le, gt_iff_lt, List.length_cons, List.length_nil, bl_up2_at, bl_up2_nk, bl_up2_nx] at h154
                       first
                       | (exfalso; first | omega | exact h154 trivial)
                       | (refine ⟨km, _, bl_vs rm_42, Or.inl ⟨km42, (by first | exact (by rw [nm42]; exact vp_in_nI (by omega) (by omega)) | ((try dsimp only [bl_pv]); show vp_in _ (N _); rw [nm42]; simp (disch := omega) only [e21, ft', zI_n, zI_o, zI_lit, zI_neg, zI_add, zI_sub, zI_mul, zI_lt, zI_le, zI_eq, zI_clamp, zI_in, zI_div, zI_rem, lg_lt0, lg_gt0, lg_eq0, lg_le0, lg_ge0, Int.toNat_natCast, ge_iff_le, gt_iff_lt, List.length_cons, List.length_nil, bl_up2_at, bl_up2_nk, bl_up2_nx] <;> omega)), fun h166 => ?_, fun h166 => ?_⟩⟩
                          · try simp (disch := omega) only [e21, ft', zI_n, zI_o, zI_lit, zI_neg, zI_add, zI_sub, zI_mul, zI_lt, zI_le, zI_eq, zI_clamp, zI_in, zI_div, zI_rem, lg_lt0, lg_gt0, lg_eq0, lg_le0, lg_ge0, Int.toNat_natCast, ge_iff_le, gt_iff_lt, List.length_cons, List.length_nil, bl_up2_at, bl_up2_nk, bl_up2_nx] at h166
                            exfalso; omega
                          · try simp (disch := omega) only [e21, ft', zI_n, zI_o, zI_lit, zI_neg, zI_add, zI_sub, zI_mul, zI_lt, zI_le, zI_eq, zI_clamp, zI_in, zI_div, zI_rem, lg_lt0, lg_gt0, lg_eq0, lg_le0, lg_ge0, Int.toNat_natCast, ge_iff_le, gt_iff_lt, List.length_cons, List.length_nil, bl_up2_at, bl_up2_nk, bl_up2_nx] at h166
                            first
                            | (exfalso; first | omega | exact h166 trivial)
                            | (refine ⟨km, _, bl_vs rm_42, Or.inl ⟨km42, (by first | exact (by rw [nm42]; exact vp_in_nI (by omega) (by omega)) | ((try dsimp only [bl_pv]); show vp_in _ (N _); rw [nm42]; simp (disch := omega) only [e21, ft', zI_n, zI_o, zI_lit, zI_neg, zI_add, zI_sub, zI_mul, zI_lt, zI_le, zI_eq, zI_clamp, zI_in, zI_div, zI_rem, lg_lt0, lg_gt0, lg_eq0, lg_le0, lg_ge0, Int.toNat_natCast, ge_iff_le, gt_iff_lt, List.length_cons, List.length_nil, bl_up2_at, bl_up2_nk, bl_up2_nx] <;> omega)), fun h195 => ?_, fun h195 => ?_⟩⟩
                               · try simp (disch := omega) only [bl_pv, cl0, cl1, cl2, cl3, cl4, cl5, cl6, cl7, cl8, cl9, bl_up2_at, bl_up2_nk, bl_up2_nx] at h195
                                 refine bl_lv [0, 2, 3, 4, 1, 5, 6] rfl ?_
                                 try dsimp only [bl_pv]
                                 first
                                 | (have hq := h195
                                    rw [ect, ft', earea] at hq
                                    exact absurd ((nI_lek (by omega) (by omega)).mpr (Nat.zero_le _)) hq)
                                 | (rw [ect, ft']
                                    exact L143x _ (t + 1) _ (nI_1 _) (by omega) g1 g2 g4)
                               · try simp (disch := omega) only [bl_pv, cl0, cl1, cl2, cl3, cl4, cl5, cl6, cl7, cl8, cl9, bl_up2_at, bl_up2_nk, bl_up2_nx] at h195
                                 refine bl_lv [0, 2, 3, 4, 1, 5, 6] rfl ?_
                                 try dsimp only [bl_pv]
                                 first
                                 | (have hq := h195
                                    rw [ect, ft', earea] at hq
                                    exact absurd ((nI_lek (by omega) (by omega)).mpr (Nat.zero_le _)) hq)
                                 | (rw [ect, ft']
                                    exact L143x _ (t + 1) _ (nI_1 _) (by omega) g1 g2 g4))))
          have fi := f2 i hi
          have eci : (nI i).toNatClampNeg = i := ecx i (by omega)
          refine bl_go oX11_block 80 [22, 28, 54, 66, 121, 143] rfl ?_
          refine ⟨km, fun h127 => ?_, fun h127 => ?_⟩
          · try simp (disch := omega) only [e21, zI_n, zI_o, zI_lit, zI_neg, zI_add, zI_sub, zI_mul, zI_lt, zI_le, zI_eq, zI_clamp, zI_in, zI_div, zI_rem, lg_lt0, lg_gt0, lg_eq0, lg_le0, lg_ge0, Int.toNat_natCast, ge_iff_le, gt_iff_lt, List.length_cons, List.length_nil, bl_up2_at, bl_up2_nk, bl_up2_nx] at h127
            exfalso; omega
          · try simp (disch := omega) only [e21, zI_n, zI_o, zI_lit, zI_neg, zI_add, zI_sub, zI_mul, zI_lt, zI_le, zI_eq, zI_clamp, zI_in, zI_div, zI_rem, lg_lt0, lg_gt0, lg_eq0, lg_le0, lg_ge0, Int.toNat_natCast, ge_iff_le, gt_iff_lt, List.length_cons, List.length_nil, bl_up2_at, bl_up2_nk, bl_up2_nx] at h127
            refine ⟨km, _, bl_vs rm_42, Or.inl ⟨km42, (by first | exact (by rw [nm42]; exact vp_in_nI (by omega) (by omega)) | ((try dsimp only [bl_pv]); show vp_in _ (N _); rw [nm42]; simp (disch := omega) only [e21, zI_n, zI_o, zI_lit, zI_neg, zI_add, zI_sub, zI_mul, zI_lt, zI_le, zI_eq, zI_clamp, zI_in, zI_div, zI_rem, lg_lt0, lg_gt0, lg_eq0, lg_le0, lg_ge0, Int.toNat_natCast, ge_iff_le, gt_iff_lt, List.length_cons, List.length_nil, bl_up2_at, bl_up2_nk, bl_up2_nx] <;> omega)), ?_⟩⟩
            try dsimp only [bl_pv]
            rw [eci, fi]
            unfold hgh
            by_cases hc : p i = true ∧ 0 < rwb q (k + 1)
            · rw [if_pos hc.1]
              exact L143 hc.2 i (by omega) (Nat.le_refl _) _ _ rfl (fun j h1 h2 => absurd h2 (by omega)) f3 (Nat.le_refl _) (by rw [Nat.sub_self, Nat.mul_zero]; exact Nat.zero_le _)
            · have h0 : (if p i = true then rwb q (k + 1) else 0) = 0 := by
                by_cases hp : p i = true
                · rw [if_pos hp]; have : ¬ 0 < rwb q (k + 1) := fun h => hc ⟨hp, h⟩
                  omega
                · rw [if_neg hp]
              rw [h0]
              refine L143x _ i _ rfl (by omega) f3 (Nat.le_refl _) (fun n hn hr => ?_)
              by_cases hp : p i = true
              · have h1 : rwb q (k + 1) = 0 := by have : ¬ 0 < rwb q (k + 1) := fun h => hc ⟨hp, h⟩
                                                  omega
                rw [h1, Nat.zero_mul]; exact Nat.zero_le _
              · have hn0 : n = 0 := by
                  by_cases e : n = 0
                  · exact e
                  · exact absurd (hr i (Nat.le_refl _) (by omega)) hp
                rw [hn0, Nat.mul_zero]; exact Nat.zero_le _
      have L66 : ∀ i, i ≤ S.1.1 → ∀ z I1, z = nI i → (∀ z, z ≠ m + 42 → I1 z = I z) → (∀ x, x < i → I1 (m + 42) x = nI (hgh p (rwb q (k + 1)) x)) → (∀ x, i ≤ x → x < S.1.1 → I1 (m + 42) x = nI (hgh p (rwb q k) x)) → bl_WP G l (d + 1) mX11_block 66 [(7, .int z), (6, .int (nI k)), (5, .int (nI (lgb p S.1.1 * lgb q k))), (3, .long M), (0, .ref m)] [] (I1, J, R, K, N) (0, 0) (fun o σ' => o = .inl (some (.int (nI (lgb p S.1.1 * lgb q S.2.1.1)))) ∧ ∃ I', σ' = (I', J, R, K, N) ∧ ∀ z, z ≠ m + 42 → I' z = I z) := by
        refine bl_for S.1.1 ?_ (fun i hi ih2 => ?_)
        · intro z I1 hz f1 f2 f3; subst hz
          have e21 : I1 m 21 = nI S.1.1 := (congrFun (f1 m (by omega)) 21).trans hs.1
          refine bl_go oX11_block 80 [22, 28, 54, 66, 121, 143] rfl ?_
          refine ⟨km, fun h72 => ?_, fun h72 => ?_⟩
          · try simp (disch := omega) only [e21, zI_n, zI_o, zI_lit, zI_neg, zI_add, zI_sub, zI_mul, zI_lt, zI_le, zI_eq, zI_clamp, zI_in, zI_div, zI_rem, lg_lt0, lg_gt0, lg_eq0, lg_le0, lg_ge0, Int.toNat_natCast, ge_iff_le, gt_iff_lt, List.length_cons, List.length_nil, bl_up2_at, bl_up2_nk, bl_up2_nx] at h72
            try dsimp only [bl_pv]
            exact L121 0 (by omega) _ _ _ rfl f1 f2 (Nat.mul_le_mul_left _ (Nat.le_max_left _ _)) (Nat.le_refl _) (fun x n hx => absurd hx (by omega))
          · try simp (disch := omega) only [e21, zI_n, zI_o, zI_lit, zI_neg, zI_add, zI_sub, zI_mul, zI_lt, zI_le, zI_eq, zI_clamp, zI_in, zI_div, zI_rem, lg_lt0, lg_gt0, lg_eq0, lg_le0, lg_ge0, Int.toNat_natCast, ge_iff_le, gt_iff_lt, List.length_cons, List.length_nil, bl_up2_at, bl_up2_nk, bl_up2_nx] at h72
            exfalso; omega
        · intro z I1 hz f1 f2 f3; subst hz
          have e21 : I1 m 21 = nI S.1.1 := (congrFun (f1 m (by omega)) 21).trans hs.1
          have eci : (nI i).toNatClampNeg = i := nI_clamp (by omega)
          have ec : (nI (48 * k + i)).toNatClampNeg = 48 * k + i := nI_clamp (by omega)
          have z2 := (hs.2.2 i k hi hk).2.1
          have hq2 := hpq i k hi hk
          have fi := f3 i (Nat.le_refl _) hi
          refine bl_go oX11_block 80 [22, 28, 54, 66, 121, 143] rfl ?_
          refine ⟨km, fun h72 => ?_, fun h72 => ?_⟩
          · try simp (disch := omega) only [e21, zI_n, zI_o, zI_lit, zI_neg, zI_add, zI_sub, zI_mul, zI_lt, zI_le, zI_eq, zI_clamp, zI_in, zI_div, zI_rem, lg_lt0, lg_gt0, lg_eq0, lg_le0, lg_ge0, Int.toNat_natCast, ge_iff_le, gt_iff_lt, List.length_cons, List.length_nil, bl_up2_at, bl_up2_nk, bl_up2_nx] at h72
            exfalso; omega
          · try simp (disch := omega) only [e21, zI_n, zI_o, zI_lit, zI_neg, zI_add, zI_sub, zI_mul, zI_lt, zI_le, zI_eq, zI_clamp, zI_in, zI_div, zI_rem, lg_lt0, lg_gt0, lg_eq0, lg_le0, lg_ge0, Int.toNat_natCast, ge_iff_le, gt_iff_lt, List.length_cons, List.length_nil, bl_up2_at, bl_up2_nk, bl_up2_nx] at h72
            refine ⟨km, _, bl_vs rm_42, km, _, bl_vs rm_32, rfl, (Nat.le_of_ble_eq_true rfl), (0, 0), Nat.le_of_ble_eq_true rfl, Nat.le_of_ble_eq_true rfl, bl_MC_mono (c_Model_cell (d := d) (x := i) (y := k) rfl rfl) (fun o89 σ89 q89 => ?_)⟩
            try dsimp only [bl_pv] at q89
            obtain ⟨rfl, rfl⟩ := q89
            refine bl_go oX11_block 80 [22, 28, 54, 66, 121, 143] rfl ?_
            refine ⟨km32, (by first | exact (by rw [nm32]; exact vp_in_nI (by omega) (by omega)) | ((try dsimp only [bl_pv]); show vp_in _ (N _); rw [nm32]; simp (disch := omega) only [e21, zI_n, zI_o, zI_lit, zI_neg, zI_add, zI_sub, zI_mul, zI_lt, zI_le, zI_eq, zI_clamp, zI_in, zI_div, zI_rem, lg_lt0, lg_gt0, lg_eq0, lg_le0, lg_ge0, Int.toNat_natCast, ge_iff_le, gt_iff_lt, List.length_cons, List.length_nil, bl_up2_at, bl_up2_nk, bl_up2_nx] <;> omega)), fun h95 => ?_, fun h95 => ?_⟩
            · try simp (disch := omega) only [bl_pv, cl0, cl1, cl2, cl3, cl4, cl5, cl6, cl7, cl8, cl9, bl_up2_at, bl_up2_nk, bl_up2_nx] at h95
              refine ⟨km42, (by first | exact (by rw [nm42]; exact vp_in_nI (by omega) (by omega)) | ((try dsimp only [bl_pv]); show vp_in _ (N _); rw [nm42]; simp (disch := omega) only [e21, zI_n, zI_o, zI_lit, zI_neg, zI_add, zI_sub, zI_mul, zI_lt, zI_le, zI_eq, zI_clamp, zI_in, zI_div, zI_rem, lg_lt0, lg_gt0, lg_eq0, lg_le0, lg_ge0, Int.toNat_natCast, ge_iff_le, gt_iff_lt, List.length_cons, List.length_nil, bl_up2_at, bl_up2_nk, bl_up2_nx] <;> omega)), ?_⟩
              try dsimp only [bl_pv]
              rw [eci]
              rw [ec, z2, lgq_eq0, hq2] at h95
              refine ih2 _ _ (nI_1 _) (fun z hz => ?_) (fun x hx => ?_) (fun x hx hx2 => ?_)
              · rw [bl_up2_ne hz]; exact f1 z hz
              · by_cases ex : x = i
                · subst ex
                  rw [bl_up2_at]
                  unfold hgh at fi ⊢
                  rw [hR]
                  first
                  | (rw [if_pos h95.1, if_pos h95.2, fi, if_pos h95.1, nI_1])
                  | (by_cases hp : p x = true
                     · rw [if_pos hp, if_neg (fun h => h95 ⟨hp, h⟩)]; rfl
                     · rw [if_neg hp]; rfl)
                · rw [bl_up2_nk ex]; exact f2 x (by omega)
              · rw [bl_up2_nk (by omega)]; exact f3 x (by omega) hx2
            · try simp (disch := omega) only [bl_pv, cl0, cl1, cl2, cl3, cl4, cl5, cl6, cl7, cl8, cl9, bl_up2_at, bl_up2_nk, bl_up2_nx] at h95
              refine ⟨km, _, bl_vs rm_42, Or.inl ⟨km42, (by first | exact (by rw [nm42]; exact vp_in_nI (by omega) (by omega)) | ((try dsimp only [bl_pv]); show vp_in _ (N _); rw [nm42]; simp (disch := omega) only [e21, zI_n, zI_o, zI_lit, zI_neg, zI_add, zI_sub, zI_mul, zI_lt, zI_le, zI_eq, zI_clamp, zI_in, zI_div, zI_rem, lg_lt0, lg_gt0, lg_eq0, lg_le0, lg_ge0, Int.toNat_natCast, ge_iff_le, gt_iff_lt, List.length_cons, List.length_nil, bl_up2_at, bl_up2_nk, bl_up2_nx] <;> omega)), km42, (by first | exact (by rw [nm42]; exact vp_in_nI (by omega) (by omega)) | ((try dsimp only [bl_pv]); show vp_in _ (N _); rw [nm42]; simp (disch := omega) only [e21, zI_n, zI_o, zI_lit, zI_neg, zI_add, zI_sub, zI_mul, zI_lt, zI_le, zI_eq, zI_clamp, zI_in, zI_div, zI_rem, lg_lt0, lg_gt0, lg_eq0, lg_le0, lg_ge0, Int.toNat_natCast, ge_iff_le, gt_iff_lt, List.length_cons, List.length_nil, bl_up2_at, bl_up2_nk, bl_up2_nx] <;> omega)), ?_⟩⟩
              try dsimp only [bl_pv]
              rw [eci]
              rw [ec, z2, lgq_eq0, hq2] at h95
              refine ih2 _ _ (nI_1 _) (fun z hz => ?_) (fun x hx => ?_) (fun x hx hx2 => ?_)
              · rw [bl_up2_ne hz]; exact f1 z hz
              · by_cases ex : x = i
                · subst ex
                  rw [bl_up2_at]
                  unfold hgh at fi ⊢
                  rw [hR]
                  first
                  | (rw [if_pos h95.1, if_pos h95.2, fi, if_pos h95.1, nI_1])
                  | (by_cases hp : p x = true
                     · rw [if_pos hp, if_neg (fun h => h95 ⟨hp, h⟩)]; rfl
                     · rw [if_neg hp]; rfl)
                · rw [bl_up2_nk ex]; exact f2 x (by omega)
              · rw [bl_up2_nk (by omega)]; exact f3 x (by omega) hx2
      refine bl_go oX11_block 80 [22, 28, 54, 66, 121, 143] rfl ?_
      refine ⟨km, fun h60 => ?_, fun h60 => ?_⟩
      · try simp (disch := omega) only [e22, zI_n, zI_o, zI_lit, zI_neg, zI_add, zI_sub, zI_mul, zI_lt, zI_le, zI_eq, zI_clamp, zI_in, zI_div, zI_rem, lg_lt0, lg_gt0, lg_eq0, lg_le0, lg_ge0, Int.toNat_natCast, ge_iff_le, gt_iff_lt, List.length_cons, List.length_nil, bl_up2_at, bl_up2_nk, bl_up2_nx] at h60
        exfalso; omega
      · try simp (disch := omega) only [e22, zI_n, zI_o, zI_lit, zI_neg, zI_add, zI_sub, zI_mul, zI_lt, zI_le, zI_eq, zI_clamp, zI_in, zI_div, zI_rem, lg_lt0, lg_gt0, lg_eq0, lg_le0, lg_ge0, Int.toNat_natCast, ge_iff_le, gt_iff_lt, List.length_cons, List.length_nil, bl_up2_at, bl_up2_nk, bl_up2_nx] at h60
        try dsimp only [bl_pv]
        exact L66 0 (by omega) _ _ rfl f1 (fun x hx => absurd hx (by omega)) (fun x _ hx => f2 x hx)
  have L28 : ∀ i, i ≤ S.1.1 → ∀ z I1, z = nI i → (∀ z, z ≠ m + 42 → I1 z = I z) → (∀ x, x < i → I1 (m + 42) x = nI 0) → bl_WP G l (d + 1) mX11_block 28 [(6, .int z), (5, .int (nI 0)), (3, .long M), (0, .ref m)] [] (I1, J, R, K, N) (0, 0) (fun o σ' => o = .inl (some (.int (nI (lgb p S.1.1 * lgb q S.2.1.1)))) ∧ ∃ I', σ' = (I', J, R, K, N) ∧ ∀ z, z ≠ m + 42 → I' z = I z) := by
    refine bl_for S.1.1 ?_ (fun i hi ih => ?_)
    · intro z I1 hz f1 f2; subst hz
      have e21 : I1 m 21 = nI S.1.1 := (congrFun (f1 m (by omega)) 21).trans hs.1
      refine bl_go oX11_block 80 [22, 28, 54, 66, 121, 143] rfl ?_
      refine ⟨km, fun h34 => ?_, fun h34 => ?_⟩
      · try simp (disch := omega) only [e21, zI_n, zI_o, zI_lit, zI_neg, zI_add, zI_sub, zI_mul, zI_lt, zI_le, zI_eq, zI_clamp, zI_in, zI_div, zI_rem, lg_lt0, lg_gt0, lg_eq0, lg_le0, lg_ge0, Int.toNat_natCast, ge_iff_le, gt_iff_lt, List.length_cons, List.length_nil, bl_up2_at, bl_up2_nk, bl_up2_nx] at h34
        try dsimp only [bl_pv]
        refine L54 0 (by omega) _ _ _ rfl ?_ f1 (fun x hx => ?_)
        · show nI 0 = nI (lgb p S.1.1 * 0); rw [Nat.mul_zero]
        · rw [f2 x hx]; show nI 0 = nI (if p x then 0 else 0); split <;> rfl
      · try simp (disch := omega) only [e21, zI_n, zI_o, zI_lit, zI_neg, zI_add, zI_sub, zI_mul, zI_lt, zI_le, zI_eq, zI_clamp, zI_in, zI_div, zI_rem, lg_lt0, lg_gt0, lg_eq0, lg_le0, lg_ge0, Int.toNat_natCast, ge_iff_le, gt_iff_lt, List.length_cons, List.length_nil, bl_up2_at, bl_up2_nk, bl_up2_nx] at h34
        exfalso; omega
    · intro z I1 hz f1 f2; subst hz
      have e21 : I1 m 21 = nI S.1.1 := (congrFun (f1 m (by omega)) 21).trans hs.1
      have eci : (nI i).toNatClampNeg = i := nI_clamp (by omega)
      refine bl_go oX11_block 80 [22, 28, 54, 66, 121, 143] rfl ?_
      refine ⟨km, fun h34 => ?_, fun h34 => ?_⟩
      · try simp (disch := omega) only [e21, zI_n, zI_o, zI_lit, zI_neg, zI_add, zI_sub, zI_mul, zI_lt, zI_le, zI_eq, zI_clamp, zI_in, zI_div, zI_rem, lg_lt0, lg_gt0, lg_eq0, lg_le0, lg_ge0, Int.toNat_natCast, ge_iff_le, gt_iff_lt, List.length_cons, List.length_nil, bl_up2_at, bl_up2_nk, bl_up2_nx] at h34
        exfalso; omega
      · try simp (disch := omega) only [e21, zI_n, zI_o, zI_lit, zI_neg, zI_add, zI_sub, zI_mul, zI_lt, zI_le, zI_eq, zI_clamp, zI_in, zI_div, zI_rem, lg_lt0, lg_gt0, lg_eq0, lg_le0, lg_ge0, Int.toNat_natCast, ge_iff_le, gt_iff_lt, List.length_cons, List.length_nil, bl_up2_at, bl_up2_nk, bl_up2_nx] at h34
        refine ⟨km, _, bl_vs rm_42, km42, (by first | exact (by rw [nm42]; exact vp_in_nI (by omega) (by omega)) | ((try dsimp only [bl_pv]); show vp_in _ (N _); rw [nm42]; simp (disch := omega) only [e21, zI_n, zI_o, zI_lit, zI_neg, zI_add, zI_sub, zI_mul, zI_lt, zI_le, zI_eq, zI_clamp, zI_in, zI_div, zI_rem, lg_lt0, lg_gt0, lg_eq0, lg_le0, lg_ge0, Int.toNat_natCast, ge_iff_le, gt_iff_lt, List.length_cons, List.length_nil, bl_up2_at, bl_up2_nk, bl_up2_nx] <;> omega)), ?_⟩
        try dsimp only [bl_pv]
        rw [eci]
        refine ih _ _ (nI_1 _) (fun z hz => ?_) (fun x hx => ?_)
        · rw [bl_up2_ne hz]; exact f1 z hz
        · by_cases ex : x = i
          · subst ex; rw [bl_up2_at]; rfl
          · rw [bl_up2_nk ex]; exact f2 x (by omega)
  refine bl_go oX11_block 80 [22, 28, 54, 66, 121, 143] rfl ?_
  try dsimp only [bl_pv]
  exact L28 0 (by omega) _ _ rfl (fun _ _ => rfl) (fun x hx => absurd hx (by omega))
theorem c_Model_block (hm : mdS R K N m) (hK : mdK I m A) : bl_MC G l (d + 7) mX11_block [.ref m, .int x, .int y] (I, J, R, K, N) (0, 0) (fun o σ' => ∃ I' J' v, σ' = (I', J', R, K, N) ∧ gtG I I' J J' m ∧ I' m 0 = nI (askE A x y) ∧ o = .inl (some (.int v)) ∧ (askE A x y = 0 → v = nI (bkV (aSl A (rn x) (rn y))))) := by
  have km := hm.2.1
  have hK0 : mdK (bl_up2 I m 0 0) m A := hK.G (J := J) (J' := J) gtG.up
  by_cases hE : askE A x y = 0
  · have hB := slB_A hK hE
    have hok := askE_ok hK hE
    obtain ⟨p, q, hpq, he⟩ := bk_pq hok hB
    refine bl_MC_intro (by decide +kernel) rfl (Nat.le_of_ble_eq_true rfl) ?_
    refine bl_go oX11_block 80 [22] rfl ?_
    refine ⟨km, Or.inr (Or.inr ⟨rfl, rfl, _, rfl⟩), (fun h => by cases h), rfl, rfl, km, (Nat.le_of_ble_eq_true rfl), (0, 0), Nat.le_of_ble_eq_true rfl, Nat.le_of_ble_eq_true rfl, bl_MC_mono (c_Model_asks (d := d) hm hK0 bl_up2_at) (fun o8 σ8 q8 => ?_)⟩
    try dsimp only [bl_pv] at q8
    obtain ⟨I1, J1, rfl, f1, f2, rfl, f3⟩ := q8
    have f4 := f3 hE
    have f5 := gtG.trans gtG.up f1
    rw [if_pos hE]
    refine bl_go oX11_block 80 [22] rfl ?_
    refine ⟨fun h11 => ?_, fun h11 => ?_⟩
    · try simp (disch := omega) only [bl_pv, cl0, cl1, cl2, cl3, cl4, cl5, cl6, cl7, cl8, cl9, bl_up2_at, bl_up2_nk, bl_up2_nx] at h11
      first
      | (exfalso; first | omega | exact h11 trivial)
      | (refine ⟨rfl, rfl, km, (Nat.le_of_ble_eq_true rfl), (0, 0), Nat.le_of_ble_eq_true rfl, Nat.le_of_ble_eq_true rfl, bl_MC_mono (c_Model_most0 (d := d + 4) (S := aSl A (rn x) (rn y)) (v := 1) hm f4.1.1 hok hB rfl (by omega)) (fun o18 σ18 q18 => ?_)⟩
         try dsimp only [bl_pv] at q18
         obtain ⟨⟨n, rfl, hn⟩, rfl⟩ := q18
         have hn' : n = mxf (aSl A (rn x) (rn y)).1.2.2 (aSl A (rn x) (rn y)).1.1 * mxf (aSl A (rn x) (rn y)).2.1.2.2 (aSl A (rn x) (rn y)).2.1.1 := isMx_eq hn (isMx_mul hok.1.1 hok.2.1)
         subst hn'
         refine bl_go oX11_block 80 [22] rfl ?_
         refine bl_lv [0, 1] rfl ?_
         try dsimp only [bl_pv]
         refine bl_WP_mono (c_Model_bl22 (d := d + 6) (S := aSl A (rn x) (rn y)) hm f4.1.1 hok hpq) (fun o σ' q => ?_)
         obtain ⟨rfl, I2, rfl, g1⟩ := q
         refine ⟨I2, J1, _, rfl, f5.trans ⟨fun z z1 z2 => g1 z (by omega), fun j _ _ => congrFun (g1 m (by omega)) j, fun _ _ => rfl⟩, ?_, rfl, fun _ => by rw [he]⟩
         rw [g1 m (by omega)]; exact f2)
    · try simp (disch := omega) only [bl_pv, cl0, cl1, cl2, cl3, cl4, cl5, cl6, cl7, cl8, cl9, bl_up2_at, bl_up2_nk, bl_up2_nx] at h11
      (first | exact absurd rfl h11 | exact absurd trivial h11 | exact absurd h11 (by decide))
  · skip
    refine bl_MC_intro (by decide +kernel) rfl (Nat.le_of_ble_eq_true rfl) ?_
    refine bl_go oX11_block 80 [16] rfl ?_
    refine ⟨km, Or.inr (Or.inr ⟨rfl, rfl, _, rfl⟩), (fun h => by cases h), rfl, rfl, km, (Nat.le_of_ble_eq_true rfl), (0, 0), Nat.le_of_ble_eq_true rfl, Nat.le_of_ble_eq_true rfl, bl_MC_mono (c_Model_asks (d := d) hm hK0 bl_up2_at) (fun o8 σ8 q8 => ?_)⟩
    try dsimp only [bl_pv] at q8
    obtain ⟨I1, J1, rfl, f1, f2, rfl, f3⟩ := q8
    rw [if_neg hE]
    refine bl_go oX11_block 80 [16] rfl ?_
    refine ⟨fun h11 => ?_, fun h11 => ?_⟩
    · try simp (disch := omega) only [bl_pv, cl0, cl1, cl2, cl3, cl4, cl5, cl6, cl7, cl8, cl9, bl_up2_at, bl_up2_nk, bl_up2_nx] at h11
      first
      | (exfalso; first | omega | exact h11 trivial)
      | (try dsimp only [bl_pv]
         (first | exact absurd rfl h11 | exact absurd trivial h11 | exact absurd h11 (by decide)))
    · try simp (disch := omega) only [bl_pv, cl0, cl1, cl2, cl3, cl4, cl5, cl6, cl7, cl8, cl9, bl_up2_at, bl_up2_nk, bl_up2_nx] at h11
      first
      | (exfalso; first | omega | exact h11 trivial)
      | (refine ⟨(fun h => by cases h), ?_⟩
         try show _ ∧ _
         try dsimp only [bl_pv]
         exact ⟨I1, J1, _, rfl, gtG.trans gtG.up f1, f2, rfl, fun h => absurd h hE⟩)
end MODEL29
