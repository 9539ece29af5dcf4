/-! ===== Model: words ===== -/
/-- letters from p on as one number -/
def pkv (B : Nat → Int32) (p : Nat) : Nat → Nat
  | 0 => 0
  | k + 1 => 27 * pkv B p k + ((B (p + k)).toInt - 96).toNat
def pkl (w : List Int32) : Nat := pkv (fun i => w.getD i 0) 0 w.length
def nmd (a b c d e f : Nat) : Nat := if f = 0 then (if e = 0 then (if d = 0 then 27 * (27 * a + b) + c else 27 * (27 * (27 * a + b) + c) + d) else 27 * (if d = 0 then 27 * (27 * a + b) + c else 27 * (27 * (27 * a + b) + c) + d) + e) else 27 * (if e = 0 then (if d = 0 then 27 * (27 * a + b) + c else 27 * (27 * (27 * a + b) + c) + d) else 27 * (if d = 0 then 27 * (27 * a + b) + c else 27 * (27 * (27 * a + b) + c) + d) + e) + f
theorem pkv_inj {B C : Nat → Int32} {p q : Nat} : ∀ {n m : Nat}, (∀ k, k < n → 97 ≤ (B (p + k)).toInt ∧ (B (p + k)).toInt ≤ 122) → (∀ k, k < m → 97 ≤ (C (q + k)).toInt ∧ (C (q + k)).toInt ≤ 122) → pkv B p n = pkv C q m → n = m ∧ ∀ k, k < n → B (p + k) = C (q + k)
  | 0, 0, _, _, _ => ⟨rfl, fun _ h => absurd h (Nat.not_lt_zero _)⟩
  | 0, m + 1, _, hC, h => by
    have h' : 0 = 27 * pkv C q m + ((C (q + m)).toInt - 96).toNat := h
    have := hC m (by omega)
    omega
  | n + 1, 0, hB, _, h => by
    have h' : 27 * pkv B p n + ((B (p + n)).toInt - 96).toNat = 0 := h
    have := hB n (by omega)
    omega
  | n + 1, m + 1, hB, hC, h => by
    have h' : 27 * pkv B p n + ((B (p + n)).toInt - 96).toNat = 27 * pkv C q m + ((C (q + m)).toInt - 96).toNat := h
    have b := hB n (by omega)
    have c := hC m (by omega)
    obtain ⟨e1, e2⟩ := pkv_inj (n := n) (m := m) (fun k hk => hB k (by omega)) (fun k hk => hC k (by omega)) (by omega)
    refine ⟨by omega, fun k hk => ?_⟩
    by_cases e : k = n
    · subst e
      rw [← e1] at h' c
      exact Int32.toInt_inj.mp (by omega)
    · exact e2 k (by omega)
theorem pkv_le {B : Nat → Int32} {p : Nat} : ∀ {n : Nat}, (∀ k, k < n → 97 ≤ (B (p + k)).toInt ∧ (B (p + k)).toInt ≤ 122) → pkv B p n + 1 ≤ 27 ^ n
  | 0, _ => Nat.le_refl _
  | n + 1, h => by
    have a := pkv_le (n := n) (fun k hk => h k (by omega))
    have b := h n (by omega)
    show 27 * pkv B p n + ((B (p + n)).toInt - 96).toNat + 1 ≤ 27 ^ n * 27
    omega
theorem pkv_congr {B C : Nat → Int32} {p q : Nat} : ∀ {n : Nat}, (∀ k, k < n → B (p + k) = C (q + k)) → pkv B p n = pkv C q n
  | 0, _ => rfl
  | n + 1, h => by
    show 27 * pkv B p n + ((B (p + n)).toInt - 96).toNat = 27 * pkv C q n + ((C (q + n)).toInt - 96).toNat
    rw [pkv_congr (n := n) (fun k hk => h k (by omega)), h n (by omega)]
/-- all places from i up to its end are such -/
theorem skW_all {B : Nat → Int32} {n : Nat} (hn : n ≤ 400) {i : Nat} (hi : i ≤ n) : ∀ k, i ≤ k → k < skW B n i → k < n ∧ zI 97 ≤ B k ∧ B k ≤ zI 122 := by
  have : ∀ f i, i + f = n + 1 → i ≤ n → ∀ k, i ≤ k → k < skW B n i → k < n ∧ zI 97 ≤ B k ∧ B k ≤ zI 122 := by
    intro f
    induction f with
    | zero => intro i h1 h2; omega
    | succ f ih =>
      intro i h1 h2 k hk hlt
      by_cases e : i < n ∧ zI 97 ≤ B i ∧ B i ≤ zI 122
      · by_cases ek : k = i
        · subst ek; exact e
        · rw [skW_t e hn] at hlt
          exact ih (i + 1) (by omega) (by omega) k (by omega) hlt
      · rw [skW_f e] at hlt; omega
  exact this (n + 1 - i) i (by omega) hi
theorem byw_let : ∀ j, j < 17 → j ≠ 8 → byw j ≠ [] ∧ ∀ i, i < (byw j).length → 97 ≤ ((byw j).getD i 0).toInt ∧ ((byw j).getD i 0).toInt ≤ 122 := by decide +kernel
theorem wis_pk {B : Nat → Int32} {n p j : Nat} (hn : n ≤ 400) (hp : p ≤ n) (hj : j < 17) (hj8 : j ≠ 8) : wis B p (skW B n p) (byw j) ↔ (skW B n p - p ≤ 6 ∧ pkv B p (skW B n p - p) = pkl (byw j)) := by
  obtain ⟨w1, w2⟩ := byw_let j hj hj8
  have hl := byw_len hj
  have ha : ∀ k, k < skW B n p - p → 97 ≤ (B (p + k)).toInt ∧ (B (p + k)).toInt ≤ 122 := fun k hk => by
    have := skW_all (B := B) hn hp (p + k) (by omega) (by omega)
    exact ⟨Int32.le_iff_toInt_le.mp this.2.1, Int32.le_iff_toInt_le.mp this.2.2⟩
  refine ⟨fun h => ?_, fun h => ?_⟩
  · obtain ⟨-, h2, h3⟩ := h
    refine ⟨by omega, ?_⟩
    unfold pkl
    rw [h2]
    exact pkv_congr (fun k hk => by rw [h3 k hk, Nat.zero_add])
  · obtain ⟨h1, h2⟩ := h
    obtain ⟨e1, e2⟩ := pkv_inj (C := fun i => (byw j).getD i 0) (q := 0) ha (fun k hk => by rw [Nat.zero_add]; exact w2 k hk) h2
    exact ⟨w1, e1, fun i hi => by rw [e2 i (by omega), Nat.zero_add]⟩
section MODEL3
variable {G : bl_G} {l : Launch} {d m : Nat} {I : Nat → Nat → Int32} {J : Nat → Nat → Int64} {R : Nat → Nat → Option Nat} {K N : Nat → Nat} {ft fa : Int32} {n i : Nat}
theorem c_Model_named {a b c e f g : Nat} {x1 x2 x3 x4 x5 x6 : Int32} (h1 : x1 = nI a) (h2 : x2 = nI b) (h3 : x3 = nI c) (h4 : x4 = nI e) (h5 : x5 = nI f) (h6 : x6 = nI g) (ha : a ≤ 26 ∧ b ≤ 26 ∧ c ≤ 26 ∧ e ≤ 26 ∧ f ≤ 26 ∧ g ≤ 26) : bl_MC G l d mX11_named [.int x1, .int x2, .int x3, .int x4, .int x5, .int x6] (I, J, R, K, N) (0, 0) (fun o σ' => o = .inl (some (.int (nI (nmd a b c e f g)))) ∧ σ' = (I, J, R, K, N)) := by
  subst h1 h2 h3 h4 h5 h6
  obtain ⟨a1, a2, a3, a4, a5, a6⟩ := ha
  have e0 : ∀ v k : Nat, (27 : Int32) * nI v + nI k = nI (27 * v + k) := fun v k => by rw [show (27 : Int32) = nI 27 from rfl, nI_mulc, nI_add]
  refine bl_MC_intro (by decide +kernel) rfl (Nat.le_of_ble_eq_true rfl) ?_
  refine bl_go oX11_named 80 [] rfl ?_
  refine ⟨fun h14 => ?_, fun h14 => ?_⟩
  · try simp (disch := omega) only [zI_n, zI_o, zI_lit, zI_neg, zI_add, zI_sub, zI_mul, zI_lt, zI_le, zI_eq, zI_clamp, zI_in, zI_div, zI_rem, lg_lt0, lg_gt0, lg_eq0, lg_le0, lg_ge0, Int.toNat_natCast, ge_iff_le, gt_iff_lt, List.length_cons, List.length_nil, bl_up2_at, bl_up2_nk, bl_up2_nx] at h14
    refine ⟨fun h33 => ?_, fun h33 => ?_⟩
    · try simp (disch := omega) only [zI_n, zI_o, zI_lit, zI_neg, zI_add, zI_sub, zI_mul, zI_lt, zI_le, zI_eq, zI_clamp, zI_in, zI_div, zI_rem, lg_lt0, lg_gt0, lg_eq0, lg_le0, lg_ge0, Int.toNat_natCast, ge_iff_le, gt_iff_lt, List.length_cons, List.length_nil, bl_up2_at, bl_up2_nk, bl_up2_nx] at h33
      refine ⟨fun h53 => ?_, fun h53 => ?_⟩
      · try simp (disch := omega) only [zI_n, zI_o, zI_lit, zI_neg, zI_add, zI_sub, zI_mul, zI_lt, zI_le, zI_eq, zI_clamp, zI_in, zI_div, zI_rem, lg_lt0, lg_gt0, lg_eq0, lg_le0, lg_ge0, Int.toNat_natCast, ge_iff_le, gt_iff_lt, List.length_cons, List.length_nil, bl_up2_at, bl_up2_nk, bl_up2_nx] at h53
        refine ⟨(fun h => by cases h), ?_⟩
        try show _ ∧ _
        try dsimp only [bl_pv]
        refine ⟨?_, rfl⟩
        unfold nmd
        have q1 : e = 0 ∨ e ≠ 0 := by omega
        have q2 : f = 0 ∨ f ≠ 0 := by omega
        have q3 : g = 0 ∨ g ≠ 0 := by omega
        rcases q1 with q1 | q1 <;> rcases q2 with q2 | q2 <;> rcases q3 with q3 | q3 <;> first
          | (exfalso; omega)
          | (simp only [q1, q2, q3, if_true, if_false, e0])
      · try simp (disch := omega) only [zI_n, zI_o, zI_lit, zI_neg, zI_add, zI_sub, zI_mul, zI_lt, zI_le, zI_eq, zI_clamp, zI_in, zI_div, zI_rem, lg_lt0, lg_gt0, lg_eq0, lg_le0, lg_ge0, Int.toNat_natCast, ge_iff_le, gt_iff_lt, List.length_cons, List.length_nil, bl_up2_at, bl_up2_nk, bl_up2_nx] at h53
        refine ⟨(fun h => by cases h), ?_⟩
        try show _ ∧ _
        try dsimp only [bl_pv]
        refine ⟨?_, rfl⟩
        unfold nmd
        have q1 : e = 0 ∨ e ≠ 0 := by omega
        have q2 : f = 0 ∨ f ≠ 0 := by omega
        have q3 : g = 0 ∨ g ≠ 0 := by omega
        rcases q1 with q1 | q1 <;> rcases q2 with q2 | q2 <;> rcases q3 with q3 | q3 <;> first
          | (exfalso; omega)
          | (simp only [q1, q2, q3, if_true, if_false, e0])
    · try simp (disch := omega) only [zI_n, zI_o, zI_lit, zI_neg, zI_add, zI_sub, zI_mul, zI_lt, zI_le, zI_eq, zI_clamp, zI_in, zI_div, zI_rem, lg_lt0, lg_gt0, lg_eq0, lg_le0, lg_ge0, Int.toNat_natCast, ge_iff_le, gt_iff_lt, List.length_cons, List.length_nil, bl_up2_at, bl_up2_nk, bl_up2_nx] at h33
      refine ⟨fun h53 => ?_, fun h53 => ?_⟩
      · try simp (disch := omega) only [zI_n, zI_o, zI_lit, zI_neg, zI_add, zI_sub, zI_mul, zI_lt, zI_le, zI_eq, zI_clamp, zI_in, zI_div, zI_rem, lg_lt0, lg_gt0, lg_eq0, lg_le0, lg_ge0, Int.toNat_natCast, ge_iff_le, gt_iff_lt, List.length_cons, List.length_nil, bl_up2_at, bl_up2_nk, bl_up2_nx] at h53
        refine ⟨(fun h => by cases h), ?_⟩
        try show _ ∧ _
        try dsimp only [bl_pv]
        refine ⟨?_, rfl⟩
        unfold nmd
        have q1 : e = 0 ∨ e ≠ 0 := by omega
        have q2 : f = 0 ∨ f ≠ 0 := by omega
        have q3 : g = 0 ∨ g ≠ 0 := by omega
        rcases q1 with q1 | q1 <;> rcases q2 with q2 | q2 <;> rcases q3 with q3 | q3 <;> first
          | (exfalso; omega)
          | (simp only [q1, q2, q3, if_true, if_false, e0])
      · try simp (disch := omega) only [zI_n, zI_o, zI_lit, zI_neg, zI_add, zI_sub, zI_mul, zI_lt, zI_le, zI_eq, zI_clamp, zI_in, zI_div, zI_rem, lg_lt0, lg_gt0, lg_eq0, lg_le0, lg_ge0, Int.toNat_natCast, ge_iff_le, gt_iff_lt, List.length_cons, List.length_nil, bl_up2_at, bl_up2_nk, bl_up2_nx] at h53
        refine ⟨(fun h => by cases h), ?_⟩
        try show _ ∧ _
        try dsimp only [bl_pv]
        refine ⟨?_, rfl⟩
        unfold nmd
        have q1 : e = 0 ∨ e ≠ 0 := by omega
        have q2 : f = 0 ∨ f ≠ 0 := by omega
        have q3 : g = 0 ∨ g ≠ 0 := by omega
        rcases q1 with q1 | q1 <;> rcases q2 with q2 | q2 <;> rcases q3 with q3 | q3 <;> first
          | (exfalso; omega)
          | (simp only [q1, q2, q3, if_true, if_false, e0])
  · try simp (disch := omega) only [zI_n, zI_o, zI_lit, zI_neg, zI_add, zI_sub, zI_mul, zI_lt, zI_le, zI_eq, zI_clamp, zI_in, zI_div, zI_rem, lg_lt0, lg_gt0, lg_eq0, lg_le0, lg_ge0, Int.toNat_natCast, ge_iff_le, gt_iff_lt, List.length_cons, List.length_nil, bl_up2_at, bl_up2_nk, bl_up2_nx] at h14
    refine ⟨fun h33 => ?_, fun h33 => ?_⟩
    · try simp (disch := omega) only [zI_n, zI_o, zI_lit, zI_neg, zI_add, zI_sub, zI_mul, zI_lt, zI_le, zI_eq, zI_clamp, zI_in, zI_div, zI_rem, lg_lt0, lg_gt0, lg_eq0, lg_le0, lg_ge0, Int.toNat_natCast, ge_iff_le, gt_iff_lt, List.length_cons, List.length_nil, bl_up2_at, bl_up2_nk, bl_up2_nx] at h33
      refine ⟨fun h53 => ?_, fun h53 => ?_⟩
      · try simp (disch := omega) only [zI_n, zI_o, zI_lit, zI_neg, zI_add, zI_sub, zI_mul, zI_lt, zI_le, zI_eq, zI_clamp, zI_in, zI_div, zI_rem, lg_lt0, lg_gt0, lg_eq0, lg_le0, lg_ge0, Int.toNat_natCast, ge_iff_le, gt_iff_lt, List.length_cons, List.length_nil, bl_up2_at, bl_up2_nk, bl_up2_nx] at h53
        refine ⟨(fun h => by cases h), ?_⟩
        try show _ ∧ _
        try dsimp only [bl_pv]
        refine ⟨?_, rfl⟩
        unfold nmd
        have q1 : e = 0 ∨ e ≠ 0 := by omega
        have q2 : f = 0 ∨ f ≠ 0 := by omega
        have q3 : g = 0 ∨ g ≠ 0 := by omega
        rcases q1 with q1 | q1 <;> rcases q2 with q2 | q2 <;> rcases q3 with q3 | q3 <;> first
          | (exfalso; omega)
          | (simp only [q1, q2, q3, if_true, if_false, e0])
      · try simp (disch := omega) only [zI_n, zI_o, zI_lit, zI_neg, zI_add, zI_sub, zI_mul, zI_lt, zI_le, zI_eq, zI_clamp, zI_in, zI_div, zI_rem, lg_lt0, lg_gt0, lg_eq0, lg_le0, lg_ge0, Int.toNat_natCast, ge_iff_le, gt_iff_lt, List.length_cons, List.length_nil, bl_up2_at, bl_up2_nk, bl_up2_nx] at h53
        refine ⟨(fun h => by cases h), ?_⟩
        try show _ ∧ _
        try dsimp only [bl_pv]
        refine ⟨?_, rfl⟩
        unfold nmd
        have q1 : e = 0 ∨ e ≠ 0 := by omega
        have q2 : f = 0 ∨ f ≠ 0 := by omega
        have q3 : g = 0 ∨ g ≠ 0 := by omega
        rcases q1 with q1 | q1 <;> rcases q2 with q2 | q2 <;> rcases q3 with q3 | q3 <;> first
          | (exfalso; omega)
          | (simp only [q1, q2, q3, if_true, if_false, e0])
    · try simp (disch := omega) only [zI_n, zI_o, zI_lit, zI_neg, zI_add, zI_sub, zI_mul, zI_lt, zI_le, zI_eq, zI_clamp, zI_in, zI_div, zI_rem, lg_lt0, lg_gt0, lg_eq0, lg_le0, lg_ge0, Int.toNat_natCast, ge_iff_le, gt_iff_lt, List.length_cons, List.length_nil, bl_up2_at, bl_up2_nk, bl_up2_nx] at h33
      refine ⟨fun h53 => ?_, fun h53 => ?_⟩
      · try simp (disch := omega) only [zI_n, zI_o, zI_lit, zI_neg, zI_add, zI_sub, zI_mul, zI_lt, zI_le, zI_eq, zI_clamp, zI_in, zI_div, zI_rem, lg_lt0, lg_gt0, lg_eq0, lg_le0, lg_ge0, Int.toNat_natCast, ge_iff_le, gt_iff_lt, List.length_cons, List.length_nil, bl_up2_at, bl_up2_nk, bl_up2_nx] at h53
        refine ⟨(fun h => by cases h), ?_⟩
        try show _ ∧ _
        try dsimp only [bl_pv]
        refine ⟨?_, rfl⟩
        unfold nmd
        have q1 : e = 0 ∨ e ≠ 0 := by omega
        have q2 : f = 0 ∨ f ≠ 0 := by omega
        have q3 : g = 0 ∨ g ≠ 0 := by omega
        rcases q1 with q1 | q1 <;> rcases q2 with q2 | q2 <;> rcases q3 with q3 | q3 <;> first
          | (exfalso; omega)
          | (simp only [q1, q2, q3, if_true, if_false, e0])
      · try simp (disch := omega) only [zI_n, zI_o, zI_lit, zI_neg, zI_add, zI_sub, zI_mul, zI_lt, zI_le, zI_eq, zI_clamp, zI_in, zI_div, zI_rem, lg_lt0, lg_gt0, lg_eq0, lg_le0, lg_ge0, Int.toNat_natCast, ge_iff_le, gt_iff_lt, List.length_cons, List.length_nil, bl_up2_at, bl_up2_nk, bl_up2_nx] at h53
        refine ⟨(fun h => by cases h), ?_⟩
        try show _ ∧ _
        try dsimp only [bl_pv]
        refine ⟨?_, rfl⟩
        unfold nmd
        have q1 : e = 0 ∨ e ≠ 0 := by omega
        have q2 : f = 0 ∨ f ≠ 0 := by omega
        have q3 : g = 0 ∨ g ≠ 0 := by omega
        rcases q1 with q1 | q1 <;> rcases q2 with q2 | q2 <;> rcases q3 with q3 | q3 <;> first
          | (exfalso; omega)
          | (simp only [q1, q2, q3, if_true, if_false, e0])
theorem c_Model_wordHere (hm : mdS R K N m) (hn : n ≤ 400) (hi : i ≤ n) : bl_MC G l (d + 2) mX11_wordHere [.ref m] (mpI I m (nI n) (nI i) ft fa, J, R, K, N) (0, 0) (fun o σ' => o = .inl (some (.int (if 6 < skW (I (m + 8)) n (skB (I (m + 8)) n i) - skB (I (m + 8)) n i then zI (-1) else nI (pkv (I (m + 8)) (skB (I (m + 8)) n i) (skW (I (m + 8)) n (skB (I (m + 8)) n i) - skB (I (m + 8)) n i))))) ∧ σ' = (mpI I m (nI n) (nI (skB (I (m + 8)) n i)) ft fa, J, R, K, N)) := by
  have km := hm.2.1
  have hp : skB (I (m + 8)) n i ≤ n := skB_le hi
  have hBl := c_Model_blanks (d := d) (G := G) (l := l) (J := J) (I := I) (ft := ft) (fa := fa) hm hn hi
  generalize hpe : skB (I (m + 8)) n i = p at *
  have hall := skW_all (B := I (m + 8)) hn hp
  have hwl : skW (I (m + 8)) n p ≤ n := skW_le hp
  have hwg := skW_ge (I (m + 8)) n p
  refine bl_MC_intro (by decide +kernel) rfl (Nat.le_of_ble_eq_true rfl) ?_
  have L75 : ∀ k z v, k = skW (I (m + 8)) n p - p → z = nI k → v = nI (pkv (I (m + 8)) p (min k 6)) → bl_WP G l (d + 2) mX11_wordHere 75 [(2, .int z), (1, .int v)] [] (mpI I m (nI n) (nI p) ft fa, J, R, K, N) (0, 0) (fun o σ' => o = .inl (some (.int (if 6 < skW (I (m + 8)) n p - p then zI (-1) else nI (pkv (I (m + 8)) p (skW (I (m + 8)) n p - p))))) ∧ σ' = (mpI I m (nI n) (nI p) ft fa, J, R, K, N)) := by
    intro k z v hk hz hv
    subst hz hv
    refine bl_go oX11_wordHere 80 [8, 69, 75] rfl ?_
    refine ⟨fun h78 => ?_, fun h78 => ?_⟩
    · try simp (disch := omega) only [zI_n, zI_o, zI_lit, zI_neg, zI_add, zI_sub, zI_mul, zI_lt, zI_le, zI_eq, zI_clamp, zI_in, zI_div, zI_rem, lg_lt0, lg_gt0, lg_eq0, lg_le0, lg_ge0, Int.toNat_natCast, ge_iff_le, gt_iff_lt, List.length_cons, List.length_nil, bl_up2_at, bl_up2_nk, bl_up2_nx] at h78
      first
      | (exfalso; first | omega | exact h78 trivial)
      | (refine ⟨(fun h => by cases h), ?_⟩
         try show _ ∧ _
         try dsimp only [bl_pv]
         refine ⟨?_, rfl⟩
         first
         | (rw [if_pos (by omega)]; rfl)
         | (rw [if_neg (by omega), ← hk, show min k 6 = k by omega]))
    · try simp (disch := omega) only [zI_n, zI_o, zI_lit, zI_neg, zI_add, zI_sub, zI_mul, zI_lt, zI_le, zI_eq, zI_clamp, zI_in, zI_div, zI_rem, lg_lt0, lg_gt0, lg_eq0, lg_le0, lg_ge0, Int.toNat_natCast, ge_iff_le, gt_iff_lt, List.length_cons, List.length_nil, bl_up2_at, bl_up2_nk, bl_up2_nx] at h78
      first
      | (exfalso; first | omega | exact h78 trivial)
      | (refine ⟨(fun h => by cases h), ?_⟩
         try show _ ∧ _
         try dsimp only [bl_pv]
         refine ⟨?_, rfl⟩
         first
         | (rw [if_pos (by omega)]; rfl)
         | (rw [if_neg (by omega), ← hk, show min k 6 = k by omega]))
  have L8 : ∀ f k, p + k + f = n + 1 → p + k ≤ n → ∀ z v, z = nI k → v = nI (pkv (I (m + 8)) p (min k 6)) → skW (I (m + 8)) n (p + k) = skW (I (m + 8)) n p → bl_WP G l (d + 2) mX11_wordHere 8 [(2, .int z), (1, .int v), (0, .ref m)] [] (mpI I m (nI n) (nI p) ft fa, J, R, K, N) (0, 0) (fun o σ' => o = .inl (some (.int (if 6 < skW (I (m + 8)) n p - p then zI (-1) else nI (pkv (I (m + 8)) p (skW (I (m + 8)) n p - p))))) ∧ σ' = (mpI I m (nI n) (nI p) ft fa, J, R, K, N)) := by
    intro f
    induction f with
    | zero => intro k h1 h2; omega
    | succ f ih =>
      intro k hk hkn z v hz hv hs
      subst hz
      have hlb := lt_B (B := I (m + 8)) (n := n) (k := p + k)
      have ei : ∀ y : Int32, y = nI p → y + nI k = nI (p + k) := fun y hy => by rw [hy, nI_add]
      have L69 : (p + k < n ∧ zI 97 ≤ I (m + 8) (p + k) ∧ I (m + 8) (p + k) ≤ zI 122) → ∀ v, v = nI (pkv (I (m + 8)) p (min (k + 1) 6)) → bl_WP G l (d + 2) mX11_wordHere 69 [(2, .int (nI k)), (1, .int v), (0, .ref m)] [] (mpI I m (nI n) (nI p) ft fa, J, R, K, N) (0, 0) (fun o σ' => o = .inl (some (.int (if 6 < skW (I (m + 8)) n p - p then zI (-1) else nI (pkv (I (m + 8)) p (skW (I (m + 8)) n p - p))))) ∧ σ' = (mpI I m (nI n) (nI p) ft fa, J, R, K, N)) := by
        intro hb v hv
        refine bl_go oX11_wordHere 80 [8, 69, 75] rfl ?_
        try dsimp only [bl_pv]
        exact ih (k + 1) (by omega) (by omega) _ _ (nI_1 _) hv ((skW_t hb hn).symm.trans hs)
      by_cases hb : p + k < n ∧ zI 97 ≤ I (m + 8) (p + k) ∧ I (m + 8) (p + k) ≤ zI 122
      · have hlt : p + k < skW (I (m + 8)) n p := by
          rw [← hs, skW_t hb hn]
          exact Nat.lt_of_lt_of_le (Nat.lt_succ_self _) (skW_ge _ _ _)
        have hbt : bt (I (m + 8)) n (p + k) = I (m + 8) (p + k) := if_neg (by omega)
        have hbd := pkv_le (B := I (m + 8)) (p := p) (n := min k 6) (fun j hj => by
          have := hall (p + j) (by omega) (by omega)
          exact ⟨Int32.le_iff_toInt_le.mp this.2.1, Int32.le_iff_toInt_le.mp this.2.2⟩)
        have h27 : 27 ^ min k 6 ≤ 27 ^ 6 := Nat.pow_le_pow_right (by decide) (Nat.min_le_right _ _)
        have h27' : (27 : Nat) ^ 6 = 387420489 := by decide
        have q1 : (97 : Int) ≤ (I (m + 8) (p + k)).toInt := Int32.le_iff_toInt_le.mp hb.2.1
        have q2 : (I (m + 8) (p + k)).toInt ≤ 122 := Int32.le_iff_toInt_le.mp hb.2.2
        have eI : I (m + 8) (p + k) = zI ((I (m + 8) (p + k)).toInt) := (Int32.ofInt_toInt _).symm
        refine bl_go oX11_wordHere 80 [8, 69, 75] rfl ?_
        refine ⟨km, rfl, rfl, km, (Nat.le_of_ble_eq_true rfl), (0, 0), Nat.le_of_ble_eq_true rfl, Nat.le_of_ble_eq_true rfl, bl_MC_mono (c_Model_byteAt (d := d + 1) (k := p + k) hm hn (ei _ mp4) (by omega)) (fun o15 σ15 q15 => ?_)⟩
        try dsimp only [bl_pv] at q15
        obtain ⟨rfl, rfl⟩ := q15
        refine bl_go oX11_wordHere 80 [8, 69, 75] rfl ?_
        refine ⟨fun h20 => ?_, fun h20 => ?_⟩
        · try simp (disch := omega) only [bl_pv, cl0, cl1, cl2, cl3, cl4, cl5, cl6, cl7, cl8, cl9, bl_up2_at, bl_up2_nk, bl_up2_nx] at h20
          exact absurd h20 (Int32.not_lt.mpr (hlb.mpr hb).1)
        · try simp (disch := omega) only [bl_pv, cl0, cl1, cl2, cl3, cl4, cl5, cl6, cl7, cl8, cl9, bl_up2_at, bl_up2_nk, bl_up2_nx] at h20
          refine ⟨km, rfl, rfl, km, (Nat.le_of_ble_eq_true rfl), (0, 0), Nat.le_of_ble_eq_true rfl, Nat.le_of_ble_eq_true rfl, bl_MC_mono (c_Model_byteAt (d := d + 1) (k := p + k) hm hn (ei _ mp4) (by omega)) (fun o30 σ30 q30 => ?_)⟩
          try dsimp only [bl_pv] at q30
          obtain ⟨rfl, rfl⟩ := q30
          refine bl_go oX11_wordHere 80 [8, 69, 75] rfl ?_
          refine ⟨fun h35 => ?_, fun h35 => ?_⟩
          · try simp (disch := omega) only [bl_pv, cl0, cl1, cl2, cl3, cl4, cl5, cl6, cl7, cl8, cl9, bl_up2_at, bl_up2_nk, bl_up2_nx] at h35
            exact absurd h35 (Int32.not_lt.mpr (hlb.mpr hb).2)
          · try simp (disch := omega) only [bl_pv, cl0, cl1, cl2, cl3, cl4, cl5, cl6, cl7, cl8, cl9, bl_up2_at, bl_up2_nk, bl_up2_nx] at h35
            refine ⟨fun h41 => ?_, fun h41 => ?_⟩
            · try simp (disch := omega) only [zI_n, zI_o, zI_lit, zI_neg, zI_add, zI_sub, zI_mul, zI_lt, zI_le, zI_eq, zI_clamp, zI_in, zI_div, zI_rem, lg_lt0, lg_gt0, lg_eq0, lg_le0, lg_ge0, Int.toNat_natCast, ge_iff_le, gt_iff_lt, List.length_cons, List.length_nil, bl_up2_at, bl_up2_nk, bl_up2_nx] at h41
              first
              | (exfalso; first | omega | exact h41 trivial)
              | (refine bl_lv [1, 0, 2] rfl ?_
                 try dsimp only [bl_pv]
                 refine L69 hb _ ?_
                 first
                 | (have hk6 : k < 6 := by omega
                    rw [show min (k + 1) 6 = k + 1 by omega, hv, show min k 6 = k by omega, hbt]
                    show _ = nI (27 * pkv (I (m + 8)) p k + ((I (m + 8) (p + k)).toInt - 96).toNat)
                    rw [show min k 6 = k by omega] at hbd h27
                    have h28 : 27 ^ k * 27 ≤ 387420489 := by
                      have : 27 ^ (k + 1) ≤ 27 ^ 6 := Nat.pow_le_pow_right (by decide) (by omega)
                      rw [Nat.pow_succ] at this; omega
                    generalize pkv (I (m + 8)) p k = a at *
                    rw [eI]
                    generalize (I (m + 8) (p + k)).toInt = b at *
                    rw [zI_toInt (by omega) (by omega)]
                    simp (disch := omega) only [zI_n, zI_o, zI_lit, zI_neg, zI_add, zI_sub, zI_mul, zI_lt, zI_le, zI_eq, zI_clamp, zI_in, zI_div, zI_rem, lg_lt0, lg_gt0, lg_eq0, lg_le0, lg_ge0, Int.toNat_natCast, ge_iff_le, gt_iff_lt, List.length_cons, List.length_nil, bl_up2_at, bl_up2_nk, bl_up2_nx]
                    congr 1
                    omega)
                 | (rw [show min (k + 1) 6 = 6 by omega, hv, show min k 6 = 6 by omega]))
            · try simp (disch := omega) only [zI_n, zI_o, zI_lit, zI_neg, zI_add, zI_sub, zI_mul, zI_lt, zI_le, zI_eq, zI_clamp, zI_in, zI_div, zI_rem, lg_lt0, lg_gt0, lg_eq0, lg_le0, lg_ge0, Int.toNat_natCast, ge_iff_le, gt_iff_lt, List.length_cons, List.length_nil, bl_up2_at, bl_up2_nk, bl_up2_nx] at h41
              first
              | (exfalso; first | omega | exact h41 trivial)
              | (refine ⟨km, rfl, rfl, km, (Nat.le_of_ble_eq_true rfl), (0, 0), Nat.le_of_ble_eq_true rfl, Nat.le_of_ble_eq_true rfl, bl_MC_mono (c_Model_byteAt (d := d + 1) (k := p + k) hm hn (ei _ mp4) (by omega)) (fun o55 σ55 q55 => ?_)⟩
                 try dsimp only [bl_pv] at q55
                 obtain ⟨rfl, rfl⟩ := q55
                 refine bl_go oX11_wordHere 80 [8, 69, 75] rfl ?_
                 refine bl_lv [1, 0, 2] rfl ?_
                 try dsimp only [bl_pv]
                 refine L69 hb _ ?_
                 first
                 | (have hk6 : k < 6 := by omega
                    rw [show min (k + 1) 6 = k + 1 by omega, hv, show min k 6 = k by omega, hbt]
                    show _ = nI (27 * pkv (I (m + 8)) p k + ((I (m + 8) (p + k)).toInt - 96).toNat)
                    rw [show min k 6 = k by omega] at hbd h27
                    have h28 : 27 ^ k * 27 ≤ 387420489 := by
                      have : 27 ^ (k + 1) ≤ 27 ^ 6 := Nat.pow_le_pow_right (by decide) (by omega)
                      rw [Nat.pow_succ] at this; omega
                    generalize pkv (I (m + 8)) p k = a at *
                    rw [eI]
                    generalize (I (m + 8) (p + k)).toInt = b at *
                    rw [zI_toInt (by omega) (by omega)]
                    simp (disch := omega) only [zI_n, zI_o, zI_lit, zI_neg, zI_add, zI_sub, zI_mul, zI_lt, zI_le, zI_eq, zI_clamp, zI_in, zI_div, zI_rem, lg_lt0, lg_gt0, lg_eq0, lg_le0, lg_ge0, Int.toNat_natCast, ge_iff_le, gt_iff_lt, List.length_cons, List.length_nil, bl_up2_at, bl_up2_nk, bl_up2_nx]
                    congr 1
                    omega)
                 | (rw [show min (k + 1) 6 = 6 by omega, hv, show min k 6 = 6 by omega]))
      · skip
        refine bl_go oX11_wordHere 80 [8, 69, 75] rfl ?_
        refine ⟨km, rfl, rfl, km, (Nat.le_of_ble_eq_true rfl), (0, 0), Nat.le_of_ble_eq_true rfl, Nat.le_of_ble_eq_true rfl, bl_MC_mono (c_Model_byteAt (d := d + 1) (k := p + k) hm hn (ei _ mp4) (by omega)) (fun o15 σ15 q15 => ?_)⟩
        try dsimp only [bl_pv] at q15
        obtain ⟨rfl, rfl⟩ := q15
        refine bl_go oX11_wordHere 80 [8, 69, 75] rfl ?_
        refine ⟨fun h20 => ?_, fun h20 => ?_⟩
        · try simp (disch := omega) only [bl_pv, cl0, cl1, cl2, cl3, cl4, cl5, cl6, cl7, cl8, cl9, bl_up2_at, bl_up2_nk, bl_up2_nx] at h20
          refine bl_lv [0, 1] rfl ?_
          try dsimp only [bl_pv]
          have e1 : skW (I (m + 8)) n p = p + k := by rw [← hs]; exact skW_f hb
          exact L75 k _ _ (by rw [e1]; omega) rfl hv
        · try simp (disch := omega) only [bl_pv, cl0, cl1, cl2, cl3, cl4, cl5, cl6, cl7, cl8, cl9, bl_up2_at, bl_up2_nk, bl_up2_nx] at h20
          refine ⟨km, rfl, rfl, km, (Nat.le_of_ble_eq_true rfl), (0, 0), Nat.le_of_ble_eq_true rfl, Nat.le_of_ble_eq_true rfl, bl_MC_mono (c_Model_byteAt (d := d + 1) (k := p + k) hm hn (ei _ mp4) (by omega)) (fun o30 σ30 q30 => ?_)⟩
          try dsimp only [bl_pv] at q30
          obtain ⟨rfl, rfl⟩ := q30
          refine bl_go oX11_wordHere 80 [8, 69, 75] rfl ?_
          refine ⟨fun h35 => ?_, fun h35 => ?_⟩
          · try simp (disch := omega) only [bl_pv, cl0, cl1, cl2, cl3, cl4, cl5, cl6, cl7, cl8, cl9, bl_up2_at, bl_up2_nk, bl_up2_nx] at h35
            refine bl_lv [0, 1] rfl ?_
            try dsimp only [bl_pv]
            have e1 : skW (I (m + 8)) n p = p + k := by rw [← hs]; exact skW_f hb
            exact L75 k _ _ (by rw [e1]; omega) rfl hv
          · try simp (disch := omega) only [bl_pv, cl0, cl1, cl2, cl3, cl4, cl5, cl6, cl7, cl8, cl9, bl_up2_at, bl_up2_nk, bl_up2_nx] at h35
            exact absurd (hlb.mp ⟨Int32.not_lt.mp h20, Int32.not_lt.mp h35⟩) hb
  refine bl_go oX11_wordHere 80 [8, 69, 75] rfl ?_
  refine ⟨rfl, rfl, km, (Nat.le_of_ble_eq_true rfl), (0, 0), Nat.le_of_ble_eq_true rfl, Nat.le_of_ble_eq_true rfl, bl_MC_mono (hBl) (fun o1 σ1 q1 => ?_)⟩
  try dsimp only [bl_pv] at q1
  obtain ⟨rfl, rfl⟩ := q1
  refine bl_go oX11_wordHere 80 [8, 69, 75] rfl ?_
  try dsimp only [bl_pv]
  exact L8 (n + 1 - p) 0 (by omega) (by omega) _ _ rfl rfl rfl
theorem c_Model_isWord {a b c e f g j : Nat} {x1 x2 x3 x4 x5 x6 : Int32} (hm : mdS R K N m) (hn : n ≤ 400) (hi : i ≤ n) (hj : j < 17) (hj8 : j ≠ 8) (hjk : nmd a b c e f g = pkl (byw j)) (h1 : x1 = nI a) (h2 : x2 = nI b) (h3 : x3 = nI c) (h4 : x4 = nI e) (h5 : x5 = nI f) (h6 : x6 = nI g) (ha : a ≤ 26 ∧ b ≤ 26 ∧ c ≤ 26 ∧ e ≤ 26 ∧ f ≤ 26 ∧ g ≤ 26) : bl_MC G l (d + 3) mX11_isWord [.ref m, .int x1, .int x2, .int x3, .int x4, .int x5, .int x6] (mpI I m (nI n) (nI i) 0 fa, J, R, K, N) (0, 0) (fun o σ' => ((wis (I (m + 8)) (skB (I (m + 8)) n i) (skW (I (m + 8)) n (skB (I (m + 8)) n i)) (byw j) ∧ o = .inl (some (.int 1))) ∨ (¬ wis (I (m + 8)) (skB (I (m + 8)) n i) (skW (I (m + 8)) n (skB (I (m + 8)) n i)) (byw j) ∧ o = .inl (some (.int 0)))) ∧ σ' = (mpI I m (nI n) (nI (skB (I (m + 8)) n i)) 0 fa, J, R, K, N)) := by
  have km := hm.2.1
  subst h1 h2 h3 h4 h5 h6
  have hp : skB (I (m + 8)) n i ≤ n := skB_le hi
  have hW := c_Model_wordHere (d := d) (G := G) (l := l) (J := J) (I := I) (ft := 0) (fa := fa) hm hn hi
  generalize hpe : skB (I (m + 8)) n i = p at *
  rw [wis_pk hn hp hj hj8, ← hjk]
  have hbn : nmd a b c e f g < 500000000 := by
    obtain ⟨a1, a2, a3, a4, a5, a6⟩ := ha
    unfold nmd
    split <;> split <;> split <;> omega
  have hbp : skW (I (m + 8)) n p - p ≤ 6 → pkv (I (m + 8)) p (skW (I (m + 8)) n p - p) < 500000000 := fun h6 => by
    have hbd := pkv_le (B := I (m + 8)) (p := p) (n := skW (I (m + 8)) n p - p) (fun j hj => by
      have := skW_all (B := I (m + 8)) hn hp (p + j) (by omega) (by omega)
      exact ⟨Int32.le_iff_toInt_le.mp this.2.1, Int32.le_iff_toInt_le.mp this.2.2⟩)
    have h27 : 27 ^ (skW (I (m + 8)) n p - p) ≤ 27 ^ 6 := Nat.pow_le_pow_right (by decide) h6
    have h27' : (27 : Nat) ^ 6 = 387420489 := by decide
    omega
  refine bl_MC_intro (by decide +kernel) rfl (Nat.le_of_ble_eq_true rfl) ?_
  refine bl_go oX11_isWord 80 [] rfl ?_
  refine ⟨km, fun h4 => ?_, fun h4 => ?_⟩
  · try simp (disch := omega) only [bl_pv, cl0, cl1, cl2, cl3, cl4, cl5, cl6, cl7, cl8, cl9, bl_up2_at, bl_up2_nk, bl_up2_nx] at h4
    exact absurd mp5 h4
  · try simp (disch := omega) only [bl_pv, cl0, cl1, cl2, cl3, cl4, cl5, cl6, cl7, cl8, cl9, bl_up2_at, bl_up2_nk, bl_up2_nx] at h4
    refine ⟨rfl, rfl, km, (Nat.le_of_ble_eq_true rfl), (0, 0), Nat.le_of_ble_eq_true rfl, Nat.le_of_ble_eq_true rfl, bl_MC_mono (hW) (fun o8 σ8 q8 => ?_)⟩
    try dsimp only [bl_pv] at q8
    obtain ⟨rfl, rfl⟩ := q8
    refine bl_go oX11_isWord 80 [] rfl ?_
    refine ⟨rfl, (Nat.le_of_ble_eq_true rfl), (0, 0), Nat.le_of_ble_eq_true rfl, Nat.le_of_ble_eq_true rfl, bl_MC_mono (c_Model_named (d := d + 2) rfl rfl rfl rfl rfl rfl ha) (fun o20 σ20 q20 => ?_)⟩
    try dsimp only [bl_pv] at q20
    obtain ⟨rfl, rfl⟩ := q20
    refine bl_go oX11_isWord 80 [] rfl ?_
    refine ⟨fun h23 => ?_, fun h23 => ?_⟩
    · try simp (disch := omega) only [bl_pv, cl0, cl1, cl2, cl3, cl4, cl5, cl6, cl7, cl8, cl9, bl_up2_at, bl_up2_nk, bl_up2_nx] at h23
      have hx : ¬ (skW (I (m + 8)) n p - p ≤ 6 ∧ pkv (I (m + 8)) p (skW (I (m + 8)) n p - p) = nmd a b c e f g) := by
        rintro ⟨q1, q2⟩
        rw [if_neg (by omega), q2] at h23
        exact h23 rfl
      refine ⟨(fun _ => by first | exact Or.inl rfl | exact Or.inr rfl), ?_⟩
      try show _ ∧ _
      try dsimp only [bl_pv]
      first
      | exact ⟨Or.inl ⟨hx, rfl⟩, rfl⟩
      | exact ⟨Or.inr ⟨hx, rfl⟩, rfl⟩
    · try simp (disch := omega) only [bl_pv, cl0, cl1, cl2, cl3, cl4, cl5, cl6, cl7, cl8, cl9, bl_up2_at, bl_up2_nk, bl_up2_nx] at h23
      have hx : skW (I (m + 8)) n p - p ≤ 6 ∧ pkv (I (m + 8)) p (skW (I (m + 8)) n p - p) = nmd a b c e f g := by
        by_cases e6 : 6 < skW (I (m + 8)) n p - p
        · rw [if_pos e6, zI_n, zI_eq (by omega) (by omega) (by omega) (by omega)] at h23; omega
        · rw [if_neg e6] at h23
          have := hbp (by omega)
          rw [zI_n, zI_n, zI_eq (by omega) (by omega) (by omega) (by omega)] at h23
          exact ⟨by omega, by omega⟩
      refine ⟨(fun _ => by first | exact Or.inl rfl | exact Or.inr rfl), ?_⟩
      try show _ ∧ _
      try dsimp only [bl_pv]
      first
      | exact ⟨Or.inl ⟨hx, rfl⟩, rfl⟩
      | exact ⟨Or.inr ⟨hx, rfl⟩, rfl⟩
theorem skB_id {B : Nat → Int32} {n i : Nat} (hn : n ≤ 400) (hi : i ≤ n) : skB B n (skB B n i) = skB B n i := by
  have : ∀ f i, i + f = n + 1 → i ≤ n → skB B n (skB B n i) = skB B n i := by
    intro f
    induction f with
    | zero => intro i h1 h2; omega
    | succ f ih =>
      intro i h1 h2
      by_cases e : i < n ∧ B i = zI 32
      · rw [skB_t e hn]; exact ih (i + 1) (by omega) (by omega)
      · rw [skB_f e, skB_f e]
  exact this (n + 1 - i) i (by omega) hi
theorem ckd_eq (B : Nat → Int32) (p e : Nat) : ckd B p e = if wisb B p e (byw 0) then nI 0 else if wisb B p e (byw 1) then nI 3 else if wisb B p e (byw 2) then nI 4 else if wisb B p e (byw 3) then nI 5 else if wisb B p e (byw 4) then nI 6 else if wisb B p e (byw 5) then nI 7 else if wisb B p e (byw 6) then nI 8 else if wisb B p e (byw 7) then nI 9 else zI (-1) := by
  have h8 : wisb B p e (byw 8) = false := by
    cases h : wisb B p e (byw 8) with
    | false => rfl
    | true => exact absurd (by decide +kernel) (wisb_o h).1
  show (if wisb B p e (byw 0) then nI 0 else if wisb B p e (byw 8) then nI 1 else if wisb B p e (byw 8) then nI 2 else if wisb B p e (byw 1) then nI 3 else if wisb B p e (byw 2) then nI 4 else if wisb B p e (byw 3) then nI 5 else if wisb B p e (byw 4) then nI 6 else if wisb B p e (byw 5) then nI 7 else if wisb B p e (byw 6) then nI 8 else if wisb B p e (byw 7) then nI 9 else zI (-1)) = _
  rw [h8]
  rfl
theorem skd_eq (B : Nat → Int32) (p e : Nat) : skd B p e = if wisb B p e (byw 9) then nI 0 else if wisb B p e (byw 10) then nI 1 else if wisb B p e (byw 11) then nI 2 else if wisb B p e (byw 12) then nI 3 else if wisb B p e (byw 13) then nI 4 else if wisb B p e (byw 14) then nI 5 else if wisb B p e (byw 15) then nI 6 else if wisb B p e (byw 16) then nI 7 else zI (-1) := rfl
end MODEL3
