/-! ===== mathematics: how much there is of a slab ===== -/
theorem smf_add (f g : Nat → Nat) : ∀ n, smf (fun i => f i + g i) n = smf f n + smf g n
  | 0 => rfl
  | n + 1 => by
    show smf (fun i => f i + g i) n + (f n + g n) = (smf f n + f n) + (smf g n + g n)
    rw [smf_add f g n]; omega
theorem smf_head (f : Nat → Nat) : ∀ n, smf f (n + 1) = f 0 + smf (fun i => f (i + 1)) n
  | 0 => by show 0 + f 0 = f 0 + 0; omega
  | n + 1 => by
    show smf f (n + 1) + f (n + 1) = f 0 + (smf (fun i => f (i + 1)) n + f (n + 1))
    rw [smf_head f n]; omega
theorem smf_rev : ∀ (n : Nat) (f : Nat → Nat), smf (fun i => f (n - 1 - i)) n = smf f n
  | 0, _ => rfl
  | n + 1, f => by
    rw [smf_head f n]
    show smf (fun i => f (n + 1 - 1 - i)) n + f (n + 1 - 1 - n) = _
    rw [show n + 1 - 1 - n = 0 by omega, Nat.add_comm]
    congr 1
    rw [← smf_rev n (fun i => f (i + 1))]
    refine smf_congr n (fun i hi => ?_)
    show f (n + 1 - 1 - i) = f (n - 1 - i + 1)
    congr 1; omega
def seg (f : Nat → Nat) (a n : Nat) : Nat := smf (fun i => f (a + i)) n
theorem seg_rev (f : Nat → Nat) (a n b : Nat) (hb : b = a + n) : smf (fun i => f (b - 1 - i)) n = seg f a n := by
  subst hb
  unfold seg
  rw [← smf_rev n (fun i => f (a + i))]
  refine smf_congr n (fun i hi => ?_)
  show f (a + n - 1 - i) = f (a + (n - 1 - i))
  congr 1; omega
theorem seg_0 (f : Nat → Nat) (n : Nat) : seg f 0 n = smf f n := smf_congr n (fun i _ => by rw [Nat.zero_add])
theorem smf_seg (f : Nat → Nat) (n k : Nat) : smf f (n + k) = smf f n + seg f n k := smf_split f n k
theorem fo2_sum (f : Nat → Nat) {L : Nat} (h : L % 2 = 0) : smf (fo2 L f) (L / 2) = smf f L := by
  obtain ⟨p, hp⟩ : ∃ p, L = p + p := ⟨L / 2, by omega⟩
  have e : L / 2 = p := by omega
  rw [e]
  have e1 : smf (fo2 L f) p = smf f p + smf (fun i => f (L - 1 - i)) p := smf_add f (fun i => f (L - 1 - i)) p
  rw [e1, seg_rev f p p L hp, hp, smf_seg]
theorem fo3_sum (f : Nat → Nat) {L : Nat} (h : L % 3 = 0) : smf (fo3 L f) (L / 3) = smf f L := by
  obtain ⟨p, hp⟩ : ∃ p, L = p + p + p := ⟨L / 3, by omega⟩
  have e : L / 3 = p := by omega
  unfold fo3
  rw [e]
  have e1 : smf (fun i => f (p + i) + f (L - 1 - i) + f (p - 1 - i)) p = smf (fun i => f (p + i)) p + smf (fun i => f (L - 1 - i)) p + smf (fun i => f (p - 1 - i)) p := by
    rw [smf_add (fun i => f (p + i) + f (L - 1 - i)) (fun i => f (p - 1 - i)) p, smf_add (fun i => f (p + i)) (fun i => f (L - 1 - i)) p]
  rw [e1, seg_rev f (p + p) p L hp, seg_rev f 0 p p (by omega), hp, smf_seg, smf_seg, seg_0]
  show seg f p p + seg f (p + p) p + smf f p = _
  omega
theorem sum4 (f a b c e : Nat → Nat) (p : Nat) : smf (fun i => a i + b i + c i + e i) p = smf a p + smf b p + smf c p + smf e p := by
  rw [smf_add (fun i => a i + b i + c i) e p, smf_add (fun i => a i + b i) c p, smf_add a b p]
theorem fo4_sum (f : Nat → Nat) {L : Nat} (h : L % 4 = 0) : smf (fo4 L f) (L / 4) = smf f L := by
  obtain ⟨p, hp⟩ : ∃ p, L = p + p + p + p := ⟨L / 4, by omega⟩
  have e : L / 4 = p := by omega
  unfold fo4
  rw [e, sum4 f f (fun i => f (L - 1 - i)) (fun i => f (2 * p - 1 - i)) (fun i => f (2 * p + i)) p]
  rw [seg_rev f (p + p + p) p L hp, seg_rev f p p (2 * p) (by omega), hp, smf_seg, smf_seg, smf_seg]
  have : smf (fun i => f (2 * p + i)) p = seg f (p + p) p := by unfold seg; rw [show 2 * p = p + p by omega]
  rw [this]; omega
theorem bo4_sum (f : Nat → Nat) {L : Nat} (h : L % 4 = 0) : smf (bo4 L f) (L / 4) = smf f L := by
  obtain ⟨p, hp⟩ : ∃ p, L = p + p + p + p := ⟨L / 4, by omega⟩
  have e : L / 4 = p := by omega
  unfold bo4
  rw [e, sum4 f (fun i => f (p + i)) (fun i => f (p - 1 - i)) (fun i => f (3 * p - 1 - i)) (fun i => f (3 * p + i)) p]
  rw [seg_rev f 0 p p (by omega), seg_rev f (p + p) p (3 * p) (by omega), seg_0, hp, smf_seg, smf_seg, smf_seg]
  have : smf (fun i => f (3 * p + i)) p = seg f (p + p + p) p := by unfold seg; rw [show 3 * p = p + p + p by omega]
  rw [this]
  show seg f p p + _ + _ + _ = _
  omega
theorem tu1_sum (f : Nat → Nat) {n L : Nat} (h : 4 * n ≤ L) : smf (tu1 n L f) (L - 2 * n) = smf f L := by
  obtain ⟨c, hc⟩ : ∃ c, L = 4 * n + c := ⟨L - 4 * n, by omega⟩
  have e1 : L - 2 * n = n + (c + n) := by omega
  rw [e1, smf_split, smf_split]
  have a1 : smf (tu1 n L f) n = seg f n n + seg f 0 n := by
    have : smf (tu1 n L f) n = smf (fun j => f (n + j) + f (n - 1 - j)) n := smf_congr n (fun i hi => if_pos hi)
    rw [this, smf_add (fun j => f (n + j)) (fun j => f (n - 1 - j)) n, seg_rev f 0 n n (by omega)]; rfl
  have a2 : smf (fun i => tu1 n L f (n + i)) c = seg f (n + n) c := by
    refine smf_congr c (fun i hi => ?_)
    show tu1 n L f (n + i) = f (n + n + i)
    unfold tu1
    rw [if_neg (by omega), if_neg (by omega)]; congr 1; omega
  have a3 : smf (fun i => tu1 n L f (n + (c + i))) n = seg f (n + n + c) n + seg f (n + n + c + n) n := by
    have : smf (fun i => tu1 n L f (n + (c + i))) n = smf (fun i => f (n + n + c + i) + f (L - 1 - i)) n := by
      refine smf_congr n (fun i hi => ?_)
      show tu1 n L f (n + (c + i)) = _
      unfold tu1
      rw [if_neg (by omega), if_pos (by omega)]
      congr 2 <;> omega
    rw [this, smf_add (fun i => f (n + n + c + i)) (fun i => f (L - 1 - i)) n, seg_rev f (n + n + c + n) n L (by omega)]; rfl
  rw [a1, a2, a3, hc, show 4 * n + c = n + n + c + n + n by omega, smf_seg, smf_seg, smf_seg, smf_seg, seg_0]
  omega
theorem smf_const (c : Nat) : ∀ n, smf (fun _ => c) n = c * n
  | 0 => (Nat.mul_zero c).symm
  | n + 1 => by
    show smf (fun _ => c) n + c = c * (n + 1)
    rw [smf_const c n, Nat.mul_succ]
theorem roll_sum (f : Nat → Nat) {n : Nat} (hn : 0 < n) : ∀ w, smf (fun i => f (i / n)) (w * n) = smf f w * n
  | 0 => by rw [Nat.zero_mul]; show 0 = 0 * n; rw [Nat.zero_mul]
  | w + 1 => by
    rw [Nat.succ_mul, smf_split, roll_sum f hn w]
    show _ + smf (fun i => f ((w * n + i) / n)) n = (smf f w + f w) * n
    have : smf (fun i => f ((w * n + i) / n)) n = smf (fun _ => f w) n := by
      refine smf_congr n (fun i hi => ?_)
      congr 1
      rw [Nat.add_comm, Nat.add_mul_div_right _ _ hn, Nat.div_eq_of_lt hi, Nat.zero_add]
    rw [this, smf_const, Nat.add_mul]
theorem smf_ge {f : Nat → Nat} : ∀ {n i : Nat}, i < n → f i ≤ smf f n
  | n + 1, i, hi => by
    show f i ≤ smf f n + f n
    by_cases e : i = n
    · subst e; omega
    · have := smf_ge (f := f) (show i < n by omega); omega
/-- all of the slab, what was cut away too -/
def slT (S : sl) : Nat := smf S.1.2.1 S.1.1 * smf S.2.1.2.1 S.2.1.1 + S.2.2.2.2
def sqB (S : sq) : Prop := ∀ i, i < S.1 → S.2.2 i ≤ S.2.1 i ∧ 0 < S.2.1 i
theorem ad2 {a b c e : Nat} (h : a ≤ b ∧ 0 < b) (h' : c ≤ e ∧ 0 < e) : a + c ≤ b + e ∧ 0 < b + e := by omega
def slI (S : sl) (c : Nat) : Prop := slT S = c * S.2.2.1 ∧ 0 < S.2.2.1 ∧ sqB S.1 ∧ sqB S.2.1
theorem slI_step {S : sl} {k n c : Nat} (h : slI S c) (hS : slOk S) (hk : st_ok k n) (hc : sl_can k n S.1.1) : slI (sl_step S k n) c ∧ (sl_step S k n).2.2.1 ≤ 4 * S.2.2.1 := by
  obtain ⟨h1, h2, h3, h4⟩ := h
  unfold slT at h1
  obtain ⟨⟨a1, a2⟩, b1, b2⟩ := hS
  match k, hk, hc with
  | 0, hk, hc =>
    have hn := hk.2.2.1 (by omega)
    refine ⟨⟨?_, Nat.mul_pos h2 (by omega), fun i hi => h3 (i / n) ?_, h4⟩, ?_⟩
    · show smf (fun i => S.1.2.1 (i / n)) (S.1.1 * n) * smf S.2.1.2.1 S.2.1.1 + S.2.2.2.2 * n = c * (S.2.2.1 * n)
      rw [roll_sum _ (by omega), ← Nat.mul_assoc, ← h1, Nat.add_mul, Nat.mul_right_comm]
    · exact Nat.div_lt_of_lt_mul (by rw [Nat.mul_comm]; exact hi)
    · show S.2.2.1 * n ≤ 4 * S.2.2.1
      rw [Nat.mul_comm]; exact Nat.mul_le_mul_right _ (by omega)
  | 1, hk, hc =>
    have hc' : S.1.1 % n = 0 := hc
    have ht : S.2.2.1 ≤ 4 * S.2.2.1 := by omega
    rcases st_n1 hk with rfl | rfl | rfl
    · refine ⟨⟨?_, h2, fun i hi => ?_, h4⟩, ht⟩
      · show smf (fo2 S.1.1 S.1.2.1) (S.1.1 / 2) * smf S.2.1.2.1 S.2.1.1 + S.2.2.2.2 = c * S.2.2.1
        rw [fo2_sum _ hc']; exact h1
      · have hi' : i < S.1.1 / 2 := hi
        exact ad2 (h3 _ (by omega)) (h3 _ (by omega))
    · refine ⟨⟨?_, h2, fun i hi => ?_, h4⟩, ht⟩
      · show smf (fo3 S.1.1 S.1.2.1) (S.1.1 / 3) * smf S.2.1.2.1 S.2.1.1 + S.2.2.2.2 = c * S.2.2.1
        rw [fo3_sum _ hc']; exact h1
      · have hi' : i < S.1.1 / 3 := hi
        exact ad2 (ad2 (h3 _ (by omega)) (h3 _ (by omega))) (h3 _ (by omega))
    · refine ⟨⟨?_, h2, fun i hi => ?_, h4⟩, ht⟩
      · show smf (fo4 S.1.1 S.1.2.1) (S.1.1 / 4) * smf S.2.1.2.1 S.2.1.1 + S.2.2.2.2 = c * S.2.2.1
        rw [fo4_sum _ hc']; exact h1
      · have hi' : i < S.1.1 / 4 := hi
        exact ad2 (ad2 (ad2 (h3 _ (by omega)) (h3 _ (by omega))) (h3 _ (by omega))) (h3 _ (by omega))
  | 2, hk, hc =>
    have hc' : S.1.1 % 4 = 0 := hc
    refine ⟨⟨?_, h2, fun i hi => ?_, h4⟩, show S.2.2.1 ≤ 4 * S.2.2.1 by omega⟩
    · show smf (bo4 S.1.1 S.1.2.1) (S.1.1 / 4) * smf S.2.1.2.1 S.2.1.1 + S.2.2.2.2 = c * S.2.2.1
      rw [bo4_sum _ hc']; exact h1
    · have hi' : i < S.1.1 / 4 := hi
      exact ad2 (ad2 (ad2 (h3 _ (by omega)) (h3 _ (by omega))) (h3 _ (by omega))) (h3 _ (by omega))
  | 3, hk, hc =>
    have hc' : 4 * n ≤ S.1.1 := hc
    have hn := hk.2.2.2 (by omega)
    refine ⟨⟨?_, h2, fun i hi => ?_, h4⟩, show S.2.2.1 ≤ 4 * S.2.2.1 by omega⟩
    · show smf (tu1 n S.1.1 S.1.2.1) (S.1.1 - 2 * n) * smf S.2.1.2.1 S.2.1.1 + S.2.2.2.2 = c * S.2.2.1
      rw [tu1_sum _ hc']; exact h1
    · have hi' : i < S.1.1 - 2 * n := hi
      show tu1 n S.1.1 S.1.2.2 i ≤ tu1 n S.1.1 S.1.2.1 i ∧ 0 < tu1 n S.1.1 S.1.2.1 i
      unfold tu1
      split
      · exact ad2 (h3 _ (by omega)) (h3 _ (by omega))
      · split
        · exact ad2 (h3 _ (by omega)) (h3 _ (by omega))
        · exact h3 _ (by omega)
  | 4, hk, hc =>
    have hc' : 2 * n < S.1.1 := hc
    refine ⟨⟨?_, h2, fun i hi => ?_, h4⟩, show S.2.2.1 ≤ 4 * S.2.2.1 by omega⟩
    · show smf (fun i => S.1.2.1 (n + i)) (S.1.1 - 2 * n) * smf S.2.1.2.1 S.2.1.1 + (S.2.2.2.2 + sl_cut S n) = c * S.2.2.1
      rw [← h1]
      have e : smf S.1.2.1 S.1.1 = smf S.1.2.1 n + (smf (fun i => S.1.2.1 (n + i)) (S.1.1 - 2 * n) + smf (fun i => S.1.2.1 (S.1.1 - n + i)) n) := by
        have e1 : smf S.1.2.1 S.1.1 = smf S.1.2.1 (n + ((S.1.1 - 2 * n) + n)) := congrArg _ (by omega)
        rw [e1, smf_split, smf_split]
        congr 2
        refine smf_congr n (fun i hi => ?_)
        show S.1.2.1 (n + (S.1.1 - 2 * n + i)) = S.1.2.1 (S.1.1 - n + i)
        rw [show n + (S.1.1 - 2 * n + i) = S.1.1 - n + i by omega]
      rw [e]
      unfold sl_cut
      simp only [Nat.add_mul]
      omega
    · have hi' : i < S.1.1 - 2 * n := hi
      exact h3 _ (by omega)
  | 5, hk, hc =>
    refine ⟨⟨?_, h2, h4, h3⟩, show S.2.2.1 ≤ 4 * S.2.2.1 by omega⟩
    show smf S.2.1.2.1 S.2.1.1 * smf S.1.2.1 S.1.1 + S.2.2.2.2 = c * S.2.2.1
    rw [Nat.mul_comm]; exact h1
  | k + 6, hk, hc => exact ⟨⟨h1, h2, h3, h4⟩, show S.2.2.1 ≤ 4 * S.2.2.1 by omega⟩
theorem slI_first {tf : Nat → Nat} : slI (sl_first (tf 0) (tf 1) (tf 2)) (tf 0 * tf 1) := by
  refine ⟨?_, show 0 < 1 by omega, fun i hi => ?_, fun i hi => ?_⟩
  · show smf (fun _ => 1) (tf 0) * smf (fun _ => 1) (tf 1) + 0 = tf 0 * tf 1 * 1
    rw [smf_const, smf_const]; simp
  · show (if i < tf 2 ∨ tf 0 - tf 2 ≤ i then 0 else 1) ≤ 1 ∧ 0 < 1
    split <;> omega
  · show (if i < tf 2 ∨ tf 1 - tf 2 ≤ i then 0 else 1) ≤ 1 ∧ 0 < 1
    split <;> omega
theorem slI_at {S0 : sl} {rc : sq} {D c : Nat} (h : slI S0 c) (h1 : S0.2.2.1 ≤ 1) (hS : slOk S0) (hO : sqO rc) (hD : isDone S0 rc D) : ∀ i, i ≤ D → slI (sl_at S0 rc i) c ∧ (sl_at S0 rc i).2.2.1 ≤ 4 ^ i
  | 0, _ => ⟨h, h1⟩
  | i + 1, hi => by
    obtain ⟨a, b⟩ := slI_at h h1 hS hO hD i (by omega)
    obtain ⟨e, f⟩ := slI_step a (slOk_at hS hO hD i (by omega)) (hO i (by have := hD.1; omega)) (hD.2.1 i (by omega))
    refine ⟨e, Nat.le_trans f ?_⟩
    rw [Nat.pow_succ, Nat.mul_comm]
    exact Nat.mul_le_mul_right _ b
/-- the slab's numbers are small -/
def slB (S : sl) : Prop := (0 < S.2.2.1 ∧ S.2.2.1 ≤ 1099511627776) ∧ S.2.2.2.2 ≤ 158329674399744 ∧ (smf S.1.2.1 S.1.1 * smf S.2.1.2.1 S.2.1.1 ≤ 158329674399744) ∧ (smf S.1.2.1 S.1.1 ≤ 158329674399744 ∧ smf S.2.1.2.1 S.2.1.1 ≤ 158329674399744) ∧ sqB S.1 ∧ sqB S.2.1
theorem slB_at {tf : Nat → Nat} {rc : sq} {D : Nat} (ht : tfO tf) (h20 : rc.1 ≤ 20) (hO : sqO rc) (hD : isDone (sl_first (tf 0) (tf 1) (tf 2)) rc D) {i : Nat} (hi : i ≤ D) : slB (sl_at (sl_first (tf 0) (tf 1) (tf 2)) rc i) := by
  have hi20 : i ≤ 20 := by have := hD.1; omega
  obtain ⟨⟨a, b, c, e⟩, f⟩ := slI_at (slI_first (tf := tf)) (Nat.le_refl _) (slOk_first ht) hO hD i hi
  have hp : 4 ^ i ≤ 4 ^ 20 := Nat.pow_le_pow_right (by omega) hi20
  have hth : (sl_at (sl_first (tf 0) (tf 1) (tf 2)) rc i).2.2.1 ≤ 1099511627776 := Nat.le_trans f (Nat.le_trans hp (by decide))
  have hc : tf 0 * tf 1 ≤ 144 := Nat.mul_le_mul (show tf 0 ≤ 12 from ht.1.2) (show tf 1 ≤ 12 from ht.2.1.2)
  have hT : slT (sl_at (sl_first (tf 0) (tf 1) (tf 2)) rc i) ≤ 158329674399744 := by
    rw [a]; exact Nat.le_trans (Nat.mul_le_mul hc hth) (by decide)
  unfold slT at hT
  have hok := slOk_at (slOk_first ht) hO hD i hi
  have p1 : 0 < smf (sl_at (sl_first (tf 0) (tf 1) (tf 2)) rc i).1.2.1 (sl_at (sl_first (tf 0) (tf 1) (tf 2)) rc i).1.1 := Nat.lt_of_lt_of_le (c 0 hok.1.1).2 (smf_ge hok.1.1)
  have p2 : 0 < smf (sl_at (sl_first (tf 0) (tf 1) (tf 2)) rc i).2.1.2.1 (sl_at (sl_first (tf 0) (tf 1) (tf 2)) rc i).2.1.1 := Nat.lt_of_lt_of_le (e 0 hok.2.1).2 (smf_ge hok.2.1)
  have q1 := Nat.le_mul_of_pos_right (smf (sl_at (sl_first (tf 0) (tf 1) (tf 2)) rc i).1.2.1 (sl_at (sl_first (tf 0) (tf 1) (tf 2)) rc i).1.1) p2
  have q2 := Nat.le_mul_of_pos_left (smf (sl_at (sl_first (tf 0) (tf 1) (tf 2)) rc i).2.1.2.1 (sl_at (sl_first (tf 0) (tf 1) (tf 2)) rc i).2.1.1) p1
  exact ⟨⟨b, hth⟩, by omega, by omega, ⟨by omega, by omega⟩, c, e⟩
theorem slB.Q {S : sl} (h : slB S) {x y : Nat} (hx : x < S.1.1) (hy : y < S.2.1.1) : slQ S x y ≤ 158329674399744 := Nat.le_trans (Nat.mul_le_mul (smf_ge hx) (smf_ge hy)) h.2.2.1
theorem slB.P {S : sl} (h : slB S) {x y : Nat} (hx : x < S.1.1) (hy : y < S.2.1.1) : slP S x y ≤ 158329674399744 := Nat.le_trans (Nat.mul_le_mul (h.2.2.2.2.1 x hx).1 (h.2.2.2.2.2 y hy).1) (h.Q hx hy)
