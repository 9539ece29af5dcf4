/-! ===== the bench: orders of blocks, the best of them ===== -/
/-- recipes, blocks of each, units of each block, rests ahead of it -/
abbrev bD : Type := Nat × (Nat → Nat) × (Nat → Nat → Nat) × (Nat → Nat → Nat)
/-- the next block of each recipe, when each can go on, when the bench is free -/
abbrev bs : Type := (Nat → Nat) × (Nat → Nat) × Nat
def bbg (s : bs) (r : Nat) : Nat := max s.2.2 (s.2.1 r)
def pl (D : bD) (s : bs) (r : Nat) : bs := (up1 s.1 r (s.1 r + 1), up1 s.2.1 r (bbg s r + D.2.2.1 r (s.1 r) + D.2.2.2 r (s.1 r + 1)), bbg s r + D.2.2.1 r (s.1 r))
/-- the greatest of the first n -/
def lrf (f : Nat → Nat) : Nat → Nat
  | 0 => 0
  | r + 1 => max (lrf f r) (f r)
def mnr (f : Nat → Nat) (c : Nat → Bool) : Nat → Nat
  | 0 => 1000000000
  | r + 1 => if c r then min (mnr f c r) (f r) else mnr f c r
/-- when all are done at the best, k blocks being left -/
def mnb (D : bD) : Nat → bs → Nat
  | 0, s => lrf s.2.1 D.1
  | k + 1, s => mnr (fun r => mnb D k (pl D s r)) (fun r => decide (s.1 r < D.2.1 r)) D.1
/-- k blocks are left -/
def bOk (D : bD) (k : Nat) (s : bs) : Prop := (∀ r, r < D.1 → s.1 r ≤ D.2.1 r) ∧ smf (fun r => D.2.1 r - s.1 r) D.1 = k
theorem up1_at {α : Type} {f : Nat → α} {k : Nat} {v : α} : up1 f k v k = v := by simp [up1]
theorem up1_ne {α : Type} {f : Nat → α} {k j : Nat} {v : α} (h : j ≠ k) : up1 f k v j = f j := by simp [up1, h]
theorem lrf_ge {f : Nat → Nat} : ∀ {n r : Nat}, r < n → f r ≤ lrf f n
  | n + 1, r, h => by
    show f r ≤ max (lrf f n) (f n)
    by_cases e : r = n
    · subst e; omega
    · have := lrf_ge (f := f) (show r < n by omega); omega
theorem lrf_mono {f g : Nat → Nat} : ∀ {n : Nat}, (∀ r, r < n → f r ≤ g r) → lrf f n ≤ lrf g n
  | 0, _ => Nat.le_refl _
  | n + 1, h => by
    show max (lrf f n) (f n) ≤ max (lrf g n) (g n)
    have a := lrf_mono (n := n) (fun r hr => h r (by omega))
    have b := h n (by omega)
    omega
theorem mnr_le {f : Nat → Nat} {c : Nat → Bool} : ∀ {n r : Nat}, r < n → c r = true → mnr f c n ≤ f r
  | n + 1, r, h, hc => by
    show (if c n then min (mnr f c n) (f n) else mnr f c n) ≤ f r
    by_cases e : r = n
    · subst e; rw [if_pos hc]; omega
    · have := mnr_le (f := f) (c := c) (show r < n by omega) hc
      split <;> omega
theorem mnr_at {f : Nat → Nat} {c : Nat → Bool} : ∀ {n : Nat}, mnr f c n = 1000000000 ∨ ∃ r, r < n ∧ c r = true ∧ mnr f c n = f r
  | 0 => Or.inl rfl
  | n + 1 => by
    have ih := mnr_at (f := f) (c := c) (n := n)
    by_cases hc : c n = true
    · have e : mnr f c (n + 1) = min (mnr f c n) (f n) := if_pos hc
      rw [e]
      by_cases h : f n ≤ mnr f c n
      · exact Or.inr ⟨n, by omega, hc, by omega⟩
      · rw [show min (mnr f c n) (f n) = mnr f c n by omega]
        rcases ih with h' | ⟨r, r1, r2, r3⟩
        · exact Or.inl h'
        · exact Or.inr ⟨r, by omega, r2, r3⟩
    · have e : mnr f c (n + 1) = mnr f c n := if_neg hc
      rw [e]
      rcases ih with h' | ⟨r, r1, r2, r3⟩
      · exact Or.inl h'
      · exact Or.inr ⟨r, by omega, r2, r3⟩
theorem smf_up {f g : Nat → Nat} {r d : Nat} : ∀ {n : Nat}, r < n → (∀ j, j ≠ r → f j = g j) → f r + d = g r → smf f n + d = smf g n
  | n + 1, h, hj, hr => by
    show smf f n + f n + d = smf g n + g n
    by_cases e : r = n
    · subst e
      have : ∀ m, m ≤ r → smf f m = smf g m := by
        intro m hm
        induction m with
        | zero => rfl
        | succ m ih => show smf f m + f m = smf g m + g m; rw [ih (by omega), hj m (by omega)]
      rw [this r (Nat.le_refl _)]; omega
    · have := smf_up (n := n) (show r < n by omega) hj hr
      rw [hj n (fun e' => e e'.symm)]; omega
theorem smf_0 {f : Nat → Nat} : ∀ {n : Nat}, smf f n = 0 → ∀ r, r < n → f r = 0
  | n + 1, h, r, hr => by
    have h' : smf f n + f n = 0 := h
    by_cases e : r = n
    · subst e; omega
    · exact smf_0 (n := n) (by omega) r (by omega)
theorem smf_pos {f : Nat → Nat} : ∀ {n : Nat}, 0 < smf f n → ∃ r, r < n ∧ 0 < f r
  | 0, h => absurd h (Nat.lt_irrefl 0)
  | n + 1, h => by
    have h' : 0 < smf f n + f n := h
    by_cases e : 0 < f n
    · exact ⟨n, by omega, e⟩
    · obtain ⟨r, r1, r2⟩ := smf_pos (f := f) (n := n) (by omega)
      exact ⟨r, by omega, r2⟩
theorem smf_le {f g : Nat → Nat} : ∀ {n : Nat}, (∀ r, r < n → f r ≤ g r) → smf f n ≤ smf g n
  | 0, _ => Nat.le_refl _
  | n + 1, h => Nat.add_le_add (smf_le (fun r hr => h r (by omega))) (h n (by omega))
section BM
variable {D : bD} {s t : bs} {k r : Nat}
theorem bOk_pl (h : bOk D (k + 1) s) (hr : r < D.1) (hn : s.1 r < D.2.1 r) : bOk D k (pl D s r) := by
  refine ⟨fun j hj => ?_, ?_⟩
  · show up1 s.1 r (s.1 r + 1) j ≤ _
    by_cases e : j = r
    · subst e; rw [up1_at]; omega
    · rw [up1_ne e]; exact h.1 j hj
  · have := smf_up (f := fun j => D.2.1 j - (pl D s r).1 j) (g := fun j => D.2.1 j - s.1 j) (d := 1) hr (fun j hj => by
      show D.2.1 j - up1 s.1 r (s.1 r + 1) j = _
      rw [up1_ne hj]) (by
      show D.2.1 r - up1 s.1 r (s.1 r + 1) r + 1 = _
      rw [up1_at]; omega)
    rw [h.2] at this; omega
theorem bOk_fin (h : bOk D 0 s) (hr : r < D.1) : s.1 r = D.2.1 r := by
  have := smf_0 h.2 r hr
  have := h.1 r hr
  omega
theorem bOk_ex (h : bOk D (k + 1) s) : ∃ r, r < D.1 ∧ s.1 r < D.2.1 r := by
  obtain ⟨r, r1, r2⟩ := smf_pos (f := fun r => D.2.1 r - s.1 r) (n := D.1) (by rw [h.2]; omega)
  exact ⟨r, r1, by omega⟩
theorem mnb_le (hr : r < D.1) (hn : s.1 r < D.2.1 r) : mnb D (k + 1) s ≤ mnb D k (pl D s r) := mnr_le (c := fun r => decide (s.1 r < D.2.1 r)) hr (decide_eq_true hn)
/-- values stay small -/
def bSm (D : bD) (k : Nat) (s : bs) : Prop := (∀ r, r < D.1 → s.2.1 r + 2000 * k ≤ 30000) ∧ s.2.2 + 2000 * k ≤ 30000
def bDs (D : bD) : Prop := (∀ r b, D.2.2.1 r b ≤ 720) ∧ (∀ r b, D.2.2.2 r b ≤ 720)
theorem bSm_pl (hD : bDs D) (h : bSm D (k + 1) s) (hr : r < D.1) : bSm D k (pl D s r) := by
  have a := h.1 r hr
  have b := h.2
  have c := hD.1 r (s.1 r)
  have e := hD.2 r (s.1 r + 1)
  have f : bbg s r + 2000 * (k + 1) ≤ 30000 := by
    rcases Nat.le_total s.2.2 (s.2.1 r) with q | q
    · rw [show bbg s r = s.2.1 r from Nat.max_eq_right q]; exact a
    · rw [show bbg s r = s.2.2 from Nat.max_eq_left q]; exact b
  refine ⟨fun j hj => ?_, ?_⟩
  · show up1 s.2.1 r _ j + _ ≤ _
    by_cases e' : j = r
    · rw [e', up1_at]; omega
    · rw [up1_ne e']; have := h.1 j hj; omega
  · show bbg s r + D.2.2.1 r (s.1 r) + 2000 * k ≤ 30000
    omega
theorem mnb_sm (hD : bDs D) : ∀ (k : Nat) (s : bs), bOk D k s → bSm D k s → mnb D k s ≤ 30000
  | 0, s, h, h2 => by
    show lrf s.2.1 D.1 ≤ 30000
    have : ∀ n, n ≤ D.1 → lrf s.2.1 n ≤ 30000 := by
      intro n hn
      induction n with
      | zero => exact Nat.zero_le _
      | succ n ih =>
        show max (lrf s.2.1 n) (s.2.1 n) ≤ _
        have := ih (by omega); have := h2.1 n (by omega); omega
    exact this _ (Nat.le_refl _)
  | k + 1, s, h, h2 => by
    obtain ⟨r, r1, r2⟩ := bOk_ex h
    exact Nat.le_trans (mnb_le r1 r2) (mnb_sm hD k _ (bOk_pl h r1 r2) (bSm_pl hD h2 r1))
theorem mnb_at (hD : bDs D) (h : bOk D (k + 1) s) (h2 : bSm D (k + 1) s) : ∃ r, r < D.1 ∧ s.1 r < D.2.1 r ∧ mnb D (k + 1) s = mnb D k (pl D s r) := by
  have := mnb_sm hD (k + 1) s h h2
  rcases mnr_at (f := fun r => mnb D k (pl D s r)) (c := fun r => decide (s.1 r < D.2.1 r)) (n := D.1) with e | ⟨r, r1, r2, r3⟩
  · exact absurd e (by show ¬ mnb D (k + 1) s = _; omega)
  · exact ⟨r, r1, of_decide_eq_true r2, r3⟩
theorem mnb_ge {X : Nat} (hD : bDs D) (h : bOk D (k + 1) s) (h2 : bSm D (k + 1) s) (hx : ∀ r, r < D.1 → s.1 r < D.2.1 r → X ≤ mnb D k (pl D s r)) : X ≤ mnb D (k + 1) s := by
  obtain ⟨r, r1, r2, r3⟩ := mnb_at hD h h2
  rw [r3]; exact hx r r1 r2
/-- what is due of r from its m-th last block on -/
def duc (D : bD) (r : Nat) : Nat → Nat
  | 0 => 0
  | m + 1 => D.2.2.1 r (D.2.1 r - (m + 1)) + D.2.2.2 r (D.2.1 r - m) + duc D r m
/-- units of the last m blocks of r -/
def wrc (D : bD) (r : Nat) : Nat → Nat
  | 0 => 0
  | m + 1 => D.2.2.1 r (D.2.1 r - (m + 1)) + wrc D r m
def wlb (D : bD) (s : bs) : Nat := smf (fun r => wrc D r (D.2.1 r - s.1 r)) D.1
/-- when r can go on -/
def cgo (D : bD) (s : bs) (r : Nat) : Nat := if s.1 r < D.2.1 r ∧ s.2.1 r < s.2.2 then s.2.2 else s.2.1 r
theorem cgo_un (h : s.1 r < D.2.1 r) : cgo D s r = bbg s r := by
  unfold cgo bbg
  by_cases e : s.2.1 r < s.2.2
  · rw [if_pos ⟨h, e⟩]; omega
  · rw [if_neg (fun q => e q.2)]; omega
theorem cgo_fi (h : ¬ s.1 r < D.2.1 r) : cgo D s r = s.2.1 r := by
  unfold cgo; rw [if_neg (fun q => h q.1)]
theorem wlb_pl (hr : r < D.1) (hn : s.1 r < D.2.1 r) : wlb D (pl D s r) + D.2.2.1 r (s.1 r) = wlb D s := by
  refine smf_up hr (fun j hj => ?_) ?_
  · show wrc D j (D.2.1 j - up1 s.1 r (s.1 r + 1) j) = _
    rw [up1_ne hj]
  · show wrc D r (D.2.1 r - up1 s.1 r (s.1 r + 1) r) + _ = wrc D r (D.2.1 r - s.1 r)
    rw [up1_at, show D.2.1 r - s.1 r = (D.2.1 r - (s.1 r + 1)) + 1 by omega]
    show _ = D.2.2.1 r (D.2.1 r - (D.2.1 r - (s.1 r + 1) + 1)) + wrc D r (D.2.1 r - (s.1 r + 1))
    rw [show D.2.1 r - (D.2.1 r - (s.1 r + 1) + 1) = s.1 r by omega]; omega
theorem cgo_pl_self : cgo D (pl D s r) r = bbg s r + D.2.2.1 r (s.1 r) + D.2.2.2 r (s.1 r + 1) := by
  have e : (pl D s r).2.1 r = bbg s r + D.2.2.1 r (s.1 r) + D.2.2.2 r (s.1 r + 1) := up1_at
  have e2 : (pl D s r).2.2 = bbg s r + D.2.2.1 r (s.1 r) := rfl
  unfold cgo
  rw [e, e2, if_neg (by omega)]
theorem cgo_pl_ne {j : Nat} (hj : j ≠ r) : cgo D (pl D s r) j = if s.1 j < D.2.1 j then max (bbg s r + D.2.2.1 r (s.1 r)) (s.2.1 j) else s.2.1 j := by
  have e : (pl D s r).2.1 j = s.2.1 j := up1_ne hj
  have e1 : (pl D s r).1 j = s.1 j := up1_ne hj
  have e2 : (pl D s r).2.2 = bbg s r + D.2.2.1 r (s.1 r) := rfl
  by_cases h : s.1 j < D.2.1 j
  · rw [cgo_un (by rw [e1]; exact h), if_pos h]; unfold bbg; rw [e, e2]; rfl
  · rw [cgo_fi (by rw [e1]; exact h), if_neg h, e]
theorem mnb_due (hD : bDs D) : ∀ (k : Nat) (s : bs), bOk D k s → bSm D k s → ∀ r, r < D.1 → cgo D s r + duc D r (D.2.1 r - s.1 r) ≤ mnb D k s
  | 0, s, h, _, r, hr => by
    have e := bOk_fin h hr
    rw [cgo_fi (by omega), show D.2.1 r - s.1 r = 0 by omega]
    exact lrf_ge hr
  | k + 1, s, h, h2, r, hr => by
    refine mnb_ge hD h h2 (fun q hq hqn => Nat.le_trans ?_ (mnb_due hD k _ (bOk_pl h hq hqn) (bSm_pl hD h2 hq) r hr))
    by_cases e : r = q
    · subst e
      rw [cgo_pl_self, cgo_un hqn]
      have e1 : (pl D s r).1 r = s.1 r + 1 := up1_at
      rw [e1, show D.2.1 r - s.1 r = (D.2.1 r - (s.1 r + 1)) + 1 by omega]
      show bbg s r + (D.2.2.1 r (D.2.1 r - (D.2.1 r - (s.1 r + 1) + 1)) + D.2.2.2 r (D.2.1 r - (D.2.1 r - (s.1 r + 1))) + duc D r (D.2.1 r - (s.1 r + 1))) ≤ _
      rw [show D.2.1 r - (D.2.1 r - (s.1 r + 1) + 1) = s.1 r by omega, show D.2.1 r - (D.2.1 r - (s.1 r + 1)) = s.1 r + 1 by omega]; omega
    · have e1 : (pl D s q).1 r = s.1 r := up1_ne e
      rw [e1, cgo_pl_ne e]
      by_cases hn : s.1 r < D.2.1 r
      · rw [if_pos hn, cgo_un hn]; unfold bbg; omega
      · rw [if_neg hn, cgo_fi hn]; omega
theorem mnb_work0 (hD : bDs D) {F ρ : Nat} (h : bOk D (0 + 1) s) (h2 : bSm D (0 + 1) s) (hF : ∀ r, r < D.1 → s.1 r < D.2.1 r → F ≤ bbg s r ∧ ρ ≤ D.2.2.2 r (D.2.1 r)) : F + wlb D s + ρ ≤ mnb D (0 + 1) s := by
  refine mnb_ge (k := 0) hD h h2 (fun q hq hqn => ?_)
  obtain ⟨f1, f2⟩ := hF q hq hqn
  have hk := bOk_pl h hq hqn
  clear h2
  have e0 : wlb D (pl D s q) = 0 := by
    unfold wlb
    have : ∀ n, n ≤ D.1 → smf (fun r => wrc D r (D.2.1 r - (pl D s q).1 r)) n = 0 := by
      intro n hn
      induction n with
      | zero => rfl
      | succ n ih =>
        show smf _ n + wrc D n (D.2.1 n - (pl D s q).1 n) = 0
        rw [ih (by omega), bOk_fin hk (show n < D.1 by omega), Nat.sub_self]; rfl
    exact this _ (Nat.le_refl _)
  have e1 := wlb_pl hq hqn
  have e2 := bOk_fin hk hq
  have e3 : (pl D s q).1 q = s.1 q + 1 := up1_at
  have e4 : (pl D s q).2.1 q = bbg s q + D.2.2.1 q (s.1 q) + D.2.2.2 q (s.1 q + 1) := up1_at
  have e5 : (pl D s q).2.1 q ≤ mnb D 0 (pl D s q) := lrf_ge hq
  rw [show s.1 q + 1 = D.2.1 q by omega] at e4
  omega
theorem mnb_work (hD : bDs D) (k : Nat) : ∀ (s : bs) (F ρ : Nat), bOk D (k + 1) s → bSm D (k + 1) s → (∀ r, r < D.1 → s.1 r < D.2.1 r → F ≤ bbg s r ∧ ρ ≤ D.2.2.2 r (D.2.1 r)) → F + wlb D s + ρ ≤ mnb D (k + 1) s := by
  induction k with
  | zero => exact fun s F ρ h h2 hF => mnb_work0 hD h h2 hF
  | succ k ih =>
    intro s F ρ h h2 hF
    refine mnb_ge hD h h2 (fun q hq hqn => ?_)
    obtain ⟨f1, f2⟩ := hF q hq hqn
    have e1 := wlb_pl hq hqn
    have := ih (pl D s q) (F + D.2.2.1 q (s.1 q)) ρ (bOk_pl h hq hqn) (bSm_pl hD h2 hq) (fun r hr hrn => by
      refine ⟨?_, ?_⟩
      · unfold bbg
        show _ ≤ max (bbg s q + D.2.2.1 q (s.1 q)) _
        exact Nat.le_trans (Nat.add_le_add_right f1 _) (Nat.le_max_left _ _)
      · by_cases e : r = q
        · rw [e]; exact f2
        · have e6 : (pl D s q).1 r = s.1 r := up1_ne e
          rw [e6] at hrn
          exact (hF r hr hrn).2)
    clear h2
    omega
/-- a state that can go on as soon is done as soon -/
theorem mnb_dom (hD : bDs D) : ∀ (k : Nat) (s t : bs), bOk D k s → bSm D k s → bOk D k t → bSm D k t → (∀ r, r < D.1 → s.1 r = t.1 r) → (∀ r, r < D.1 → cgo D s r ≤ cgo D t r) → mnb D k s ≤ mnb D k t
  | 0, s, t, h, _, h', _, hn, hc => by
    refine lrf_mono (fun r hr => ?_)
    have := hc r hr
    rw [cgo_fi (by rw [bOk_fin h hr]; omega), cgo_fi (by rw [bOk_fin h' hr]; omega)] at this
    exact this
  | k + 1, s, t, h, h2, h', h2', hn, hc => by
    obtain ⟨q, hq, hqn, e⟩ := mnb_at hD h' h2'
    have hqs : s.1 q < D.2.1 q := by rw [hn q hq]; exact hqn
    rw [e]
    refine Nat.le_trans (mnb_le hq hqs) (mnb_dom hD k _ _ (bOk_pl h hq hqs) (bSm_pl hD h2 hq) (bOk_pl h' hq hqn) (bSm_pl hD h2' hq) (fun r hr => ?_) (fun r hr => ?_))
    · show up1 s.1 q (s.1 q + 1) r = up1 t.1 q (t.1 q + 1) r
      by_cases e' : r = q
      · rw [e', up1_at, up1_at, hn q hq]
      · rw [up1_ne e', up1_ne e', hn r hr]
    · have c0 := hc q hq
      rw [cgo_un hqs, cgo_un hqn] at c0
      by_cases e' : r = q
      · rw [e', cgo_pl_self, cgo_pl_self, hn q hq]; omega
      · rw [cgo_pl_ne e', cgo_pl_ne e', hn q hq, hn r hr]
        have c1 := hc r hr
        by_cases hu : t.1 r < D.2.1 r
        · rw [if_pos hu, if_pos hu]
          rw [cgo_un (by rw [hn r hr]; exact hu), cgo_un hu] at c1
          unfold bbg at c1 c0 ⊢
          omega
        · rw [if_neg hu, if_neg hu]
          rw [cgo_fi (by rw [hn r hr]; exact hu), cgo_fi hu] at c1
          exact c1
end BM
