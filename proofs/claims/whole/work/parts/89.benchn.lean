/-! ===== the bench: the search, its bounds ===== -/
/-- when all are done, when the bench ends, the order, the beginnings -/
abbrev bB : Type := Nat × Nat × (Nat → Int32) × (Nat → Int32)
def srf (g : Nat → bB → bB) (c : Nat → Bool) : Nat → bB → bB
  | 0, b => b
  | r + 1, b => if c r then g r (srf g c r b) else srf g c r b
def srch (D : bD) : Nat → Nat → bs → (Nat → Int32) → (Nat → Int32) → bB → bB
  | 0, _, s, p, a, b => if lrf s.2.1 D.1 < b.1 then (lrf s.2.1 D.1, s.2.2, p, a) else b
  | k + 1, n, s, p, a, b => srf (fun r b => srch D k (n + 1) (pl D s r) (up1 p n (nI r)) (up1 a n (nI (bbg s r))) b) (fun r => decide (s.1 r < D.2.1 r)) D.1 b
section SRF
variable {g : Nat → bB → bB} {c : Nat → Bool} {m : Nat → Nat}
theorem srf_v : ∀ {n : Nat}, (∀ r, r < n → c r = true → ∀ b : bB, b.1 ≤ 1000000000 → (g r b).1 = min b.1 (m r)) → ∀ b : bB, b.1 ≤ 1000000000 → (srf g c n b).1 = min b.1 (mnr m c n)
  | 0, _, b, hb => by show b.1 = min b.1 1000000000; omega
  | n + 1, h, b, hb => by
    have ih := srf_v (n := n) (fun r hr => h r (by omega)) b hb
    show (if c n then g n (srf g c n b) else srf g c n b).1 = min b.1 (if c n then min (mnr m c n) (m n) else mnr m c n)
    by_cases hc : c n = true
    · rw [if_pos hc, if_pos hc, h n (by omega) hc _ (by rw [ih]; omega), ih]; omega
    · rw [if_neg hc, if_neg hc, ih]
theorem srf_p : ∀ {n : Nat}, (∀ r, r < n → c r = true → ∀ b : bB, b.1 ≤ m r → g r b = b) → ∀ b : bB, b.1 ≤ mnr m c n → srf g c n b = b
  | 0, _, b, _ => rfl
  | n + 1, h, b, hb => by
    have hb' : b.1 ≤ (if c n then min (mnr m c n) (m n) else mnr m c n) := hb
    show (if c n then g n (srf g c n b) else srf g c n b) = b
    by_cases hc : c n = true
    · rw [if_pos hc] at hb' ⊢
      rw [srf_p (n := n) (fun r hr => h r (by omega)) b (by omega)]
      exact h n (by omega) hc b (by omega)
    · rw [if_neg hc] at hb' ⊢
      exact srf_p (n := n) (fun r hr => h r (by omega)) b hb'
theorem srf_q : ∀ {n : Nat}, (∀ r, r < n → c r = true → ∀ b : bB, b.1 ≤ 1000000000 → (g r b).1 = min b.1 (m r)) → (∀ r, r < n → c r = true → ∀ b b' : bB, m r < b.1 → m r < b'.1 → b.1 ≤ 1000000000 → b'.1 ≤ 1000000000 → g r b = g r b') → ∀ b b' : bB, mnr m c n < b.1 → mnr m c n < b'.1 → b.1 ≤ 1000000000 → b'.1 ≤ 1000000000 → srf g c n b = srf g c n b'
  | 0, _, _, b, b', hb, _, h1, _ => by
    have : (1000000000 : Nat) < b.1 := hb
    omega
  | n + 1, hv, hq, b, b', hb, hb', h1, h1' => by
    have v := srf_v (n := n) (fun r hr => hv r (by omega)) b h1
    have v' := srf_v (n := n) (fun r hr => hv r (by omega)) b' h1'
    have hc0 : mnr m c (n + 1) = (if c n then min (mnr m c n) (m n) else mnr m c n) := rfl
    rw [hc0] at hb hb'
    show (if c n then g n (srf g c n b) else srf g c n b) = (if c n then g n (srf g c n b') else srf g c n b')
    by_cases hc : c n = true
    · rw [if_pos hc] at hb hb' ⊢
      rw [if_pos hc]
      by_cases e : mnr m c n ≤ m n
      · rw [srf_q (n := n) (fun r hr => hv r (by omega)) (fun r hr => hq r (by omega)) b b' (by omega) (by omega) h1 h1']
      · exact hq n (by omega) hc _ _ (by omega) (by omega) (by omega) (by omega)
    · rw [if_neg hc] at hb hb' ⊢
      rw [if_neg hc]
      exact srf_q (n := n) (fun r hr => hv r (by omega)) (fun r hr => hq r (by omega)) b b' hb hb' h1 h1'
end SRF
section BN
variable {D : bD}
theorem srch_v : ∀ (k n : Nat) (s : bs) (p a : Nat → Int32) (b : bB), b.1 ≤ 1000000000 → (srch D k n s p a b).1 = min b.1 (mnb D k s)
  | 0, n, s, p, a, b, _ => by
    show (if lrf s.2.1 D.1 < b.1 then (lrf s.2.1 D.1, s.2.2, p, a) else b).1 = min b.1 (lrf s.2.1 D.1)
    by_cases h : lrf s.2.1 D.1 < b.1
    · rw [if_pos h]; show lrf s.2.1 D.1 = _; omega
    · rw [if_neg h]; omega
  | k + 1, n, s, p, a, b, hb => srf_v (m := fun r => mnb D k (pl D s r)) (fun r _ _ b hb => srch_v k (n + 1) (pl D s r) _ _ b hb) b hb
theorem srch_p : ∀ (k n : Nat) (s : bs) (p a : Nat → Int32) (b : bB), b.1 ≤ mnb D k s → srch D k n s p a b = b
  | 0, n, s, p, a, b, h => by
    show (if lrf s.2.1 D.1 < b.1 then (lrf s.2.1 D.1, s.2.2, p, a) else b) = b
    have h' : b.1 ≤ lrf s.2.1 D.1 := h
    rw [if_neg (by omega)]
  | k + 1, n, s, p, a, b, h => srf_p (m := fun r => mnb D k (pl D s r)) (fun r _ _ b hb => srch_p k (n + 1) (pl D s r) _ _ b hb) b h
theorem srch_q : ∀ (k n : Nat) (s : bs) (p a : Nat → Int32) (b b' : bB), mnb D k s < b.1 → mnb D k s < b'.1 → b.1 ≤ 1000000000 → b'.1 ≤ 1000000000 → srch D k n s p a b = srch D k n s p a b'
  | 0, n, s, p, a, b, b', h, h', _, _ => by
    show (if lrf s.2.1 D.1 < b.1 then (lrf s.2.1 D.1, s.2.2, p, a) else b) = (if lrf s.2.1 D.1 < b'.1 then (lrf s.2.1 D.1, s.2.2, p, a) else b')
    have g : lrf s.2.1 D.1 < b.1 := h
    have g' : lrf s.2.1 D.1 < b'.1 := h'
    rw [if_pos g, if_pos g']
  | k + 1, n, s, p, a, b, b', h, h', h1, h1' => srf_q (g := fun r b => srch D k (n + 1) (pl D s r) (up1 p n (nI r)) (up1 a n (nI (bbg s r))) b) (m := fun r => mnb D k (pl D s r)) (fun r _ _ b hb => srch_v k (n + 1) (pl D s r) _ _ b hb) (fun r _ _ b b' x x' y y' => srch_q k (n + 1) (pl D s r) _ _ b b' x x' y y') b b' h h' h1 h1'
/-! the least that can be hoped for -/
def mn6 (f : Nat → Nat) (c : Nat → Bool) : Nat → Nat
  | 0 => 1000000
  | r + 1 => if c r then min (mn6 f c r) (f r) else mn6 f c r
theorem mn6_le {f : Nat → Nat} {c : Nat → Bool} : ∀ {n r : Nat}, r < n → c r = true → mn6 f c n ≤ f r
  | n + 1, r, h, hc => by
    show (if c n then min (mn6 f c n) (f n) else mn6 f c n) ≤ f r
    by_cases e : r = n
    · subst e; rw [if_pos hc]; omega
    · have := mn6_le (f := f) (c := c) (show r < n by omega) hc
      split <;> omega
theorem mn6_sm (f : Nat → Nat) (c : Nat → Bool) : ∀ n, mn6 f c n ≤ 1000000
  | 0 => Nat.le_refl _
  | n + 1 => by
    have := mn6_sm f c n
    show (if c n then min (mn6 f c n) (f n) else mn6 f c n) ≤ _
    split <;> omega
def unf (D : bD) (s : bs) (r : Nat) : Bool := decide (s.1 r < D.2.1 r)
def ldl (D : bD) (s : bs) (n : Nat) : Nat := lrf (fun r => cgo D s r + duc D r (D.2.1 r - s.1 r)) n
def ldn (D : bD) (s : bs) (wl : Nat) : Nat := if 0 < wl then max (ldl D s D.1) (mn6 (cgo D s) (unf D s) D.1 + wl + mn6 (fun r => D.2.2.2 r (D.2.1 r)) (unf D s) D.1) else ldl D s D.1
theorem wlb_0 {s : bs} (h : bOk D 0 s) : wlb D s = 0 := by
  unfold wlb
  have : ∀ n, n ≤ D.1 → smf (fun r => wrc D r (D.2.1 r - s.1 r)) n = 0 := by
    intro n hn
    induction n with
    | zero => rfl
    | succ n ih =>
      show smf _ n + wrc D n (D.2.1 n - s.1 n) = 0
      rw [ih (by omega), bOk_fin h (show n < D.1 by omega), Nat.sub_self]; rfl
  exact this _ (Nat.le_refl _)
theorem lrf_le {f : Nat → Nat} {X : Nat} : ∀ {n : Nat}, (∀ r, r < n → f r ≤ X) → lrf f n ≤ X
  | 0, _ => Nat.zero_le _
  | n + 1, h => by
    show max (lrf f n) (f n) ≤ X
    have := lrf_le (n := n) (fun r hr => h r (by omega))
    have := h n (by omega)
    omega
theorem ldn_le {k : Nat} {s : bs} (hD : bDs D) (h : bOk D k s) (h2 : bSm D k s) : ldn D s (wlb D s) ≤ mnb D k s := by
  have h0 : ldl D s D.1 ≤ mnb D k s := lrf_le (fun r hr => mnb_due hD k s h h2 r hr)
  unfold ldn
  by_cases hw : 0 < wlb D s
  · rw [if_pos hw]
    cases k with
    | zero => rw [wlb_0 h] at hw; exact absurd hw (Nat.lt_irrefl 0)
    | succ k =>
      have := mnb_work hD k s (mn6 (cgo D s) (unf D s) D.1) (mn6 (fun r => D.2.2.2 r (D.2.1 r)) (unf D s) D.1) h h2 (fun r hr hrn => ⟨by
        rw [← cgo_un hrn]; exact mn6_le hr (decide_eq_true hrn), mn6_le (f := fun r => D.2.2.2 r (D.2.1 r)) hr (decide_eq_true hrn)⟩)
      clear h2
      omega
  · rw [if_neg hw]; exact h0
/-! what is done, as one number -/
def prt (D : bD) (x : Nat → Nat) : Nat → Nat
  | 0 => 0
  | r + 1 => prt D x r * (D.2.1 r + 1) + x r
theorem prt_inj {x y : Nat → Nat} : ∀ {n : Nat}, (∀ r, r < n → x r ≤ D.2.1 r) → (∀ r, r < n → y r ≤ D.2.1 r) → prt D x n = prt D y n → ∀ r, r < n → x r = y r
  | n + 1, hx, hy, h, r, hr => by
    have h' : prt D x n * (D.2.1 n + 1) + x n = prt D y n * (D.2.1 n + 1) + y n := h
    have a := hx n (by omega)
    have b := hy n (by omega)
    have e : prt D x n = prt D y n := by
      rcases Nat.lt_trichotomy (prt D x n) (prt D y n) with q | q | q
      · have := Nat.mul_le_mul_right (D.2.1 n + 1) (show prt D x n + 1 ≤ prt D y n from q)
        rw [Nat.succ_mul] at this; omega
      · exact q
      · have := Nat.mul_le_mul_right (D.2.1 n + 1) (show prt D y n + 1 ≤ prt D x n from q)
        rw [Nat.succ_mul] at this; omega
    by_cases e' : r = n
    · rw [e'] ; rw [e] at h'; omega
    · exact prt_inj (n := n) (fun r hr => hx r (by omega)) (fun r hr => hy r (by omega)) e r (by omega)
end BN
