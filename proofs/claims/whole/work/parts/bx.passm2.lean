/-! ===== mathematics: ways told from the front ===== -/
def made (n : Nat) : Prop := 2 ^ tmi 2 31 n * 3 ^ tmi 3 31 n = n
def pm (n : Nat) : Nat := (tmi 2 31 n + 1) / 2 + tmi 3 31 n
def mdb (n : Nat) : Bool := decide (2 ^ tmi 2 31 n * 3 ^ tmi 3 31 n = n)
def st2 : Nat → Nat → Nat
  | 0, n => n
  | f + 1, n => if n % 2 = 0 then st2 f (n / 2) else n
def st3 : Nat → Nat → Nat
  | 0, n => n
  | f + 1, n => if n % 3 = 0 then st3 f (n / 3) else n
def dvc (n : Nat) : Nat → Nat
  | 0 => 0
  | i + 1 => dvc n i + (if n % (i + 1) = 0 then 1 else 0)
def ck1 (n : Nat) : Bool := decide (n = 0) || (decide (decide (st3 31 (st2 31 n) = 1) = mdb n) && (!(mdb n) || (decide (pm n ≤ 6) && (decide (n = 1) || decide (1 ≤ pm n)))))
def ck2 (n f : Nat) : Bool := decide (n = 0) || !(mdb n) || !(decide (n % f = 0)) || (mdb (n / f) && decide (pm n ≤ pm (n / f) + 1))
def ck3 (n : Nat) : Bool := decide (n < 2) || !(mdb n) || ((decide (2 ≤ fac n 0) && decide (fac n 0 < 5)) && decide (n % fac n 0 = 0) && decide (pm (n / fac n 0) + 1 = pm n) && ([2, 3, 4].all (fun g => decide (fac n 0 ≤ g) || !(decide (n % g = 0) && decide (pm (n / g) + 1 = pm n)))) && ([0, 1, 2, 3, 4, 5, 6].all (fun i => decide (fac (n / fac n 0) i = fac n (i + 1)))))
def ck4 (n : Nat) : Bool := decide (n = 0) || !(mdb n) || decide (dvc n n ≤ 31)
theorem ck1_all : (List.range 1025).all ck1 = true := by decide +kernel
theorem ck2_all : (List.range 1025).all (fun n => ck2 n 2 && ck2 n 3 && ck2 n 4) = true := by decide +kernel
theorem ck3_all : (List.range 1025).all ck3 = true := by decide +kernel
theorem ck4_all : (List.range 1025).all ck4 = true := by decide +kernel
theorem pm_1 : pm 1 = 0 := by decide +kernel
theorem made_1 : made 1 := by unfold made; decide +kernel
theorem mdb_t {n : Nat} : mdb n = true ↔ made n := decide_eq_true_iff
theorem all_at {p : Nat → Bool} (h : (List.range 1025).all p = true) {n : Nat} (hn : n ≤ 1024) : p n = true := List.all_eq_true.mp h n (List.mem_range.mpr (by omega))
theorem made_pm {n : Nat} (h1 : 1 ≤ n) (h2 : n ≤ 1024) (h : made n) : pm n ≤ 6 ∧ (n ≠ 1 → 1 ≤ pm n) := by
  have := all_at ck1_all h2
  unfold ck1 at this
  rw [mdb_t.mpr h] at this
  simp only [Bool.or_eq_true, Bool.and_eq_true, decide_eq_true_eq, Bool.not_true, Bool.false_or] at this
  rcases this with e | ⟨-, a, b⟩
  · omega
  · refine ⟨?_, fun hn => ?_⟩
    · exact a
    · rcases b with b | b
      · exact absurd b hn
      · exact b
theorem made_st {n : Nat} (h1 : 1 ≤ n) (h2 : n ≤ 1024) : st3 31 (st2 31 n) = 1 ↔ made n := by
  have := all_at ck1_all h2
  unfold ck1 at this
  simp only [Bool.or_eq_true, Bool.and_eq_true, decide_eq_true_eq] at this
  rcases this with e | ⟨a, -⟩
  · omega
  · rw [← mdb_t, ← a]; simp
theorem made_div {n f : Nat} (h1 : 1 ≤ n) (h2 : n ≤ 1024) (h : made n) (hf : 2 ≤ f ∧ f < 5) (hd : n % f = 0) : made (n / f) ∧ pm n ≤ pm (n / f) + 1 ∧ 1 ≤ n / f ∧ n / f * 2 ≤ n := by
  have hq := all_at ck2_all h2
  simp only [Bool.and_eq_true] at hq
  have hc : ck2 n f = true := by
    have : f = 2 ∨ f = 3 ∨ f = 4 := by omega
    rcases this with rfl | rfl | rfl
    · exact hq.1.1
    · exact hq.1.2
    · exact hq.2
  unfold ck2 at hc
  rw [mdb_t.mpr h] at hc
  simp only [Bool.or_eq_true, Bool.and_eq_true, decide_eq_true_eq, Bool.not_true, Bool.not_eq_true', decide_eq_false_iff_not] at hc
  have hdm := Nat.div_add_mod n f
  have h3 : 1 ≤ n / f := by
    rcases Nat.eq_zero_or_pos (n / f) with e | e
    · rw [e, hd] at hdm; omega
    · exact e
  refine ⟨?_, ?_, h3, ?_⟩
  · rcases hc with ((a | a) | a) | a
    · omega
    · exact absurd a (by decide)
    · exact absurd hd a
    · exact mdb_t.mp a.1
  · rcases hc with ((a | a) | a) | a
    · omega
    · exact absurd a (by decide)
    · exact absurd hd a
    · exact a.2
  · have := Nat.mul_le_mul_left (n / f) hf.1
    rw [hd, Nat.mul_comm] at hdm; omega
theorem fac_ck {n : Nat} (h1 : 2 ≤ n) (h2 : n ≤ 1024) (h : made n) : (2 ≤ fac n 0 ∧ fac n 0 < 5) ∧ n % fac n 0 = 0 ∧ pm (n / fac n 0) + 1 = pm n ∧ (∀ g, 2 ≤ g → g < 5 → g < fac n 0 → ¬ (n % g = 0 ∧ pm (n / g) + 1 = pm n)) ∧ ∀ i, i < 7 → fac (n / fac n 0) i = fac n (i + 1) := by
  have hc := all_at ck3_all h2
  unfold ck3 at hc
  rw [mdb_t.mpr h] at hc
  simp only [Bool.or_eq_true, Bool.and_eq_true, decide_eq_true_eq, Bool.not_true, List.all_eq_true, Bool.not_eq_true', Bool.and_eq_false_iff, decide_eq_false_iff_not] at hc
  rcases hc with (a | a) | ⟨⟨⟨⟨a, b⟩, c⟩, e⟩, f⟩
  · omega
  · exact absurd a (by decide)
  · refine ⟨a, b, c, fun g g1 g2 g3 hq => ?_, fun i hi => f i ?_⟩
    · rcases e g (by have : g = 2 ∨ g = 3 ∨ g = 4 := by omega
                     rcases this with rfl | rfl | rfl <;> simp) with q | q | q
      · omega
      · exact q hq.1
      · exact q hq.2
    · have : i = 0 ∨ i = 1 ∨ i = 2 ∨ i = 3 ∨ i = 4 ∨ i = 5 ∨ i = 6 := by omega
      rcases this with rfl | rfl | rfl | rfl | rfl | rfl | rfl <;> simp
theorem made_dv {n : Nat} (h1 : 1 ≤ n) (h2 : n ≤ 1024) (h : made n) : dvc n n ≤ 31 := by
  have hc := all_at ck4_all h2
  unfold ck4 at hc
  rw [mdb_t.mpr h] at hc
  simp only [Bool.or_eq_true, decide_eq_true_eq, Bool.not_true] at hc
  rcases hc with (a | a) | a
  · omega
  · exact absurd a (by decide)
  · exact a
section WAYS
variable {P : pP}
/-- a way by its first pass -/
theorem Wy_front : ∀ {p u0 w0 u w c : Nat}, Wy P u0 w0 (p + 1) u w c ↔ ∃ x u1 w1 c1, x < 25 ∧ stp P x u0 w0 = some (u1, w1) ∧ Wy P u1 w1 p u w c1 ∧ c = x * 25 ^ p + c1
  | 0, u0, w0, u, w, c => by
    constructor
    · rintro ⟨u', w', c', x, ⟨rfl, rfl, rfl⟩, hx, hs, rfl⟩
      exact ⟨x, u, w, 0, hx, hs, ⟨rfl, rfl, rfl⟩, by simp⟩
    · rintro ⟨x, u1, w1, c1, hx, hs, ⟨rfl, rfl, rfl⟩, rfl⟩
      exact ⟨u0, w0, 0, x, ⟨rfl, rfl, rfl⟩, hx, hs, by simp⟩
  | p + 1, u0, w0, u, w, c => by
    constructor
    · rintro ⟨u', w', c', y, h, hy, hs', rfl⟩
      obtain ⟨x, u1, w1, c1, hx, hs, h1, rfl⟩ := Wy_front.mp h
      refine ⟨x, u1, w1, 25 * c1 + y, hx, hs, ⟨u', w', c1, y, h1, hy, hs', rfl⟩, ?_⟩
      rw [Nat.pow_succ, Nat.mul_add, ← Nat.add_assoc, Nat.mul_comm 25 (x * 25 ^ p), Nat.mul_assoc]
    · rintro ⟨x, u1, w1, c1, hx, hs, ⟨u', w', c2, y, h1, hy, hs', rfl⟩, rfl⟩
      refine ⟨u', w', x * 25 ^ p + c2, y, Wy_front.mpr ⟨x, u1, w1, c2, hx, hs, h1, rfl⟩, hy, hs', ?_⟩
      rw [Nat.pow_succ, Nat.mul_add, ← Nat.add_assoc, Nat.mul_comm 25 (x * 25 ^ p), Nat.mul_assoc]
/-- a longer way has a shorter one ahead -/
theorem Wy_pre (hP : pPok P) {u0 w0 : Nat} (hw : w0 ≤ 400) {p : Nat} : ∀ {q u w c : Nat}, Wy P u0 w0 (p + q) u w c → ∃ u' w' c', Wy P u0 w0 p u' w' c' ∧ u' + 3 * q ≤ u
  | 0, u, w, c, h => ⟨u, w, c, h, Nat.le_refl _⟩
  | q + 1, u, w, c, h => by
    obtain ⟨u', w', c', x, h1, hx, hs, -⟩ := h
    obtain ⟨u2, w2, c2, h2, h3⟩ := Wy_pre hP hw h1
    have := stp_le hP hx hs
    exact ⟨u2, w2, c2, h2, by omega⟩
def Ws (P : pP) (u w p u' : Nat) : Prop := ∃ w' c, Wy P u w p u' w' c
def csT (c : Bool) (p s : Nat) : Nat := if c then 1000 * p + s else 1000 * s + p
/-- the best way's price, and one; 1000000 without -/
def bfV (P : pP) (c : Bool) (u w n v : Nat) : Prop := ((∀ u', ¬ Ws P u w (pm n) u') ∧ v = 1000000) ∨ ∃ U, Ws P u w (pm n) U ∧ (∀ u', Ws P u w (pm n) u' → U ≤ u') ∧ v = csT c (pm n) (U - u) + 1
theorem least_ex {p : Nat → Prop} : ∀ n, p n → ∃ m, p m ∧ ∀ k, p k → m ≤ k := by
  intro n
  induction n using Nat.strongRecOn with
  | ind n ih =>
    intro h
    by_cases hq : ∃ k, k < n ∧ p k
    · obtain ⟨k, hk, hp⟩ := hq; exact ih k hk hp
    · exact ⟨n, h, fun k hp => by
        by_cases e : n ≤ k
        · exact e
        · exact absurd ⟨k, by omega, hp⟩ hq⟩
theorem bfV_ex (P : pP) (c : Bool) (u w n : Nat) : ∃ v, bfV P c u w n v := by
  by_cases h : ∃ u', Ws P u w (pm n) u'
  · obtain ⟨u', hu⟩ := h
    obtain ⟨U, h1, h2⟩ := least_ex u' hu
    exact ⟨_, Or.inr ⟨U, h1, h2, rfl⟩⟩
  · exact ⟨_, Or.inl ⟨fun u' hu => h ⟨u', hu⟩, rfl⟩⟩
noncomputable def bfv (P : pP) (c : Bool) (u w n : Nat) : Nat := Classical.choose (bfV_ex P c u w n)
theorem bfv_is (P : pP) (c : Bool) (u w n : Nat) : bfV P c u w n (bfv P c u w n) := Classical.choose_spec (bfV_ex P c u w n)
theorem bfV_eq {c : Bool} {u w n v v' : Nat} (h : bfV P c u w n v) (h' : bfV P c u w n v') : v = v' := by
  rcases h with ⟨a, b⟩ | ⟨U, a, b, e⟩
  · rcases h' with ⟨a', b'⟩ | ⟨U', a', b', e'⟩
    · rw [b, b']
    · exact absurd a' (a U')
  · rcases h' with ⟨a', b'⟩ | ⟨U', a', b', e'⟩
    · exact absurd a (a' U)
    · have : U = U' := Nat.le_antisymm (b U' a') (b' U a)
      rw [e, e', this]
theorem bfv_1 {c : Bool} {u w : Nat} : bfv P c u w 1 = 1 := by
  refine bfV_eq (bfv_is P c u w 1) (Or.inr ⟨u, ?_, ?_, ?_⟩)
  · rw [pm_1]; exact ⟨w, 0, rfl, rfl, rfl⟩
  · rw [pm_1]; rintro u' ⟨w', c', rfl, -, -⟩; exact Nat.le_refl _
  · rw [pm_1, Nat.sub_self]; cases c <;> rfl
def byV (P : pP) (c : Bool) (B : Nat → Nat → Nat → Nat) (u w n x f : Nat) : Nat := if n % f ≠ 0 then 1000000 else match stp P x u w with
  | none => 1000000
  | some (u1, w1) => if B u1 w1 (n / f) = 1000000 then 1000000 else B u1 w1 (n / f) + (if c then 1000 + (u1 - u) else 1000 * (u1 - u) + 1)
theorem csT_add {c : Bool} {p s t : Nat} : csT c p s + 1 + (if c then 1000 + t else 1000 * t + 1) = csT c (p + 1) (t + s) + 1 := by
  cases c
  · show 1000 * s + p + 1 + (1000 * t + 1) = 1000 * (t + s) + (p + 1) + 1; omega
  · show 1000 * p + s + 1 + (1000 + t) = 1000 * (p + 1) + (t + s) + 1; omega
theorem csT_le {c : Bool} {p p' s s' : Nat} (h : (p = p' ∧ s ≤ s') ∨ (p < p' ∧ s < s')) (hs : s' ≤ 120) (hp : p' ≤ 20) : csT c p s ≤ csT c p' s' := by
  cases c
  · show 1000 * s + p ≤ 1000 * s' + p'; omega
  · show 1000 * p + s ≤ 1000 * p' + s'; omega
theorem csT_lt {c : Bool} {p p' s s' : Nat} (h : p < p' ∧ s < s') (hs : s' ≤ 120) (hp : p' ≤ 20) : csT c p s < csT c p' s' := by
  cases c
  · show 1000 * s + p < 1000 * s' + p'; omega
  · show 1000 * p + s < 1000 * p' + s'; omega
theorem Ws_b (hP : pPok P) {u w p u' : Nat} (hw : w ≤ 400) (hu : u ≤ 120) (h : Ws P u w p u') : u + 3 * p ≤ u' ∧ u' ≤ 120 := by
  obtain ⟨w', c, h⟩ := h
  obtain ⟨-, a, -, b⟩ := Wy_le hP hw h
  refine ⟨a, ?_⟩
  rcases b with b | b
  · exact b
  · subst b; obtain ⟨rfl, -, -⟩ := h; exact hu
theorem bfv_b (hP : pPok P) {c : Bool} {u w n : Nat} (hw : w ≤ 400) (hu : u ≤ 120) (hn : pm n ≤ 20) : 1 ≤ bfv P c u w n ∧ bfv P c u w n ≤ 1000000 ∧ (bfv P c u w n ≠ 1000000 → bfv P c u w n ≤ 121000) := by
  rcases bfv_is P c u w n with ⟨-, e⟩ | ⟨U, a, -, e⟩
  · omega
  · have hb := Ws_b hP hw hu a
    have : csT c (pm n) (U - u) ≤ 120200 := by
      cases c
      · show 1000 * (U - u) + pm n ≤ _; omega
      · show 1000 * pm n + (U - u) ≤ _; omega
    omega
/-- every pass costs no less, and one of them just that -/
theorem bfv_le (hP : pPok P) {c : Bool} {u w n x f : Nat} (hw : w ≤ 400) (hu : u ≤ 120) (h1 : 1 ≤ n) (h2 : n ≤ 1024) (hm : made n) (hx : x < 25) (hf : 2 ≤ f ∧ f < 5) : bfv P c u w n ≤ byV P c (bfv P c) u w n x f := by
  have hpn := made_pm h1 h2 hm
  have hb := bfv_b (c := c) hP hw hu (show pm n ≤ 20 by omega)
  unfold byV
  by_cases hd : n % f = 0
  · rw [if_neg (fun h => h hd)]
    obtain ⟨d1, d2, d3, d4⟩ := made_div h1 h2 hm hf hd
    have hpd := made_pm d3 (by omega) d1
    split
    · exact hb.2.1
    · rename_i u1 w1 hs
      obtain ⟨s1, s2, s3, s4⟩ := stp_le hP hx hs
      by_cases hz : bfv P c u1 w1 (n / f) = 1000000
      · rw [if_pos hz]; exact hb.2.1
      · rw [if_neg hz]
        rcases bfv_is P c u1 w1 (n / f) with ⟨-, e⟩ | ⟨U, a, b, e⟩
        · exact absurd e hz
        · have hU := Ws_b hP s1 s4 a
          rw [e, csT_add]
          obtain ⟨w', c', hWy⟩ := a
          have hW : Wy P u w (pm (n / f) + 1) U w' (x * 25 ^ pm (n / f) + c') := Wy_front.mpr ⟨x, u1, w1, c', hx, hs, hWy, rfl⟩
          have hWb := Wy_le hP hw hW
          obtain ⟨q, hq⟩ : ∃ q, pm (n / f) + 1 = pm n + q := ⟨pm (n / f) + 1 - pm n, by omega⟩
          rw [hq] at hW
          obtain ⟨u2, w2, c2, hp, hl⟩ := Wy_pre hP hw hW
          rcases bfv_is P c u w n with ⟨e1, -⟩ | ⟨U0, a0, b0, e0⟩
          · exact absurd ⟨w2, c2, hp⟩ (e1 u2)
          · have hU0 := b0 u2 ⟨w2, c2, hp⟩
            have hU0b := Ws_b hP hw hu a0
            rw [e0]
            refine Nat.succ_le_succ (csT_le ?_ (by omega) (by omega))
            by_cases hq0 : q = 0
            · exact Or.inl ⟨by omega, by omega⟩
            · exact Or.inr ⟨by omega, by omega⟩
  · rw [if_pos hd]; exact hb.2.1
/-- which passes cost just that -/
theorem byV_eq (hP : pPok P) {c : Bool} {u w n x f U : Nat} (hw : w ≤ 400) (hu : u ≤ 120) (h1 : 1 ≤ n) (h2 : n ≤ 1024) (hm : made n) (hn1 : n ≠ 1) (hx : x < 25) (hf : 2 ≤ f ∧ f < 5) (hU : Ws P u w (pm n) U) (hl : ∀ u', Ws P u w (pm n) u' → U ≤ u') : byV P c (bfv P c) u w n x f = csT c (pm n) (U - u) + 1 ↔ (n % f = 0 ∧ pm (n / f) + 1 = pm n ∧ ∃ u1 w1, stp P x u w = some (u1, w1) ∧ Ws P u1 w1 (pm (n / f)) U) := by
  have hpn := made_pm h1 h2 hm
  have hUb := Ws_b hP hw hu hU
  have hfin : csT c (pm n) (U - u) + 1 ≤ 121000 := by
    cases c
    · show 1000 * (U - u) + pm n + 1 ≤ _; omega
    · show 1000 * pm n + (U - u) + 1 ≤ _; omega
  unfold byV
  by_cases hd : n % f = 0
  · rw [if_neg (fun h => h hd)]
    obtain ⟨d1, d2, d3, d4⟩ := made_div h1 h2 hm hf hd
    have hpd := made_pm d3 (by omega) d1
    split
    · rename_i hs
      refine ⟨fun h => by omega, fun ⟨_, _, u1, w1, h, _⟩ => by rw [hs] at h; cases h⟩
    · rename_i u1 w1 hs
      obtain ⟨s1, s2, s3, s4⟩ := stp_le hP hx hs
      constructor
      · intro he
        by_cases hz : bfv P c u1 w1 (n / f) = 1000000
        · rw [if_pos hz] at he; omega
        · rw [if_neg hz] at he
          rcases bfv_is P c u1 w1 (n / f) with ⟨-, e⟩ | ⟨U1, a, b, e⟩
          · exact absurd e hz
          · have hU1 := Ws_b hP s1 s4 a
            rw [e, csT_add] at he
            have a' := a
            obtain ⟨w', c', hWy⟩ := a
            have hW : Wy P u w (pm (n / f) + 1) U1 w' (x * 25 ^ pm (n / f) + c') := Wy_front.mpr ⟨x, u1, w1, c', hx, hs, hWy, rfl⟩
            obtain ⟨q, hq⟩ : ∃ q, pm (n / f) + 1 = pm n + q := ⟨pm (n / f) + 1 - pm n, by omega⟩
            have hW2 := hW
            rw [hq] at hW2
            obtain ⟨u2, w2, c2, hp, hl2⟩ := Wy_pre hP hw hW2
            have hU0 := hl u2 ⟨w2, c2, hp⟩
            have hq0 : q = 0 := by
              rcases Nat.eq_zero_or_pos q with e | e
              · exact e
              · have := csT_lt (c := c) (p := pm n) (p' := pm (n / f) + 1) (s := U - u) (s' := u1 - u + (U1 - u1)) ⟨by omega, by omega⟩ (by omega) (by omega)
                omega
            have hpe : pm (n / f) + 1 = pm n := by omega
            refine ⟨hd, hpe, u1, w1, hs, ?_⟩
            have hUU : U1 = U := by
              rw [hpe] at he
              have : csT c (pm n) (u1 - u + (U1 - u1)) = csT c (pm n) (U - u) := by omega
              cases c
              · have h' : 1000 * (u1 - u + (U1 - u1)) + pm n = 1000 * (U - u) + pm n := this
                omega
              · have h' : 1000 * pm n + (u1 - u + (U1 - u1)) = 1000 * pm n + (U - u) := this
                omega
            rw [← hUU]; exact a'
      · rintro ⟨-, hpe, u1', w1', hs', hWs⟩
        rw [hs] at hs'
        cases hs'
        have hUb1 := Ws_b hP s1 s4 hWs
        rcases bfv_is P c u1 w1 (n / f) with ⟨e, -⟩ | ⟨U1, a, b, e⟩
        · exact absurd hWs (e U)
        · have hU1 := Ws_b hP s1 s4 a
          have h3 := b U hWs
          obtain ⟨w', c', hWy⟩ := a
          have hW : Wy P u w (pm (n / f) + 1) U1 w' (x * 25 ^ pm (n / f) + c') := Wy_front.mpr ⟨x, u1, w1, c', hx, hs, hWy, rfl⟩
          rw [hpe] at hW
          have h4 := hl U1 ⟨_, _, hW⟩
          have hUU : U1 = U := by omega
          have hne : ¬ bfv P c u1 w1 (n / f) = 1000000 := by
            rw [e]
            have : csT c (pm (n / f)) (U1 - u1) ≤ 120200 := by
              cases c
              · show 1000 * (U1 - u1) + pm (n / f) ≤ _; omega
              · show 1000 * pm (n / f) + (U1 - u1) ≤ _; omega
            omega
          rw [if_neg hne, e, csT_add, hpe, hUU]
          congr 2; omega
  · rw [if_pos hd]
    exact ⟨fun h => by omega, fun h => absurd h.1 hd⟩
theorem bfv_at (hP : pPok P) {c : Bool} {u w n : Nat} (hw : w ≤ 400) (hu : u ≤ 120) (h1 : 2 ≤ n) (h2 : n ≤ 1024) (hm : made n) : bfv P c u w n = 1000000 ∨ ∃ x f, x < 25 ∧ (2 ≤ f ∧ f < 5) ∧ byV P c (bfv P c) u w n x f = bfv P c u w n := by
  obtain ⟨f1, f2, f3, f4, f5⟩ := fac_ck h1 h2 hm
  rcases bfv_is P c u w n with ⟨-, e⟩ | ⟨U, a, b, e⟩
  · exact Or.inl e
  · have a' := a
    obtain ⟨w', c', hW⟩ := a
    rw [← f3] at hW
    obtain ⟨x, u1, w1, c1, hx, hs, hW1, -⟩ := Wy_front.mp hW
    refine Or.inr ⟨x, fac n 0, hx, f1, ?_⟩
    rw [e]
    exact (byV_eq hP hw hu (by omega) h2 hm (by omega) hx f1 a' b).mpr ⟨f2, f3, u1, w1, hs, w', c1, hW1⟩
end WAYS
