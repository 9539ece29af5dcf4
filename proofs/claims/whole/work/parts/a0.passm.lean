/-! ===== passes: one pass, ways of passes ===== -/
/-- warmth w drawn toward R, by an m-th -/
def tw (w R m : Nat) : Nat := if w ≤ R then w + (R - w) / m else w - (w - R) / m
theorem tw_I {w R m : Nat} (hw : w ≤ 100000) (hR : R ≤ 100000) (hm : m = 5 ∨ m = 10) : nI w + (nI R - nI w) / nI m = nI (tw w R m) := by
  rw [zI_n, zI_n, zI_n, zI_n, zI_sub, zI_tdiv (by omega) (by omega) (by omega) (by omega), zI_add]
  congr 1
  unfold tw
  by_cases h : w ≤ R
  · rw [if_pos h, Int.tdiv_eq_ediv_of_nonneg (by omega)]
    rcases hm with rfl | rfl <;> omega
  · rw [if_neg h, show (R : Int) - w = -((w : Int) - R) by omega, Int.neg_tdiv, Int.tdiv_eq_ediv_of_nonneg (by omega)]
    rcases hm with rfl | rfl <;> omega
theorem tw_le {w R m X : Nat} (hw : w ≤ X) (hR : R ≤ X) (hm : m = 5 ∨ m = 10) : tw w R m ≤ X := by
  unfold tw
  rcases hm with rfl | rfl <;> split <;> omega
/-- box, low, high, rub, the room by units: all in tenths -/
abbrev pP : Type := Nat × Nat × Nat × Nat × (Nat → Nat)
def pPok (P : pP) : Prop := P.1 ≤ 400 ∧ P.2.1 ≤ 400 ∧ P.2.2.1 ≤ 400 ∧ P.2.2.2.1 ≤ 99 ∧ ∀ u, P.2.2.2.2 u ≤ 400
/-- the n-th unit of a rest (b), or of a stand -/
def wgo (P : pP) (b : Bool) (u n x : Nat) : Nat := tw x (if b then P.1 else P.2.2.2.2 (u + n)) (if b then 5 else 10)
/-- n units -/
def wts (P : pP) (b : Bool) (u w : Nat) : Nat → Option Nat
  | 0 => some w
  | n + 1 => match wts P b u w n with
    | none => none
    | some x => if P.2.2.1 < wgo P b u n x then none else some (wgo P b u n x)
def pss (P : pP) (u w : Nat) : Option Nat :=
  if w < P.2.1 ∨ 120 < u + 3 then none
  else if P.2.2.1 < tw w (P.2.2.2.2 u) 10 then none
  else if P.2.2.1 < tw (tw w (P.2.2.2.2 u) 10) (P.2.2.2.2 (u + 1)) 10 ∨ P.2.2.1 < tw (tw w (P.2.2.2.2 u) 10) (P.2.2.2.2 (u + 1)) 10 + P.2.2.2.1 then none
  else if P.2.2.1 < tw (tw (tw w (P.2.2.2.2 u) 10) (P.2.2.2.2 (u + 1)) 10 + P.2.2.2.1) (P.2.2.2.2 (u + 2)) 10 then none
  else some (tw (tw (tw w (P.2.2.2.2 u) 10) (P.2.2.2.2 (u + 1)) 10 + P.2.2.2.1) (P.2.2.2.2 (u + 2)) 10)
/-- a wait and a pass -/
def stp (P : pP) (x u w : Nat) : Option (Nat × Nat) := match wts P (decide (x ≤ 12)) u w (if 12 < x then x - 12 else x) with
  | none => none
  | some y => match pss P (u + (if 12 < x then x - 12 else x)) y with
    | none => none
    | some z => some (u + (if 12 < x then x - 12 else x) + 3, z)
theorem wts_le {P : pP} (hP : pPok P) {b : Bool} {u w : Nat} (hw : w ≤ 400) : ∀ {n y : Nat}, wts P b u w n = some y → y ≤ 400
  | 0, y, h => by cases h; exact hw
  | n + 1, y, h => by
    unfold wts at h
    split at h
    · cases h
    · split at h
      · cases h
      · cases h
        have := hP.2.2.1
        omega
theorem pss_le {P : pP} (hP : pPok P) {u w z : Nat} (h : pss P u w = some z) : z ≤ 400 ∧ z ≤ P.2.2.1 ∧ u + 3 ≤ 120 := by
  unfold pss at h
  split at h
  · cases h
  · split at h
    · cases h
    · split at h
      · cases h
      · split at h
        · cases h
        · cases h
          have := hP.2.2.1
          omega
theorem stp_le {P : pP} (hP : pPok P) {x u w u' z : Nat} (hx : x < 25) (h : stp P x u w = some (u', z)) : z ≤ 400 ∧ u + 3 ≤ u' ∧ u' ≤ u + 15 ∧ u' ≤ 120 := by
  unfold stp at h
  split at h
  · cases h
  · split at h
    · cases h
    · rename_i hz
      cases h
      obtain ⟨a, b, c⟩ := pss_le hP hz
      refine ⟨a, ?_, ?_, c⟩
      · split <;> omega
      · split <;> omega
/-- ways of p passes from the unit u0, the warmth w0: to u, w, by waits that are the digits of c -/
def Wy (P : pP) (u0 w0 : Nat) : Nat → Nat → Nat → Nat → Prop
  | 0, u, w, c => u = u0 ∧ w = w0 ∧ c = 0
  | p + 1, u, w, c => ∃ u' w' c' x, Wy P u0 w0 p u' w' c' ∧ x < 25 ∧ stp P x u' w' = some (u, w) ∧ c = 25 * c' + x
abbrev psE : Type := Nat → Nat → Nat → Nat → Prop
/-- the ways whose last pass (with its wait) began ahead of now -/
def We (P : pP) (w0 now : Nat) : psE := fun p u w c => p ≤ 6 ∧ match p with
  | 0 => u = 0 ∧ w = w0 ∧ c = 0
  | p + 1 => ∃ u' w' c' x, Wy P 0 w0 p u' w' c' ∧ u' < now ∧ x < 25 ∧ stp P x u' w' = some (u, w) ∧ c = 25 * c' + x
theorem Wy_le {P : pP} (hP : pPok P) {u0 w0 : Nat} (hw : w0 ≤ 400) : ∀ {p u w c : Nat}, Wy P u0 w0 p u w c → w ≤ 400 ∧ u0 + 3 * p ≤ u ∧ c < 25 ^ p ∧ (u ≤ 120 ∨ p = 0)
  | 0, u, w, c, h => by obtain ⟨rfl, rfl, rfl⟩ := h; exact ⟨hw, by omega, by decide, Or.inr rfl⟩
  | p + 1, u, w, c, h => by
    obtain ⟨u', w', c', x, h1, h2, h3, h4⟩ := h
    obtain ⟨a1, a2, a3, a4⟩ := Wy_le hP hw h1
    obtain ⟨b1, b2, b3, b4⟩ := stp_le hP h2 h3
    refine ⟨b1, by omega, ?_, Or.inl b4⟩
    rw [h4, Nat.pow_succ]; omega
def eAdd (E : psE) (p u w c : Nat) : psE := fun p' u' w' c' => E p' u' w' c' ∨ (p' = p ∧ u' = u ∧ w' = w ∧ c' = c)
/-! what the rows hold of a set of ways -/
def pIB (I : Nat → Nat → Int32) (q : Nat) (E : psE) : Prop := ∀ p, p ≤ 6 → (I (q + 4) p = nI 1000 ∧ I (q + 5) p = nI 0 ∧ ∀ u w c, ¬ E p u w c) ∨ (∃ u c, I (q + 4) p = nI u ∧ I (q + 5) p = nI (c + 1) ∧ (∃ w, E p u w c) ∧ ∀ u' w' c', E p u' w' c' → u < u' ∨ (u = u' ∧ c ≤ c'))
def pIC (I : Nat → Nat → Int32) (q : Nat) (E : psE) (now dn : Nat) : Prop := ∀ p, p < 6 → ∀ u, now + (if p < dn then 1 else 0) ≤ u → u < now + (if p < dn then 1 else 0) + 16 → ∀ w, w ≤ 400 → (I (q + 1) ((u % 16 * 6 + p) * 401 + w) = nI 0 ∧ ∀ c, ¬ E p u w c) ∨ (∃ c, I (q + 1) ((u % 16 * 6 + p) * 401 + w) = nI (c + 1) ∧ E p u w c ∧ ∀ c', E p u w c' → c ≤ c')
def pIR (I : Nat → Nat → Int32) (q : Nat) : Prop := ∀ t, t < 96 → ∃ lo hi : Nat, lo ≤ 401 ∧ hi ≤ 401 ∧ I (q + 2) t = nI lo ∧ I (q + 3) t = zI ((hi : Int) - 1) ∧ ∀ w, w ≤ 400 → I (q + 1) (t * 401 + w) ≠ nI 0 → lo ≤ w ∧ w < hi
def pEb (E : psE) : Prop := ∀ p u w c, E p u w c → u ≤ 120 ∧ w ≤ 400 ∧ c < 244140625
theorem eAdd_b {E : psE} {p u w c : Nat} (h : pEb E) (hu : u ≤ 120) (hw : w ≤ 400) (hc : c < 244140625) : pEb (eAdd E p u w c) := by
  rintro p' u' w' c' (h' | ⟨rfl, rfl, rfl, rfl⟩)
  · exact h _ _ _ _ h'
  · exact ⟨hu, hw, hc⟩
/-- a smaller set that has all the least ones serves as well -/
theorem pIB.dom {I : Nat → Nat → Int32} {q : Nat} {E F : psE} (h : pIB I q E) (h1 : ∀ p u w c, E p u w c → F p u w c) (h2 : ∀ p u w c, F p u w c → ∃ c', c' ≤ c ∧ E p u w c') : pIB I q F := by
  intro p hp
  rcases h p hp with ⟨a, b, c⟩ | ⟨u, c, a, b, ⟨w, e⟩, g⟩
  · refine Or.inl ⟨a, b, fun u w c' hF => ?_⟩
    obtain ⟨c'', -, hE⟩ := h2 _ _ _ _ hF
    exact c u w c'' hE
  · refine Or.inr ⟨u, c, a, b, ⟨w, h1 _ _ _ _ e⟩, fun u' w' c' hF => ?_⟩
    obtain ⟨c'', hc, hE⟩ := h2 _ _ _ _ hF
    have := g _ _ _ hE
    omega
theorem pIC.dom {I : Nat → Nat → Int32} {q now dn : Nat} {E F : psE} (h : pIC I q E now dn) (h1 : ∀ p u w c, E p u w c → F p u w c) (h2 : ∀ p u w c, F p u w c → ∃ c', c' ≤ c ∧ E p u w c') : pIC I q F now dn := by
  intro p hp u hu hu' w hw
  rcases h p hp u hu hu' w hw with ⟨a, b⟩ | ⟨c, a, b, g⟩
  · refine Or.inl ⟨a, fun c hF => ?_⟩
    obtain ⟨c', -, hE⟩ := h2 _ _ _ _ hF
    exact b c' hE
  · refine Or.inr ⟨c, a, h1 _ _ _ _ b, fun c' hF => ?_⟩
    obtain ⟨c'', hc, hE⟩ := h2 _ _ _ _ hF
    have := g _ hE
    omega
