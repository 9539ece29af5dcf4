/-! ===== words for loops and rows ===== -/
/-- f below i in the row v -/
def bl_fill {α : Type} (I : Nat → Nat → α) (v : Nat) (f : Nat → α) (i : Nat) : Nat → Nat → α := fun x j => if x = v ∧ j < i then f j else I x j
theorem bl_fill_0 {α : Type} (I : Nat → Nat → α) (v : Nat) (f : Nat → α) : bl_fill I v f 0 = I := by
  funext x j; simp [bl_fill]
theorem bl_fill_s {α : Type} (I : Nat → Nat → α) (v : Nat) (f : Nat → α) (i : Nat) : bl_up2 (bl_fill I v f i) v i (f i) = bl_fill I v f (i + 1) := by
  funext x j
  unfold bl_up2 bl_fill
  by_cases h1 : x = v
  · by_cases h2 : j = i
    · simp [h1, h2]
    · by_cases h3 : j < i
      · simp [h1, h2, h3, Nat.lt_succ_of_lt h3]
      · have h4 : ¬ j < i + 1 := by omega
        simp [h1, h2, h3, h4]
  · simp [h1]
theorem bl_fill_ne {α : Type} {I : Nat → Nat → α} {v : Nat} {f : Nat → α} {i x : Nat} (h : x ≠ v) : bl_fill I v f i x = I x := by
  funext j; simp [bl_fill, h]
theorem bl_fill_at {α : Type} {I : Nat → Nat → α} {v : Nat} {f : Nat → α} {i j : Nat} (h : j < i) : bl_fill I v f i v j = f j := by
  simp [bl_fill, h]
theorem bl_fill_out {α : Type} {I : Nat → Nat → α} {v : Nat} {f : Nat → α} {i j : Nat} (h : ¬ j < i) : bl_fill I v f i v j = I v j := by
  simp [bl_fill, h]
/-- a loop from i up to n: at n it goes on, below n it comes to i + 1 -/
theorem bl_for {P : Nat → Prop} (n : Nat) (he : P n) (hs : ∀ i, i < n → P (i + 1) → P i) : ∀ i, i ≤ n → P i := by
  intro i hi
  obtain ⟨k, rfl⟩ : ∃ k, n = i + k := ⟨n - i, by omega⟩
  clear hi
  induction k generalizing i with
  | zero => exact he
  | succ k ih =>
    refine hs i (by omega) (ih (i + 1) ?_ ?_)
    · rw [show i + 1 + k = i + (k + 1) by omega]; exact he
    · intro j hj h
      exact hs j (by omega) h
theorem bl_in {i n : Nat} {N : Nat} (hN : N = n) (h : i < n) (hn : n < 2 ^ 31 := by decide) : vp_in (nI i) N := by
  rw [hN]; exact vp_in_nI h hn
theorem bl_kr {k kd : Nat} (h : k = kd) (h1 : 20 ≤ kd := by decide) (h2 : kd ≤ 26 := by decide) : 20 ≤ k ∧ k ≤ 26 := by omega
theorem bl_nge {N n i : Nat} (hN : N = n) (hi : i < n) (hn : n < 2 ^ 31 := by decide) : ¬ Int32.ofNat N ≤ nI i := by
  rw [hN]; exact nI_ge hi hn
theorem bl_nle {N n : Nat} (hN : N = n) : Int32.ofNat N ≤ nI n := by
  rw [hN]; exact Int32.le_refl _
section KITCHEN
variable {G : bl_G} {l : Launch} {d a v t g u : Nat} {I : Nat → Nat → Int32} {J : Nat → Nat → Int64} {R : Nat → Nat → Option Nat} {K N : Nat → Nat}
theorem c_Kitchen_firstUnit (hK : K a = 3) (hv : R a 0 = some v) (hKv : K v = 20) (hNv : N v = 9) : bl_MC G l d mX2_firstUnit [.ref a] (I, J, R, K, N) (0, 0) (fun o σ' => o = .inl (some (.int (12 * I v 8))) ∧ σ' = (I, J, R, K, N)) := by
  refine bl_MC_intro (by decide +kernel) rfl (Nat.le_of_ble_eq_true rfl) ?_
  refine bl_go oX2_firstUnit 20 [] rfl ?_
  exact ⟨hK, _, bl_vs hv, Or.inl ⟨hKv, bl_in (i := 8) hNv (by decide), (fun h => by cases h), rfl, rfl⟩⟩
theorem c_Kitchen_clear (hK : K a = 3) (hv : R a 0 = some v) (hKv : K v = 20) (hNv : N v = 9) (ht : R a 1 = some t) (hKt : K t = 20) (hNt : N t = 24) (hU : K u = 100) : bl_MC G l d mX2_clear [.ref a] (I, J, R, K, N) (0, 0) (fun o σ' => o = .inl none ∧ σ' = (bl_fill (bl_fill I v (fun i => ([6, 4, 0, 1000, 4, 8, 18, 10, 6] : List Int32).getD i 0) 9) t (fun _ => -1) 24, J, R, K, N)) := by
  refine bl_MC_intro (by decide +kernel) rfl (Nat.le_of_ble_eq_true rfl) ?_
  have L2 : ∀ i, i ≤ 24 → bl_WP G l d mX2_clear 38 [(1, .int (nI i)), (0, .ref a)] [] (bl_fill (bl_fill I v (fun i => ([6, 4, 0, 1000, 4, 8, 18, 10, 6] : List Int32).getD i 0) 9) t (fun _ => -1) i, J, R, K, N) (0, 0) (fun o σ' => o = .inl none ∧ σ' = (bl_fill (bl_fill I v (fun i => ([6, 4, 0, 1000, 4, 8, 18, 10, 6] : List Int32).getD i 0) 9) t (fun _ => -1) 24, J, R, K, N)) := by
    refine bl_for 24 ?_ (fun i hi ih => ?_)
    · refine bl_go oX2_clear 30 [38] rfl ?_
      exact ⟨fun _ => ⟨rfl, rfl⟩, fun h => absurd (show (24 : Int32) ≤ nI 24 by decide) h⟩
    · refine bl_go oX2_clear 30 [38] rfl ?_
      refine ⟨fun h => absurd h (nI_ge (b := 24) hi (by decide)), fun _ => ⟨hK, _, bl_vs ht, hKt, bl_in hNt hi, ?_⟩⟩
      have e : (nI i).toNatClampNeg = i := nI_clamp (by omega)
      rw [← bl_fill_s, ← nI_1] at ih
      rw [e]
      exact ih
  have L1 : ∀ i, i ≤ 9 → bl_WP G l d mX2_clear 2 [(1, .int (nI i)), (0, .ref a)] [] (bl_fill I v (fun i => ([6, 4, 0, 1000, 4, 8, 18, 10, 6] : List Int32).getD i 0) i, J, R, K, N) (0, 0) (fun o σ' => o = .inl none ∧ σ' = (bl_fill (bl_fill I v (fun i => ([6, 4, 0, 1000, 4, 8, 18, 10, 6] : List Int32).getD i 0) 9) t (fun _ => -1) 24, J, R, K, N)) := by
    refine bl_for 9 ?_ (fun i hi ih => ?_)
    · refine bl_go oX2_clear 30 [2, 38] rfl ?_
      refine ⟨hK, _, bl_vs hv, Or.inl ⟨bl_kr hKv, fun _ => ?_, fun h => absurd (bl_nle hNv) h⟩⟩
      have := L2 0 (by decide)
      rw [bl_fill_0] at this
      exact this
    · refine bl_go oX2_clear 30 [2, 38] rfl ?_
      have e : (nI i).toNatClampNeg = i := nI_clamp (by omega)
      refine ⟨hK, _, bl_vs hv, Or.inl ⟨bl_kr hKv, fun h => absurd h (bl_nge hNv hi), fun _ => ⟨u, hU, Or.inr (Or.inl ⟨0, _, rfl, hU, fun h => absurd h (nI_ge (b := 9) hi (by decide)), fun _ => ⟨hK, _, bl_vs hv, u, hU, Or.inr (Or.inl ⟨0, _, rfl, hU, bl_in (n := 9) rfl hi, hKv, bl_in hNv hi, ?_⟩)⟩⟩)⟩⟩⟩
      rw [← bl_fill_s, ← nI_1] at ih
      rw [e]
      exact ih
  refine bl_go oX2_clear 2 [2] rfl ?_
  have := L1 0 (by decide)
  rw [bl_fill_0] at this
  exact this
end KITCHEN
