/-! ===== ints as images of integers, rows as functions ===== -/
def zI (a : Int) : Int32 := Int32.ofInt a
theorem zI_n (n : Nat) : nI n = zI (n : Int) := (Int32.ofInt_eq_ofNat).symm
theorem zI_o (n : Nat) : Int32.ofNat n = zI (n : Int) := (Int32.ofInt_eq_ofNat).symm
theorem zI_lit (n : Nat) : (OfNat.ofNat n : Int32) = zI (OfNat.ofNat n : Int) := (Int32.ofInt_eq_ofNat (n := n)).symm
theorem zI_neg (a : Int) : - zI a = zI (-a) := (Int32.ofInt_neg a).symm
theorem zI_add (a b : Int) : zI a + zI b = zI (a + b) := (Int32.ofInt_add a b).symm
theorem zI_sub (a b : Int) : zI a - zI b = zI (a - b) := (Int32.ofInt_sub a b).symm
theorem zI_mul (a b : Int) : zI a * zI b = zI (a * b) := (Int32.ofInt_mul a b).symm
theorem zI_toInt {a : Int} (h1 : -2147483648 ≤ a) (h2 : a < 2147483648) : (zI a).toInt = a := Int32.toInt_ofInt_of_le h1 h2
theorem zI_lt {a b : Int} (h1 : -2147483648 ≤ a) (h2 : a < 2147483648) (h3 : -2147483648 ≤ b) (h4 : b < 2147483648) : zI a < zI b ↔ a < b := by
  rw [Int32.lt_iff_toInt_lt, zI_toInt h1 h2, zI_toInt h3 h4]
theorem zI_le {a b : Int} (h1 : -2147483648 ≤ a) (h2 : a < 2147483648) (h3 : -2147483648 ≤ b) (h4 : b < 2147483648) : zI a ≤ zI b ↔ a ≤ b := by
  rw [Int32.le_iff_toInt_le, zI_toInt h1 h2, zI_toInt h3 h4]
theorem zI_eq {a b : Int} (h1 : -2147483648 ≤ a) (h2 : a < 2147483648) (h3 : -2147483648 ≤ b) (h4 : b < 2147483648) : zI a = zI b ↔ a = b := by
  rw [← Int32.toInt_inj, zI_toInt h1 h2, zI_toInt h3 h4]
theorem zI_clamp {a : Int} (h1 : -2147483648 ≤ a) (h2 : a < 2147483648) : (zI a).toNatClampNeg = a.toNat := by
  show (zI a).toInt.toNat = a.toNat
  rw [zI_toInt h1 h2]
theorem zI_in {a : Int} {N : Nat} (h1 : -2147483648 ≤ a) (h2 : a < 2147483648) : vp_in (zI a) N ↔ 0 ≤ a ∧ a < N := by
  rw [vp_in_iff, zI_toInt h1 h2]
theorem zI_tdiv {a b : Int} (h1 : -2147483648 < a) (h2 : a < 2147483648) (h3 : -2147483648 ≤ b) (h4 : b < 2147483648) : zI a / zI b = zI (a.tdiv b) := by
  refine (Int32.ofInt_tdiv ?_ ?_ ?_ ?_).symm
  all_goals first
    | (show (-2147483648 : Int) ≤ _; omega)
    | (show _ ≤ (2147483647 : Int); omega)
theorem zI_div {a b : Int} (h1 : 0 ≤ a) (h2 : a < 2147483648) (h3 : 0 ≤ b) (h4 : b < 2147483648) : zI a / zI b = zI (a / b) := by
  rw [zI_tdiv (by omega) h2 (by omega) h4, Int.tdiv_eq_ediv_of_nonneg h1]
theorem zI_rem {a b : Int} (h1 : 0 ≤ a) (h2 : a < 2147483648) (h3 : 0 ≤ b) (h4 : b < 2147483648) : zI a - zI a / zI b * zI b = zI (a % b) := by
  rw [zI_div h1 h2 h3 h4, zI_mul, zI_sub]
  congr 1
  have := Int.mul_ediv_add_emod a b
  rw [Int.mul_comm] at this
  omega
/-- an int that two tests hold in a range is the image of a number -/
theorem zI_of (x : Int32) : ∃ a : Int, -2147483648 ≤ a ∧ a < 2147483648 ∧ x = zI a :=
  ⟨x.toInt, x.le_toInt, x.toInt_lt, (Int32.ofInt_toInt x).symm⟩
theorem lgq_lt0 (x y : Int64) : lg_cmp x y < 0 ↔ x < y := by
  unfold lg_cmp
  by_cases h : y < x
  · rw [if_pos h]; exact ⟨fun h => absurd h (by decide), fun h2 => absurd (Int64.lt_trans h h2) (Int64.lt_irrefl)⟩
  · rw [if_neg h]
    by_cases e : x = y
    · rw [if_pos e]; subst e; exact ⟨fun h => absurd h (by decide), fun h2 => absurd h2 h⟩
    · rw [if_neg e]; exact ⟨fun _ => Int64.lt_of_le_of_ne (Int64.not_lt.mp h) e, fun _ => by decide⟩
theorem lgq_gt0 (x y : Int64) : 0 < lg_cmp x y ↔ y < x := by
  unfold lg_cmp
  by_cases h : y < x
  · rw [if_pos h]; exact ⟨fun _ => h, fun _ => by decide⟩
  · rw [if_neg h]
    by_cases e : x = y
    · rw [if_pos e]; exact ⟨fun h => absurd h (by decide), fun h2 => absurd h2 h⟩
    · rw [if_neg e]; exact ⟨fun h => absurd h (by decide), fun h2 => absurd h2 h⟩
theorem lgq_eq0 (x y : Int64) : lg_cmp x y = 0 ↔ x = y := by
  unfold lg_cmp
  by_cases h : y < x
  · rw [if_pos h]; exact ⟨fun h => absurd h (by decide), fun e => by subst e; exact absurd h Int64.lt_irrefl⟩
  · rw [if_neg h]
    by_cases e : x = y
    · rw [if_pos e]; exact ⟨fun _ => e, fun _ => rfl⟩
    · rw [if_neg e]; exact ⟨fun h => absurd h (by decide), fun h2 => absurd h2 e⟩
theorem lgq_le0 (x y : Int64) : lg_cmp x y ≤ 0 ↔ ¬ y < x := by
  rw [← lgq_gt0, Int32.not_lt]
theorem lgq_ge0 (x y : Int64) : 0 ≤ lg_cmp x y ↔ ¬ x < y := by
  rw [← lgq_lt0, Int32.not_lt]
theorem lg_lt0 (x y : Int64) : lg_cmp x y < zI 0 ↔ x < y := lgq_lt0 x y
theorem lg_gt0 (x y : Int64) : zI 0 < lg_cmp x y ↔ y < x := lgq_gt0 x y
theorem lg_eq0 (x y : Int64) : lg_cmp x y = zI 0 ↔ x = y := lgq_eq0 x y
theorem lg_le0 (x y : Int64) : lg_cmp x y ≤ zI 0 ↔ ¬ y < x := lgq_le0 x y
theorem lg_ge0 (x y : Int64) : zI 0 ≤ lg_cmp x y ↔ ¬ x < y := lgq_ge0 x y
/-! longs as images of naturals -/
def nJ (n : Nat) : Int64 := Int64.ofNat n
theorem nJ_add (a b : Nat) : nJ a + nJ b = nJ (a + b) := (Int64.ofNat_add a b).symm
theorem nJ_mul (a b : Nat) : nJ a * nJ b = nJ (a * b) := (Int64.ofNat_mul a b).symm
theorem nJ_toInt {n : Nat} (h : n < 9223372036854775808) : (nJ n).toInt = n := Int64.toInt_ofNat_of_lt h
theorem nJ_eq {a b : Nat} (ha : a < 9223372036854775808) (hb : b < 9223372036854775808) : nJ a = nJ b ↔ a = b := by
  rw [← Int64.toInt_inj, nJ_toInt ha, nJ_toInt hb, Int.ofNat_inj]
theorem nJ_lt {a b : Nat} (ha : a < 9223372036854775808) (hb : b < 9223372036854775808) : nJ a < nJ b ↔ a < b := by
  rw [Int64.lt_iff_toInt_lt, nJ_toInt ha, nJ_toInt hb, Int.ofNat_lt]
theorem nJ_le {a b : Nat} (ha : a < 9223372036854775808) (hb : b < 9223372036854775808) : nJ a ≤ nJ b ↔ a ≤ b := by
  rw [Int64.le_iff_toInt_le, nJ_toInt ha, nJ_toInt hb, Int.ofNat_le]
theorem nJ_lit (n : Nat) : (OfNat.ofNat n : Int64) = nJ (OfNat.ofNat n) := rfl
theorem nJ_ofI {n : Nat} (h : n < 2147483648) : (zI (n : Int)).toInt64 = nJ n := by
  rw [← Int64.toInt_inj, Int32.toInt_toInt64, zI_toInt (by omega) (by omega), nJ_toInt (by omega)]
/-- f below i in the row v -/
def bl_fill {α : Type} (I : Nat → Nat → α) (v : Nat) (f : Nat → α) (i : Nat) : Nat → Nat → α := fun x j => if x = v ∧ j < i then f j else I x j
theorem bl_fill_0 {α : Type} (I : Nat → Nat → α) (v : Nat) (f : Nat → α) : bl_fill I v f 0 = I := by
  funext x j; simp [bl_fill]
theorem bl_fill_s {α : Type} (I : Nat → Nat → α) (v : Nat) (f : Nat → α) (i : Nat) : bl_up2 (bl_fill I v f i) v i (f i) = bl_fill I v f (i + 1) := by
  funext x j
  unfold bl_up2 bl_fill
  by_cases h1 : x = v
  · by_cases h2 : j = i
    · simp [h1, h2]
    · by_cases h3 : j < i
      · simp [h1, h2, h3, Nat.lt_succ_of_lt h3]
      · have h4 : ¬ j < i + 1 := by omega
        simp [h1, h2, h3, h4]
  · simp [h1]
theorem bl_fill_ne {α : Type} {I : Nat → Nat → α} {v : Nat} {f : Nat → α} {i x : Nat} (h : x ≠ v) : bl_fill I v f i x = I x := by
  funext j; simp [bl_fill, h]
theorem bl_fill_at {α : Type} {I : Nat → Nat → α} {v : Nat} {f : Nat → α} {i j : Nat} (h : j < i) : bl_fill I v f i v j = f j := by
  simp [bl_fill, h]
theorem bl_fill_out {α : Type} {I : Nat → Nat → α} {v : Nat} {f : Nat → α} {i j : Nat} (h : ¬ j < i) : bl_fill I v f i v j = I v j := by
  simp [bl_fill, h]
theorem bl_up2_at {α : Type} {f : Nat → Nat → α} {a k : Nat} {v : α} : bl_up2 f a k v a k = v := by simp [bl_up2]
theorem bl_up2_nk {α : Type} {f : Nat → Nat → α} {a k x j : Nat} {v : α} (h : j ≠ k) : bl_up2 f a k v x j = f x j := by simp [bl_up2, h]
def bI (b : Bool) : Int32 := if b then 1 else 0
theorem bI_or1 (b : Bool) : bI b ||| 1 = bI true := by cases b <;> decide +kernel
theorem bI_or0 (b : Bool) : bI b ||| 0 = bI b := by cases b <;> decide +kernel
theorem bI_01 (b : Bool) : bI b = 0 ∨ bI b = 1 := by cases b <;> decide +kernel
theorem bI_0 {b : Bool} : bI b = 0 ↔ b = false := by cases b <;> decide +kernel
theorem bI_1 {b : Bool} : bI b = 1 ↔ b = true := by cases b <;> decide +kernel
theorem bl_up2_nx {α : Type} {f : Nat → Nat → α} {a k x j : Nat} {v : α} (h : x ≠ a) : bl_up2 f a k v x j = f x j := by simp [bl_up2, h]
theorem cl0 : Int32.toNatClampNeg 0 = 0 := by decide +kernel
theorem cl1 : Int32.toNatClampNeg 1 = 1 := by decide +kernel
theorem cl2 : Int32.toNatClampNeg 2 = 2 := by decide +kernel
theorem cl3 : Int32.toNatClampNeg 3 = 3 := by decide +kernel
theorem cl4 : Int32.toNatClampNeg 4 = 4 := by decide +kernel
theorem cl5 : Int32.toNatClampNeg 5 = 5 := by decide +kernel
theorem cl6 : Int32.toNatClampNeg 6 = 6 := by decide +kernel
theorem cl7 : Int32.toNatClampNeg 7 = 7 := by decide +kernel
theorem cl8 : Int32.toNatClampNeg 8 = 8 := by decide +kernel
theorem cl9 : Int32.toNatClampNeg 9 = 9 := by decide +kernel
theorem bl_b01 {x : Int32} (h : x = 0 ∨ x = 1) : Value.int x = .int 0 ∨ Value.int x = .int 1 := by rcases h with h | h <;> simp [h]
/-- a loop from i up to n: at n it goes on, below n it comes to i + 1 -/
theorem bl_for {P : Nat → Prop} (n : Nat) (he : P n) (hs : ∀ i, i < n → P (i + 1) → P i) : ∀ i, i ≤ n → P i := by
  intro i hi
  obtain ⟨k, rfl⟩ : ∃ k, n = i + k := ⟨n - i, by omega⟩
  clear hi
  induction k generalizing i with
  | zero => exact he
  | succ k ih =>
    refine hs i (by omega) (ih (i + 1) ?_ ?_)
    · rw [show i + 1 + k = i + (k + 1) by omega]; exact he
    · intro j hj h
      exact hs j (by omega) h
theorem bl_kr {k kd : Nat} (h : k = kd) (h1 : 20 ≤ kd := by decide) (h2 : kd ≤ 26 := by decide) : 20 ≤ k ∧ k ≤ 26 := by omega
theorem bl_ka {k kd : Nat} (h : k = kd) (h1 : 22 ≤ kd := by decide) (h2 : kd ≤ 26 := by decide) : 22 ≤ k ∧ k ≤ 26 := by omega
