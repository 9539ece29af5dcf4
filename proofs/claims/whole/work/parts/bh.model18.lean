/-! ===== Model: cutting ===== -/
theorem bl_up2_tw {f : Nat → Nat → Int64} {x k : Nat} {v u : Int64} : bl_up2 (bl_up2 f x k v) x k u = bl_up2 f x k u := by
  funext y j
  unfold bl_up2
  by_cases e : y = x ∧ j = k
  · rw [if_pos e, if_pos e]
  · rw [if_neg e, if_neg e, if_neg e]
/-- sheets cut away so far -/
def ctT (n w h : Nat) (S : Nat → Nat → Nat) : Nat → Nat
  | 0 => 0
  | i + 1 => ctT n w h S i + (if i < n ∨ w - n ≤ i then smf (S i) h else 0)
theorem cN_up {I : Nat → Nat → Int32} {J : Nat → Nat → Int64} {m c b s k : Nat} {v : Int64} (h : cN I J m c b s) : cN I (bl_up2 J m k v) m c b s := by
  unfold cN
  rw [bl_up2_ne (show m + 34 ≠ m by omega), bl_up2_ne (show m + 35 ≠ m by omega), bl_up2_ne (show m + 36 ≠ m by omega)]
  exact h
theorem cO_up {I : Nat → Nat → Int32} {J : Nat → Nat → Int64} {m c b s k : Nat} {v : Int64} (h : cO I J m c b s) : cO I (bl_up2 J m k v) m c b s := by
  unfold cO
  rw [bl_up2_ne (show m + 31 ≠ m by omega), bl_up2_ne (show m + 32 ≠ m by omega), bl_up2_ne (show m + 33 ≠ m by omega)]
  exact h
theorem lpF_up {I I1 : Nat → Nat → Int32} {J J1 : Nat → Nat → Int64} {m k : Nat} {v u : Int64} (h : lpF I I1 (bl_up2 J m k u) J1 m) : lpF I I1 (bl_up2 J m k v) (bl_up2 J1 m k v) m := by
  refine ⟨h.1, fun x x1 x2 x3 x4 => ?_⟩
  by_cases e : x = m
  · subst e
    funext j
    have hx := h.2 x x1 x2 x3 x4
    unfold bl_up2 at hx ⊢
    by_cases ej : j = k
    · simp [ej]
    · have := congrFun hx j
      simp [ej] at this ⊢
      exact this
  · rw [bl_up2_ne e, bl_up2_ne e, h.2 x x1 x2 x3 x4, bl_up2_ne e]
section MODEL18
variable {G : bl_G} {l : Launch} {d m : Nat} {I : Nat → Nat → Int32} {J : Nat → Nat → Int64} {R : Nat → Nat → Option Nat} {K N : Nat → Nat} {n w h : Nat} {B S : Nat → Nat → Nat}
end MODEL18
