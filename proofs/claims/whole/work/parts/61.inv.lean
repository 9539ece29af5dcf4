/-! ===== a step of the table is a step of the machine ===== -/
theorem bl_pi_inv {st : List Value} {k : Int32 → List Value → Prop} (h : bl_pi st k) : ∃ x r, st = .int x :: r ∧ k x r := by
  unfold bl_pi at h
  split at h
  · exact ⟨_, _, rfl, h⟩
  · exact h.elim
theorem bl_pj_inv {st : List Value} {k : Int64 → List Value → Prop} (h : bl_pj st k) : ∃ x r, st = .long x :: r ∧ k x r := by
  unfold bl_pj at h
  split at h
  · exact ⟨_, _, rfl, h⟩
  · exact h.elim
theorem bl_pr_inv {st : List Value} {k : Nat → List Value → Prop} (h : bl_pr st k) : ∃ x r, st = .ref x :: r ∧ k x r := by
  unfold bl_pr at h
  split at h
  · exact ⟨_, _, rfl, h⟩
  · exact h.elim
theorem bl_li_inv {v : Option Value} {k : Int32 → Prop} (h : bl_li v k) : ∃ x, v = some (.int x) ∧ k x := by
  unfold bl_li at h
  split at h
  · exact ⟨_, rfl, h⟩
  · exact h.elim
theorem bl_lj_inv {v : Option Value} {k : Int64 → Prop} (h : bl_lj v k) : ∃ x, v = some (.long x) ∧ k x := by
  unfold bl_lj at h
  split at h
  · exact ⟨_, rfl, h⟩
  · exact h.elim
theorem bl_la_inv {v : Option Value} {k : Value → Prop} (h : bl_la v k) : (∃ x, v = some (.ref x) ∧ k (.ref x)) ∨ (v = some .null ∧ k .null) := by
  unfold bl_la at h
  split at h
  · exact Or.inl ⟨_, rfl, h⟩
  · exact Or.inr ⟨rfl, h⟩
  · exact h.elim
theorem bl_c1_inv {v : Value} (h : bl_c1 v = true) : v.category = 1 := by simpa [bl_c1] using h
