/-! ===== a run along a table, and what makes a table good ===== -/
def bl_rn (G : bl_G) (l : Launch) (d : Nat) (M : bl_MR) (T : List (Nat × bl_I)) (cs : List Nat) (Q : bl_Out → bl_Mem → Prop) : Nat → Nat → List (Nat × Value) → List Value → bl_Mem → Nat × Nat → Prop
  | 0, pc, lv, st, σ, b => bl_WP G l d M pc lv st σ b Q
  | n + 1, pc, lv, st, σ, b => if cs.contains pc then bl_WP G l d M pc lv st σ b Q else match T.lookup pc with
    | some i => bl_ex G l d M pc lv st σ b Q (bl_rn G l d M T cs Q n) i
    | none => False
theorem bl_lookup_mem : ∀ {T : List (Nat × bl_I)} {pc : Nat} {i : bl_I}, T.lookup pc = some i → (pc, i) ∈ T
  | [], _, _, h => by simp at h
  | (j, w) :: T, pc, i, h => by
    rw [List.lookup_cons] at h
    by_cases e : pc = j
    · subst e; simp at h; subst h; exact List.mem_cons_self
    · have e' : (pc == j) = false := by simpa using e
      simp only [e'] at h
      exact List.mem_cons_of_mem _ (bl_lookup_mem h)
theorem bl_rn_sound {G : bl_G} {l : Launch} {d : Nat} {M : bl_MR} {T : List (Nat × bl_I)} {cs : List Nat} {Q : bl_Out → bl_Mem → Prop} (hT : bl_okT M T) : ∀ (n pc : Nat) (lv : List (Nat × Value)) (st : List Value) (σ : bl_Mem) (b : Nat × Nat), bl_rn G l d M T cs Q n pc lv st σ b → bl_WP G l d M pc lv st σ b Q
  | 0, _, _, _, _, _, h => h
  | n + 1, pc, lv, st, σ, b, h => by
    unfold bl_rn at h
    split at h
    · exact h
    · split at h
      · rename_i i hi
        exact bl_step (i := i) (K := bl_rn G l d M T cs Q n) (hT (pc, i) (bl_lookup_mem hi)) (fun pc lv st σ b => bl_rn_sound hT n pc lv st σ b) h
      · exact h.elim
/-- from pc on, at least one step, till a place of cs (or n steps) -/
theorem bl_go {G : bl_G} {l : Launch} {d : Nat} {M : bl_MR} {T : List (Nat × bl_I)} (hT : bl_okT M T) (n : Nat) (cs : List Nat) {Q : bl_Out → bl_Mem → Prop} {pc : Nat} {lv : List (Nat × Value)} {st : List Value} {σ : bl_Mem} {b : Nat × Nat} {i : bl_I} (hi : T.lookup pc = some i) (h : bl_ex G l d M pc lv st σ b Q (bl_rn G l d M T cs Q n) i) : bl_WP G l d M pc lv st σ b Q := bl_step (i := i) (K := bl_rn G l d M T cs Q n) (hT (pc, i) (bl_lookup_mem hi)) (fun pc lv st σ b => bl_rn_sound hT n pc lv st σ b) h
theorem bl_MC_mono {G : bl_G} {l : Launch} {d : Nat} {M : bl_MR} {as : List Value} {σ : bl_Mem} {b : Nat × Nat} {Q Q' : bl_Out → bl_Mem → Prop} (h : bl_MC G l d M as σ b Q) (hq : ∀ o σ', Q o σ' → Q' o σ') : bl_MC G l d M as σ b Q' := by
  intro φ hl p e ha hc hk s m args below hf happ hP hK
  obtain ⟨k, o, h1, h2, h3, hQ⟩ := h φ hl p e ha hc hk s m args below hf happ hP hK
  refine ⟨k, o, h1, h2, h3, ?_⟩
  rcases hQ with ⟨⟨⟨φ1, σ1, v1, q1, q2, q3⟩, q4⟩, q5⟩ | ⟨q, e1, E, ce, L, ⟨⟨φ1, σ1, q2, q3⟩, q4⟩, q5⟩
  · exact Or.inl ⟨⟨⟨φ1, σ1, v1, q1, hq _ _ q2, q3⟩, q4⟩, q5⟩
  · exact Or.inr ⟨q, e1, E, ce, L, ⟨⟨φ1, σ1, hq _ _ q2, q3⟩, q4⟩, q5⟩
/-- fewer locals are enough -/
theorem bl_WP_sub {G : bl_G} {l : Launch} {d : Nat} {M : bl_MR} {pc : Nat} {lv lv' : List (Nat × Value)} {st : List Value} {σ : bl_Mem} {b : Nat × Nat} {Q : bl_Out → bl_Mem → Prop} (hs : ∀ q ∈ lv', q ∈ lv) (h : bl_WP G l d M pc lv' st σ b Q) : bl_WP G l d M pc lv st σ b Q := by
  intro p e R s m args below meth c H locs cells slots mc ms φ φ0 K0 ls S hl hv hst
  refine h p e R s m args below meth c H locs cells slots mc ms φ φ0 K0 ls S ⟨hl.1, hl.2.1, fun q hq => ?_⟩ (fun q hq => hv q (hs q hq)) hst
  obtain ⟨q', hq', rfl⟩ := List.mem_map.mp hq
  exact hl.2.2 _ (List.mem_map.mpr ⟨q', hs q' hq', rfl⟩)
/-- the same by places -/
theorem bl_lv {G : bl_G} {l : Launch} {d : Nat} {M : bl_MR} {pc : Nat} {lv lv' : List (Nat × Value)} {st : List Value} {σ : bl_Mem} {b : Nat × Nat} {Q : bl_Out → bl_Mem → Prop} (ks : List Nat) (hl : lv_pick lv ks = lv') (h : bl_WP G l d M pc lv' st σ b Q) : bl_WP G l d M pc lv st σ b Q := by
  refine bl_WP_sub (fun q hq => ?_) h
  rw [← hl] at hq
  obtain ⟨k, -, hk⟩ := List.mem_filterMap.mp hq
  exact List.mem_of_getElem? hk
theorem bl_WP_mono {G : bl_G} {l : Launch} {d : Nat} {M : bl_MR} {pc : Nat} {lv : List (Nat × Value)} {st : List Value} {σ : bl_Mem} {b : Nat × Nat} {Q Q' : bl_Out → bl_Mem → Prop} (h : bl_WP G l d M pc lv st σ b Q) (hq : ∀ o σ', Q o σ' → Q' o σ') : bl_WP G l d M pc lv st σ b Q' := by
  intro p e R s m args below meth c H locs cells slots mc ms φ φ0 K0 ls S hl hv hst T hT X
  obtain ⟨t, h1, o, h2, h3, hQ⟩ := h p e R s m args below meth c H locs cells slots mc ms φ φ0 K0 ls S hl hv hst T hT X
  refine ⟨t, h1, o, h2, h3, ?_⟩
  rcases hQ with ⟨⟨⟨φ1, σ1, v1, q1, q2, q3⟩, q4⟩, q5⟩ | ⟨q, e1, E, ce, L, ⟨⟨φ1, σ1, q2, q3⟩, q4⟩, q5⟩
  · exact Or.inl ⟨⟨⟨φ1, σ1, v1, q1, hq _ _ q2, q3⟩, q4⟩, q5⟩
  · exact Or.inr ⟨q, e1, E, ce, L, ⟨⟨φ1, σ1, hq _ _ q2, q3⟩, q4⟩, q5⟩
