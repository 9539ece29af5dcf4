/-! ===== new objects and rows, under names of our choice ===== -/
def bl_row0 {α : Type} (f : Nat → Nat → α) (a : Nat) (z : α) : Nat → Nat → α := fun x j => if x = a then z else f x j
/-- the name a made: a fresh cell of kind kd and length n -/
def bl_mk (σ : bl_Mem) (a kd n : Nat) : bl_Mem := (bl_row0 σ.1 a 0, bl_row0 σ.2.1 a 0, bl_row0 σ.2.2.1 a none, va_up σ.2.2.2.1 a kd, va_up σ.2.2.2.2 a n)
theorem bl_row0_ne {α : Type} {f : Nat → Nat → α} {a : Nat} {z : α} {x : Nat} (h : x ≠ a) : bl_row0 f a z x = f x := by
  funext j; simp [bl_row0, h]
theorem bl_row0_eq {α : Type} {f : Nat → Nat → α} {a : Nat} {z : α} : bl_row0 f a z a = fun _ => z := by
  funext j; simp [bl_row0]
theorem bl_mk_K {σ : bl_Mem} {a kd n x : Nat} : (bl_mk σ a kd n).2.2.2.1 x = if x = a then kd else σ.2.2.2.1 x := rfl
theorem bl_mk_Kne {σ : bl_Mem} {a kd n x : Nat} (h : x ≠ a) : (bl_mk σ a kd n).2.2.2.1 x = σ.2.2.2.1 x := by rw [bl_mk_K, if_neg h]
theorem bl_mk_Keq {σ : bl_Mem} {a kd n : Nat} : (bl_mk σ a kd n).2.2.2.1 a = kd := by rw [bl_mk_K, if_pos rfl]
theorem bl_rv_up {K φ : Nat → Nat} {a q : Nat} {v : Value} (h : bl_live K v) (ha : K a = 0) : bl_rv (va_up φ a q) v = bl_rv φ v := by
  cases v with
  | ref r =>
    have hr : r ≠ a := fun e => h (by rw [e]; exact ha)
    simp [bl_rv, va_up, hr]
  | _ => rfl
theorem bl_live_mk {σ : bl_Mem} {a kd n : Nat} {v : Value} (hk : kd ≠ 0) (h : bl_live σ.2.2.2.1 v) : bl_live (bl_mk σ a kd n).2.2.2.1 v := by
  cases v with
  | ref r =>
    show (if r = a then kd else σ.2.2.2.1 r) ≠ 0
    split
    · exact hk
    · exact h
  | _ => trivial
theorem bl_cell_mk_ne {cA : Nat → ClassId} {φ : Nat → Nat} {σ : bl_Mem} {a kd n q x : Nat} (hx : x ≠ a) (hr : ∀ k y, σ.2.2.1 x k = some y → y ≠ a) : bl_cell cA (va_up φ a q) (bl_mk σ a kd n) x = bl_cell cA φ σ x := by
  have e1 : ∀ j, (σ.2.2.1 x j).map (va_up φ a q) = (σ.2.2.1 x j).map φ := fun j => by
    cases h : σ.2.2.1 x j with
    | none => rfl
    | some y => simp [va_up, hr j y h]
  have e2 : ∀ k ty, bl_rv (va_up φ a q) (bl_gv (bl_mk σ a kd n) x k ty) = bl_rv φ (bl_gv σ x k ty) := fun k ty => by
    simp only [bl_gv, bl_mk, bl_row0_ne hx]
    split
    · rw [bl_rv_rf, bl_rv_rf, e1]
    · split <;> rfl
  unfold bl_cell bl_fs
  simp only [bl_mk_Kne hx, e2]
  simp only [bl_mk, bl_row0_ne hx, e1, va_up, if_neg hx]
theorem bl_ws_mk {cA : Nat → ClassId} {φ : Nat → Nat} {σ : bl_Mem} {L : List Nat} {a kd n q : Nat} {E : va_E} (hL : a ∉ L) (hr : ∀ x ∈ L, ∀ k y, σ.2.2.1 x k = some y → y ≠ a) (hE : bl_cell cA (va_up φ a q) (bl_mk σ a kd n) a = E) : bl_ws cA φ σ L ++ [(q, E)] = bl_ws cA (va_up φ a q) (bl_mk σ a kd n) (L ++ [a]) := by
  unfold bl_ws
  rw [List.map_append, List.map_singleton, hE]
  congr 1
  · apply List.map_congr_left
    intro x hx
    have hxa : x ≠ a := fun e => hL (e ▸ hx)
    rw [bl_cell_mk_ne hxa (hr x hx)]
    simp [va_up, hxa]
  · simp [va_up]
theorem bl_Rel_mk {G : bl_G} {φ : Nat → Nat} {σ : bl_Mem} {a kd n q : Nat} {E : va_E} {H1 : Heap} {L : List Nat} (hL : ∀ a, a ∈ L ↔ bl_isC (σ.2.2.2.1 a)) (hw : ∀ a k b, bl_isC (σ.2.2.2.1 a) → σ.2.2.1 a k = some b → σ.2.2.2.1 b ≠ 0) (hro : ∀ a j, σ.2.2.2.1 a = 100 + j → φ a = G.2.2.1 j) (ha : σ.2.2.2.1 a = 0) (hkd : bl_isC kd) (hE : bl_cell G.2.1 (va_up φ a q) (bl_mk σ a kd n) a = E)
    (hP1 : va_P G.1 vwCl (bl_ws G.2.1 φ σ L ++ [(q, E)]) H1) (hD1 : va_D (bl_A G) (bl_ws G.2.1 φ σ L ++ [(q, E)])) : bl_Rel G (va_up φ a q) (bl_mk σ a kd n) H1 := by
  have h0 : ¬ bl_isC 0 := by unfold bl_isC; omega
  have haL : a ∉ L := fun h => h0 (by have := (hL a).mp h; rw [ha] at this; exact this)
  have hkd0 : kd ≠ 0 := fun e => h0 (e ▸ hkd)
  have hr : ∀ x ∈ L, ∀ k y, σ.2.2.1 x k = some y → y ≠ a := fun x hx k y hy e => hw x k y ((hL x).mp hx) hy (by rw [e]; exact ha)
  have e := bl_ws_mk (n := n) (kd := kd) (q := q) haL hr hE
  rw [e] at hP1 hD1
  refine ⟨L ++ [a], fun x => ?_, hP1, hD1, fun x k y hx hy => ?_, fun x j hx => ?_⟩
  · rw [bl_mk_K, List.mem_append, List.mem_singleton]
    by_cases hxa : x = a
    · simp [hxa, hkd]
    · simp [hxa, hL x]
  · rw [bl_mk_K] at hx ⊢
    by_cases hya : y = a
    · rw [if_pos hya]; exact hkd0
    · rw [if_neg hya]
      by_cases hxa : x = a
      · simp [bl_mk, bl_row0, hxa] at hy
      · rw [if_neg hxa] at hx
        simp [bl_mk, bl_row0, hxa] at hy
        exact hw x k y hx hy
  · by_cases hxa : x = a
    · subst hxa
      rw [bl_mk_Keq] at hx
      rcases hkd with h | h <;> omega
    · rw [bl_mk_Kne hxa] at hx
      simp [va_up, hxa, hro x j hx]
theorem bl_def {ty : FieldType} (h : bl_tok ty = true) (φ : Nat → Nat) (σ : bl_Mem) (a kd n k : Nat) : defaultValue ty = bl_rv φ (bl_gv (bl_mk σ a kd n) a k ty) := by
  cases ty <;> simp [bl_tok] at h <;> simp [bl_gv, bl_isR, bl_isL, bl_mk, bl_row0, bl_rv, va_rf, defaultValue]
theorem bl_ty_tok : ∀ ci, ci < 12 → ∀ k, k < 63 → bl_tok (bl_ty ci k) = true := by decide +kernel
theorem bl_nf_le : ∀ ci, ci < 12 → bl_nf ci ≤ 63 := by decide +kernel
theorem bl_has_up {ls : Array Slot} {nL : Nat} {lv : List (Nat × Value)} {φ K : Nat → Nat} {a q : Nat} (h : lv_has ls nL (lv.map (fun q => (q.1, bl_rv φ q.2)))) (hv : ∀ q ∈ lv, bl_live K q.2) (ha : K a = 0) : lv_has ls nL (lv.map (fun x => (x.1, bl_rv (va_up φ a q) x.2))) := by
  have e : lv.map (fun x => (x.1, bl_rv (va_up φ a q) x.2)) = lv.map (fun x => (x.1, bl_rv φ x.2)) := List.map_congr_left (fun x hx => by rw [bl_rv_up (hv x hx) ha])
  rw [e]; exact h
theorem bl_st_up {st : List Value} {φ K : Nat → Nat} {a q : Nat} (hv : ∀ v ∈ st, bl_live K v) (ha : K a = 0) : st.map (bl_rv (va_up φ a q)) = st.map (bl_rv φ) := List.map_congr_left (fun x hx => bl_rv_up (hv x hx) ha)
theorem bl_Ext.mk {φ0 K0 φ : Nat → Nat} {σ : bl_Mem} {a kd n q : Nat} (h : bl_Ext φ0 K0 φ σ.2.2.2.1) (ha : σ.2.2.2.1 a = 0) : bl_Ext φ0 K0 (va_up φ a q) (bl_mk σ a kd n).2.2.2.1 := by
  intro x hx
  obtain ⟨h1, h2⟩ := h x hx
  have hxa : x ≠ a := fun e => h2 (e ▸ ha)
  exact ⟨by simp [va_up, hxa, h1], by rw [bl_mk_Kne hxa]; exact h2⟩
theorem bl_A_up {G : bl_G} {s : State} (h : bl_CX G s s.heap) : ∀ q, s.heap.size ≤ q → bl_A G q := fun _ hq => Nat.le_trans h.1 hq
section BLM
variable {G : bl_G} {l : Launch} {d : Nat} {M : bl_MR} {pc : Nat} {lv : List (Nat × Value)} {st : List Value} {σ : bl_Mem} {b : Nat × Nat} {Q : bl_Out → bl_Mem → Prop}
theorem bl_s_new (a : Nat) {idx ci : Nat} {r : vw_C} (hd : decode M.2.1 pc = .ok (.new idx, 3)) (hc : vwCl[ci]? = some r) (hw1 : Cond.classLink M.1.cls idx r.1 ∈ bl_gw) (hw2 : Cond.instantiable r.1 r.2.2 ∈ bl_gw) (hw3 : Cond.initialized r.1 ∈ bl_gw) (ha : σ.2.2.2.1 a = 0) (hb1 : 1 ≤ b.1) (hb2 : r.2.2 ≤ b.2) (h : bl_WP G l d M (pc + 3) lv (.ref a :: st) (bl_mk σ a (ci + 1) 0) (b.1 - 1, b.2 - r.2.2) Q) : bl_WP G l d M pc lv st σ b Q := by
  intro p e R s m args below meth c H locs cells slots mc ms φ φ0 K0 ls S hl hv hs
  have hci := bl_cl_lt hc
  obtain ⟨L, hL, hP, hD, hw, hro⟩ := id S.2.2.1
  obtain ⟨hMF, hCX, hRel, hS, hX, hR, hB⟩ := id S
  have hE : ∀ q, bl_cell G.2.1 (va_up φ a q) (bl_mk σ a (ci + 1) 0) a = .inr (ci, bl_fs φ (bl_mk σ a (ci + 1) 0) ci a) := fun q => by
    rw [bl_cell_obj bl_mk_Keq hci]
    congr 2
    refine List.map_congr_left (fun k hk => ?_)
    have hk' := bl_ty_tok ci hci k (Nat.lt_of_lt_of_le (List.mem_range.mp hk) (bl_nf_le ci hci))
    rw [← bl_def hk', ← bl_def hk']
  refine va_new (fs := bl_fs φ (bl_mk σ a (ci + 1) 0) ci a) hMF.1 hMF.2.1 hMF.2.2.2.2.2.1 (bl_cl_in ci r hc) (bl_ty ci) (bl_cl_ty ci r hc) hMF.2.2.2.2.1 (hMF.2.2.2.2.2.1 _ hw1) (hMF.2.2.2.2.2.1 _ hw2) (hMF.2.2.2.2.2.1 _ hw3) hCX.2.1 hP hD hS (bl_A_up hCX) hc (fun j hj => ?_) (by omega) (by omega) hd (fun q H1 hP1 hD1 hS1 => ?_)
  · have hj' : j < bl_nf ci := by rw [← bl_cl_nf ci hci r hc]; exact hj
    rw [bl_def (bl_ty_tok ci hci j (Nat.lt_of_lt_of_le hj' (bl_nf_le ci hci))) φ σ a (ci + 1) 0 j]
    simp [vp_V, bl_fs, hj']
  · have kk := h p e R s m args below meth c H1 locs (cells + 1) (slots + r.2.2) mc ms (va_up φ a q) φ0 K0 ls ⟨hMF, hCX, bl_Rel_mk hL hw hro ha (Or.inl ⟨by omega, by omega⟩) (hE q) hP1 hD1, hS1, hX.mk ha, hR, by simp only; omega, by simp only; omega⟩ (bl_has_up hl hv ha) (fun x hx => bl_live_mk (by omega) (hv x hx)) (bl_hd (show (bl_mk σ a (ci + 1) 0).2.2.2.1 a ≠ 0 by rw [bl_mk_Keq]; omega) (fun x hx => bl_live_mk (by omega) (hs x hx)))
    rw [List.map_cons, bl_st_up hs ha] at kk
    simp only [bl_rv, va_up, if_true] at kk
    exact kk
end BLM
