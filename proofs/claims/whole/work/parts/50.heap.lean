/-! ===== memory and heap: reading, writing, making ===== -/
theorem bl_place {cA : Nat → ClassId} {φ : Nat → Nat} {σ : bl_Mem} {L : List Nat} {a : Nat} (ha : a ∈ L) : ∃ q0 : Nat, (bl_ws cA φ σ L)[q0]? = some (φ a, bl_cell cA φ σ a) ∧ L[q0]? = some a := by
  obtain ⟨q0, h⟩ := List.getElem?_of_mem ha
  exact ⟨q0, by rw [bl_ws, List.getElem?_map, h]; rfl, h⟩
theorem bl_ws_set {A : Nat → Prop} {cA : Nat → ClassId} {φ : Nat → Nat} {σ σ' : bl_Mem} {L : List Nat} {a q0 : Nat} {E : va_E} (hD : va_D A (bl_ws cA φ σ L)) (hq : L[q0]? = some a) (ho : ∀ b, b ≠ a → bl_cell cA φ σ' b = bl_cell cA φ σ b) (hc : bl_cell cA φ σ' a = E) : (bl_ws cA φ σ L).set q0 (φ a, E) = bl_ws cA φ σ' L := by
  apply List.ext_getElem?
  intro i
  by_cases e : q0 = i
  · subst e
    have hl : q0 < (bl_ws cA φ σ L).length := by
      have := (List.getElem?_eq_some_iff.mp hq).1
      simpa [bl_ws] using this
    rw [List.getElem?_set_self hl, bl_ws, List.getElem?_map, hq]
    simp [hc]
  · rw [List.getElem?_set_ne e, bl_ws, bl_ws, List.getElem?_map, List.getElem?_map]
    cases h : L[i]? with
    | none => rfl
    | some b =>
      have hb : b ≠ a := by
        intro eb
        subst eb
        refine e (hD.1 q0 i (φ b, bl_cell cA φ σ b) (φ b, bl_cell cA φ σ b) ?_ ?_ rfl)
        · rw [bl_ws, List.getElem?_map, hq]; rfl
        · rw [bl_ws, List.getElem?_map, h]; rfl
      simp [ho b hb]
def bl_up2 {α : Type} (f : Nat → Nat → α) (a k : Nat) (v : α) : Nat → Nat → α := fun x j => if x = a ∧ j = k then v else f x j
theorem bl_up2_ne {α : Type} {f : Nat → Nat → α} {a k : Nat} {v : α} {x : Nat} (h : x ≠ a) : bl_up2 f a k v x = f x := by
  funext j; simp [bl_up2, h]
theorem bl_up2_row {α : Type} (f : Nat → Nat → α) (a k : Nat) (v : α) : bl_up2 f a k v a = va_up (f a) k v := by
  funext j; simp [bl_up2, va_up]
/-- a value laid into place k of the name a -/
def bl_pv (σ : bl_Mem) (a k : Nat) : Value → bl_Mem
  | .int x => (bl_up2 σ.1 a k x, σ.2)
  | .long x => (σ.1, bl_up2 σ.2.1 a k x, σ.2.2)
  | .ref r => (σ.1, σ.2.1, bl_up2 σ.2.2.1 a k (some r), σ.2.2.2)
  | .null => (σ.1, σ.2.1, bl_up2 σ.2.2.1 a k none, σ.2.2.2)
  | _ => σ
theorem bl_pv_K (σ : bl_Mem) (a k : Nat) (v : Value) : (bl_pv σ a k v).2.2.2 = σ.2.2.2 := by cases v <;> rfl
/-- a value that a field of this type takes -/
def bl_fit (ty : FieldType) (v : Value) : Prop := (bl_isR ty = true ∧ ((∃ r, v = .ref r) ∨ v = .null)) ∨ (bl_isR ty = false ∧ bl_isL ty = true ∧ ∃ x, v = .long x) ∨ (bl_isR ty = false ∧ bl_isL ty = false ∧ ∃ x, v = .int x)
theorem bl_gv_pv {σ : bl_Mem} {a k : Nat} {ty : FieldType} {v : Value} (hf : bl_fit ty v) : bl_gv (bl_pv σ a k v) a k ty = v := by
  rcases hf with ⟨h, ⟨r, rfl⟩ | rfl⟩ | ⟨h1, h2, x, rfl⟩ | ⟨h1, h2, x, rfl⟩
  · simp [bl_gv, bl_pv, h, bl_up2, va_rf]
  · simp [bl_gv, bl_pv, h, bl_up2, va_rf]
  · simp [bl_gv, bl_pv, h1, h2, bl_up2]
  · simp [bl_gv, bl_pv, h1, h2, bl_up2]
theorem bl_gv_pv_ne {σ : bl_Mem} {a k j : Nat} {ty : FieldType} {v : Value} (hj : j ≠ k) : bl_gv (bl_pv σ a k v) a j ty = bl_gv σ a j ty := by
  cases v <;> simp [bl_gv, bl_pv, bl_up2, hj]
theorem bl_fs_pv {φ : Nat → Nat} {σ : bl_Mem} {ci a k : Nat} {v : Value} (hf : bl_fit (bl_ty ci k) v) : bl_fs φ (bl_pv σ a k v) ci a = (bl_fs φ σ ci a).set k (bl_rv φ v) := by
  apply List.ext_getElem?
  intro i
  by_cases e : k = i
  · subst e
    by_cases h : k < bl_nf ci
    · rw [List.getElem?_set_self (by simpa [bl_fs] using h)]
      simp [bl_fs, h, bl_gv_pv hf]
    · simp [bl_fs, h, List.getElem?_eq_none, Nat.le_of_not_lt h]
  · rw [List.getElem?_set_ne e]
    by_cases h : i < bl_nf ci
    · simp [bl_fs, h, bl_gv_pv_ne (fun q => e q.symm)]
    · simp [bl_fs, h]
theorem bl_cell_pv_ne {cA : Nat → ClassId} {φ : Nat → Nat} {σ : bl_Mem} {a k b : Nat} {v : Value} (h : b ≠ a) : bl_cell cA φ (bl_pv σ a k v) b = bl_cell cA φ σ b := by
  have e : ∀ (α : Type) (f : Nat → Nat → α) (w : α), bl_up2 f a k w b = f b := fun α f w => bl_up2_ne h
  cases v <;> first | rfl | (simp only [bl_cell, bl_pv, bl_fs, bl_gv, e]; done) | (unfold bl_cell bl_fs bl_gv bl_pv; dsimp only; rw [e]; rfl) | (unfold bl_cell bl_fs bl_gv bl_pv; dsimp only; rw [e])
theorem bl_cell_obj {cA : Nat → ClassId} {φ : Nat → Nat} {σ : bl_Mem} {a ci : Nat} (h : σ.2.2.2.1 a = ci + 1) (h2 : ci < 12) : bl_cell cA φ σ a = .inr (ci, bl_fs φ σ ci a) := by
  unfold bl_cell
  rw [if_neg (by omega), if_neg (by omega), if_neg (by omega), h]
  rfl
theorem bl_cell_int {cA : Nat → ClassId} {φ : Nat → Nat} {σ : bl_Mem} {a : Nat} (h : σ.2.2.2.1 a = 20) : bl_cell cA φ σ a = .inl (cA 20, σ.2.2.2.2 a, .inl (σ.1 a)) := by
  unfold bl_cell
  rw [if_pos h]
theorem bl_cell_long {cA : Nat → ClassId} {φ : Nat → Nat} {σ : bl_Mem} {a : Nat} (h : σ.2.2.2.1 a = 21) : bl_cell cA φ σ a = .inl (cA 21, σ.2.2.2.2 a, .inr (.inl (σ.2.1 a))) := by
  unfold bl_cell
  rw [if_neg (by omega), if_pos h]
theorem bl_cell_ref {cA : Nat → ClassId} {φ : Nat → Nat} {σ : bl_Mem} {a kd : Nat} (h : σ.2.2.2.1 a = kd) (h2 : 22 ≤ kd) : bl_cell cA φ σ a = .inl (cA kd, σ.2.2.2.2 a, .inr (.inr (.inr (.inr (fun i => (σ.2.2.1 a i).map φ))))) := by
  unfold bl_cell
  rw [if_neg (by omega), if_neg (by omega), if_pos (by omega), h]
theorem bl_cl_lt {ci : Nat} {r : vw_C} (h : vwCl[ci]? = some r) : ci < 12 := (List.getElem?_eq_some_iff.mp h).1
theorem bl_cl_nf : ∀ (ci : Nat), ci < 12 → ∀ (r : vw_C), vwCl[ci]? = some r → r.2.2 = bl_nf ci := by
  intro ci h r hr
  rcases (show ci = 0 ∨ ci = 1 ∨ ci = 2 ∨ ci = 3 ∨ ci = 4 ∨ ci = 5 ∨ ci = 6 ∨ ci = 7 ∨ ci = 8 ∨ ci = 9 ∨ ci = 10 ∨ ci = 11 by omega) with rfl | rfl | rfl | rfl | rfl | rfl | rfl | rfl | rfl | rfl | rfl | rfl <;> (cases hr; rfl)
theorem bl_cl_in : ∀ (ci : Nat) (r : vw_C), vwCl[ci]? = some r → ∀ w ∈ u_ws r.1 r.2.1 r.2.2, w ∈ bl_gw := by
  intro ci r hr w hw
  have h := bl_cl_lt hr
  have hg : ∀ k, goodWord (u_lay r.1 r.2.1 k) = true := by
    intro k
    unfold u_lay
    split <;> rfl
  have h2 : goodWord w = true := by
    obtain ⟨k, -, rfl⟩ := List.mem_map.mp hw
    exact hg k
  refine List.mem_filter.mpr ⟨?_, h2⟩
  rcases (show ci = 0 ∨ ci = 1 ∨ ci = 2 ∨ ci = 3 ∨ ci = 4 ∨ ci = 5 ∨ ci = 6 ∨ ci = 7 ∨ ci = 8 ∨ ci = 9 ∨ ci = 10 ∨ ci = 11 by omega) with rfl | rfl | rfl | rfl | rfl | rfl | rfl | rfl | rfl | rfl | rfl | rfl <;> cases hr
  · exact inX0 w hw
  · exact inX1 w hw
  · exact inX2 w hw
  · exact inX3 w hw
  · exact inX4 w hw
  · exact inX5 w hw
  · exact inX6 w hw
  · exact inX7 w hw
  · exact inX8 w hw
  · exact inX9 w hw
  · exact inX10 w hw
  · exact inX11 w hw
theorem bl_cl_ty : ∀ (ci : Nat) (r : vw_C), vwCl[ci]? = some r → ∀ k, k < r.2.2 → parseFieldDescriptor (r.2.1 k).2.2.1 = some (bl_ty ci k) := by
  intro ci r hr
  have h := bl_cl_lt hr
  rcases (show ci = 0 ∨ ci = 1 ∨ ci = 2 ∨ ci = 3 ∨ ci = 4 ∨ ci = 5 ∨ ci = 6 ∨ ci = 7 ∨ ci = 8 ∨ ci = 9 ∨ ci = 10 ∨ ci = 11 by omega) with rfl | rfl | rfl | rfl | rfl | rfl | rfl | rfl | rfl | rfl | rfl | rfl <;> cases hr
  · exact tyX0_ok
  · exact tyX1_ok
  · exact tyX2_ok
  · exact tyX3_ok
  · exact tyX4_ok
  · exact tyX5_ok
  · exact tyX6_ok
  · exact tyX7_ok
  · exact tyX8_ok
  · exact tyX9_ok
  · exact tyX10_ok
  · exact tyX11_ok
theorem bl_cl_nm : ∀ (ci : Nat) (r : vw_C), vwCl[ci]? = some r → ∀ a, a < r.2.2 → ∀ b, b < r.2.2 → a ≠ b → (r.2.1 a).2.1 ≠ (r.2.1 b).2.1 := by
  intro ci r hr
  have h := bl_cl_lt hr
  rcases (show ci = 0 ∨ ci = 1 ∨ ci = 2 ∨ ci = 3 ∨ ci = 4 ∨ ci = 5 ∨ ci = 6 ∨ ci = 7 ∨ ci = 8 ∨ ci = 9 ∨ ci = 10 ∨ ci = 11 by omega) with rfl | rfl | rfl | rfl | rfl | rfl | rfl | rfl | rfl | rfl | rfl | rfl <;> cases hr
  · exact nmX0
  · exact nmX1
  · exact nmX2
  · exact nmX3
  · exact nmX4
  · exact nmX5
  · exact nmX6
  · exact nmX7
  · exact nmX8
  · exact nmX9
  · exact nmX10
  · exact nmX11
theorem bl_isC_obj {k ci : Nat} (h : k = ci + 1) (h2 : ci < 12) : bl_isC k := Or.inl ⟨by omega, by omega⟩
section BLH
variable {G : bl_G} {l : Launch} {d : Nat} {M : bl_MR} {pc : Nat} {lv : List (Nat × Value)} {st : List Value} {σ : bl_Mem} {b : Nat × Nat} {Q : bl_Out → bl_Mem → Prop}
theorem bl_gv_live {φ : Nat → Nat} {H : Heap} (hR : bl_Rel G φ σ H) {a k : Nat} {ty : FieldType} (ha : bl_isC (σ.2.2.2.1 a)) : bl_live σ.2.2.2.1 (bl_gv σ a k ty) := by
  obtain ⟨L, -, -, -, hw, -⟩ := hR
  unfold bl_gv
  split
  · cases h : σ.2.2.1 a k with
    | none => trivial
    | some r => exact hw a k r ha h
  · split <;> trivial
theorem bl_s_getfield {idx ci a k : Nat} {r : vw_C} (hd : decode M.2.1 pc = .ok (.getfield idx, 3)) (hc : vwCl[ci]? = some r) (hk : k < r.2.2) (hlk : Cond.fieldLink M.1.cls idx (r.2.1 k).1 (r.2.1 k).2.1 (r.2.1 k).2.2.1 ∈ bl_gw) (hK : σ.2.2.2.1 a = ci + 1) (h : bl_WP G l d M (pc + 3) lv (bl_gv σ a k (bl_ty ci k) :: st) σ b Q) : bl_WP G l d M pc lv (.ref a :: st) σ b Q := by
  intro p e R s m args below meth c H locs cells slots mc ms φ φ0 K0 ls S hl hv hs
  have hci := bl_cl_lt hc
  obtain ⟨L, hL, hP, hD, hw, hro⟩ := id S.2.2.1
  obtain ⟨q0, hq0, -⟩ := bl_place (cA := G.2.1) (φ := φ) (σ := σ) ((hL a).mpr (bl_isC_obj hK hci))
  rw [bl_cell_obj hK hci] at hq0
  refine va_get S.1.1 S.1.2.1 S.1.2.2.2.2.2.1 (bl_cl_in ci r hc) S.1.2.2.2.2.1 S.2.1.2.1 hP q0 hq0 hc k hk (S.1.2.2.2.2.2.1 _ hlk) (fun x hx => hx) (v := bl_rv φ (bl_gv σ a k (bl_ty ci k))) (by simp [bl_fs, ← bl_cl_nf ci hci r hc, hk]) hd ?_
  exact h p e R s m args below meth c H locs cells slots mc ms φ φ0 K0 ls S hl hv (fun v hv' => by
    rcases List.mem_cons.mp hv' with e | e
    · subst e; exact bl_gv_live S.2.2.1 (bl_isC_obj hK hci)
    · exact hs v (List.mem_cons_of_mem _ e))
end BLH
