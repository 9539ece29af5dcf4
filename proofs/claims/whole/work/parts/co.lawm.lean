/-! ===== the law's methods that catch ===== -/
theorem cw_28 : Cond.classLink RL 28 bl_NSE ∈ bl_gw := by decide +kernel
theorem cw_30 : Cond.classLink RL 30 bl_IOE ∈ bl_gw := by decide +kernel
theorem cw_13 : Cond.classLink RL 13 bl_IAE ∈ bl_gw := by decide +kernel
theorem cc_N : Cond.castable bl_NSE bl_NSE ∈ bl_nw := by decide +kernel
theorem cc_O : Cond.castable bl_IOE bl_IOE ∈ bl_nw := by decide +kernel
theorem cc_A : Cond.castable bl_IAE bl_IAE ∈ bl_nw := by decide +kernel
theorem bl_cat {G : bl_G} {l : Launch} {d : Nat} {M : bl_MR} {pc : Nat} {lv : List (Nat × Value)} {σ : bl_Mem} {b : Nat × Nat} {Q : bl_Out → bl_Mem → Prop} {E : String} {pre suf : List (Nat × Nat × Nat × Nat)} {x : Nat × Nat × Nat × Nat} (a : Nat) (hT : M.2.2.2.2 = pre ++ x :: suf) (hp : ∀ z ∈ pre, z.2.2.2 ≠ 0 ∧ ∃ nm : String, Cond.classLink M.1.cls z.2.2.2 nm ∈ bl_gw ∧ ∀ (U : State) (H : Heap), bl_CX G U H → va_Nc E nm U) (hx : covers ⟨x.1, x.2.1, x.2.2.1, x.2.2.2⟩ pc = true) (h0 : x.2.2.2 ≠ 0) (hw : Cond.classLink M.1.cls x.2.2.2 E ∈ bl_gw) (hcst : Cond.castable E E ∈ bl_nw) (ha : σ.2.2.2.1 a = 0) (h : bl_WP G l d M x.2.2.1 lv [.ref a] (σ.1, σ.2.1, σ.2.2.1, va_up σ.2.2.2.1 a 50, σ.2.2.2.2) b Q) : bl_TH G l d M pc lv σ b Q E := by
  refine Or.inr ⟨tableOf pre, ⟨x.1, x.2.1, x.2.2.1, x.2.2.2⟩, tableOf suf, E, a, ?_, fun z hz => ?_, hx, h0, hw, hcst, ha, h⟩
  · rw [hT]; unfold tableOf; rw [List.map_append]; rfl
  · unfold tableOf at hz
    obtain ⟨q, hq, rfl⟩ := List.mem_map.mp hz
    obtain ⟨h1, nm, h2, h3⟩ := hp q hq
    exact Or.inr ⟨h1, nm, h2, h3⟩
theorem nc_ON {G : bl_G} (U : State) (H : Heap) (h : bl_CX G U H) : va_Nc bl_IOE bl_NSE U := h.2.2.2.2.1.1
theorem nc_AN {G : bl_G} (U : State) (H : Heap) (h : bl_CX G U H) : va_Nc bl_IAE bl_NSE U := h.2.2.2.2.1.2.1
theorem nc_AO {G : bl_G} (U : State) (H : Heap) (h : bl_CX G U H) : va_Nc bl_IAE bl_IOE U := h.2.2.2.2.1.2.2
/-- the names of exceptions caught: from z on all are free -/
def exF (s : bl_Mem) (z : Nat) : Prop := 200000 ≤ z ∧ ∀ y, z ≤ y → s.2.2.2.1 y = 0
/-- what a method of the law leaves: the first of out, and a name that is used up -/
def lwF (s s' : bl_Mem) : Prop := ∀ y, 900 ≤ y → (y < 1000 ∨ (5000 ≤ y ∧ y < 200000)) → s'.1 y = s.1 y ∧ (y ≠ 920 → s'.2.1 y = s.2.1 y) ∧ s'.2.2.1 y = s.2.2.1 y ∧ s'.2.2.2.1 y = s.2.2.2.1 y ∧ s'.2.2.2.2 y = s.2.2.2.2 y
