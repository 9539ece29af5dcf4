/-! ===== calls ===== -/
/-- q thrown of class E over this frame: what becomes of it -/
def bl_TH (G : bl_G) (l : Launch) (d : Nat) (M : bl_MR) (pc : Nat) (lv : List (Nat × Value)) (σ : bl_Mem) (b : Nat × Nat) (Q : bl_Out → bl_Mem → Prop) (E : String) : Prop :=
  (M.2.2.2.2 = [] ∧ Q (.inr E) σ) ∨
  ∃ (pre : List ExceptionTableEntry) (x : ExceptionTableEntry) (suf : List ExceptionTableEntry) (name : String) (a : Nat), tableOf M.2.2.2.2 = pre ++ x :: suf ∧ (∀ z ∈ pre, covers z pc = false ∨ (z.catchType ≠ 0 ∧ ∃ nm : String, Cond.classLink M.1.cls z.catchType nm ∈ bl_gw ∧ ∀ (U : State) (H : Heap), bl_CX G U H → va_Nc E nm U)) ∧ covers x pc = true ∧ x.catchType ≠ 0 ∧ Cond.classLink M.1.cls x.catchType name ∈ bl_gw ∧ Cond.castable E name ∈ bl_nw ∧ σ.2.2.2.1 a = 0 ∧
    bl_WP G l d M x.handlerPc lv [.ref a] (σ.1, σ.2.1, σ.2.2.1, va_up σ.2.2.2.1 a 50, σ.2.2.2.2) b Q
/-- behind a call: goes on, or has thrown -/
def bl_after (G : bl_G) (l : Launch) (d : Nat) (M : bl_MR) (pc : Nat) (lv : List (Nat × Value)) (st : List Value) (b : Nat × Nat) (Q : bl_Out → bl_Mem → Prop) : bl_Out → bl_Mem → Prop
  | .inl v, σ => bl_WP G l d M (pc + 3) lv (v.toList ++ st) σ b Q
  | .inr E, σ => bl_TH G l d M pc lv σ b Q E
theorem bl_Rel_opaque {G : bl_G} {φ : Nat → Nat} {σ : bl_Mem} {H : Heap} {a q : Nat} (h : bl_Rel G φ σ H) (ha : σ.2.2.2.1 a = 0) : bl_Rel G (va_up φ a q) (σ.1, σ.2.1, σ.2.2.1, va_up σ.2.2.2.1 a 50, σ.2.2.2.2) H := by
  obtain ⟨L, hL, hP, hD, hw, hro⟩ := h
  have h0 : ¬ bl_isC 0 := by unfold bl_isC; omega
  have h50 : ¬ bl_isC 50 := by unfold bl_isC; omega
  have haL : a ∉ L := fun h => h0 (by have := (hL a).mp h; rw [ha] at this; exact this)
  have hK : ∀ x, x ≠ a → va_up σ.2.2.2.1 a 50 x = σ.2.2.2.1 x := fun x hx => by simp [va_up, hx]
  have ews : bl_ws G.2.1 (va_up φ a q) (σ.1, σ.2.1, σ.2.2.1, va_up σ.2.2.2.1 a 50, σ.2.2.2.2) L = bl_ws G.2.1 φ σ L := by
    unfold bl_ws
    apply List.map_congr_left
    intro x hx
    have hxa : x ≠ a := fun e => haL (e ▸ hx)
    have hr : ∀ k y, σ.2.2.1 x k = some y → y ≠ a := fun k y hy e => hw x k y ((hL x).mp hx) hy (by rw [e]; exact ha)
    have e1 : ∀ j, (σ.2.2.1 x j).map (va_up φ a q) = (σ.2.2.1 x j).map φ := fun j => by
      cases h : σ.2.2.1 x j with
      | none => rfl
      | some y => simp [va_up, hr j y h]
    have e2 : ∀ k ty, bl_rv (va_up φ a q) (bl_gv (σ.1, σ.2.1, σ.2.2.1, va_up σ.2.2.2.1 a 50, σ.2.2.2.2) x k ty) = bl_rv φ (bl_gv σ x k ty) := fun k ty => by
      simp only [bl_gv]
      split
      · rw [bl_rv_rf, bl_rv_rf, e1]
      · split <;> rfl
    have e3 : bl_cell G.2.1 (va_up φ a q) (σ.1, σ.2.1, σ.2.2.1, va_up σ.2.2.2.1 a 50, σ.2.2.2.2) x = bl_cell G.2.1 φ σ x := by
      unfold bl_cell bl_fs
      simp only [hK x hxa, e2, e1]
    rw [e3]
    simp [va_up, hxa]
  refine ⟨L, fun x => ?_, by rw [ews]; exact hP, by rw [ews]; exact hD, fun x k y hx hy => ?_, fun x j hx => ?_⟩
  · by_cases hxa : x = a
    · subst hxa
      simp [va_up, h50, haL]
    · rw [show (σ.1, σ.2.1, σ.2.2.1, va_up σ.2.2.2.1 a 50, σ.2.2.2.2).2.2.2.1 x = σ.2.2.2.1 x from hK x hxa]; exact hL x
  · by_cases hxa : x = a
    · subst hxa
      exact absurd (by simpa [va_up] using hx) h50
    · have hx' : bl_isC (σ.2.2.2.1 x) := by rw [← hK x hxa]; exact hx
      have := hw x k y hx' hy
      have hya : y ≠ a := fun e => this (by rw [e]; exact ha)
      show va_up σ.2.2.2.1 a 50 y ≠ 0
      rw [hK y hya]; exact this
  · by_cases hxa : x = a
    · subst hxa
      simp [va_up] at hx
      omega
    · have hx' : σ.2.2.2.1 x = 100 + j := by rw [← hK x hxa]; exact hx
      rw [show va_up φ a q x = φ x by simp [va_up, hxa]]
      exact hro x j hx'
section BLI
variable {G : bl_G} {l : Launch} {d : Nat} {M N : bl_MR} {pc : Nat} {lv : List (Nat × Value)} {st : List Value} {σ : bl_Mem} {b b1 : Nat × Nat} {Q : bl_Out → bl_Mem → Prop}
variable {p : Program} {e : Env} {R : Room} {s : State} {m : MethodId} {args : Array Value} {below : List Frame} {meth : Method} {c : Code} {H : Heap} {locs : List Loc} {cells slots mc ms : Nat} {φ φ0 K0 : Nat → Nat} {ls : Array Slot}
theorem bl_run {a0 : Array Value} {st0 : List Value} (S : bl_St G d M σ b p R s m args meth c H locs cells slots mc ms φ φ0 K0) (hl : lv_has ls M.2.2.1 (lv.map (fun q => (q.1, bl_rv φ q.2)))) (hv : ∀ q ∈ lv, bl_live σ.2.2.2.1 q.2) (hs : ∀ v ∈ st, bl_live σ.2.2.2.1 v) (hb1 : b1.1 ≤ b.1) (hb2 : b1.2 ≤ b.2)
    (hr : vx_Run p l e R s m args below meth c H locs cells slots b1.1 b1.2 (F0 m pc ls st0) (st.map (bl_rv φ)) (bl_QC G φ σ.2.2.2.1 (bl_after G l d M pc lv st (b.1 - b1.1, b.2 - b1.2) Q) a0) (bl_XC G φ σ.2.2.2.1 (bl_after G l d M pc lv st (b.1 - b1.1, b.2 - b1.2) Q)) (bl_A G)) :
    W p l e R s m args below meth c H locs cells slots (vx_MQ below (bl_QC G φ0 K0 Q) (bl_XC G φ0 K0 Q) args s mc ms (bl_A G)) (F0 m pc ls st0) := by
  obtain ⟨hMF, hCX, hRel, hS, hX, hR, hB⟩ := S
  have keep : ∀ (st₀ t T' : State) (L : List Loc), st₀.heap = H → T'.heap = t.heap → (∀ q ∈ L, bl_A G q.base) → va_F (bl_A G) st₀ t → va_S (bl_A G) s.heap T'.heap (locs ++ L) := by
    intro st₀ t T' L h0 e1 hL hF
    obtain ⟨hz, hk⟩ := hF
    rw [h0] at hz hk
    refine ⟨Nat.le_trans hS.1 (by rw [e1]; exact hz), fun q h1 h2 => by rw [e1, hk q (Nat.lt_of_lt_of_le h1 hS.1) h2]; exact hS.2.1 q h1 h2, fun q hq => ?_⟩
    rcases List.mem_append.mp hq with h | h
    · exact hS.2.2 q h
    · exact hL q h
  intro T hT X
  rcases hr T hT X with ⟨v, st₀, t, T', L, h0, X', hL, e1, e2, ⟨⟨φ1, σ1, v1, ev, hq, hRel1, hX1, hv1⟩, hF⟩, stp⟩ | ⟨q9, st₀, t, T', L, E, ce, h0, X', hL, e1, e2, ⟨⟨φ1, σ1, hq, hRel1, hX1⟩, hF⟩, hce, hcv, hcl, stp⟩
  · cases ev
    have kk := hq p e R s m args below meth c T'.heap (locs ++ L) (cells + b1.1) (slots + b1.2) mc ms φ1 φ0 K0 ls ⟨hMF, hCX, by rw [e1]; exact hRel1, keep st₀ t T' L h0 e1 hL hF, hX.trans hX1, hR, by simp only; omega, by simp only; omega⟩
      (by rw [show lv.map (fun q => (q.1, bl_rv φ1 q.2)) = lv.map (fun q => (q.1, bl_rv φ q.2)) from List.map_congr_left (fun x hx => by rw [(hX1.rv (hv x hx)).1])]; exact hl)
      (fun x hx => (hX1.rv (hv x hx)).2)
      (fun x hx => by
        rcases List.mem_append.mp hx with h | h
        · exact hv1 x (Option.mem_toList.mp h)
        · exact (hX1.rv (hs x h)).2)
    have est : (v1.toList ++ st).map (bl_rv φ1) = (v1.map (bl_rv φ1)).toList ++ st.map (bl_rv φ) := by
      rw [List.map_append, show st.map (bl_rv φ1) = st.map (bl_rv φ) from List.map_congr_left (fun x hx => (hX1.rv (hs x hx)).1)]
      cases v1 <;> rfl
    rw [est] at kk
    obtain ⟨t2, a1, b1'⟩ := kk T' rfl X'
    exact ⟨t2, stp t2 a1, b1'⟩
  · have hS' := keep st₀ t T' L h0 e1 hL hF
    have hlv1 : lv_has ls M.2.2.1 (lv.map (fun q => (q.1, bl_rv φ1 q.2))) := by
      rw [show lv.map (fun q => (q.1, bl_rv φ1 q.2)) = lv.map (fun q => (q.1, bl_rv φ q.2)) from List.map_congr_left (fun x hx => by rw [(hX1.rv (hv x hx)).1])]; exact hl
    have hce' : T'.heap[q9]? = some ce := by rw [e1]; exact hce
    have hRel1' : bl_Rel G φ1 σ1 T'.heap := by rw [e1]; exact hRel1
    have KX : vx_W p l e R s m args below meth c T'.heap (locs ++ L) (cells + b1.1) (slots + b1.2) (vx_MQ below (bl_QC G φ0 K0 Q) (bl_XC G φ0 K0 Q) args s mc ms (bl_A G)) (F0 m pc ls (st.map (bl_rv φ))) q9 := by
      rcases hq with ⟨hh, hq⟩ | ⟨pre, x, suf, name, a, hsp, hpre, hcov, h0c, hlk, hcast, ha, hq⟩
      · refine vx_out (E := E) (ce := ce) (fun x hx => ?_) hMF.2.2.2.2.2.2.1 hce' hcv hcl (fun t' ht' hvm => ⟨⟨φ1, σ1, hq, by rw [ht']; exact hRel1', hX.trans hX1⟩, bl_va_F hS' ht'⟩) hS'.2.2 (by omega) (by omega)
        rw [hMF.2.2.2.2.2.2.2.1, hh] at hx
        cases hx
      · refine bk_catch (E := E) (ce := ce) hMF.2.2.2.2.1 pre x suf (hMF.2.2.2.2.2.2.2.1.trans hsp) (fun z hz => ?_) hcov h0c (hMF.2.2.2.2.2.1 _ hlk) (va_Nw.use (by have := (List.mem_filter.mp hcast).2; rfl) (hCX.2.2.2.1 _ hcast)) hce' hcv hcl ?_
        · rcases hpre z hz with h | ⟨h1, nm, h2, h3⟩
          · exact Or.inl h
          · exact Or.inr ⟨h1, nm, hMF.2.2.2.2.2.1 _ h2, h3 s s.heap hCX⟩
        · have hl0 : ∀ x ∈ lv, bl_live σ1.2.2.2.1 x.2 := fun x hx => (hX1.rv (hv x hx)).2
          have kk := hq p e R s m args below meth c T'.heap (locs ++ L) (cells + b1.1) (slots + b1.2) mc ms (va_up φ1 a q9) φ0 K0 ls ⟨hMF, hCX, bl_Rel_opaque hRel1' ha, hS', fun y hy => by
              obtain ⟨h1, h2⟩ := hX.trans hX1 y hy
              have hya : y ≠ a := fun e => h2 (e ▸ ha)
              exact ⟨by simp [va_up, hya, h1], by simp [va_up, hya, h2]⟩, hR, by simp only; omega, by simp only; omega⟩ (bl_has_up hlv1 hl0 ha)
              (fun x hx => by
                have := hl0 x hx
                generalize x.2 = w at this ⊢
                cases w with
                | ref r =>
                  show va_up σ1.2.2.2.1 a 50 r ≠ 0
                  by_cases hr : r = a
                  · simp [va_up, hr]
                  · simp only [va_up, if_neg hr]; exact this
                | _ => trivial)
              (fun x hx => by
                cases List.mem_singleton.mp hx
                show va_up σ1.2.2.2.1 a 50 a ≠ 0
                simp [va_up])
          simp only [List.map_cons, List.map_nil, bl_rv, va_up, if_true] at kk
          exact kk
    obtain ⟨t2, a1, b1'⟩ := KX T' rfl X'
    exact ⟨t2, stp.trans a1, b1'⟩
end BLI
