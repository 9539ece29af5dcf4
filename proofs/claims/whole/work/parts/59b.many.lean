/-! ===== several new rows at once ===== -/
theorem bl_cell_same {cA : Nat → ClassId} {φ φ' : Nat → Nat} {σ σ' : bl_Mem} {x : Nat} (h1 : σ'.1 x = σ.1 x) (h2 : σ'.2.1 x = σ.2.1 x) (h3 : σ'.2.2.1 x = σ.2.2.1 x) (h4 : σ'.2.2.2.1 x = σ.2.2.2.1 x) (h5 : σ'.2.2.2.2 x = σ.2.2.2.2 x) (hr : ∀ k y, σ.2.2.1 x k = some y → φ' y = φ y) : bl_cell cA φ' σ' x = bl_cell cA φ σ x := by
  have e1 : ∀ j, (σ.2.2.1 x j).map φ' = (σ.2.2.1 x j).map φ := fun j => by
    cases h : σ.2.2.1 x j with
    | none => rfl
    | some y => simp [hr j y h]
  have e2 : ∀ k ty, bl_rv φ' (bl_gv σ' x k ty) = bl_rv φ (bl_gv σ x k ty) := fun k ty => by
    simp only [bl_gv, h1, h2, h3]
    split
    · rw [bl_rv_rf, bl_rv_rf, e1]
    · split <;> rfl
  unfold bl_cell bl_fs
  simp only [h4, e2]
  simp only [h1, h2, h3, h5, e1]
theorem bl_Rel_many {G : bl_G} {φ φ' : Nat → Nat} {σ σ' : bl_Mem} {H1 : Heap} {L NL : List Nat} (hL : ∀ a, a ∈ L ↔ bl_isC (σ.2.2.2.1 a)) (hw : ∀ a k b, bl_isC (σ.2.2.2.1 a) → σ.2.2.1 a k = some b → σ.2.2.2.1 b ≠ 0) (hro : ∀ a j, σ.2.2.2.1 a = 100 + j → φ a = G.2.2.1 j)
    (h0 : ∀ x ∈ NL, σ.2.2.2.1 x = 0) (hag : ∀ x, x ∉ NL → σ'.1 x = σ.1 x ∧ σ'.2.1 x = σ.2.1 x ∧ σ'.2.2.1 x = σ.2.2.1 x ∧ σ'.2.2.2.1 x = σ.2.2.2.1 x ∧ σ'.2.2.2.2 x = σ.2.2.2.2 x) (hph : ∀ x, x ∉ NL → φ' x = φ x) (hC : ∀ x ∈ NL, bl_isC (σ'.2.2.2.1 x)) (hrf : ∀ x ∈ NL, ∀ k y, σ'.2.2.1 x k = some y → y ∈ NL)
    (hP1 : va_P G.1 vwCl (bl_ws G.2.1 φ σ L ++ bl_ws G.2.1 φ' σ' NL) H1) (hD1 : va_D (bl_A G) (bl_ws G.2.1 φ σ L ++ bl_ws G.2.1 φ' σ' NL)) : bl_Rel G φ' σ' H1 := by
  have hz : ¬ bl_isC 0 := by unfold bl_isC; omega
  have hLN : ∀ x ∈ L, x ∉ NL := fun x hx hn => hz (by have := (hL x).mp hx; rw [h0 x hn] at this; exact this)
  have hK0 : ∀ x ∈ NL, σ'.2.2.2.1 x ≠ 0 := fun x hx e => hz (by have := hC x hx; rw [e] at this; exact this)
  have e : bl_ws G.2.1 φ σ L ++ bl_ws G.2.1 φ' σ' NL = bl_ws G.2.1 φ' σ' (L ++ NL) := by
    unfold bl_ws
    rw [List.map_append]
    congr 1
    apply List.map_congr_left
    intro x hx
    have hxn := hLN x hx
    obtain ⟨a1, a2, a3, a4, a5⟩ := hag x hxn
    rw [hph x hxn, bl_cell_same a1 a2 a3 a4 a5 (fun k y hy => hph y (fun hn => hw x k y ((hL x).mp hx) hy (h0 y hn)))]
  rw [e] at hP1 hD1
  refine ⟨L ++ NL, fun x => ?_, hP1, hD1, fun x k y hx hy => ?_, fun x j hx => ?_⟩
  · rw [List.mem_append]
    by_cases hn : x ∈ NL
    · exact ⟨fun _ => hC x hn, fun _ => Or.inr hn⟩
    · rw [(hag x hn).2.2.2.1, ← hL x]
      exact ⟨fun h => h.elim id (fun h => absurd h hn), Or.inl⟩
  · by_cases hyn : y ∈ NL
    · exact hK0 y hyn
    · rw [(hag y hyn).2.2.2.1]
      by_cases hn : x ∈ NL
      · exact absurd (hrf x hn k y hy) hyn
      · rw [(hag x hn).2.2.1] at hy
        rw [(hag x hn).2.2.2.1] at hx
        exact hw x k y hx hy
  · by_cases hn : x ∈ NL
    · have := hC x hn
      rw [hx] at this
      unfold bl_isC at this
      omega
    · rw [(hag x hn).2.2.2.1] at hx
      rw [hph x hn]; exact hro x j hx
theorem bl_rv_many {NL : List Nat} {K φ φ' : Nat → Nat} (h0 : ∀ x ∈ NL, K x = 0) (hph : ∀ x, x ∉ NL → φ' x = φ x) {v : Value} (h : bl_live K v) : bl_rv φ' v = bl_rv φ v := by
  cases v with
  | ref r => exact congrArg Value.ref (hph r (fun hn => h (h0 r hn)))
  | _ => rfl
theorem bl_live_many {NL : List Nat} {σ σ' : bl_Mem} (hag : ∀ x, x ∉ NL → σ'.2.2.2.1 x = σ.2.2.2.1 x) (hK : ∀ x ∈ NL, σ'.2.2.2.1 x ≠ 0) {v : Value} (h : bl_live σ.2.2.2.1 v) : bl_live σ'.2.2.2.1 v := by
  cases v with
  | ref r =>
    show σ'.2.2.2.1 r ≠ 0
    by_cases hn : r ∈ NL
    · exact hK r hn
    · rw [hag r hn]; exact h
  | _ => trivial
/-- the step goes on from the several new names -/
theorem bl_many {G : bl_G} {l : Launch} {d : Nat} {M : bl_MR} {pc : Nat} {lv : List (Nat × Value)} {st : List Value} {σ σ' : bl_Mem} {b b' : Nat × Nat} {Q : bl_Out → bl_Mem → Prop} {o : Nat} (NL : List Nat) (ho : o ∈ NL) (h0 : ∀ x ∈ NL, σ.2.2.2.1 x = 0) (hag : ∀ x, x ∉ NL → σ'.1 x = σ.1 x ∧ σ'.2.1 x = σ.2.1 x ∧ σ'.2.2.1 x = σ.2.2.1 x ∧ σ'.2.2.2.1 x = σ.2.2.2.1 x ∧ σ'.2.2.2.2 x = σ.2.2.2.2 x) (hC : ∀ x ∈ NL, bl_isC (σ'.2.2.2.1 x)) (hrf : ∀ x ∈ NL, ∀ k y, σ'.2.2.1 x k = some y → y ∈ NL) (h : bl_WP G l d M pc lv (.ref o :: st) σ' b' Q)
    {p : Program} {e : Env} {R : Room} {s : State} {m : MethodId} {args : Array Value} {below : List Frame} {meth : Method} {c : Code} {H H1 : Heap} {locs : List Loc} {cells slots cells' slots' mc ms : Nat} {φ φ' φ0 K0 : Nat → Nat} {ls : Array Slot} (S : bl_St G d M σ b p R s m args meth c H locs cells slots mc ms φ φ0 K0) (hl : lv_has ls M.2.2.1 (lv.map (fun q => (q.1, bl_rv φ q.2)))) (hv : ∀ q ∈ lv, bl_live σ.2.2.2.1 q.2) (hs : ∀ v ∈ st, bl_live σ.2.2.2.1 v)
    (hph : ∀ x, x ∉ NL → φ' x = φ x) (hb : cells' + b'.1 ≤ mc ∧ slots' + b'.2 ≤ ms) (hS1 : va_S (bl_A G) s.heap H1 locs)
    (hPD : ∀ L : List Nat, (∀ a, a ∈ L ↔ bl_isC (σ.2.2.2.1 a)) → va_P G.1 vwCl (bl_ws G.2.1 φ σ L) H → va_D (bl_A G) (bl_ws G.2.1 φ σ L) → va_P G.1 vwCl (bl_ws G.2.1 φ σ L ++ bl_ws G.2.1 φ' σ' NL) H1 ∧ va_D (bl_A G) (bl_ws G.2.1 φ σ L ++ bl_ws G.2.1 φ' σ' NL)) :
    W p l e R s m args below meth c H1 locs cells' slots' (vx_MQ below (bl_QC G φ0 K0 Q) (bl_XC G φ0 K0 Q) args s mc ms (bl_A G)) (F0 m pc ls (.ref (φ' o) :: st.map (bl_rv φ))) := by
  obtain ⟨hMF, hCX, ⟨L, hL, hP, hD, hw, hro⟩, hS, hX, hR, hB⟩ := S
  obtain ⟨hP1, hD1⟩ := hPD L hL hP hD
  have hz : ¬ bl_isC 0 := by unfold bl_isC; omega
  have hK0 : ∀ x ∈ NL, σ'.2.2.2.1 x ≠ 0 := fun x hx e => hz (by have := hC x hx; rw [e] at this; exact this)
  have hag4 : ∀ x, x ∉ NL → σ'.2.2.2.1 x = σ.2.2.2.1 x := fun x hx => (hag x hx).2.2.2.1
  have kk := h p e R s m args below meth c H1 locs cells' slots' mc ms φ' φ0 K0 ls ⟨hMF, hCX, bl_Rel_many hL hw hro h0 hag hph hC hrf hP1 hD1, hS1, fun x hx => by
      obtain ⟨h1, h2⟩ := hX x hx
      have hxn : x ∉ NL := fun hn => h2 (h0 x hn)
      exact ⟨by rw [hph x hxn]; exact h1, by rw [hag4 x hxn]; exact h2⟩, hR, hb⟩ (by
        have e : lv.map (fun x => (x.1, bl_rv φ' x.2)) = lv.map (fun x => (x.1, bl_rv φ x.2)) := List.map_congr_left (fun x hx => by rw [bl_rv_many h0 hph (hv x hx)])
        rw [e]; exact hl) (fun x hx => bl_live_many hag4 hK0 (hv x hx)) (bl_hd (hK0 o ho) (fun x hx => bl_live_many hag4 hK0 (hs x hx)))
  have e2 : st.map (bl_rv φ') = st.map (bl_rv φ) := List.map_congr_left (fun x hx => bl_rv_many h0 hph (hs x hx))
  rw [List.map_cons, e2] at kk
  exact kk
