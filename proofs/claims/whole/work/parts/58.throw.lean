/-! ===== throws, statics, constants, Math ===== -/
theorem bl_Rel.kept {G : bl_G} {φ : Nat → Nat} {σ : bl_Mem} {H H1 : Heap} (h : bl_Rel G φ σ H) (hk : ∀ q : Nat, q < H.size → H1[q]? = H[q]?) : bl_Rel G φ σ H1 := by
  obtain ⟨L, hL, hP, hD, hw, hro⟩ := h
  exact ⟨L, hL, hP.kept (fun k q hq => hk _ (hP k q hq).lt), hD, hw, hro⟩
section BLT
variable {G : bl_G} {l : Launch} {d : Nat} {M : bl_MR} {pc : Nat} {lv : List (Nat × Value)} {st : List Value} {σ : bl_Mem} {b : Nat × Nat} {Q : bl_Out → bl_Mem → Prop}
/-- new E("..") and its throw, in a method without handlers -/
theorem bl_s_throw (hlt : l.stackTraces = false) {cls text : String} {ik is ic j : Nat} (wide : Bool) (d0 : decode M.2.1 pc = .ok (.new ik, 3)) (d3 : decode M.2.1 (pc + 3) = .ok (.dup, 1)) (d4 : decode M.2.1 (pc + 4) = .ok (if wide then (.ldc_w is, 3) else (.ldc is, 2))) (d6 : decode M.2.1 (pc + 4 + if wide then 3 else 2) = .ok (.invokespecial ic, 3)) (d9 : decode M.2.1 (pc + 7 + if wide then 3 else 2) = .ok (.athrow, 1))
    (hh : M.2.2.2.2 = []) (hcls : Bundle.fit cls = true) (hk : Cond.classLink M.1.cls ik cls ∈ bl_gw) (hini : Cond.initialized cls ∈ bl_gw) (hstr : bl_strs[j]? = some (M.1.cls, is, text)) (hat : ∀ w ∈ vx_atS M.1.cls ic cls bl_sup, w ∈ bl_gw ∨ w ∈ bl_nw) (hgood : ∀ w ∈ Cond.classLink M.1.cls ik cls :: Cond.initialized cls :: vx_atS M.1.cls ic cls bl_sup, vx_ot w = true) (hb1 : 1 ≤ b.1) (hb2 : 6 ≤ b.2) (hrs : (st.map fun v => v.category).sum ≤ 8) (hq : Q (.inr cls) σ) : bl_WP G l d M pc lv st σ b Q := by
  intro p e R s m args below meth c H locs cells slots mc ms φ φ0 K0 ls S hl hv hs
  obtain ⟨hMF, hCX, hRel, hS, hX, hR, hB⟩ := id S
  have hats : ∀ w ∈ vx_atS M.1.cls ic cls bl_sup, w.before args s = true := fun w hw => by
    rcases hat w hw with h | h
    · exact hMF.2.2.2.2.2.1 _ h
    · have hk := (List.mem_filter.mp h).2
      have hN := hCX.2.2.2.1 _ h
      cases w <;> simp only [bl_nwk] at hk <;> first | exact va_Nw.use rfl hN | exact absurd hk (by decide)
  have hout : ∀ pc', ∀ x ∈ c.exceptionTable.toList, covers x pc' = false := fun pc' x hx => by
    rw [hMF.2.2.2.2.2.2.2.1, hh] at hx
    cases hx
  have hr8 : (((st.map (bl_rv φ)).map fun v => v.category).sum) ≤ 8 := by rw [bl_cats]; exact hrs
  have hx : ∀ t : State, s.vm.Alike t.vm → H.size ≤ t.heap.size → (∀ q : Nat, q < H.size → t.heap[q]? = H[q]?) → bl_XC G φ0 K0 Q cls s t := fun t _ hz hk => ⟨⟨φ, σ, hq, hRel.kept hk, hX⟩, Nat.le_trans hS.1 hz, fun q h1 h2 => by rw [hk q (Nat.lt_of_lt_of_le h1 hS.1)]; exact hS.2.1 q h1 h2⟩
  have hn : ∀ n ∈ bl_sup, Bundle.fit n = true := by decide +kernel
  have hl2 : bl_sup.length = 2 := rfl
  cases wide with
  | false =>
    exact vx_throwS hMF.1 hMF.2.1 hlt hMF.2.2.2.2.1 hcls hn (hMF.2.2.2.2.2.1 _ hk) (hMF.2.2.2.2.2.1 _ hini) (hCX.2.2.2.2.2.2.2.1 j _ hstr) hats hgood hCX.2.2.2.2.2.2.2.2.2.2.2.1 hCX.2.2.2.2.2.2.2.2.2.2.2.2 hS (hl.1.trans hMF.2.2.1.symm) d0 d3 d4 d6 d9 (hout _) (by omega) (by omega) (by omega) (by omega) hMF.2.2.2.2.2.2.1 hx hS.2.2 (by omega) (by omega)
  | true =>
    exact vx_throwSW hMF.1 hMF.2.1 hlt hMF.2.2.2.2.1 hcls hn (hMF.2.2.2.2.2.1 _ hk) (hMF.2.2.2.2.2.1 _ hini) (hCX.2.2.2.2.2.2.2.1 j _ hstr) hats hgood hCX.2.2.2.2.2.2.2.2.2.2.2.1 hCX.2.2.2.2.2.2.2.2.2.2.2.2 hS (hl.1.trans hMF.2.2.1.symm) d0 d3 d4 d6 d9 (hout _) (by omega) (by omega) (by omega) (by omega) hMF.2.2.2.2.2.2.1 hx hS.2.2 (by omega) (by omega)
end BLT
