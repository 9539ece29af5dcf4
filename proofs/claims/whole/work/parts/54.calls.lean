/-! ===== answers, contracts, calls ===== -/
theorem bl_va_F {G : bl_G} {s t : State} {H : Heap} {locs : List Loc} (hS : va_S (bl_A G) s.heap H locs) (ht : t.heap = H) : va_F (bl_A G) s t := ⟨by rw [ht]; exact hS.1, fun q h1 h2 => by rw [ht]; exact hS.2.1 q h1 h2⟩
theorem bl_nw_warm {w : Cond} (hw : w ∈ bl_nw) {s U : State} (hW : s.WarmedH U.vm) (h : va_Nw w s) : va_Nw w U := by
  have hk := (List.mem_filter.mp hw).2
  cases w <;> simp only [bl_nwk] at hk <;> first | exact va_Nw.warmM hW h | exact va_Nw.warmD hW h | exact va_Nw.warmC hW h | exact absurd hk (by decide)
theorem bl_nw_same {w : Cond} (hw : w ∈ bl_nw) {s U : State} (hv : s.vm = U.vm) (h : va_Nw w s) : va_Nw w U := by
  have hk := (List.mem_filter.mp hw).2
  cases w <;> simp only [bl_nwk] at hk <;> first | exact va_Nw.same rfl hv h | exact absurd hk (by decide)
theorem bl_Zq_moved {C n d : String} {A : Nat → Prop} {u U : State} {H H1 : Heap} (hvm : u.vm.Alike U.vm) (hk : ∀ q : Nat, q < H.size → ¬ A q → H1[q]? = H[q]?) (h : va_Zq C n d A u H) : va_Zq C n d A U H1 := by
  rcases h with h | ⟨t, h⟩
  · exact Or.inl ((va_Z.moved hvm h).kept hk)
  · exact Or.inr ⟨t, (va_Z.moved hvm h).kept hk⟩
theorem bl_AOA_moved {ty : FieldType} {u U : State} (hvm : u.vm.Alike U.vm) (h : va_AOA ty u) : va_AOA ty U := bk_over_moved hvm h
theorem bl_CN_part {G : bl_G} {u U : State} {H0 H : Heap} (hvm : u.vm.Alike U.vm) (hk : ∀ q : Nat, q < H0.size → ¬ bl_A G q → H[q]? = H0[q]?) (hnw : ∀ w ∈ bl_nw, va_Nw w U) (hR : ∀ (own tx : String) (k a : Nat), vk_R own k tx a u → vk_R own k tx a U) (h : bl_CN G u H0) : bl_CN G U H := by
  obtain ⟨⟨a1, a2, a3, a4, a5⟩, -, ⟨c1, c2, c3⟩, d1, e1, f1, g1, i1, j1, k1, l1⟩ := h
  refine ⟨⟨va_AO.moved hvm a1, va_AO.moved hvm a2, va_AO.moved hvm a3, bl_AOA_moved hvm a4, bl_AOA_moved hvm a5⟩, hnw, ⟨va_Nc.moved hvm c1, va_Nc.moved hvm c2, va_Nc.moved hvm c3⟩, fun j q hq => ⟨(va_Z.moved hvm (d1 j q hq).1).kept hk, (va_T.moved hvm (d1 j q hq).2).kept hk⟩, (va_T.moved hvm e1).kept hk, fun j q hq => hR _ _ _ _ (f1 j q hq), fun j q hq => ?_, (va_Z.moved hvm i1).kept hk, bl_Zq_moved hvm hk j1, (vx_Zq.moved hvm k1).kept hk, (vx_Zq.moved hvm l1).kept hk⟩
  obtain ⟨m1, m2, m3, m4⟩ := g1 j q hq
  exact ⟨(va_O.moved hvm m1).kept hk, (va_OF.moved hvm m2).kept hk, (va_OF.moved hvm m3).kept hk, (va_T.moved hvm m4).kept hk⟩
theorem bl_CX.moved {G : bl_G} {u U : State} {H0 H : Heap} (hW : u.WarmedH U.vm) (hz : H0.size ≤ H.size) (hk : ∀ q : Nat, q < H0.size → ¬ bl_A G q → H[q]? = H0[q]?) (h : bl_CX G u H0) : bl_CX G U H := ⟨Nat.le_trans h.1 hz, va_K.moved hW.alike h.2.1, bl_CN_part hW.alike hk (fun w hw => bl_nw_warm hw hW (h.2.2.2.1 w hw)) (fun _ _ _ _ hr => vk_R.warm hW hr) h.2.2⟩
theorem bl_CX.same {G : bl_G} {u U : State} {H : Heap} (hv : U.vm = u.vm) (h : bl_CX G u H) : bl_CX G U H := ⟨h.1, va_K.moved (by rw [hv]; exact Vm.Alike.refl _) h.2.1, bl_CN_part (by rw [hv]; exact Vm.Alike.refl _) (fun _ _ _ => rfl) (fun w hw => bl_nw_same hw hv.symm (h.2.2.2.1 w hw)) (fun _ _ _ _ hr => vk_R.same hv hr) h.2.2⟩
theorem bl_Ext.refl (φ K : Nat → Nat) : bl_Ext φ K φ K := fun _ h => ⟨rfl, h⟩
theorem bl_Ext.trans {φ0 K0 φ K φ1 K1 : Nat → Nat} (h : bl_Ext φ0 K0 φ K) (h1 : bl_Ext φ K φ1 K1) : bl_Ext φ0 K0 φ1 K1 := fun a ha => by
  obtain ⟨e1, e2⟩ := h a ha
  obtain ⟨e3, e4⟩ := h1 a e2
  exact ⟨e3.trans e1, e4⟩
theorem bl_Ext.rv {φ K φ1 K1 : Nat → Nat} (h : bl_Ext φ K φ1 K1) {v : Value} (hv : bl_live K v) : bl_rv φ1 v = bl_rv φ v ∧ bl_live K1 v := by
  cases v with
  | ref r => exact ⟨congrArg Value.ref (h r hv).1, (h r hv).2⟩
  | _ => exact ⟨rfl, trivial⟩
section BLC
variable {G : bl_G} {l : Launch} {d : Nat} {M : bl_MR} {pc : Nat} {lv : List (Nat × Value)} {st : List Value} {σ : bl_Mem} {b : Nat × Nat} {Q : bl_Out → bl_Mem → Prop}
theorem bl_QC_of {φ φ0 K0 : Nat → Nat} {s t : State} {H : Heap} {locs : List Loc} {args : Array Value} {v : Option Value} (hq : Q (.inl v) σ) (hR : bl_Rel G φ σ H) (hX : bl_Ext φ0 K0 φ σ.2.2.2.1) (hS : va_S (bl_A G) s.heap H locs) (hv : ∀ x, v = some x → bl_live σ.2.2.2.1 x) (ht : t.heap = H) : bl_QC G φ0 K0 Q args s (.returned (v.map (bl_rv φ))) t :=
  ⟨⟨φ, σ, v, rfl, hq, by rw [ht]; exact hR, hX, hv⟩, bl_va_F hS ht⟩
theorem bl_r_int {v : Int32} {ty : FieldType} (hd : decode M.2.1 pc = .ok (.ireturn, 1)) (hr : M.2.2.2.1 = some ty) (hn : narrow ty (.int v) = .int v) (hq : Q (.inl (some (.int v))) σ) : bl_WP G l d M pc lv [.int v] σ b Q := by
  intro p e R s m args below meth c H locs cells slots mc ms φ φ0 K0 ls S hl hv hs
  obtain ⟨hMF, hCX, hRel, hS, hX, hR, hB⟩ := S
  refine W.widen (k := mc) (n := ms) (by omega) (by omega) (vx_ret ?_)
  exact W.zret hMF.1 hMF.2.1 (hMF.2.2.2.1.trans hr) hn (fun t ht _ => bl_QC_of (v := some (.int v)) hq hRel hX hS (fun x hx => by cases hx; trivial) ht) hS.2.2 hd hMF.2.2.2.2.2.2.1
theorem bl_r_long {v : Int64} (hd : decode M.2.1 pc = .ok (.lreturn, 1)) (hr : M.2.2.2.1 = some .long) (hq : Q (.inl (some (.long v))) σ) : bl_WP G l d M pc lv [.long v] σ b Q := by
  intro p e R s m args below meth c H locs cells slots mc ms φ φ0 K0 ls S hl hv hs
  obtain ⟨hMF, hCX, hRel, hS, hX, hR, hB⟩ := S
  refine W.widen (k := mc) (n := ms) (by omega) (by omega) (vx_ret ?_)
  exact W.lret hMF.1 hMF.2.1 (hMF.2.2.2.1.trans hr) (fun t ht _ => bl_QC_of (v := some (.long v)) hq hRel hX hS (fun x hx => by cases hx; trivial) ht) hS.2.2 hd hMF.2.2.2.2.2.2.1
theorem bl_r_void (hd : decode M.2.1 pc = .ok (.return_, 1)) (hr : M.2.2.2.1 = none) (hq : Q (.inl none) σ) : bl_WP G l d M pc lv [] σ b Q := by
  intro p e R s m args below meth c H locs cells slots mc ms φ φ0 K0 ls S hl hv hs
  obtain ⟨hMF, hCX, hRel, hS, hX, hR, hB⟩ := S
  refine W.widen (k := mc) (n := ms) (by omega) (by omega) (vx_ret ?_)
  exact W.vret hMF.1 hMF.2.1 (hMF.2.2.2.1.trans hr) (fun t ht _ => bl_QC_of (v := none) hq hRel hX hS (fun x hx => by cases hx) ht) hS.2.2 hd hMF.2.2.2.2.2.2.1
theorem bl_r_ref {v : Value} {rt : FieldType} (hd : decode M.2.1 pc = .ok (.areturn, 1)) (hr : M.2.2.2.1 = some rt) (hrt : (∃ n, rt = .object n) ∨ ∃ t, rt = .array t) (hv' : v = .null ∨ ∃ a, v = .ref a) (hq : Q (.inl (some v)) σ) : bl_WP G l d M pc lv [v] σ b Q := by
  intro p e R s m args below meth c H locs cells slots mc ms φ φ0 K0 ls S hl hv hs
  obtain ⟨hMF, hCX, hRel, hS, hX, hR, hB⟩ := S
  refine W.widen (k := mc) (n := ms) (by omega) (by omega) (vx_ret ?_)
  exact W.aret hMF.1 hMF.2.1 (hMF.2.2.2.1.trans hr) hrt (by rcases hv' with rfl | ⟨a, rfl⟩; exact Or.inl rfl; exact Or.inr ⟨φ a, rfl⟩) (fun t ht _ => bl_QC_of (v := some v) hq hRel hX hS (fun x hx => by cases hx; exact hs _ List.mem_cons_self) ht) hS.2.2 hd hMF.2.2.2.2.2.2.1
theorem bl_args_map (φ : Nat → Nat) : ∀ (as : List Value) (i : Nat), lv_args i (as.map (bl_rv φ)) = (lv_args i as).map (fun q => (q.1, bl_rv φ q.2))
  | [], _ => rfl
  | v :: as, i => by
    simp only [List.map_cons, lv_args, bl_rv_cat]
    rw [bl_args_map φ as]
theorem bl_args_len (φ : Nat → Nat) (as : List Value) : (lg_sl (as.map (bl_rv φ))).length = (lg_sl as).length := by
  induction as with
  | nil => rfl
  | cons v as ih =>
    simp only [lg_sl, List.map_cons, List.flatMap_cons, List.length_append, bl_rv_cat] at ih ⊢
    rw [ih]
    split <;> rfl
theorem bl_args_live {K : Nat → Nat} : ∀ (as : List Value) (i : Nat), (∀ v ∈ as, bl_live K v) → ∀ q ∈ lv_args i as, bl_live K q.2
  | [], _, _, q, hq => by cases hq
  | v :: as, i, h, q, hq => by
    rcases List.mem_cons.mp hq with e | e
    · subst e; exact h _ List.mem_cons_self
    · exact bl_args_live as _ (fun w hw => h w (List.mem_cons_of_mem _ hw)) q e
theorem bl_gw_tl {M : bl_MR} : ∀ w ∈ bl_gw, w ∈ bl_wsm M := fun w h => List.mem_cons_of_mem _ h
theorem bl_MC_intro {as : List Value} (hy : plainName M.1.cls = true) (hh : M.2.2.2.2 = []) (hlen : (lg_sl as).length ≤ M.2.2.1) (h : bl_WP G l d M 0 (lv_args 0 as) [] σ b Q) : bl_MC G l d M as σ b Q := by
  intro φ hlive
  refine vx_ofW (cc := M.2.1) (maxL := M.2.2.1) (ret := M.2.2.2.1) hy (by unfold bl_wsm; rw [if_pos hh]) ?_
  intro p e s m args below meth c s₁ B hml hex hP
  obtain ⟨rfl, hCX, hRel⟩ := hP
  have hts := atoms_spec (ws := bl_wsm M) B.pre
  have hl := lv_entry (as.map (bl_rv φ)) (n := M.2.2.1) (by rw [bl_args_len]; exact hlen)
  rw [lg_entry_eq]
  generalize (lg_sl (as.map (bl_rv φ)) ++ List.replicate (M.2.2.1 - (lg_sl (as.map (bl_rv φ))).length) Slot.unset).toArray = ls at hl ⊢
  rw [bl_args_map] at hl
  refine h p e (bl_rm d b) s m _ below meth c s.heap [] 0 0 b.1 b.2 φ φ σ.2.2.2.1 ls ⟨⟨B.exec, B.bytes, hml, B.returns, findClass_of_methodNamed B.named, fun w hw => hts w (bl_gw_tl w hw), B.notSynchronized, ?_, (name_of_methodNamed B.named B.method).1⟩, hCX, hRel, va_S.rf, bl_Ext.refl _ _, ⟨Nat.le_refl _, Nat.le_refl _, Nat.le_refl _, Nat.le_refl _⟩, by omega, by omega⟩ hl (bl_args_live as 0 hlive) (fun v hv => by cases hv)
  rw [hh]
  exact List.eq_nil_iff_forall_not_mem.mpr (fun x hx => hex x hx)
theorem bl_MC_introH {as : List Value} (hy : plainName M.1.cls = true) (hh : M.2.2.2.2 ≠ []) (hcw : Cond.codeWith M.1 M.2.1 M.2.2.1 M.2.2.2.1 M.2.2.2.2 ∈ bl_gw) (hlen : (lg_sl as).length ≤ M.2.2.1) (h : bl_WP G l d M 0 (lv_args 0 as) [] σ b Q) : bl_MC G l d M as σ b Q := by
  intro φ hlive
  refine vx_ofWH (cc := M.2.1) (maxL := M.2.2.1) (ret := M.2.2.2.1) (hh := M.2.2.2.2) hy (by unfold bl_wsm; rw [if_neg hh]) ?_
  intro p e s m args below meth c s₁ B hml hP
  obtain ⟨rfl, hCX, hRel⟩ := hP
  have hts := atoms_spec (ws := bl_wsm M) B.pre
  have hl := lv_entry (as.map (bl_rv φ)) (n := M.2.2.1) (by rw [bl_args_len]; exact hlen)
  rw [lg_entry_eq]
  generalize (lg_sl (as.map (bl_rv φ)) ++ List.replicate (M.2.2.1 - (lg_sl (as.map (bl_rv φ))).length) Slot.unset).toArray = ls at hl ⊢
  rw [bl_args_map] at hl
  exact h p e (bl_rm d b) s m _ below meth c s.heap [] 0 0 b.1 b.2 φ φ σ.2.2.2.1 ls ⟨⟨B.exec, B.bytes, hml, B.returns, findClass_of_methodNamed B.named, fun w hw => hts w (bl_gw_tl w hw), B.notSynchronized, vx_table (x := M.1) B (hts _ (bl_gw_tl _ hcw)), (name_of_methodNamed B.named B.method).1⟩, hCX, hRel, va_S.rf, bl_Ext.refl _ _, ⟨Nat.le_refl _, Nat.le_refl _, Nat.le_refl _, Nat.le_refl _⟩, by omega, by omega⟩ hl (bl_args_live as 0 hlive) (fun v hv => by cases hv)
end BLC
