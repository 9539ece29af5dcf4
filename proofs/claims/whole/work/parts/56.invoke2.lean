/-! ===== the calls' instructions ===== -/
theorem bl_gw_good {w : Cond} (h : w ∈ bl_gw) : w ∈ bl_gw ∧ ((w.onTables && w.keeps) = true ∨ ∃ ty, w = .arrayClass ty) := ⟨h, good_of_word (List.mem_filter.mp h).2⟩
theorem bl_good {N : bl_MR} {pre : List Cond} (hp : ∀ w ∈ pre, w ∈ bl_gw) (hc : bl_cw N ∈ bl_gw) : GoodIn bl_gw (pre ++ bl_wsm N) := by
  intro w hw
  rcases List.mem_append.mp hw with h | h
  · exact bl_gw_good (hp w h)
  · rcases List.mem_cons.mp h with e | e
    · rw [e]; exact bl_gw_good hc
    · exact bl_gw_good e
theorem bl_wsm_eq {N : bl_MR} (hh : N.2.2.2.2 = []) : bl_wsm N = Cond.code N.1 N.2.1 N.2.2.1 N.2.2.2.1 :: bl_gw := by unfold bl_wsm; rw [if_pos hh]
theorem bl_wsm_eqH {N : bl_MR} (hh : N.2.2.2.2 ≠ []) : bl_wsm N = Cond.codeWith N.1 N.2.1 N.2.2.1 N.2.2.2.1 N.2.2.2.2 :: bl_gw := by unfold bl_wsm; rw [if_neg hh]
theorem bl_blind {G : bl_G} {φ : Nat → Nat} {σ : bl_Mem} {as : List Value} : FrameBlind (fun v U => v = (as.map (bl_rv φ)).toArray ∧ bl_CX G U U.heap ∧ bl_Rel G φ σ U.heap) := by
  intro a U g mk q
  exact ⟨q.1, bl_CX.same (u := U) (U := U.calling g mk a) rfl q.2.1, q.2.2⟩
theorem bl_cats (φ : Nat → Nat) (st : List Value) : ((st.map (bl_rv φ)).map fun v => v.category).sum = (st.map fun v => v.category).sum := by
  rw [List.map_map]
  congr 1
  exact List.map_congr_left (fun v _ => bl_rv_cat φ v)
theorem bl_toMet {l : Launch} {y : MethodName} {ws : List Cond} {rm : Room} {Pc : Array Value → State → Prop} {Qc : Array Value → State → Outcome → State → Prop} {XC : String → State → State → Prop} {mc ms : Nat} {free : Addr → Prop} (h : vx_Met l y ws rm Pc Qc XC mc ms free) (hx : ∀ E st t, ¬ XC E st t) : Met l y ws rm Pc Qc mc ms free := by
  intro p e ha hc hk s m args below hf happ hP hK
  obtain ⟨k, o, h1, h2, h3, hQ⟩ := h p e ha hc hk s m args below hf happ hP hK
  refine ⟨k, o, h1, h2, h3, ?_⟩
  rcases hQ with hQ | ⟨q, -, E, ce, L, hX, -⟩
  · exact hQ
  · exact absurd hX (hx E _ _)
section BLJ
variable {G : bl_G} {l : Launch} {d : Nat} {M N : bl_MR} {pc : Nat} {lv : List (Nat × Value)} {st : List Value} {σ : bl_Mem} {b b1 : Nat × Nat} {Q : bl_Out → bl_Mem → Prop}
theorem bl_s_invokevirtual {idx a ci n : Nat} {As : List Value} {r : vw_C} (hd : decode M.2.1 pc = .ok (.invokevirtual idx, 3)) (hN : bl_okN N n) (hh : N.2.2.2.2 = []) (hc : vwCl[ci]? = some r) (hcl : N.1.cls = r.1) (w1 : Cond.methodLink M.1.cls idx N.1 ∈ bl_gw) (w2 : Cond.instanceMethod N.1 ∈ bl_gw) (w3 : Cond.selects N.1.cls N.1 N.1 ∈ bl_gw) (hn : As.length = n) (hK : σ.2.2.2.1 a = ci + 1) (hrs : (st.map fun v => v.category).sum ≤ 8) (hb1 : b1.1 ≤ b.1) (hb2 : b1.2 ≤ b.2)
    (h : bl_MC G l d N (.ref a :: As) σ b1 (bl_after G l (d + 1) M pc lv st (b.1 - b1.1, b.2 - b1.2) Q)) : bl_WP G l (d + 1) M pc lv (As.reverse ++ .ref a :: st) σ b Q := by
  intro p e R s m args below meth c H locs cells slots mc ms φ φ0 K0 ls S hl hv hs
  have hci := bl_cl_lt hc
  obtain ⟨L, hL, hP, hD, hw, hro⟩ := id S.2.2.1
  obtain ⟨q0, hq0, -⟩ := bl_place (cA := G.2.1) (φ := φ) (σ := σ) ((hL a).mpr (bl_isC_obj hK hci))
  rw [bl_cell_obj hK hci] at hq0
  have hsA : ∀ v ∈ As, bl_live σ.2.2.2.1 v := fun v hv' => hs v (List.mem_append_left _ (List.mem_reverse.mpr hv'))
  have hs0 : ∀ v ∈ st, bl_live σ.2.2.2.1 v := fun v hv' => hs v (List.mem_append_right _ (List.mem_cons_of_mem _ hv'))
  have hlive : ∀ v ∈ (.ref a :: As : List Value), bl_live σ.2.2.2.1 v := bl_hd (hs _ (List.mem_append_right _ List.mem_cons_self)) hsA
  have hMet := h φ hlive
  obtain ⟨hMF, hCX, hRel, hS, hX, hR, hB⟩ := id S
  refine bl_run S hl hv hs0 hb1 hb2 (a0 := (Value.ref (φ a) :: As.map (bl_rv φ)).toArray) ?_
  have hstk : (As.reverse ++ .ref a :: st).map (bl_rv φ) = (As.map (bl_rv φ)).reverse ++ .ref (φ a) :: st.map (bl_rv φ) := by
    rw [List.map_append, List.map_reverse]; rfl
  rw [hstk]
  refine vx_runV (C := r.1) (n := n) ⟨hMF.1, hMF.2.1, hMF.2.2.1, hMF.2.2.2.2.1, hMF.2.2.2.2.2.1⟩ hMet (cwV n hMF.2.2.2.2.2.1 (by
      rw [← hcl]
      refine bl_good (pre := [.methodLink M.1.cls idx N.1, .instanceMethod N.1, .selects N.1.cls N.1 N.1, .initialized N.1.cls]) (fun w hw' => ?_) hN.2.2.1
      simp only [List.mem_cons, List.not_mem_nil, or_false] at hw'
      rcases hw' with rfl | rfl | rfl | rfl
      · exact w1
      · exact w2
      · exact w3
      · exact hN.2.2.2) (bl_wsm_eq hh) rfl rfl ⟨hcl, hN.1⟩ ⟨by simp only [bl_rm]; omega, by simp only [bl_rm]; have := hN.2.1; omega⟩) ⟨bl_blind, va_recv hCX.2.1 hP hc hq0, fun U hU hW => ⟨rfl, by
        rw [hU]; exact bl_CX.moved hW hS.1 hS.2.1 hCX, by rw [hU]; exact hRel⟩⟩ rfl (by rw [List.length_map]; exact hn) hl.1 rfl (lv_room (by rw [bl_cats]; exact hrs)) hd ⟨by omega, by omega⟩
theorem bl_s_invokestatic {idx n : Nat} {As : List Value} (hd : decode M.2.1 pc = .ok (.invokestatic idx, 3)) (hN : bl_okN N n) (w1 : Cond.methodLink M.1.cls idx N.1 ∈ bl_gw) (w2 : Cond.static N.1 ∈ bl_gw) (hn : As.length = n) (hrs : (st.map fun v => v.category).sum ≤ 8) (hb1 : b1.1 ≤ b.1) (hb2 : b1.2 ≤ b.2)
    (h : bl_MC G l d N As σ b1 (bl_after G l (d + 1) M pc lv st (b.1 - b1.1, b.2 - b1.2) Q)) : bl_WP G l (d + 1) M pc lv (As.reverse ++ st) σ b Q := by
  intro p e R s m args below meth c H locs cells slots mc ms φ φ0 K0 ls S hl hv hs
  have hsA : ∀ v ∈ As, bl_live σ.2.2.2.1 v := fun v hv' => hs v (List.mem_append_left _ (List.mem_reverse.mpr hv'))
  have hs0 : ∀ v ∈ st, bl_live σ.2.2.2.1 v := fun v hv' => hs v (List.mem_append_right _ hv')
  have hMet := h φ hsA
  obtain ⟨hMF, hCX, hRel, hS, hX, hR, hB⟩ := id S
  refine bl_run S hl hv hs0 hb1 hb2 (a0 := (As.map (bl_rv φ)).toArray) ?_
  have hstk : (As.reverse ++ st).map (bl_rv φ) = (As.map (bl_rv φ)).reverse ++ st.map (bl_rv φ) := by
    rw [List.map_append, List.map_reverse]
  rw [hstk]
  have hG : GoodIn bl_gw (va_wsS M.1.cls idx N.1 (bl_wsm N)) := by
    refine bl_good (pre := [.methodLink M.1.cls idx N.1, .static N.1, .initialized N.1.cls]) (fun w hw' => ?_) hN.2.2.1
    simp only [List.mem_cons, List.not_mem_nil, or_false] at hw'
    rcases hw' with rfl | rfl | rfl
    · exact w1
    · exact w2
    · exact hN.2.2.2
  have hPre : PreS s H (fun v U => v = (As.map (bl_rv φ)).toArray ∧ bl_CX G U U.heap ∧ bl_Rel G φ σ U.heap) (As.map (bl_rv φ)) := ⟨bl_blind, fun U hU hW => ⟨rfl, by
        rw [hU]; exact bl_CX.moved hW hS.1 hS.2.1 hCX, by rw [hU]; exact hRel⟩⟩
  by_cases hh : N.2.2.2.2 = []
  · exact vx_runS (n := n) ⟨hMF.1, hMF.2.1, hMF.2.2.1, hMF.2.2.2.2.1, hMF.2.2.2.2.2.1⟩ hMet (va_cwS n hMF.2.2.2.2.2.1 hG (bl_wsm_eq hh) rfl rfl hN.1 ⟨by simp only [bl_rm]; omega, by simp only [bl_rm]; have := hN.2.1; omega⟩) hPre rfl (by rw [List.length_map]; exact hn) hl.1 rfl (lv_room (by rw [bl_cats]; exact hrs)) hd ⟨by omega, by omega⟩
  · exact vx_runSX (n := n) ⟨hMF.1, hMF.2.1, hMF.2.2.1, hMF.2.2.2.2.1, hMF.2.2.2.2.2.1⟩ hMet (vx_cwSW n hMF.2.2.2.2.2.1 hG (bl_wsm_eqH hh) rfl rfl hN.1 ⟨by simp only [bl_rm]; omega, by simp only [bl_rm]; have := hN.2.1; omega⟩) hPre rfl (by rw [List.length_map]; exact hn) hl.1 rfl (lv_room (by rw [bl_cats]; exact hrs)) hd ⟨by omega, by omega⟩
/-- a constructor's call; its contract may not throw -/
theorem bl_s_init {idx a n : Nat} {As : List Value} {Qi : bl_Mem → Prop} (hd : decode M.2.1 pc = .ok (.invokespecial idx, 3)) (hN : bl_okN N n) (hh : N.2.2.2.2 = []) (hret : N.2.2.2.1 = none) (hnm : N.1.name = "<init>") (w1 : Cond.methodLink M.1.cls idx N.1 ∈ bl_gw ∨ ∃ host : String, ∀ (U : State) (H : Heap), bl_CX G U H → va_Nw (.methodLinkNest M.1.cls idx N.1 host) U) (w2 : Cond.instanceMethod N.1 ∈ bl_gw) (hn : As.length = n) (hrs : (st.map fun v => v.category).sum ≤ 8) (hb1 : b1.1 ≤ b.1) (hb2 : b1.2 ≤ b.2)
    (h : bl_MC G l d N (.ref a :: As) σ b1 (fun o σ1 => match o with | .inl v => v = none ∧ Qi σ1 | .inr _ => False)) (hk : ∀ σ1, Qi σ1 → bl_WP G l (d + 1) M (pc + 3) lv st σ1 (b.1 - b1.1, b.2 - b1.2) Q) : bl_WP G l (d + 1) M pc lv (As.reverse ++ .ref a :: st) σ b Q := by
  intro p e R s m args below meth c H locs cells slots mc ms φ φ0 K0 ls S hl hv hs
  have hsA : ∀ v ∈ As, bl_live σ.2.2.2.1 v := fun v hv' => hs v (List.mem_append_left _ (List.mem_reverse.mpr hv'))
  have hs0 : ∀ v ∈ st, bl_live σ.2.2.2.1 v := fun v hv' => hs v (List.mem_append_right _ (List.mem_cons_of_mem _ hv'))
  have hlive : ∀ v ∈ (.ref a :: As : List Value), bl_live σ.2.2.2.1 v := bl_hd (hs _ (List.mem_append_right _ List.mem_cons_self)) hsA
  have hMet := bl_toMet (h φ hlive) (fun E st t hx => hx.1.choose_spec.choose_spec.1)
  obtain ⟨hMF, hCX, hRel, hS, hX, hR, hB⟩ := id S
  refine bl_run S hl hv hs0 hb1 hb2 (a0 := (Value.ref (φ a) :: As.map (bl_rv φ)).toArray) ?_
  have hstk : (As.reverse ++ .ref a :: st).map (bl_rv φ) = (As.map (bl_rv φ)).reverse ++ .ref (φ a) :: st.map (bl_rv φ) := by
    rw [List.map_append, List.map_reverse]; rfl
  rw [hstk]
  have hG : GoodIn bl_gw (bl_wsm N) := by
    have := bl_good (N := N) (pre := []) (fun w hw' => by cases hw') hN.2.2.1
    exact this
  have hPre : PreS s H (fun v U => v = ((.ref a :: As : List Value).map (bl_rv φ)).toArray ∧ bl_CX G U U.heap ∧ bl_Rel G φ σ U.heap) (.ref (φ a) :: As.map (bl_rv φ)) := ⟨bl_blind, fun U hU hW => ⟨rfl, by
        rw [hU]; exact bl_CX.moved hW hS.1 hS.2.1 hCX, by rw [hU]; exact hRel⟩⟩
  have hrun : va_Run p l e R s m args below meth c H locs cells slots b1.1 b1.2 (F0 m pc ls ((As.map (bl_rv φ)).reverse ++ .ref (φ a) :: st.map (bl_rv φ))) (st.map (bl_rv φ)) (bl_QC G φ σ.2.2.2.1 (fun o σ1 => match o with | .inl v => v = none ∧ Qi σ1 | .inr _ => False) (Value.ref (φ a) :: As.map (bl_rv φ)).toArray) (bl_A G) := by
    have hw : bl_wsm N = Cond.code N.1 N.2.1 N.2.2.1 none :: bl_gw := by rw [bl_wsm_eq hh, hret]
    rcases w1 with w1 | ⟨host, w1⟩
    · exact va_runI (n := n) ⟨hMF.1, hMF.2.1, hMF.2.2.1, hMF.2.2.2.2.1, hMF.2.2.2.2.2.1⟩ hMet (cwI n hMF.2.2.2.2.2.1 hG hw rfl rfl (hMF.2.2.2.2.2.1 _ hN.2.2.2) (hMF.2.2.2.2.2.1 _ w1) (hMF.2.2.2.2.2.1 _ w2) hnm hN.1 ⟨by simp only [bl_rm]; omega, by simp only [bl_rm]; have := hN.2.1; omega⟩) hPre rfl (by rw [List.length_map]; exact hn) hl.1 rfl (lv_room (by rw [bl_cats]; exact hrs)) hd ⟨by omega, by omega⟩
    · exact va_runIN (n := n) (host := host) ⟨hMF.1, hMF.2.1, hMF.2.2.1, hMF.2.2.2.2.1, hMF.2.2.2.2.2.1⟩ hMet ⟨va_cnB n hMF.2.2.2.2.2.1 hG hw rfl rfl (w1 s s.heap hCX) (hMF.2.2.2.2.2.1 _ hN.2.2.2) hN.1 ⟨by simp only [bl_rm]; omega, by simp only [bl_rm]; have := hN.2.1; omega⟩, hnm, hMF.2.2.2.2.2.1 _ w2⟩ hPre rfl (by rw [List.length_map]; exact hn) hl.1 rfl (lv_room (by rw [bl_cats]; exact hrs)) hd ⟨by omega, by omega⟩
  intro T hT X
  obtain ⟨v, st₀, t, T', L, h0, X', hL, e1, e2, ⟨⟨φ1, σ1, v1, ev, hq, hRel1, hX1, hv1⟩, hF⟩, stp⟩ := hrun T hT X
  refine Or.inl ⟨v, st₀, t, T', L, h0, X', hL, e1, e2, ⟨⟨φ1, σ1, v1, ev, ?_, hRel1, hX1, hv1⟩, hF⟩, stp⟩
  obtain ⟨rfl, hq⟩ := hq
  exact hk σ1 hq
theorem bl_s_objinit {idx a : Nat} (hd : decode M.2.1 pc = .ok (.invokespecial idx, 3)) (w1 : Cond.methodLink M.1.cls idx objectInit ∈ bl_gw) (w2 : Cond.instanceMethod objectInit ∈ bl_gw) (w3 : Cond.code objectInit ⟨#[0xb1]⟩ 1 none ∈ bl_gw) (hrs : (st.map fun v => v.category).sum ≤ 8) (h : bl_WP G l d M (pc + 3) lv st σ b Q) : bl_WP G l d M pc lv (.ref a :: st) σ b Q := by
  intro p e R s m args below meth c H locs cells slots mc ms φ φ0 K0 ls S hl hv hs
  obtain ⟨hMF, hCX, hRel, hS, hX, hR, hB⟩ := id S
  have hr8 : (((st.map (bl_rv φ)).map fun v => v.category).sum) ≤ 8 := by rw [bl_cats]; exact hrs
  refine W.objInit hMF.1 hMF.2.1 hMF.2.2.2.2.1 (hMF.2.2.2.2.2.1 _ w1) (hMF.2.2.2.2.2.1 _ w2) (hMF.2.2.2.2.2.1 _ w3) rfl (hl.1.trans hMF.2.2.1.symm) rfl hd (by omega) (by have := lv_room (m := m) (pc := pc) (ls := ls) (rest := ((Value.ref a :: st).map (bl_rv φ))) hr8; omega) ?_
  exact h p e R s m args below meth c H locs cells slots mc ms φ φ0 K0 ls S hl hv (bl_t1 hs)
end BLJ
