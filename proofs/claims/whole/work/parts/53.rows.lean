/-! ===== rows: made, references laid into them ===== -/
theorem bl_RA_int {U : State} {c : ClassId} {ty : FieldType} (hty : ty = .int ∨ ty = .long) (h : va_RA U c ty) : U.vm.findClass ("[" ++ ty.toString) = some c := by
  rcases hty with rfl | rfl <;> exact h
theorem bl_RA_obj {U : State} {c : ClassId} {C : String} (h : va_RA U c (.object C)) : U.vm.findClass ("[" ++ (FieldType.object C).toString) = some c := by
  obtain ⟨kA, comp, -, -, -, h4⟩ := h
  exact h4
theorem bl_tys_app {cA : Nat → ClassId} {c : ClassId} {ty : FieldType} : (bl_tys cA ++ [(c, ty)])[7]? = some (c, ty) := rfl
section BLR
variable {G : bl_G} {l : Launch} {d : Nat} {M : bl_MR} {pc : Nat} {lv : List (Nat × Value)} {st : List Value} {σ : bl_Mem} {b : Nat × Nat} {Q : bl_Out → bl_Mem → Prop}
theorem bl_s_newarray (a : Nat) {at' : ArrayType} {kd : Nat} {n : Int32} (hd : decode M.2.1 pc = .ok (.newarray at', 2)) (hkd : (kd = 20 ∧ newarray.typeOf at' = .int) ∨ (kd = 21 ∧ newarray.typeOf at' = .long)) (hw : Cond.arrayClass (newarray.typeOf at') ∈ bl_gw) (ha : σ.2.2.2.1 a = 0) (hn : ¬ n < 0) (hsm : n.toNatClampNeg ≤ 1000000) (hb1 : 1 ≤ b.1) (hb2 : n.toNatClampNeg ≤ b.2) (h : bl_WP G l d M (pc + 2) lv (.ref a :: st) (bl_mk σ a kd n.toNatClampNeg) (b.1 - 1, b.2 - n.toNatClampNeg) Q) : bl_WP G l d M pc lv (.int n :: st) σ b Q := by
  intro p e R s m args below meth c H locs cells slots mc ms φ φ0 K0 ls S hl hv hs
  obtain ⟨L, hL, hP, hD, hwf, hro⟩ := id S.2.2.1
  obtain ⟨hMF, hCX, hRel, hS, hX, hR, hB⟩ := id S
  have hs2 := bl_t1 hs
  rcases hkd with ⟨rfl, hty⟩ | ⟨rfl, hty⟩
  · refine va_newa (a0 := (n.toNatClampNeg, .inl (fun _ => 0))) hMF.1 hMF.2.1 (hMF.2.2.2.2.2.1 _ hw) hty hCX.2.1 hP hD hS (bl_A_up hCX) (fun cA => rfl) hn rfl (by simp [componentBytes]; omega) (by omega) (by omega) hd (fun q cA H1 hK1 hP1 hD1 hS1 => ?_)
    have ec : cA = G.2.1 20 := Option.some.inj ((bl_RA_int (Or.inl rfl) (hK1.2 7 _ bl_tys_app).2).symm.trans (bl_RA_int (Or.inl rfl) (hCX.2.1.2 0 _ rfl).2))
    rw [ec] at hP1 hD1
    have hE : bl_cell G.2.1 (va_up φ a q) (bl_mk σ a 20 n.toNatClampNeg) a = .inl (G.2.1 20, n.toNatClampNeg, .inl (fun _ => 0)) := by
      rw [bl_cell_int bl_mk_Keq]
      simp [bl_mk, bl_row0_eq, va_up]
    have kk := h p e R s m args below meth c H1 locs (cells + 1) (slots + n.toNatClampNeg) mc ms (va_up φ a q) φ0 K0 ls ⟨hMF, hCX, bl_Rel_mk hL hwf hro ha (Or.inr ⟨by omega, by omega⟩) hE hP1 hD1, hS1, hX.mk ha, hR, by simp only; omega, by simp only; omega⟩ (bl_has_up hl hv ha) (fun x hx => bl_live_mk (by omega) (hv x hx)) (bl_hd (show (bl_mk σ a 20 n.toNatClampNeg).2.2.2.1 a ≠ 0 by rw [bl_mk_Keq]; omega) (fun x hx => bl_live_mk (by omega) (hs2 x hx)))
    rw [List.map_cons, bl_st_up hs2 ha] at kk
    simp only [bl_rv, va_up, if_true] at kk
    exact kk
  · refine va_newa (a0 := (n.toNatClampNeg, .inr (.inl (fun _ => 0)))) hMF.1 hMF.2.1 (hMF.2.2.2.2.2.1 _ hw) hty hCX.2.1 hP hD hS (bl_A_up hCX) (fun cA => rfl) hn rfl (by simp [componentBytes]; omega) (by omega) (by omega) hd (fun q cA H1 hK1 hP1 hD1 hS1 => ?_)
    have ec : cA = G.2.1 21 := Option.some.inj ((bl_RA_int (Or.inr rfl) (hK1.2 7 _ bl_tys_app).2).symm.trans (bl_RA_int (Or.inr rfl) (hCX.2.1.2 1 _ rfl).2))
    rw [ec] at hP1 hD1
    have hE : bl_cell G.2.1 (va_up φ a q) (bl_mk σ a 21 n.toNatClampNeg) a = .inl (G.2.1 21, n.toNatClampNeg, .inr (.inl (fun _ => 0))) := by
      rw [bl_cell_long bl_mk_Keq]
      simp [bl_mk, bl_row0_eq, va_up]
    have kk := h p e R s m args below meth c H1 locs (cells + 1) (slots + n.toNatClampNeg) mc ms (va_up φ a q) φ0 K0 ls ⟨hMF, hCX, bl_Rel_mk hL hwf hro ha (Or.inr ⟨by omega, by omega⟩) hE hP1 hD1, hS1, hX.mk ha, hR, by simp only; omega, by simp only; omega⟩ (bl_has_up hl hv ha) (fun x hx => bl_live_mk (by omega) (hv x hx)) (bl_hd (show (bl_mk σ a 21 n.toNatClampNeg).2.2.2.1 a ≠ 0 by rw [bl_mk_Keq]; omega) (fun x hx => bl_live_mk (by omega) (hs2 x hx)))
    rw [List.map_cons, bl_st_up hs2 ha] at kk
    simp only [bl_rv, va_up, if_true] at kk
    exact kk
theorem bl_s_anewarray (a : Nat) {idx kd : Nat} {r : vw_C} {n : Int32} (hd : decode M.2.1 pc = .ok (.anewarray idx, 3)) (hkd : kd = 22 ∨ kd = 23 ∨ kd = 24) (hc : vwCl[bl_elt kd]? = some r) (hw : Cond.classLink M.1.cls idx r.1 ∈ bl_gw) (hAO : ∀ (U : State) (H : Heap), bl_CX G U H → va_AO r.1 U) (ha : σ.2.2.2.1 a = 0) (hn : ¬ n < 0) (hsm : n.toNatClampNeg ≤ 1000000) (hb1 : 1 ≤ b.1) (hb2 : n.toNatClampNeg ≤ b.2) (h : bl_WP G l d M (pc + 3) lv (.ref a :: st) (bl_mk σ a kd n.toNatClampNeg) (b.1 - 1, b.2 - n.toNatClampNeg) Q) : bl_WP G l d M pc lv (.int n :: st) σ b Q := by
  intro p e R s m args below meth c H locs cells slots mc ms φ φ0 K0 ls S hl hv hs
  obtain ⟨L, hL, hP, hD, hwf, hro⟩ := id S.2.2.1
  obtain ⟨hMF, hCX, hRel, hS, hX, hR, hB⟩ := id S
  have hs2 := bl_t1 hs
  refine va_newq hMF.1 hMF.2.1 hMF.2.2.2.2.1 (hMF.2.2.2.2.2.1 _ hw) (hAO s s.heap hCX) hCX.2.1 hP hD hS (bl_A_up hCX) hn rfl (by omega) (by omega) (by omega) hd (fun q cA H1 hK1 hP1 hD1 hS1 => ?_)
  have ec : cA = G.2.1 kd := by
    refine Option.some.inj ((bl_RA_obj (hK1.2 7 _ bl_tys_app).2).symm.trans ?_)
    rcases hkd with rfl | rfl | rfl <;> cases hc
    · exact bl_RA_obj (hCX.2.1.2 2 _ rfl).2
    · exact bl_RA_obj (hCX.2.1.2 3 _ rfl).2
    · exact bl_RA_obj (hCX.2.1.2 4 _ rfl).2
  rw [ec] at hP1 hD1
  have hE : bl_cell G.2.1 (va_up φ a q) (bl_mk σ a kd n.toNatClampNeg) a = .inl (G.2.1 kd, n.toNatClampNeg, .inr (.inr (.inr (.inr (fun _ => none))))) := by
    rw [bl_cell_ref bl_mk_Keq (by omega)]
    simp [bl_mk, bl_row0_eq, va_up]
  have kk := h p e R s m args below meth c H1 locs (cells + 1) (slots + n.toNatClampNeg) mc ms (va_up φ a q) φ0 K0 ls ⟨hMF, hCX, bl_Rel_mk hL hwf hro ha (Or.inr ⟨by omega, by omega⟩) hE hP1 hD1, hS1, hX.mk ha, hR, by simp only; omega, by simp only; omega⟩ (bl_has_up hl hv ha) (fun x hx => bl_live_mk (by omega) (hv x hx)) (bl_hd (show (bl_mk σ a kd n.toNatClampNeg).2.2.2.1 a ≠ 0 by rw [bl_mk_Keq]; omega) (fun x hx => bl_live_mk (by omega) (hs2 x hx)))
  rw [List.map_cons, bl_st_up hs2 ha] at kk
  simp only [bl_rv, va_up, if_true] at kk
  exact kk
theorem bl_s_aastore {a kd x : Nat} {i : Int32} (hd : decode M.2.1 pc = .ok (.aastore, 1)) (hkd : kd = 22 ∨ kd = 23 ∨ kd = 24) (hK : σ.2.2.2.1 a = kd) (hx : σ.2.2.2.1 x = bl_elt kd + 1) (hi : vp_in i (σ.2.2.2.2 a)) (h : bl_WP G l d M (pc + 1) lv st (bl_pv σ a i.toNatClampNeg (.ref x)) b Q) : bl_WP G l d M pc lv (.ref x :: .int i :: .ref a :: st) σ b Q := by
  intro p e R s m args below meth c H locs cells slots mc ms φ φ0 K0 ls S hl hv hs
  obtain ⟨L, hL, hP, hD, hw, hro⟩ := id S.2.2.1
  obtain ⟨q0, hq0, hq1⟩ := bl_place (cA := G.2.1) (φ := φ) (σ := σ) ((hL a).mpr (Or.inr (by omega)))
  have hel : bl_elt kd < 12 := by rcases hkd with rfl | rfl | rfl <;> decide
  obtain ⟨qx, hqx, -⟩ := bl_place (cA := G.2.1) (φ := φ) (σ := σ) ((hL x).mpr (bl_isC_obj hx hel))
  rw [bl_cell_ref hK (by omega)] at hq0
  rw [bl_cell_obj hx hel] at hqx
  have hE : bl_cell G.2.1 φ (bl_pv σ a i.toNatClampNeg (.ref x)) a = .inl (G.2.1 kd, σ.2.2.2.2 a, .inr (.inr (.inr (.inr (va_up (fun j => (σ.2.2.1 a j).map φ) i.toNatClampNeg (some (φ x))))))) := by
    rw [bl_cell_ref (kd := kd) (by rw [bl_pv_k]; exact hK) (by omega)]
    simp only [bl_pv, bl_up2_row]
    congr 7
    funext j
    by_cases ej : j = i.toNatClampNeg <;> simp [va_up, ej]
  have kk : ∀ (H1 : Heap) (locs1 : List Loc), va_P G.1 vwCl ((bl_ws G.2.1 φ σ L).set q0 (φ a, .inl (G.2.1 kd, σ.2.2.2.2 a, .inr (.inr (.inr (.inr (va_up (fun j => (σ.2.2.1 a j).map φ) i.toNatClampNeg (some (φ x))))))))) H1 → va_D (bl_A G) ((bl_ws G.2.1 φ σ L).set q0 (φ a, .inl (G.2.1 kd, σ.2.2.2.2 a, .inr (.inr (.inr (.inr (va_up (fun j => (σ.2.2.1 a j).map φ) i.toNatClampNeg (some (φ x))))))))) → va_S (bl_A G) s.heap H1 locs1 → W p l e R s m args below meth c H1 locs1 cells slots (vx_MQ below (bl_QC G φ0 K0 Q) (bl_XC G φ0 K0 Q) args s mc ms (bl_A G)) (F0 m (pc + 1) ls (st.map (bl_rv φ))) := by
    intro H1 locs1 hP1 hD1 hS1
    exact h p e R s m args below meth c H1 locs1 cells slots mc ms φ φ0 K0 ls (S.pv (bl_Rel_pv hL hD hw hro hq1 hE (hs _ List.mem_cons_self) hP1 hD1) hS1) hl (by rw [bl_pv_k]; exact hv) (by rw [bl_pv_k]; exact bl_t1 (bl_t1 (bl_t1 hs)))
  rcases hkd with rfl | rfl | rfl
  · exact va_astq S.1.1 S.1.2.1 S.2.1.2.1 hP hD S.2.2.2.1 q0 2 qx 4 hq0 rfl hqx (r := (RX4, TX4, 3)) rfl hi hd kk
  · exact va_astq S.1.1 S.1.2.1 S.2.1.2.1 hP hD S.2.2.2.1 q0 3 qx 5 hq0 rfl hqx (r := (RX5, TX5, 10)) rfl hi hd kk
  · exact va_astq S.1.1 S.1.2.1 S.2.1.2.1 hP hD S.2.2.2.1 q0 4 qx 7 hq0 rfl hqx (r := (RX7, TX7, 5)) rfl hi hd kk
end BLR
