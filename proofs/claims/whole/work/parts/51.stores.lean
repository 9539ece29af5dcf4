/-! ===== stores and reads of rows ===== -/
theorem bl_pv_k (σ : bl_Mem) (a k : Nat) (v : Value) : (bl_pv σ a k v).2.2.2.1 = σ.2.2.2.1 := by rw [bl_pv_K]
theorem bl_Rel_pv {G : bl_G} {φ : Nat → Nat} {σ : bl_Mem} {a k q0 : Nat} {v : Value} {E : va_E} {H1 : Heap} {L : List Nat} (hL : ∀ a, a ∈ L ↔ bl_isC (σ.2.2.2.1 a)) (hD : va_D (bl_A G) (bl_ws G.2.1 φ σ L)) (hw : ∀ a k b, bl_isC (σ.2.2.2.1 a) → σ.2.2.1 a k = some b → σ.2.2.2.1 b ≠ 0) (hro : ∀ a j, σ.2.2.2.1 a = 100 + j → φ a = G.2.2.1 j) (hq : L[q0]? = some a) (hE : bl_cell G.2.1 φ (bl_pv σ a k v) a = E) (hlive : bl_live σ.2.2.2.1 v)
    (hP1 : va_P G.1 vwCl ((bl_ws G.2.1 φ σ L).set q0 (φ a, E)) H1) (hD1 : va_D (bl_A G) ((bl_ws G.2.1 φ σ L).set q0 (φ a, E))) : bl_Rel G φ (bl_pv σ a k v) H1 := by
  have e := bl_ws_set (σ' := bl_pv σ a k v) hD hq (fun b hb => bl_cell_pv_ne hb) hE
  rw [e] at hP1 hD1
  refine ⟨L, fun x => by rw [bl_pv_k]; exact hL x, hP1, hD1, fun x j y hx hy => ?_, fun x j hx => hro x j (by rw [bl_pv_k] at hx; exact hx)⟩
  rw [bl_pv_k] at hx ⊢
  cases v with
  | ref r =>
    by_cases h : x = a ∧ j = k
    · simp [bl_pv, bl_up2, h] at hy
      subst hy; exact hlive
    · simp [bl_pv, bl_up2, h] at hy
      exact hw x j y hx hy
  | null =>
    by_cases h : x = a ∧ j = k
    · simp [bl_pv, bl_up2, h] at hy
    · simp [bl_pv, bl_up2, h] at hy
      exact hw x j y hx hy
  | int z => exact hw x j y hx hy
  | long z => exact hw x j y hx hy
  | float z => exact hw x j y hx hy
  | double z => exact hw x j y hx hy
  | retAddr z => exact hw x j y hx hy
theorem bl_St.pv {G : bl_G} {d : Nat} {M : bl_MR} {σ : bl_Mem} {b : Nat × Nat} {p : Program} {R : Room} {s : State} {m : MethodId} {args : Array Value} {meth : Method} {c : Code} {H H1 : Heap} {locs locs1 : List Loc} {cells slots mc ms : Nat} {φ φ0 K0 : Nat → Nat} {a k : Nat} {v : Value} (S : bl_St G d M σ b p R s m args meth c H locs cells slots mc ms φ φ0 K0) (hR : bl_Rel G φ (bl_pv σ a k v) H1) (hS : va_S (bl_A G) s.heap H1 locs1) : bl_St G d M (bl_pv σ a k v) b p R s m args meth c H1 locs1 cells slots mc ms φ φ0 K0 :=
  ⟨S.1, S.2.1, hR, hS, by rw [bl_pv_k]; exact S.2.2.2.2.1, S.2.2.2.2.2⟩
def bl_tok : FieldType → Bool
  | .int => true
  | .boolean => true
  | .long => true
  | .object _ => true
  | .array _ => true
  | _ => false
theorem bl_nar {ty : FieldType} {v : Value} (φ : Nat → Nat) (ht : bl_tok ty = true) (hf : bl_fit ty v) (hb : ty = .boolean → v = .int 0 ∨ v = .int 1) : narrow ty (bl_rv φ v) = bl_rv φ v ∧ fits ty (bl_rv φ v) = true := by
  rcases hf with ⟨h, ⟨r, rfl⟩ | rfl⟩ | ⟨h1, h2, x, rfl⟩ | ⟨h1, h2, x, rfl⟩
  · cases ty <;> simp [bl_isR, bl_tok] at h ht <;> exact ⟨rfl, rfl⟩
  · cases ty <;> simp [bl_isR, bl_tok] at h ht <;> exact ⟨rfl, rfl⟩
  · cases ty <;> simp [bl_isR, bl_isL, bl_tok] at h1 h2 ht <;> exact ⟨rfl, rfl⟩
  · cases ty <;> simp [bl_isR, bl_isL, bl_tok] at h1 h2 ht
    · exact ⟨rfl, rfl⟩
    · rcases hb rfl with e | e <;> (cases e; exact ⟨rfl, rfl⟩)
theorem bl_tl {K : Nat → Nat} {st st' : List Value} (h : ∀ v ∈ st, bl_live K v) (hs : ∀ v ∈ st', v ∈ st) : ∀ v ∈ st', bl_live K v := fun v hv => h v (hs v hv)
theorem bl_hd {K : Nat → Nat} {st : List Value} {v : Value} (hv : bl_live K v) (h : ∀ v ∈ st, bl_live K v) : ∀ w ∈ v :: st, bl_live K w := fun w hw => (List.mem_cons.mp hw).elim (fun e => e ▸ hv) (h w)
theorem bl_t1 {K : Nat → Nat} {st : List Value} {v : Value} (h : ∀ w ∈ v :: st, bl_live K w) : ∀ w ∈ st, bl_live K w := fun w hw => h w (List.mem_cons_of_mem _ hw)
section BLW
variable {G : bl_G} {l : Launch} {d : Nat} {M : bl_MR} {pc : Nat} {lv : List (Nat × Value)} {st : List Value} {σ : bl_Mem} {b : Nat × Nat} {Q : bl_Out → bl_Mem → Prop}
theorem bl_s_putfield {idx ci a k : Nat} {r : vw_C} {v : Value} (hd : decode M.2.1 pc = .ok (.putfield idx, 3)) (hc : vwCl[ci]? = some r) (hk : k < r.2.2) (hlk : Cond.fieldLink M.1.cls idx (r.2.1 k).1 (r.2.1 k).2.1 (r.2.1 k).2.2.1 ∈ bl_gw) (ht : bl_tok (bl_ty ci k) = true) (hfin : (r.2.1 k).2.2.2 = false ∨ ((r.2.1 k).2.2.2 = true ∧ M.1.name = "<init>" ∧ (r.2.1 k).1 = M.1.cls)) (hK : σ.2.2.2.1 a = ci + 1) (hf : bl_fit (bl_ty ci k) v) (hbo : bl_ty ci k = .boolean → v = .int 0 ∨ v = .int 1) (h : bl_WP G l d M (pc + 3) lv st (bl_pv σ a k v) b Q) : bl_WP G l d M pc lv (v :: .ref a :: st) σ b Q := by
  intro p e R s m args below meth c H locs cells slots mc ms φ φ0 K0 ls S hl hv hs
  have hci := bl_cl_lt hc
  obtain ⟨L, hL, hP, hD, hw, hro⟩ := id S.2.2.1
  obtain ⟨q0, hq0, hq1⟩ := bl_place (cA := G.2.1) (φ := φ) (σ := σ) ((hL a).mpr (bl_isC_obj hK hci))
  rw [bl_cell_obj hK hci] at hq0
  obtain ⟨hn, hfit⟩ := bl_nar φ ht hf hbo
  have hE : bl_cell G.2.1 φ (bl_pv σ a k v) a = .inr (ci, (bl_fs φ σ ci a).set k (bl_rv φ v)) := by
    rw [bl_cell_obj (by rw [bl_pv_k]; exact hK) hci, bl_fs_pv hf]
  have hlen : k < (bl_fs φ σ ci a).length := by simp [bl_fs, ← bl_cl_nf ci hci r hc, hk]
  have kk : ∀ (H1 : Heap) (locs1 : List Loc), va_P G.1 vwCl ((bl_ws G.2.1 φ σ L).set q0 (φ a, .inr (ci, (bl_fs φ σ ci a).set k (bl_rv φ v)))) H1 → va_D (bl_A G) ((bl_ws G.2.1 φ σ L).set q0 (φ a, .inr (ci, (bl_fs φ σ ci a).set k (bl_rv φ v)))) → va_S (bl_A G) s.heap H1 locs1 → W p l e R s m args below meth c H1 locs1 cells slots (vx_MQ below (bl_QC G φ0 K0 Q) (bl_XC G φ0 K0 Q) args s mc ms (bl_A G)) (F0 m (pc + 3) ls (st.map (bl_rv φ))) := by
    intro H1 locs1 hP1 hD1 hS1
    exact h p e R s m args below meth c H1 locs1 cells slots mc ms φ φ0 K0 ls (S.pv (bl_Rel_pv hL hD hw hro hq1 hE (hs v List.mem_cons_self) hP1 hD1) hS1) hl (by rw [bl_pv_k]; exact hv) (by rw [bl_pv_k]; exact bl_t1 (bl_t1 hs))
  rcases hfin with hfin | ⟨hfin, hin, hde⟩
  · exact va_put S.1.1 S.1.2.1 S.1.2.2.2.2.2.1 (bl_cl_in ci r hc) (bl_ty ci) (bl_cl_ty ci r hc) (bl_cl_nm ci r hc) S.1.2.2.2.2.1 S.2.1.2.1 hP hD S.2.2.2.1 q0 hq0 hc k hk (S.1.2.2.2.2.2.1 _ hlk) (fun x hx => hx) hfin (bl_cl_ty ci r hc k hk) hn hfit hlen hd kk
  · exact va_putF S.1.1 S.1.2.1 S.1.2.2.2.2.2.1 (bl_cl_in ci r hc) (bl_ty ci) (bl_cl_ty ci r hc) (bl_cl_nm ci r hc) S.1.2.2.2.2.1 S.2.1.2.1 hP hD S.2.2.2.1 q0 hq0 hc k hk (S.1.2.2.2.2.2.1 _ hlk) (fun x hx => hx) hfin (S.1.2.2.2.2.2.2.2.2.trans hin) hde (bl_cl_ty ci r hc k hk) hn hfit hlen hd kk
theorem bl_s_iaload {a : Nat} {i : Int32} (hd : decode M.2.1 pc = .ok (.iaload, 1)) (hK : σ.2.2.2.1 a = 20) (hi : vp_in i (σ.2.2.2.2 a)) (h : bl_WP G l d M (pc + 1) lv (.int (σ.1 a i.toNatClampNeg) :: st) σ b Q) : bl_WP G l d M pc lv (.int i :: .ref a :: st) σ b Q := by
  intro p e R s m args below meth c H locs cells slots mc ms φ φ0 K0 ls S hl hv hs
  obtain ⟨L, hL, hP, hD, hw, hro⟩ := id S.2.2.1
  obtain ⟨q0, hq0, hq1⟩ := bl_place (cA := G.2.1) (φ := φ) (σ := σ) ((hL a).mpr (Or.inr (by omega)))
  rw [bl_cell_int hK] at hq0
  refine va_iald S.1.1 S.1.2.1 S.2.1.2.1 hP q0 0 hq0 rfl hi hd ?_
  exact h p e R s m args below meth c H locs cells slots mc ms φ φ0 K0 ls S hl hv (bl_hd trivial (bl_t1 (bl_t1 hs)))
theorem bl_s_laload {a : Nat} {i : Int32} (hd : decode M.2.1 pc = .ok (.laload, 1)) (hK : σ.2.2.2.1 a = 21) (hi : vp_in i (σ.2.2.2.2 a)) (h : bl_WP G l d M (pc + 1) lv (.long (σ.2.1 a i.toNatClampNeg) :: st) σ b Q) : bl_WP G l d M pc lv (.int i :: .ref a :: st) σ b Q := by
  intro p e R s m args below meth c H locs cells slots mc ms φ φ0 K0 ls S hl hv hs
  obtain ⟨L, hL, hP, hD, hw, hro⟩ := id S.2.2.1
  obtain ⟨q0, hq0, hq1⟩ := bl_place (cA := G.2.1) (φ := φ) (σ := σ) ((hL a).mpr (Or.inr (by omega)))
  rw [bl_cell_long hK] at hq0
  refine va_lald S.1.1 S.1.2.1 S.2.1.2.1 hP q0 1 hq0 rfl hi hd ?_
  exact h p e R s m args below meth c H locs cells slots mc ms φ φ0 K0 ls S hl hv (bl_hd trivial (bl_t1 (bl_t1 hs)))
theorem bl_s_iastore {a : Nat} {i x : Int32} (hd : decode M.2.1 pc = .ok (.iastore, 1)) (hK : σ.2.2.2.1 a = 20) (hi : vp_in i (σ.2.2.2.2 a)) (h : bl_WP G l d M (pc + 1) lv st (bl_pv σ a i.toNatClampNeg (.int x)) b Q) : bl_WP G l d M pc lv (.int x :: .int i :: .ref a :: st) σ b Q := by
  intro p e R s m args below meth c H locs cells slots mc ms φ φ0 K0 ls S hl hv hs
  obtain ⟨L, hL, hP, hD, hw, hro⟩ := id S.2.2.1
  obtain ⟨q0, hq0, hq1⟩ := bl_place (cA := G.2.1) (φ := φ) (σ := σ) ((hL a).mpr (Or.inr (by omega)))
  rw [bl_cell_int hK] at hq0
  have hE : bl_cell G.2.1 φ (bl_pv σ a i.toNatClampNeg (.int x)) a = .inl (G.2.1 20, σ.2.2.2.2 a, .inl (upd (σ.1 a) i.toNatClampNeg x)) := by
    rw [bl_cell_int (by rw [bl_pv_k]; exact hK)]
    simp only [bl_pv, bl_up2_row]
    rfl
  refine va_iast S.1.1 S.1.2.1 S.2.1.2.1 hP hD S.2.2.2.1 q0 0 hq0 rfl hi hd (fun H1 locs1 hP1 hD1 hS1 => ?_)
  exact h p e R s m args below meth c H1 locs1 cells slots mc ms φ φ0 K0 ls (S.pv (bl_Rel_pv hL hD hw hro hq1 hE trivial hP1 hD1) hS1) hl (by rw [bl_pv_k]; exact hv) (by rw [bl_pv_k]; exact bl_t1 (bl_t1 (bl_t1 hs)))
theorem bl_s_lastore {a : Nat} {i : Int32} {x : Int64} (hd : decode M.2.1 pc = .ok (.lastore, 1)) (hK : σ.2.2.2.1 a = 21) (hi : vp_in i (σ.2.2.2.2 a)) (h : bl_WP G l d M (pc + 1) lv st (bl_pv σ a i.toNatClampNeg (.long x)) b Q) : bl_WP G l d M pc lv (.long x :: .int i :: .ref a :: st) σ b Q := by
  intro p e R s m args below meth c H locs cells slots mc ms φ φ0 K0 ls S hl hv hs
  obtain ⟨L, hL, hP, hD, hw, hro⟩ := id S.2.2.1
  obtain ⟨q0, hq0, hq1⟩ := bl_place (cA := G.2.1) (φ := φ) (σ := σ) ((hL a).mpr (Or.inr (by omega)))
  rw [bl_cell_long hK] at hq0
  have hE : bl_cell G.2.1 φ (bl_pv σ a i.toNatClampNeg (.long x)) a = .inl (G.2.1 21, σ.2.2.2.2 a, .inr (.inl (vp_updL (σ.2.1 a) i.toNatClampNeg x))) := by
    rw [bl_cell_long (by rw [bl_pv_k]; exact hK)]
    simp only [bl_pv, bl_up2_row]
    rfl
  refine va_last S.1.1 S.1.2.1 S.2.1.2.1 hP hD S.2.2.2.1 q0 1 hq0 rfl hi hd (fun H1 locs1 hP1 hD1 hS1 => ?_)
  exact h p e R s m args below meth c H1 locs1 cells slots mc ms φ φ0 K0 ls (S.pv (bl_Rel_pv hL hD hw hro hq1 hE trivial hP1 hD1) hS1) hl (by rw [bl_pv_k]; exact hv) (by rw [bl_pv_k]; exact bl_t1 (bl_t1 (bl_t1 hs)))
theorem bl_rv_rf (φ : Nat → Nat) (r : Option Nat) : bl_rv φ (va_rf r) = va_rf (r.map φ) := by cases r <;> rfl
theorem bl_s_aaload {a kd : Nat} {i : Int32} (hd : decode M.2.1 pc = .ok (.aaload, 1)) (hK : σ.2.2.2.1 a = kd) (h1 : 22 ≤ kd) (h2 : kd ≤ 26) (hi : vp_in i (σ.2.2.2.2 a)) (h : bl_WP G l d M (pc + 1) lv (va_rf (σ.2.2.1 a i.toNatClampNeg) :: st) σ b Q) : bl_WP G l d M pc lv (.int i :: .ref a :: st) σ b Q := by
  intro p e R s m args below meth c H locs cells slots mc ms φ φ0 K0 ls S hl hv hs
  obtain ⟨L, hL, hP, hD, hw, hro⟩ := id S.2.2.1
  have hC : bl_isC (σ.2.2.2.1 a) := Or.inr (by omega)
  obtain ⟨q0, hq0, hq1⟩ := bl_place (cA := G.2.1) (φ := φ) (σ := σ) ((hL a).mpr hC)
  rw [bl_cell_ref hK h1] at hq0
  have hlv : bl_live σ.2.2.2.1 (va_rf (σ.2.2.1 a i.toNatClampNeg)) := by
    cases hr : σ.2.2.1 a i.toNatClampNeg with
    | none => trivial
    | some r => exact hw a _ r hC hr
  have kk := h p e R s m args below meth c H locs cells slots mc ms φ φ0 K0 ls S hl hv (bl_hd hlv (bl_t1 (bl_t1 hs)))
  rw [List.map_cons, bl_rv_rf] at kk
  have hat : H[φ a]? = some (arrV (G.2.1 kd) (σ.2.2.2.2 a) (fun j => va_rf ((σ.2.2.1 a j).map φ))) := hP q0 _ hq0
  have hty : ∃ ty : FieldType, ty.isReference = true ∧ ∃ t0 : Nat, (bl_tys G.2.1)[t0]? = some (G.2.1 kd, ty) := by
    rcases (show kd = 22 ∨ kd = 23 ∨ kd = 24 ∨ kd = 25 ∨ kd = 26 by omega) with rfl | rfl | rfl | rfl | rfl
    · exact ⟨_, rfl, 2, rfl⟩
    · exact ⟨_, rfl, 3, rfl⟩
    · exact ⟨_, rfl, 4, rfl⟩
    · exact ⟨_, rfl, 5, rfl⟩
    · exact ⟨_, rfl, 6, rfl⟩
  obtain ⟨ty, hre, t0, ht0⟩ := hty
  have harr := (S.2.1.2.1.2 t0 _ ht0).1
  have hsz : (arrV (G.2.1 kd) (σ.2.2.2.2 a) (fun j => va_rf ((σ.2.2.1 a j).map φ))).slots.size = σ.2.2.2.2 a := by simp [arrV]
  have hlt : i.toNatClampNeg < σ.2.2.2.2 a := by
    rcases Nat.lt_or_ge i.toNatClampNeg (σ.2.2.2.2 a) with q | q
    · exact q
    · exact absurd (Or.inr q) hi
  refine W.aald S.1.1 S.1.2.1 hat (harr _ _) hre (by simp [arrV]) (by rw [hsz]; exact hi) (v := va_rf ((σ.2.2.1 a i.toNatClampNeg).map φ)) (by simp [arrV, hlt]) rfl rfl hd ?_
  exact kk
theorem bl_s_arraylength {a kd : Nat} (hd : decode M.2.1 pc = .ok (.arraylength, 1)) (hK : σ.2.2.2.1 a = kd) (h1 : 20 ≤ kd) (h2 : kd ≤ 26) (h : bl_WP G l d M (pc + 1) lv (.int (Int32.ofNat (σ.2.2.2.2 a)) :: st) σ b Q) : bl_WP G l d M pc lv (.ref a :: st) σ b Q := by
  intro p e R s m args below meth c H locs cells slots mc ms φ φ0 K0 ls S hl hv hs
  obtain ⟨L, hL, hP, hD, hw, hro⟩ := id S.2.2.1
  have hC : bl_isC (σ.2.2.2.1 a) := Or.inr (by omega)
  obtain ⟨q0, hq0, hq1⟩ := bl_place (cA := G.2.1) (φ := φ) (σ := σ) ((hL a).mpr hC)
  have kk := h p e R s m args below meth c H locs cells slots mc ms φ φ0 K0 ls S hl hv (bl_hd trivial (bl_t1 hs))
  rcases (show kd = 20 ∨ kd = 21 ∨ kd = 22 ∨ kd = 23 ∨ kd = 24 ∨ kd = 25 ∨ kd = 26 by omega) with rfl | rfl | rfl | rfl | rfl | rfl | rfl
  · rw [bl_cell_int hK] at hq0
    exact va_alen S.1.1 S.1.2.1 S.2.1.2.1 hP q0 0 hq0 rfl rfl hd kk
  · rw [bl_cell_long hK] at hq0
    exact va_alen S.1.1 S.1.2.1 S.2.1.2.1 hP q0 1 hq0 rfl rfl hd kk
  · rw [bl_cell_ref hK (by omega)] at hq0
    exact va_alen S.1.1 S.1.2.1 S.2.1.2.1 hP q0 2 hq0 rfl rfl hd kk
  · rw [bl_cell_ref hK (by omega)] at hq0
    exact va_alen S.1.1 S.1.2.1 S.2.1.2.1 hP q0 3 hq0 rfl rfl hd kk
  · rw [bl_cell_ref hK (by omega)] at hq0
    exact va_alen S.1.1 S.1.2.1 S.2.1.2.1 hP q0 4 hq0 rfl rfl hd kk
  · rw [bl_cell_ref hK (by omega)] at hq0
    exact va_alen S.1.1 S.1.2.1 S.2.1.2.1 hP q0 5 hq0 rfl rfl hd kk
  · rw [bl_cell_ref hK (by omega)] at hq0
    exact va_alen S.1.1 S.1.2.1 S.2.1.2.1 hP q0 6 hq0 rfl rfl hd kk
end BLW
