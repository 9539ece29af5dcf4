/-! ===== rows of rows, String.length, String.charAt: the steps ===== -/
/-- n rows of k ints, named r0, r0 + 1 .., under a row of rows named o -/
def bl_mk2 (σ : bl_Mem) (o r0 n k : Nat) : bl_Mem :=
  (fun x j => if x = o ∨ (r0 ≤ x ∧ x < r0 + n) then 0 else σ.1 x j, fun x j => if x = o ∨ (r0 ≤ x ∧ x < r0 + n) then 0 else σ.2.1 x j,
   fun x j => if x = o then (if j < n then some (r0 + j) else none) else if r0 ≤ x ∧ x < r0 + n then none else σ.2.2.1 x j,
   fun x => if x = o then 25 else if r0 ≤ x ∧ x < r0 + n then 20 else σ.2.2.2.1 x, fun x => if x = o then n else if r0 ≤ x ∧ x < r0 + n then k else σ.2.2.2.2 x)
/-- the same one dimension more: rows of rows named m0 .., rows named r0 .. -/
def bl_mk3 (σ : bl_Mem) (o m0 r0 n k h : Nat) : bl_Mem :=
  (fun x j => if x = o ∨ (m0 ≤ x ∧ x < m0 + n) ∨ (r0 ≤ x ∧ x < r0 + n * k) then 0 else σ.1 x j, fun x j => if x = o ∨ (m0 ≤ x ∧ x < m0 + n) ∨ (r0 ≤ x ∧ x < r0 + n * k) then 0 else σ.2.1 x j,
   fun x j => if x = o then (if j < n then some (m0 + j) else none) else if m0 ≤ x ∧ x < m0 + n then (if j < k then some (r0 + (x - m0) * k + j) else none) else if r0 ≤ x ∧ x < r0 + n * k then none else σ.2.2.1 x j,
   fun x => if x = o then 26 else if m0 ≤ x ∧ x < m0 + n then 25 else if r0 ≤ x ∧ x < r0 + n * k then 20 else σ.2.2.2.1 x, fun x => if x = o then n else if m0 ≤ x ∧ x < m0 + n then k else if r0 ≤ x ∧ x < r0 + n * k then h else σ.2.2.2.2 x)
/-- the cells of several new names, one behind the other -/
theorem bl_PD_many {G : bl_G} {φ φ' : Nat → Nat} {σ σ' : bl_Mem} {H H1 : Heap} {L : List Nat} {tot : Nat} {nm : Nat → Nat} (hA : ∀ q, H.size ≤ q → bl_A G q) (hP : va_P G.1 vwCl (bl_ws G.2.1 φ σ L) H) (hD : va_D (bl_A G) (bl_ws G.2.1 φ σ L)) (hold : ∀ q : Nat, q < H.size → H1[q]? = H[q]?) (had : ∀ k, k < tot → φ' (nm k) = H.size + k) (hat : ∀ k, k < tot → va_at G.1 vwCl (H.size + k, bl_cell G.2.1 φ' σ' (nm k)) H1) : va_P G.1 vwCl (bl_ws G.2.1 φ σ L ++ bl_ws G.2.1 φ' σ' ((List.range tot).map nm)) H1 ∧ va_D (bl_A G) (bl_ws G.2.1 φ σ L ++ bl_ws G.2.1 φ' σ' ((List.range tot).map nm)) := by
  have hget : ∀ (k : Nat) (x : Nat × va_E), (bl_ws G.2.1 φ' σ' ((List.range tot).map nm))[k]? = some x → k < tot ∧ x = (H.size + k, bl_cell G.2.1 φ' σ' (nm k)) := by
    intro k x hx
    unfold bl_ws at hx
    rw [List.map_map, List.getElem?_map] at hx
    by_cases hk : k < tot
    · rw [List.getElem?_range hk] at hx
      simp only [Option.map_some, Function.comp_apply, Option.some.injEq] at hx
      rw [had k hk] at hx
      exact ⟨hk, hx.symm⟩
    · rw [List.getElem?_eq_none (by rw [List.length_range]; omega)] at hx
      cases hx
  have hlt : ∀ (k : Nat) (x : Nat × va_E), (bl_ws G.2.1 φ σ L)[k]? = some x → x.1 < H.size := fun k x hx => (hP k x hx).lt
  refine ⟨(hP.kept (fun k x hx => hold x.1 (hlt k x hx))).app (fun k x hx => ?_), fun i j p q hi hj e => ?_, fun k q hk => ?_⟩
  · obtain ⟨hk, rfl⟩ := hget k x hx
    exact hat k hk
  · by_cases h1 : i < (bl_ws G.2.1 φ σ L).length
    · rw [List.getElem?_append_left h1] at hi
      by_cases h2 : j < (bl_ws G.2.1 φ σ L).length
      · rw [List.getElem?_append_left h2] at hj
        exact hD.1 i j p q hi hj e
      · rw [List.getElem?_append_right (by omega)] at hj
        obtain ⟨-, rfl⟩ := hget _ _ hj
        have := hlt i p hi
        have e' : p.1 = H.size + (j - (bl_ws G.2.1 φ σ L).length) := e
        omega
    · rw [List.getElem?_append_right (by omega)] at hi
      obtain ⟨-, rfl⟩ := hget _ _ hi
      by_cases h2 : j < (bl_ws G.2.1 φ σ L).length
      · rw [List.getElem?_append_left h2] at hj
        have := hlt j q hj
        have e' : H.size + (i - (bl_ws G.2.1 φ σ L).length) = q.1 := e
        omega
      · rw [List.getElem?_append_right (by omega)] at hj
        obtain ⟨-, rfl⟩ := hget _ _ hj
        have e' : H.size + (i - (bl_ws G.2.1 φ σ L).length) = H.size + (j - (bl_ws G.2.1 φ σ L).length) := e
        omega
  · by_cases h1 : k < (bl_ws G.2.1 φ σ L).length
    · rw [List.getElem?_append_left h1] at hk
      exact hD.2 k q hk
    · rw [List.getElem?_append_right (by omega)] at hk
      obtain ⟨-, rfl⟩ := hget _ _ hk
      exact hA _ (Nat.le_add_right _ _)
theorem bm_outer (c : ClassId) (N h0 w : Nat) : ∀ i : Nat, bm_out c N h0 w i = arrV c N (fun j => va_rf (if j < i then some (h0 + 1 + j * w) else none))
  | 0 => by
    show ({ cls := c, slots := Array.replicate N .null, vm := .none } : Cell) = _
    rw [arrV_new]
    refine congrArg (arrV c N) (funext fun j => ?_)
    simp [va_rf]
  | i + 1 => by
    show (bm_out c N h0 w i).setSlot i (.ref (h0 + 1 + i * w)) = _
    rw [bm_outer c N h0 w i, arrV_store]
    refine congrArg (arrV c N) (funext fun j => ?_)
    by_cases e : j = i
    · subst e
      simp [updV, va_rf]
    · by_cases h : j < i
      · simp [updV, e, h, Nat.lt_succ_of_lt h]
      · have h' : ¬ j < i + 1 := by omega
        simp [updV, e, h, h']
theorem bm_inner (c : ClassId) (L : Nat) : bm_one c L (defaultValue .int) = vp_cell c (L, .inl (fun _ => 0)) := by
  rw [vp_cell_i]
  show ({ cls := c, slots := Array.replicate L (.int 0), vm := .none } : Cell) = _
  rw [arrV_new]
theorem bm_dm {j K i : Nat} (hi : i < K) : (j * K + i) / K = j ∧ (j * K + i) % K = i := by
  have hK : 0 < K := by omega
  constructor
  · rw [Nat.add_comm, Nat.add_mul_div_right _ _ hK, Nat.div_eq_of_lt hi]; omega
  · rw [Nat.add_comm, Nat.add_mul_mod_self_right]; exact Nat.mod_eq_of_lt hi
theorem bm_lt {j K i N : Nat} (hj : j < N) (hi : i < K) : j * K + i < N * K := by
  have : (j + 1) * K ≤ N * K := Nat.mul_le_mul_right K (by omega)
  rw [Nat.succ_mul] at this
  omega
def bm_nm (o m0 r0 K k : Nat) : Nat := if k = 0 then o else if (k - 1) % (1 + K) = 0 then m0 + (k - 1) / (1 + K) else r0 + ((k - 1) / (1 + K) * K + ((k - 1) % (1 + K) - 1))
theorem bm_nm_c {N K k : Nat} (hk : k < 1 + N * (1 + K)) : k = 0 ∨ (∃ j, j < N ∧ k = 1 + (j * (1 + K) + 0)) ∨ ∃ j i, j < N ∧ i < K ∧ k = 1 + (j * (1 + K) + (1 + i)) := by
  by_cases e : k = 0
  · exact Or.inl e
  · have h1 := Nat.div_add_mod' (k - 1) (1 + K)
    have h2 := Nat.mod_lt (k - 1) (show 0 < 1 + K by omega)
    have h3 : (k - 1) / (1 + K) < N := Nat.div_lt_of_lt_mul (by rw [Nat.mul_comm]; omega)
    generalize (k - 1) / (1 + K) = j at *
    generalize (k - 1) % (1 + K) = r at *
    by_cases er : r = 0
    · exact Or.inr (Or.inl ⟨j, h3, by omega⟩)
    · exact Or.inr (Or.inr ⟨j, r - 1, h3, by omega, by omega⟩)
theorem bm_nm_m {o m0 r0 K j : Nat} : bm_nm o m0 r0 K (1 + (j * (1 + K) + 0)) = m0 + j := by
  obtain ⟨h1, h2⟩ := bm_dm (j := j) (K := 1 + K) (i := 0) (by omega)
  unfold bm_nm
  rw [if_neg (by omega), Nat.add_sub_cancel_left, h1, h2, if_pos rfl]
theorem bm_nm_r {o m0 r0 K j i : Nat} (hi : i < K) : bm_nm o m0 r0 K (1 + (j * (1 + K) + (1 + i))) = r0 + (j * K + i) := by
  obtain ⟨h1, h2⟩ := bm_dm (j := j) (K := 1 + K) (i := 1 + i) (by omega)
  unfold bm_nm
  rw [if_neg (by omega), Nat.add_sub_cancel_left, h1, h2, if_neg (by omega), Nat.add_sub_cancel_left]
def bm_ph (φ : Nat → Nat) (h0 o m0 r0 N K x : Nat) : Nat := if x = o then h0 else if m0 ≤ x ∧ x < m0 + N then h0 + (1 + ((x - m0) * (1 + K) + 0)) else if r0 ≤ x ∧ x < r0 + N * K then h0 + (1 + ((x - r0) / K * (1 + K) + (1 + (x - r0) % K))) else φ x
theorem bm_ph_m {φ : Nat → Nat} {h0 o m0 r0 N K j : Nat} (ho : o < m0) (hj : j < N) : bm_ph φ h0 o m0 r0 N K (m0 + j) = h0 + (1 + (j * (1 + K) + 0)) := by
  unfold bm_ph
  rw [if_neg (by omega), if_pos (by omega), Nat.add_sub_cancel_left]
theorem bm_ph_r {φ : Nat → Nat} {h0 o m0 r0 N K j i : Nat} (ho : o < m0) (hm : m0 + N ≤ r0) (hj : j < N) (hi : i < K) : bm_ph φ h0 o m0 r0 N K (r0 + (j * K + i)) = h0 + (1 + (j * (1 + K) + (1 + i))) := by
  obtain ⟨h1, h2⟩ := bm_dm (j := j) hi
  have := bm_lt hj hi
  unfold bm_ph
  rw [if_neg (by omega), if_neg (by omega), if_pos (by omega), Nat.add_sub_cancel_left, h1, h2]
section BLW
variable {G : bl_G} {l : Launch} {d : Nat} {M : bl_MR} {pc : Nat} {lv : List (Nat × Value)} {st : List Value} {σ : bl_Mem} {b : Nat × Nat} {Q : bl_Out → bl_Mem → Prop}
theorem bl_s_mna2 {idx : Nat} {k n : Int32} {o r0 : Nat} (hd : decode M.2.1 pc = .ok (.multianewarray idx 2, 4)) (w1 : Cond.arrayClass .int ∈ bl_gw) (w2 : Cond.classLink M.1.cls idx "[[I" ∈ bl_gw) (hn : (¬ n < 0 ∧ n.toNatClampNeg ≤ 1000) ∧ (¬ k < 0 ∧ k.toNatClampNeg ≤ 1000)) (hf : (o < r0 ∨ r0 + n.toNatClampNeg ≤ o) ∧ σ.2.2.2.1 o = 0 ∧ ∀ x, r0 ≤ x → x < r0 + n.toNatClampNeg → σ.2.2.2.1 x = 0) (hb : 1 + n.toNatClampNeg ≤ b.1 ∧ n.toNatClampNeg + n.toNatClampNeg * k.toNatClampNeg ≤ b.2) (h : bl_WP G l d M (pc + 4) lv (.ref o :: st) (bl_mk2 σ o r0 n.toNatClampNeg k.toNatClampNeg) (b.1 - (1 + n.toNatClampNeg), b.2 - (n.toNatClampNeg + n.toNatClampNeg * k.toNatClampNeg)) Q) : bl_WP G l d M pc lv (.int k :: .int n :: st) σ b Q := by
  intro p e R s m args below meth c H locs cells slots mc ms φ φ0 K0 ls S hl hv hs
  obtain ⟨hMF, hCX, hRel, hS, hX, hR, hB⟩ := id S
  have hs2 : ∀ v ∈ st, bl_live σ.2.2.2.1 v := fun v hv' => hs v (List.mem_cons_of_mem _ (List.mem_cons_of_mem _ hv'))
  obtain ⟨⟨hn1, hn2⟩, hk1, hk2⟩ := hn
  obtain ⟨hf1, hf2, hf3⟩ := hf
  have hwA := hCX.2.2.1.2.2.2.1
  intro T hT X
  obtain ⟨vm₁, cA, comp, -, fA, fC, X', step⟩ := bm_multi2 X hMF.1 (own := M.1.cls) (index := idx) (ty := .int) hMF.2.2.2.2.1 (hMF.2.2.2.2.2.1 _ w2) (va_AOA.use hwA) (hMF.2.2.2.2.2.1 _ w1) (g := F0 m pc ls (.int k :: .int n :: st.map (bl_rv φ))) rfl (by rw [hMF.2.1]; exact hd) rfl hn1 hk1 (by omega) (by show k.toNatClampNeg * 4 ≤ _; omega) (by omega) rfl (by omega) (by omega)
  have ecA : cA = G.2.1 25 := Option.some.inj (fA.symm.trans (hCX.2.1.2 5 _ rfl).2)
  have ecC : comp = G.2.1 20 := Option.some.inj (fC.symm.trans (bl_RA_int (Or.inl rfl) (hCX.2.1.2 0 _ rfl).2))
  subst ecA
  subst ecC
  generalize hNn : n.toNatClampNeg = N at *
  generalize hKk : k.toNatClampNeg = K at *
  have hTh : (T.setVm vm₁).heap = H := hT
  obtain ⟨f1, f2, hold, hrow⟩ := bm_two_at (G.2.1 25) (G.2.1 20) N K (defaultValue .int) (T.setVm vm₁)
  rw [hTh] at f1 f2 hold hrow
  rw [bm_inner] at hrow
  generalize bm_two (G.2.1 25) (G.2.1 20) N K (defaultValue .int) (T.setVm vm₁) = F at X' step f1 f2 hold hrow
  have hTs : T.heap.size = H.size := by rw [hT]
  let nm : Nat → Nat := fun k => if k = 0 then o else r0 + (k - 1)
  let φ' : Nat → Nat := fun x => if x = o then H.size else if r0 ≤ x ∧ x < r0 + N then H.size + 1 + (x - r0) else φ x
  have hNL : ∀ x, x ∈ (List.range (1 + N)).map nm ↔ (x = o ∨ (r0 ≤ x ∧ x < r0 + N)) := by
    intro x
    rw [List.mem_map]
    constructor
    · rintro ⟨y, hy, rfl⟩
      have hy := List.mem_range.mp hy
      show (if y = 0 then o else r0 + (y - 1)) = o ∨ _
      by_cases e : y = 0
      · exact Or.inl (if_pos e)
      · right
        show r0 ≤ (if y = 0 then o else r0 + (y - 1)) ∧ (if y = 0 then o else r0 + (y - 1)) < r0 + N
        rw [if_neg e]; omega
    · rintro (rfl | h)
      · exact ⟨0, List.mem_range.mpr (by omega), if_pos rfl⟩
      · refine ⟨x - r0 + 1, List.mem_range.mpr (by omega), ?_⟩
        show (if x - r0 + 1 = 0 then o else r0 + (x - r0 + 1 - 1)) = x
        rw [if_neg (by omega)]; omega
  have had : ∀ y, y < 1 + N → φ' (nm y) = H.size + y := by
    intro y hy
    show (if (if y = 0 then o else r0 + (y - 1)) = o then H.size else if r0 ≤ (if y = 0 then o else r0 + (y - 1)) ∧ (if y = 0 then o else r0 + (y - 1)) < r0 + N then H.size + 1 + ((if y = 0 then o else r0 + (y - 1)) - r0) else φ _) = H.size + y
    by_cases e : y = 0
    · rw [if_pos (by rw [if_pos e]), e]; rfl
    · rw [if_neg e, if_neg (by omega), if_pos (by omega)]; omega
  have hWk := bl_many (below := below) (e := e) (φ' := φ') (cells' := cells + 1 + N) (slots' := slots + N + N * K) (H1 := F.heap) ((List.range (1 + N)).map nm) ((hNL o).mpr (Or.inl rfl)) (fun x hx => by
      rcases (hNL x).mp hx with rfl | hx
      · exact hf2
      · exact hf3 x hx.1 hx.2) (fun x hx => by
      have hx' : ¬ (x = o ∨ (r0 ≤ x ∧ x < r0 + N)) := fun q => hx ((hNL x).mpr q)
      have ho : x ≠ o := fun q => hx' (Or.inl q)
      have hr : ¬ (r0 ≤ x ∧ x < r0 + N) := fun q => hx' (Or.inr q)
      simp only [bl_mk2, if_neg hx', if_neg ho, if_neg hr, and_self]) (fun x hx => by
      rcases (hNL x).mp hx with rfl | hx
      · show bl_isC (if _ = _ then 25 else _)
        rw [if_pos rfl]; unfold bl_isC; omega
      · show bl_isC (if x = o then 25 else if r0 ≤ x ∧ x < r0 + N then 20 else _)
        split
        · unfold bl_isC; omega
        · unfold bl_isC; omega) (fun x hx i y hy => by
      have hy' : (if x = o then (if i < N then some (r0 + i) else none) else if r0 ≤ x ∧ x < r0 + N then none else σ.2.2.1 x i) = some y := hy
      refine (hNL y).mpr (Or.inr ?_)
      by_cases e : x = o
      · rw [if_pos e] at hy'
        by_cases hi : i < N
        · rw [if_pos hi] at hy'; cases hy'; omega
        · rw [if_neg hi] at hy'; cases hy'
      · rw [if_neg e, if_pos (((hNL x).mp hx).resolve_left e)] at hy'; cases hy') h S hl hv hs2 (fun x hx => by
      have hx' : ¬ (x = o ∨ (r0 ≤ x ∧ x < r0 + N)) := fun q => hx ((hNL x).mpr q)
      show (if x = o then H.size else if r0 ≤ x ∧ x < r0 + N then _ else φ x) = φ x
      rw [if_neg (fun q => hx' (Or.inl q)), if_neg (fun q => hx' (Or.inr q))]) ⟨by dsimp only; omega, by dsimp only; omega⟩ ⟨by rw [f1]; have := hS.1; omega, fun q h1 h2 => (hold q (Nat.lt_of_lt_of_le h1 hS.1)).trans (hS.2.1 q h1 h2), hS.2.2⟩ (fun L hL hP hD => bl_PD_many (tot := 1 + N) (nm := nm) (fun q hq => bl_A_up hCX q (Nat.le_trans hS.1 hq)) hP hD hold had (fun y hy => by
      by_cases e : y = 0
      · have en : nm y = o := if_pos e
        rw [en, e]
        have hc : bl_cell G.2.1 φ' (bl_mk2 σ o r0 N K) o = .inl (G.2.1 25, N, .inr (.inr (.inr (.inr (fun i => if i < N then some (H.size + 1 + i) else none))))) := by
          have hk5 : (bl_mk2 σ o r0 N K).2.2.2.1 o = 25 := if_pos rfl
          have hn5 : (bl_mk2 σ o r0 N K).2.2.2.2 o = N := if_pos rfl
          unfold bl_cell
          rw [hk5, hn5, if_neg (by decide), if_neg (by decide), if_pos (by decide)]
          congr 7
          funext i
          show Option.map φ' (if o = o then (if i < N then some (r0 + i) else none) else _) = _
          rw [if_pos rfl]
          by_cases hi : i < N
          · rw [if_pos hi, if_pos hi]
            show some (if r0 + i = o then H.size else if r0 ≤ r0 + i ∧ r0 + i < r0 + N then H.size + 1 + (r0 + i - r0) else _) = _
            rw [if_neg (by omega), if_pos (by omega), Nat.add_sub_cancel_left]
          · rw [if_neg hi, if_neg hi]; rfl
        rw [hc]
        show F.heap[H.size]? = some (vp_cell (G.2.1 25) _)
        rw [f2, vp_cell_q, bm_outer]
        simp only [Nat.mul_one]
      · have en : nm y = r0 + (y - 1) := if_neg e
        rw [en]
        have hc : bl_cell G.2.1 φ' (bl_mk2 σ o r0 N K) (r0 + (y - 1)) = .inl (G.2.1 20, K, .inl (fun _ => 0)) := by
          have ho : r0 + (y - 1) ≠ o := by omega
          have hr : r0 ≤ r0 + (y - 1) ∧ r0 + (y - 1) < r0 + N := by omega
          have hk5 : (bl_mk2 σ o r0 N K).2.2.2.1 (r0 + (y - 1)) = 20 := (if_neg ho).trans (if_pos hr)
          have hn5 : (bl_mk2 σ o r0 N K).2.2.2.2 (r0 + (y - 1)) = K := (if_neg ho).trans (if_pos hr)
          have hi5 : (bl_mk2 σ o r0 N K).1 (r0 + (y - 1)) = fun _ => 0 := by
            funext i
            exact if_pos (Or.inr hr)
          unfold bl_cell
          rw [hk5, hn5, hi5, if_pos rfl]
        rw [hc]
        show F.heap[H.size + y]? = some (vp_cell (G.2.1 20) _)
        rw [← hrow (y - 1) (by omega)]
        congr 1
        omega))
  obtain ⟨t, ht, hq⟩ := hWk F rfl X'
  refine ⟨t, step t ?_, hq⟩
  have e1 : φ' o = T.heap.size := by rw [hTs]; exact if_pos rfl
  rw [e1] at ht
  exact ht
theorem bl_s_mna3 {idx : Nat} {h k n : Int32} {o m0 r0 : Nat} (hd : decode M.2.1 pc = .ok (.multianewarray idx 3, 4)) (w1 : Cond.arrayClass .int ∈ bl_gw) (w2 : Cond.classLink M.1.cls idx "[[[I" ∈ bl_gw) (hn : (¬ n < 0 ∧ n.toNatClampNeg ≤ 1000) ∧ (¬ k < 0 ∧ k.toNatClampNeg ≤ 1000) ∧ (¬ h < 0 ∧ h.toNatClampNeg ≤ 1000)) (hf : (o < m0 ∧ m0 + n.toNatClampNeg ≤ r0) ∧ σ.2.2.2.1 o = 0 ∧ (∀ x, m0 ≤ x → x < m0 + n.toNatClampNeg → σ.2.2.2.1 x = 0) ∧ ∀ x, r0 ≤ x → x < r0 + n.toNatClampNeg * k.toNatClampNeg → σ.2.2.2.1 x = 0) (hb : 1 + n.toNatClampNeg + n.toNatClampNeg * k.toNatClampNeg ≤ b.1 ∧ n.toNatClampNeg + n.toNatClampNeg * k.toNatClampNeg + n.toNatClampNeg * k.toNatClampNeg * h.toNatClampNeg ≤ b.2) (hK : bl_WP G l d M (pc + 4) lv (.ref o :: st) (bl_mk3 σ o m0 r0 n.toNatClampNeg k.toNatClampNeg h.toNatClampNeg) (b.1 - (1 + n.toNatClampNeg + n.toNatClampNeg * k.toNatClampNeg), b.2 - (n.toNatClampNeg + n.toNatClampNeg * k.toNatClampNeg + n.toNatClampNeg * k.toNatClampNeg * h.toNatClampNeg)) Q) : bl_WP G l d M pc lv (.int h :: .int k :: .int n :: st) σ b Q := by
  intro p e R s m args below meth c H locs cells slots mc ms φ φ0 K0 ls S hl hv hs
  obtain ⟨hMF, hCX, hRel, hS, hX, hR, hB⟩ := id S
  have hs2 : ∀ v ∈ st, bl_live σ.2.2.2.1 v := fun v hv' => hs v (List.mem_cons_of_mem _ (List.mem_cons_of_mem _ (List.mem_cons_of_mem _ hv')))
  obtain ⟨⟨hn1, hn2⟩, ⟨hk1, hk2⟩, hh1, hh2⟩ := hn
  obtain ⟨⟨hf0, hf1⟩, hf2, hf3, hf4⟩ := hf
  have hwA := hCX.2.2.1.2.2.2.1
  have hwB := hCX.2.2.1.2.2.2.2
  have ea1 : n.toNatClampNeg * (1 + k.toNatClampNeg) = n.toNatClampNeg + n.toNatClampNeg * k.toNatClampNeg := by rw [Nat.mul_add, Nat.mul_one]
  have ea2 : n.toNatClampNeg * (k.toNatClampNeg + k.toNatClampNeg * h.toNatClampNeg) = n.toNatClampNeg * k.toNatClampNeg + n.toNatClampNeg * k.toNatClampNeg * h.toNatClampNeg := by rw [Nat.mul_add, Nat.mul_assoc]
  intro T hT X
  obtain ⟨vm₁, cA, c1, c2, -, fA, fB, fC, X', step⟩ := bm_multi3 X hMF.1 (own := M.1.cls) (index := idx) (ty := .int) hMF.2.2.2.2.1 (hMF.2.2.2.2.2.1 _ w2) (va_AOA.use hwB) (va_AOA.use hwA) (hMF.2.2.2.2.2.1 _ w1) (g := F0 m pc ls (.int h :: .int k :: .int n :: st.map (bl_rv φ))) rfl (by rw [hMF.2.1]; exact hd) rfl hn1 hk1 hh1 (by omega) (by omega) (by show h.toNatClampNeg * 4 ≤ _; omega) (by omega) rfl (by omega) (by omega)
  have ecA : cA = G.2.1 26 := Option.some.inj (fA.symm.trans (hCX.2.1.2 6 _ rfl).2)
  have ecB : c1 = G.2.1 25 := Option.some.inj (fB.symm.trans (hCX.2.1.2 5 _ rfl).2)
  have ecC : c2 = G.2.1 20 := Option.some.inj (fC.symm.trans (bl_RA_int (Or.inl rfl) (hCX.2.1.2 0 _ rfl).2))
  subst ecA
  subst ecB
  subst ecC
  generalize hNn : n.toNatClampNeg = N at *
  generalize hKk : k.toNatClampNeg = K at *
  generalize hHh : h.toNatClampNeg = Z at *
  have hTh : (T.setVm vm₁).heap = H := hT
  obtain ⟨f1, f2, hold, hmid, hrow⟩ := bm_thr_at (G.2.1 26) (G.2.1 25) (G.2.1 20) N K Z (defaultValue .int) (T.setVm vm₁)
  rw [hTh] at f1 f2 hold hmid hrow
  rw [bm_inner] at hrow
  generalize bm_thr (G.2.1 26) (G.2.1 25) (G.2.1 20) N K Z (defaultValue .int) (T.setVm vm₁) = F at X' step f1 f2 hold hmid hrow
  have hTs : T.heap.size = H.size := by rw [hT]
  have hNL : ∀ x, x ∈ (List.range (1 + N * (1 + K))).map (bm_nm o m0 r0 K) ↔ (x = o ∨ (m0 ≤ x ∧ x < m0 + N) ∨ (r0 ≤ x ∧ x < r0 + N * K)) := by
    intro x
    rw [List.mem_map]
    constructor
    · rintro ⟨y, hy, rfl⟩
      rcases bm_nm_c (List.mem_range.mp hy) with rfl | ⟨j, hj, rfl⟩ | ⟨j, i, hj, hi, rfl⟩
      · exact Or.inl (if_pos rfl)
      · rw [bm_nm_m]; right; left; omega
      · have := bm_lt hj hi
        rw [bm_nm_r hi]; right; right; omega
    · rintro (rfl | hx | hx)
      · exact ⟨0, List.mem_range.mpr (by omega), if_pos rfl⟩
      · have := bm_lt (j := x - m0) (K := 1 + K) (i := 0) (N := N) (by omega) (by omega)
        refine ⟨1 + ((x - m0) * (1 + K) + 0), List.mem_range.mpr (by omega), ?_⟩
        rw [bm_nm_m]; omega
      · have hKp : 0 < K := by
          rcases Nat.eq_zero_or_pos K with e | e
          · rw [e, Nat.mul_zero] at hx; omega
          · exact e
        have hi := Nat.mod_lt (x - r0) hKp
        have hj : (x - r0) / K < N := Nat.div_lt_of_lt_mul (by rw [Nat.mul_comm]; omega)
        have := bm_lt (j := (x - r0) / K) (K := 1 + K) (i := 1 + (x - r0) % K) (N := N) hj (by omega)
        refine ⟨1 + ((x - r0) / K * (1 + K) + (1 + (x - r0) % K)), List.mem_range.mpr (by omega), ?_⟩
        rw [bm_nm_r hi, Nat.div_add_mod']; omega
  have had : ∀ y, y < 1 + N * (1 + K) → bm_ph φ H.size o m0 r0 N K (bm_nm o m0 r0 K y) = H.size + y := by
    intro y hy
    rcases bm_nm_c hy with rfl | ⟨j, hj, rfl⟩ | ⟨j, i, hj, hi, rfl⟩
    · rw [show bm_nm o m0 r0 K 0 = o from if_pos rfl]; exact if_pos rfl
    · rw [bm_nm_m, bm_ph_m hf0 hj]
    · rw [bm_nm_r hi, bm_ph_r hf0 hf1 hj hi]
  have hWk := bl_many (below := below) (e := e) (φ' := bm_ph φ H.size o m0 r0 N K) (cells' := cells + 1 + N * (1 + K)) (slots' := slots + N + N * (K + K * Z)) (H1 := F.heap) ((List.range (1 + N * (1 + K))).map (bm_nm o m0 r0 K)) ((hNL o).mpr (Or.inl rfl)) (fun x hx => by
      rcases (hNL x).mp hx with rfl | hx | hx
      · exact hf2
      · exact hf3 x hx.1 hx.2
      · exact hf4 x hx.1 hx.2) (fun x hx => by
      have hx' : ¬ (x = o ∨ (m0 ≤ x ∧ x < m0 + N) ∨ (r0 ≤ x ∧ x < r0 + N * K)) := fun q => hx ((hNL x).mpr q)
      have ho : x ≠ o := fun q => hx' (Or.inl q)
      have hm : ¬ (m0 ≤ x ∧ x < m0 + N) := fun q => hx' (Or.inr (Or.inl q))
      have hr : ¬ (r0 ≤ x ∧ x < r0 + N * K) := fun q => hx' (Or.inr (Or.inr q))
      simp only [bl_mk3, if_neg hx', if_neg ho, if_neg hm, if_neg hr, and_self]) (fun x hx => by
      show bl_isC (if x = o then 26 else if m0 ≤ x ∧ x < m0 + N then 25 else if r0 ≤ x ∧ x < r0 + N * K then 20 else σ.2.2.2.1 x)
      by_cases e1 : x = o
      · rw [if_pos e1]; unfold bl_isC; omega
      · by_cases e2 : m0 ≤ x ∧ x < m0 + N
        · rw [if_neg e1, if_pos e2]; unfold bl_isC; omega
        · rw [if_neg e1, if_neg e2, if_pos ((((hNL x).mp hx).resolve_left e1).resolve_left e2)]; unfold bl_isC; omega) (fun x hx i y hy => by
      have hy' : (if x = o then (if i < N then some (m0 + i) else none) else if m0 ≤ x ∧ x < m0 + N then (if i < K then some (r0 + (x - m0) * K + i) else none) else if r0 ≤ x ∧ x < r0 + N * K then none else σ.2.2.1 x i) = some y := hy
      refine (hNL y).mpr (Or.inr ?_)
      by_cases e1 : x = o
      · rw [if_pos e1] at hy'
        by_cases hi : i < N
        · rw [if_pos hi] at hy'; cases hy'; left; omega
        · rw [if_neg hi] at hy'; cases hy'
      · rw [if_neg e1] at hy'
        by_cases e2 : m0 ≤ x ∧ x < m0 + N
        · rw [if_pos e2] at hy'
          by_cases hi : i < K
          · have := bm_lt (j := x - m0) (N := N) (by omega) hi
            rw [if_pos hi] at hy'; cases hy'; right; omega
          · rw [if_neg hi] at hy'; cases hy'
        · rw [if_neg e2, if_pos ((((hNL x).mp hx).resolve_left e1).resolve_left e2)] at hy'; cases hy') hK S hl hv hs2 (fun x hx => by
      have hx' : ¬ (x = o ∨ (m0 ≤ x ∧ x < m0 + N) ∨ (r0 ≤ x ∧ x < r0 + N * K)) := fun q => hx ((hNL x).mpr q)
      unfold bm_ph
      rw [if_neg (fun q => hx' (Or.inl q)), if_neg (fun q => hx' (Or.inr (Or.inl q))), if_neg (fun q => hx' (Or.inr (Or.inr q)))]) ⟨by dsimp only; omega, by dsimp only; omega⟩ ⟨by rw [f1]; have := hS.1; omega, fun q h1 h2 => (hold q (Nat.lt_of_lt_of_le h1 hS.1)).trans (hS.2.1 q h1 h2), hS.2.2⟩ (fun L hL hP hD => bl_PD_many (tot := 1 + N * (1 + K)) (nm := bm_nm o m0 r0 K) (fun q hq => bl_A_up hCX q (Nat.le_trans hS.1 hq)) hP hD hold had (fun y hy => by
      rcases bm_nm_c hy with rfl | ⟨j, hj, rfl⟩ | ⟨j, i, hj, hi, rfl⟩
      · rw [show bm_nm o m0 r0 K 0 = o from if_pos rfl]
        have hc : bl_cell G.2.1 (bm_ph φ H.size o m0 r0 N K) (bl_mk3 σ o m0 r0 N K Z) o = .inl (G.2.1 26, N, .inr (.inr (.inr (.inr (fun i => if i < N then some (H.size + 1 + i * (1 + K)) else none))))) := by
          have hk5 : (bl_mk3 σ o m0 r0 N K Z).2.2.2.1 o = 26 := if_pos rfl
          have hn5 : (bl_mk3 σ o m0 r0 N K Z).2.2.2.2 o = N := if_pos rfl
          unfold bl_cell
          rw [hk5, hn5, if_neg (by decide), if_neg (by decide), if_pos (by decide)]
          congr 7
          funext i
          show Option.map (bm_ph φ H.size o m0 r0 N K) (if o = o then (if i < N then some (m0 + i) else none) else _) = _
          rw [if_pos rfl]
          by_cases hi : i < N
          · rw [if_pos hi, if_pos hi, Option.map_some, bm_ph_m hf0 hi]
            congr 1; omega
          · rw [if_neg hi, if_neg hi]; rfl
        rw [hc]
        show F.heap[H.size]? = some (vp_cell (G.2.1 26) _)
        rw [f2, vp_cell_q, bm_outer]
      · rw [bm_nm_m]
        have hc : bl_cell G.2.1 (bm_ph φ H.size o m0 r0 N K) (bl_mk3 σ o m0 r0 N K Z) (m0 + j) = .inl (G.2.1 25, K, .inr (.inr (.inr (.inr (fun i => if i < K then some (H.size + 1 + j * (1 + K) + 1 + i) else none))))) := by
          have e1 : m0 + j ≠ o := by omega
          have e2 : m0 ≤ m0 + j ∧ m0 + j < m0 + N := by omega
          have hk5 : (bl_mk3 σ o m0 r0 N K Z).2.2.2.1 (m0 + j) = 25 := (if_neg e1).trans (if_pos e2)
          have hn5 : (bl_mk3 σ o m0 r0 N K Z).2.2.2.2 (m0 + j) = K := (if_neg e1).trans (if_pos e2)
          unfold bl_cell
          rw [hk5, hn5, if_neg (by decide), if_neg (by decide), if_pos (by decide)]
          congr 7
          funext i
          show Option.map (bm_ph φ H.size o m0 r0 N K) (if m0 + j = o then _ else if m0 ≤ m0 + j ∧ m0 + j < m0 + N then (if i < K then some (r0 + (m0 + j - m0) * K + i) else none) else _) = _
          rw [if_neg e1, if_pos e2, Nat.add_sub_cancel_left]
          by_cases hi : i < K
          · rw [if_pos hi, if_pos hi, Option.map_some, Nat.add_assoc, bm_ph_r hf0 hf1 hj hi]
            congr 1; omega
          · rw [if_neg hi, if_neg hi]; rfl
        rw [hc]
        show F.heap[H.size + (1 + (j * (1 + K) + 0))]? = some (vp_cell (G.2.1 25) _)
        rw [show H.size + (1 + (j * (1 + K) + 0)) = H.size + 1 + j * (1 + K) by omega, hmid j hj, vp_cell_q, bm_outer]
        simp only [Nat.mul_one]
      · rw [bm_nm_r hi]
        have hlt := bm_lt hj hi
        have hc : bl_cell G.2.1 (bm_ph φ H.size o m0 r0 N K) (bl_mk3 σ o m0 r0 N K Z) (r0 + (j * K + i)) = .inl (G.2.1 20, Z, .inl (fun _ => 0)) := by
          have e1 : r0 + (j * K + i) ≠ o := by omega
          have e2 : ¬ (m0 ≤ r0 + (j * K + i) ∧ r0 + (j * K + i) < m0 + N) := by omega
          have e3 : r0 ≤ r0 + (j * K + i) ∧ r0 + (j * K + i) < r0 + N * K := by omega
          have hk5 : (bl_mk3 σ o m0 r0 N K Z).2.2.2.1 (r0 + (j * K + i)) = 20 := (if_neg e1).trans ((if_neg e2).trans (if_pos e3))
          have hn5 : (bl_mk3 σ o m0 r0 N K Z).2.2.2.2 (r0 + (j * K + i)) = Z := (if_neg e1).trans ((if_neg e2).trans (if_pos e3))
          have hi5 : (bl_mk3 σ o m0 r0 N K Z).1 (r0 + (j * K + i)) = fun _ => 0 := by
            funext y
            exact if_pos (Or.inr (Or.inr e3))
          unfold bl_cell
          rw [hk5, hn5, hi5, if_pos rfl]
        rw [hc]
        show F.heap[H.size + (1 + (j * (1 + K) + (1 + i)))]? = some (vp_cell (G.2.1 20) _)
        rw [show H.size + (1 + (j * (1 + K) + (1 + i))) = H.size + 1 + j * (1 + K) + 1 + i by omega]
        exact hrow j i hj hi))
  obtain ⟨t, ht, hq⟩ := hWk F rfl X'
  refine ⟨t, step t ?_, hq⟩
  have e1 : bm_ph φ H.size o m0 r0 N K o = T.heap.size := by rw [hTs]; exact if_pos rfl
  rw [e1] at ht
  exact ht
theorem bl_s_strlen {idx a j : Nat} {q : List Int32} (hd : decode M.2.1 pc = .ok (.invokevirtual idx, 3)) (w : Cond.methodLink M.1.cls idx ⟨"java/lang/String", "length", "()I"⟩ ∈ bl_gw) (hj : bl_byt[j]? = some q) (hK : σ.2.2.2.1 a = 110 + j) (hrs : (st.map fun v => v.category).sum ≤ 8) (h : bl_WP G l d M (pc + 3) lv (.int (Int32.ofNat q.length) :: st) σ b Q) : bl_WP G l d M pc lv (.ref a :: st) σ b Q := by
  intro p e R s m args below meth c H locs cells slots mc ms φ φ0 K0 ls S hl hv hs
  obtain ⟨hMF, hCX, hRel, hS, hX, hR, hB⟩ := id S
  obtain ⟨L, hL, hP, hD, hw, hro⟩ := id hRel
  have hs2 : ∀ v ∈ st, bl_live σ.2.2.2.1 v := fun v hv' => hs v (List.mem_cons_of_mem _ hv')
  have hφ : φ a = G.2.2.1 (10 + j) := hro a (10 + j) (by rw [hK]; omega)
  have hlen : q.length < 2 ^ 31 := by
    have : ∀ q ∈ bl_byt, q.length < 2 ^ 31 := by decide +kernel
    exact this q (List.mem_of_getElem? hj)
  obtain ⟨b1, b2, b3, b4⟩ := hCX.2.2.2.2.2.2.2.2.1 j q hj
  have hjs : js (bl_A G) (G.2.2.1 (10 + j)) (G.2.2.1 (40 + j)) q s s.heap := ⟨b1, b2, b3, b4, hCX.2.2.2.2.2.2.2.2.2.1, hCX.2.2.2.2.2.2.2.2.2.2.1⟩
  have hjH : js jA (G.2.2.1 (10 + j)) (G.2.2.1 (40 + j)) q s H := (hjs.kept hS.2.1).narrow (fun _ h => h.elim)
  show W p l e R s m args below meth c H locs cells slots _ (F0 m pc ls (.ref (φ a) :: st.map (bl_rv φ)))
  rw [hφ]
  refine va_calli (va_runV (C := jS) (n := 0) (As := []) (rest := st.map (bl_rv φ)) ⟨hMF.1, hMF.2.1, hMF.2.2.1, hMF.2.2.2.2.1, hMF.2.2.2.2.2.1⟩ (cS_length (q := G.2.2.1 (10 + j)) (v := G.2.2.1 (40 + j)) (bs := q) hlen) (cwV 0 hMF.2.2.2.2.2.1 (bl_good (pre := [.methodLink M.1.cls idx mS_length.1, .instanceMethod mS_length.1, .selects jS mS_length.1 mS_length.1, .initialized jS]) (fun w' hw' => by
      simp only [List.mem_cons, List.not_mem_nil, or_false] at hw'
      rcases hw' with rfl | rfl | rfl | rfl
      · exact w
      · decide +kernel
      · decide +kernel
      · decide +kernel) (by decide +kernel)) (bl_wsm_eq rfl) rfl rfl ⟨rfl, by decide, by decide, by decide +kernel⟩ ⟨by show 1 + 1 ≤ _; omega, by show 8 + (1 + 11) + 20 ≤ _; omega⟩) ⟨js_blind, va_Orecv b1 hS, fun U hU hW => ⟨rfl, (show js jA _ _ q U U.heap by rw [hU]; exact js.moved hW.alike hjH)⟩⟩ rfl rfl hl.1 rfl (lv_room (by rw [bl_cats]; exact hrs)) hd ⟨by omega, by omega⟩) hS (fun _ _ h => h.elim) (fun _ h => h.elim) (fun r u t H1 locs1 ht hvm hr0 hB1 hz hk hS1 => ?_)
  subst hr0
  exact h p e R s m args below meth c H1 locs1 (cells + 0) (slots + 0) mc ms φ φ0 K0 ls ⟨hMF, hCX, ⟨L, hL, hP.kept (fun k x hx => hk x.1 ((hP k x hx).lt) (fun h => h)), hD, hw, hro⟩, hS1, hX, hR, hB⟩ hl hv (bl_hd trivial hs2)
theorem bl_s_charAt {idx a j : Nat} {q : List Int32} {x : Int32} (hd : decode M.2.1 pc = .ok (.invokevirtual idx, 3)) (w : Cond.methodLink M.1.cls idx ⟨"java/lang/String", "charAt", "(I)C"⟩ ∈ bl_gw) (hj : bl_byt[j]? = some q) (hK : σ.2.2.2.1 a = 110 + j) (hx : vp_in x q.length) (hrs : (st.map fun v => v.category).sum ≤ 8) (h : bl_WP G l d M (pc + 3) lv (.int (q.getD x.toNatClampNeg 0) :: st) σ b Q) : bl_WP G l d M pc lv (.int x :: .ref a :: st) σ b Q := by
  intro p e R s m args below meth c H locs cells slots mc ms φ φ0 K0 ls S hl hv hs
  obtain ⟨hMF, hCX, hRel, hS, hX, hR, hB⟩ := id S
  obtain ⟨L, hL, hP, hD, hw, hro⟩ := id hRel
  have hs2 : ∀ v ∈ st, bl_live σ.2.2.2.1 v := fun v hv' => hs v (List.mem_cons_of_mem _ (List.mem_cons_of_mem _ hv'))
  have hφ : φ a = G.2.2.1 (10 + j) := hro a (10 + j) (by rw [hK]; omega)
  have hq0 : q ∈ bl_byt := List.mem_of_getElem? hj
  have hlen : q.length < 2 ^ 31 := by
    have : ∀ q ∈ bl_byt, q.length < 2 ^ 31 := by decide +kernel
    exact this q hq0
  obtain ⟨k, hk31, rfl⟩ := nI_of (fun h9 => hx (Or.inl h9))
  have hkq : k < q.length := by
    rcases Nat.lt_or_ge k q.length with h9 | h9
    · exact h9
    · exact absurd (Or.inr (by rw [nI_clamp hk31]; exact h9)) hx
  have hbv : ((q.getD k 0 &&& 255).toUInt32 % 65536).toInt32 = q.getD k 0 ∧ narrow .char (.int (q.getD k 0)) = .int (q.getD k 0) := by
    have : ∀ q ∈ bl_byt, ∀ k, k < q.length → ((q.getD k 0 &&& 255).toUInt32 % 65536).toInt32 = q.getD k 0 ∧ narrow .char (.int (q.getD k 0)) = .int (q.getD k 0) := by decide +kernel
    exact this q hq0 k hkq
  obtain ⟨b1, b2, b3, b4⟩ := hCX.2.2.2.2.2.2.2.2.1 j q hj
  have hjs : js (bl_A G) (G.2.2.1 (10 + j)) (G.2.2.1 (40 + j)) q s s.heap := ⟨b1, b2, b3, b4, hCX.2.2.2.2.2.2.2.2.2.1, hCX.2.2.2.2.2.2.2.2.2.2.1⟩
  have hjH : js jA (G.2.2.1 (10 + j)) (G.2.2.1 (40 + j)) q s H := (hjs.kept hS.2.1).narrow (fun _ h => h.elim)
  show W p l e R s m args below meth c H locs cells slots _ (F0 m pc ls (.int (nI k) :: .ref (φ a) :: st.map (bl_rv φ)))
  rw [hφ]
  refine va_calli (va_runV (C := jS) (n := 1) (As := [.int (nI k)]) (rest := st.map (bl_rv φ)) ⟨hMF.1, hMF.2.1, hMF.2.2.1, hMF.2.2.2.2.1, hMF.2.2.2.2.2.1⟩ (cS_at (q := G.2.2.1 (10 + j)) (v := G.2.2.1 (40 + j)) (bs := q) hkq hlen hbv.1 hbv.2) (cwV 1 hMF.2.2.2.2.2.1 (bl_good (pre := [.methodLink M.1.cls idx mS_at.1, .instanceMethod mS_at.1, .selects jS mS_at.1 mS_at.1, .initialized jS]) (fun w' hw' => by
      simp only [List.mem_cons, List.not_mem_nil, or_false] at hw'
      rcases hw' with rfl | rfl | rfl | rfl
      · exact w
      · decide +kernel
      · decide +kernel
      · decide +kernel) (by decide +kernel)) (bl_wsm_eq rfl) rfl rfl ⟨rfl, by decide, by decide, by decide +kernel⟩ ⟨by show 3 + 1 ≤ _; omega, by show 8 + (2 + 11) + 64 ≤ _; omega⟩) ⟨js_blind, va_Orecv b1 hS, fun U hU hW => ⟨rfl, (show js jA _ _ q U U.heap by rw [hU]; exact js.moved hW.alike hjH)⟩⟩ rfl rfl hl.1 rfl (lv_room (by rw [bl_cats]; exact hrs)) hd ⟨by omega, by omega⟩) hS (fun _ _ h => h.elim) (fun _ h => h.elim) (fun r u t H1 locs1 ht hvm hr0 hB1 hz hk1 hS1 => ?_)
  subst hr0
  have h2 := h p e R s m args below meth c H1 locs1 (cells + 0) (slots + 0) mc ms φ φ0 K0 ls ⟨hMF, hCX, ⟨L, hL, hP.kept (fun k x hx => hk1 x.1 ((hP k x hx).lt) (fun h => h)), hD, hw, hro⟩, hS1, hX, hR, hB⟩ hl hv (bl_hd trivial hs2)
  rw [nI_clamp hk31] at h2
  exact h2
end BLW
