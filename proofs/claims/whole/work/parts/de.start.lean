/-! ===== the law's start: what the Statement gives ===== -/
def st_flat : List Cond := flatC (Jvm.Cond.and given_1 narrow_1)
def st_tm (q : String × String × List Int32) : Term := .static q.1 q.2.1 "[I"
def st_ws (q : String × String × List Int32) : List Cond := Cond.arrayOf (st_tm q) .int :: Cond.eq (.length (st_tm q)) (.int (Int32.ofNat q.2.2.length)) :: (List.range q.2.2.length).map (fun j => Cond.eq (.elem (st_tm q) (.int (Int32.ofNat j))) (.int (q.2.2.getD j 0)))
theorem st_in : ∀ q ∈ bl_stat, ∀ w ∈ st_ws q, w ∈ st_flat := by decide +kernel
theorem st_tb : ∀ q ∈ bl_stat, Cond.laysStatic q.1 q.2.1 "[I" ∈ lw_tbl ∧ Cond.initialized q.1 ∈ lw_tbl := by decide +kernel
def sr_tm (q : String × Nat × String) : Term := .string q.1 q.2.1
def sr_vl (q : String × Nat × String) : Term := .field (sr_tm q) "java/lang/String" "value" "[B"
def sr_ws (q : String × Nat × String) (bs : List Int32) : List Cond := Cond.eq (.field (sr_tm q) "java/lang/String" "coder" "B") (.int 0) :: Cond.arrayOf (sr_vl q) .byte :: Cond.eq (.length (sr_vl q)) (.int (Int32.ofNat bs.length)) :: (List.range bs.length).map (fun j => Cond.eq (.elem (sr_vl q) (.int (Int32.ofNat j))) (.int (bs.getD j 0)))
theorem sr_ex : ∀ q ∈ bl_strs, Cond.exactly (sr_tm q) "java/lang/String" ∈ st_flat := by decide +kernel
theorem sr_rf : ∀ q ∈ bl_strs, Cond.stringRef q.1 q.2.1 q.2.2 ∈ lw_tbl := by decide +kernel
theorem sr_in : ∀ j, j < 17 → ∀ w ∈ sr_ws (bl_strs.getD j ("", 0, "")) (bl_byt.getD j []), w ∈ st_flat := by decide +kernel
theorem sr_len : ∀ j, j < 17 → (bl_byt.getD j []).length < 2 ^ 31 := by decide +kernel
theorem nw_on : ∀ w, bl_nwk w = true → w.onTables = true := by
  intro w h
  cases w <;> first | rfl | (exfalso; cases h)
theorem st_arr {s : State} {args : Array Value} {ty : FieldType} (h : (Cond.arrayClass ty).before args s = true) (hp : ∀ C, ty ≠ .object C) : ∃ c, ArrOfT s c ty ∧ va_RA s c ty := by
  obtain ⟨c, k, comp, h1, h2, h3⟩ := Cond.arrayClass_spec h
  refine ⟨c, fun n z => ⟨(fun k h => by cases h), k, h2, comp, h3⟩, ?_⟩
  cases ty with
  | object C => exact absurd rfl (hp C)
  | _ => exact h1
theorem st_arrO {s : State} {args : Array Value} {C : String} (h : (Cond.arrayOver (.object C)).before args s = true) : ∃ c, ArrOfT s c (.object C) ∧ va_RA s c (.object C) := by
  obtain ⟨comp, c, k, h1, -, h2, h3, h4⟩ := Cond.arrayOver_spec h
  exact ⟨c, fun n z => ⟨(fun k h => by cases h), k, h2, comp, h3⟩, k, comp, h2, h3, h1, h4⟩
theorem st_arrA {s : State} {args : Array Value} {ty : FieldType} (h : (Cond.arrayOver (.array ty)).before args s = true) : ∃ c, ArrOfT s c (.array ty) ∧ va_RA s c (.array ty) := by
  obtain ⟨comp, c, k, h1, -, h2, h3, h4⟩ := bk_over h
  exact ⟨c, fun n z => ⟨(fun k h => by cases h), k, h2, comp, h3⟩, h4⟩
theorem st_cx {s : State} {b L : Nat} {xs : Nat → Int32} {args : Array Value} (hL : L ≤ 3072) (hts : ∀ w ∈ lw_tbl, w.before args s = true) (hX : va_X b L xs s s.heap) (hbl : b < s.heap.size) (hgv : (Jvm.Cond.and given_1 narrow_1).before args s = true) : ∃ G : bl_G, bl_CX G s s.heap ∧ G.2.2.2.1 = s.heap.size ∧ G.2.2.2.2.1 = L ∧ G.2.2.1 5 = b := by
  have hs : ∀ w ∈ st_flat, w.before args s = true := flat_of_before _ hgv
  have hg : ∀ w ∈ bl_gw, w.before args s = true := fun w hw => hts w (List.mem_filter.mp hw).1
  have hA : ∀ a : Nat, a < s.heap.size → ¬ (fun q : Nat => s.heap.size ≤ q) a := fun a h1 h2 => absurd h1 (Nat.not_lt.mpr h2)
  -- classes
  have hcl : ∀ k : Nat, ∃ q : ClassId × (Nat → Nat), ∀ r : vw_C, vwCl[k]? = some r → u_Kn s r.1 r.2.1 r.2.2 q.1 q.2 := by
    intro k
    cases hr : vwCl[k]? with
    | none => exact ⟨(0, fun _ => 0), fun r h => by cases h⟩
    | some r =>
      have hin : Cond.instantiable r.1 r.2.2 ∈ bl_gw := by
        have h := bl_cl_lt hr
        rcases (show k = 0 ∨ k = 1 ∨ k = 2 ∨ k = 3 ∨ k = 4 ∨ k = 5 ∨ k = 6 ∨ k = 7 ∨ k = 8 ∨ k = 9 ∨ k = 10 ∨ k = 11 by omega) with rfl | rfl | rfl | rfl | rfl | rfl | rfl | rfl | rfl | rfl | rfl | rfl <;> cases hr
        · exact wq_207
        · exact wq_168
        · exact wq_276
        · exact wq_1196
        · exact wq_673
        · exact wq_699
        · exact wq_712
        · exact wq_706
        · exact wq_132
        · exact wq_190
        · exact wq_124
        · exact wq_1302
      obtain ⟨c, i, hk⟩ := u_known (n := r.2.2) hg (bl_cl_in k r hr) (hg _ hin)
      exact ⟨(c, i), fun r' h => by cases h; exact hk⟩
  obtain ⟨D, hD⟩ := Classical.axiomOfChoice hcl
  -- rows' classes
  obtain ⟨c20, a20⟩ := st_arr (hg _ wq_162) (fun C h => by cases h)
  obtain ⟨c21, a21⟩ := st_arr (hg _ wq_205) (fun C h => by cases h)
  have o4 := hts (.arrayOver (.object RX4)) (by decide +kernel)
  have o5 := hts (.arrayOver (.object RX5)) (by decide +kernel)
  have o7 := hts (.arrayOver (.object RX7)) (by decide +kernel)
  have oA := hts (.arrayOver (.array .int)) (by decide +kernel)
  have oB := hts (.arrayOver (.array (.array .int))) (by decide +kernel)
  obtain ⟨c22, a22⟩ := st_arrO o4
  obtain ⟨c23, a23⟩ := st_arrO o5
  obtain ⟨c24, a24⟩ := st_arrO o7
  obtain ⟨c25, a25⟩ := st_arrA oA
  obtain ⟨c26, a26⟩ := st_arrA oB
  -- static rows
  have hst : ∀ j : Nat, ∃ t : Nat, ∀ q : String × String × List Int32, bl_stat[j]? = some q → va_Z q.1 q.2.1 "[I" (.ref t) (fun q : Nat => s.heap.size ≤ q) s s.heap ∧ va_T .int t q.2.2.length (fun i => .int (q.2.2.getD i 0)) (fun q : Nat => s.heap.size ≤ q) s s.heap := by
    intro j
    cases hq : bl_stat[j]? with
    | none => exact ⟨0, fun q h => by cases h⟩
    | some q =>
      have hm : q ∈ bl_stat := List.mem_of_getElem? hq
      have hw : ∀ w ∈ st_ws q, w.before args s = true := fun w h => hs w (st_in q hm w h)
      obtain ⟨t, ht, hT⟩ := va_Tof (tm := st_tm q) (ty := .int) (N := q.2.2.length) (f := fun i => .int (q.2.2.getD i 0)) (A := fun q : Nat => s.heap.size ≤ q) (args := args) (s := s) (by
          have : ∀ q ∈ bl_stat, q.2.2.length < 2 ^ 31 := by decide +kernel
          exact this q hm) (hw _ List.mem_cons_self) (va_eqt (hw _ (List.mem_cons_of_mem _ List.mem_cons_self))) (fun i hi => va_eqt (hw _ (List.mem_cons_of_mem _ (List.mem_cons_of_mem _ (List.mem_map.mpr ⟨i, List.mem_range.mpr hi, rfl⟩))))) hA
      exact ⟨t, fun q' h => by cases h; exact ⟨va_Zof (hts _ (st_tb q hm).1) (hts _ (st_tb q hm).2) ht hA, hT⟩⟩
  obtain ⟨tS, hS⟩ := Classical.axiomOfChoice hst
  -- texts
  have hsr : ∀ j : Nat, ∃ t : Nat, ∀ q : String × Nat × String, bl_strs[j]? = some q → vk_R q.1 q.2.1 q.2.2 t s ∧ va_O "java/lang/String" t (fun q : Nat => s.heap.size ≤ q) s s.heap ∧ (sr_tm q).eval args s none [] s = some (.ref t) := by
    intro j
    cases hq : bl_strs[j]? with
    | none => exact ⟨0, fun q h => by cases h⟩
    | some q =>
      have hm : q ∈ bl_strs := List.mem_of_getElem? hq
      have he := hs _ (sr_ex q hm)
      obtain ⟨a, c, cA, kA, q1, -⟩ := Cond.exactly_spec (args := args) (first := s) (o := none) (s := s) (idx := []) (t := sr_tm q) (cls := "java/lang/String") he
      exact ⟨a, fun q' h => by cases h; exact ⟨vk_R.of (hts _ (sr_rf q hm)) q1, va_Oof he q1 hA, q1⟩⟩
  obtain ⟨tR, hR⟩ := Classical.axiomOfChoice hsr
  have hsb : ∀ j : Nat, ∃ t : Nat, j < 17 → va_OF "java/lang/String" "coder" "B" (.int 0) (tR j) (fun q : Nat => s.heap.size ≤ q) s s.heap ∧ va_OF "java/lang/String" "value" "[B" (.ref t) (tR j) (fun q : Nat => s.heap.size ≤ q) s s.heap ∧ va_T .byte t (bl_byt.getD j []).length (fun i => .int ((bl_byt.getD j []).getD i 0)) (fun q : Nat => s.heap.size ≤ q) s s.heap := by
    intro j
    by_cases hj : j < 17
    · have hq : bl_strs[j]? = some (bl_strs.getD j ("", 0, "")) := by
        rw [List.getD_eq_getElem?_getD, List.getElem?_eq_getElem (show j < bl_strs.length from Nat.lt_trans hj (by decide))]; rfl
      obtain ⟨-, -, q1⟩ := hR j _ hq
      have hw : ∀ w ∈ sr_ws (bl_strs.getD j ("", 0, "")) (bl_byt.getD j []), w.before args s = true := fun w h => hs w (sr_in j hj w h)
      obtain ⟨t, ht, hT⟩ := va_Tof (tm := sr_vl (bl_strs.getD j ("", 0, ""))) (ty := .byte) (N := (bl_byt.getD j []).length) (f := fun i => .int ((bl_byt.getD j []).getD i 0)) (A := fun q : Nat => s.heap.size ≤ q) (args := args) (s := s) (sr_len j hj) (hw _ (List.mem_cons_of_mem _ List.mem_cons_self)) (va_eqt (hw _ (List.mem_cons_of_mem _ (List.mem_cons_of_mem _ List.mem_cons_self)))) (fun i hi => va_eqt (hw _ (List.mem_cons_of_mem _ (List.mem_cons_of_mem _ (List.mem_cons_of_mem _ (List.mem_map.mpr ⟨i, List.mem_range.mpr hi, rfl⟩)))))) hA
      exact ⟨t, fun _ => ⟨vk_OFof q1 (va_eqt (hw _ List.mem_cons_self)) hA, vk_OFof q1 ht hA, hT⟩⟩
    · exact ⟨0, fun h => absurd h hj⟩
  obtain ⟨tV, hV⟩ := Classical.axiomOfChoice hsb
  refine ⟨((fun k => (D k).1, fun k => (D k).2), fun k => if k = 20 then c20 else if k = 21 then c21 else if k = 22 then c22 else if k = 23 then c23 else if k = 24 then c24 else if k = 25 then c25 else c26, fun j => if j < 5 then tS j else if j = 5 then b else if j < 40 then tR (j - 10) else tV (j - 40), s.heap.size, L, xs), ⟨Nat.le_refl _, ⟨hD, fun k q hk => ?_⟩, ?_⟩, rfl, rfl, rfl⟩
  · match k, hk with
    | 0, hk => cases hk; exact a20
    | 1, hk => cases hk; exact a21
    | 2, hk => cases hk; exact a22
    | 3, hk => cases hk; exact a23
    | 4, hk => cases hk; exact a24
    | 5, hk => cases hk; exact a25
    | 6, hk => cases hk; exact a26
    | _ + 7, hk => cases hk
  · refine ⟨⟨o4, o5, o7, oA, oB⟩, fun w hw => ?_, ⟨va_Nc.of (hs _ (by decide +kernel)), va_Nc.of (hs _ (by decide +kernel)), va_Nc.of (hs _ (by decide +kernel))⟩, fun j q hq => ?_, ?_, fun j q hq => ?_, fun j q hq => ?_, ?_, ?_, ?_, ?_⟩
    · obtain ⟨h1, h2⟩ := List.mem_filter.mp hw
      exact va_Nw.of (nw_on w h2) (hts w h1)
    · have hj : j < 5 := (List.getElem?_eq_some_iff.mp hq).1
      show va_Z q.1 q.2.1 "[I" (.ref (if j < 5 then tS j else _)) _ s s.heap ∧ va_T .int (if j < 5 then tS j else _) _ _ _ s s.heap
      rw [if_pos hj]
      exact hS j q hq
    · obtain ⟨scr, h1, h2, h3, h4, h5⟩ := hX
      exact ⟨scr, h1, h2, h3, (show L ≤ scr.slots.size from Nat.le_of_eq h4.symm), (show scr.slots.size.toInt32 = Int32.ofNat L by rw [h4]), h5, hA b hbl⟩
    · have hj : j < 27 := (List.getElem?_eq_some_iff.mp hq).1
      show vk_R q.1 q.2.1 q.2.2 (if 10 + j < 5 then _ else if 10 + j = 5 then b else if 10 + j < 40 then tR (10 + j - 10) else _) s
      rw [if_neg (by omega), if_neg (by omega), if_pos (by omega), Nat.add_sub_cancel_left]
      exact (hR j q hq).1
    · have hj : j < 17 := (List.getElem?_eq_some_iff.mp hq).1
      have e1 : (if 10 + j < 5 then tS (10 + j) else if 10 + j = 5 then b else if 10 + j < 40 then tR (10 + j - 10) else tV (10 + j - 40)) = tR j := by
        rw [if_neg (by omega), if_neg (by omega), if_pos (by omega), Nat.add_sub_cancel_left]
      have e2 : (if 40 + j < 5 then tS (40 + j) else if 40 + j = 5 then b else if 40 + j < 40 then tR (40 + j - 10) else tV (40 + j - 40)) = tV j := by
        rw [if_neg (by omega), if_neg (by omega), if_neg (by omega), Nat.add_sub_cancel_left]
      have eq : bl_byt.getD j [] = q := by rw [List.getD_eq_getElem?_getD, hq]; rfl
      have hq2 : bl_strs[j]? = some (bl_strs.getD j ("", 0, "")) := by
        rw [List.getD_eq_getElem?_getD, List.getElem?_eq_getElem (show j < bl_strs.length from Nat.lt_trans hj (by decide))]; rfl
      have h1 := (hR j _ hq2).2.1
      obtain ⟨h2, h3, h4⟩ := hV j hj
      rw [eq] at h4
      dsimp only
      rw [e1, e2]
      exact ⟨h1, h2, h3, h4⟩
    · exact va_Zof (hts _ (by decide +kernel)) (hts _ (by decide +kernel)) (va_eqt (hs _ (by decide +kernel))) hA
    · exact va_Zqof (hts _ (by decide +kernel)) (hts _ (by decide +kernel)) (hs _ (by decide +kernel)) hA
    · exact vx_Zqof (hts _ (by decide +kernel)) (hts _ (by decide +kernel)) (hs _ (by decide +kernel)) hA
    · exact vx_Zqof (hts _ (by decide +kernel)) (hts _ (by decide +kernel)) (hs _ (by decide +kernel)) hA
