/-! ===== new T[n][k][h]: the machine's step (after the library's wp_make2, multianewarray2) ===== -/
def bm_out (c : ClassId) (N h0 w : Nat) : Nat → Cell
  | 0 => { cls := c, slots := Array.replicate N .null, vm := .none }
  | i + 1 => (bm_out c N h0 w i).setSlot i (.ref (h0 + 1 + i * w))
def bm_fill (s : State) (c c1 c2 : ClassId) (N M L : Nat) (dv : Value) : Nat → State
  | 0 => s.pushCell (bm_out c N s.heap.size (1 + M) 0)
  | i + 1 => (Jvm.Free.Multi.fill (bm_fill s c c1 c2 N M L dv i) c1 c2 M L dv M).setCell s.heap.size (bm_out c N s.heap.size (1 + M) (i + 1))
theorem bm_out_facts (c : ClassId) (N h0 w : Nat) : ∀ i, (bm_out c N h0 w i).cls = c ∧ (bm_out c N h0 w i).vm = .none ∧ (bm_out c N h0 w i).slots.size = N
  | 0 => ⟨rfl, rfl, by simp [bm_out]⟩
  | i + 1 => by
    obtain ⟨a, b, d⟩ := bm_out_facts c N h0 w i
    exact ⟨by simp [bm_out, Cell.setSlot, a], by simp [bm_out, Cell.setSlot, b], by simp [bm_out, Cell.setSlot, d]⟩
theorem bm_fill_facts (s : State) (c c1 c2 : ClassId) (N M L : Nat) (dv : Value) : ∀ i, (bm_fill s c c1 c2 N M L dv i).heap.size = s.heap.size + 1 + i * (1 + M) ∧ (bm_fill s c c1 c2 N M L dv i).heap[s.heap.size]? = some (bm_out c N s.heap.size (1 + M) i) ∧
    (bm_fill s c c1 c2 N M L dv i).vm = s.vm ∧ (bm_fill s c c1 c2 N M L dv i).slotsUsed = s.slotsUsed + N + i * (M + M * L)
  | 0 => ⟨by simp [bm_fill], by simp [bm_fill], rfl, by simp [bm_fill, bm_out]⟩
  | i + 1 => by
    obtain ⟨a, b, d, u⟩ := bm_fill_facts s c c1 c2 N M L dv i
    obtain ⟨f1, f2, f3, f4⟩ := Jvm.Free.Multi.fill_facts (bm_fill s c c1 c2 N M L dv i) c1 c2 M L dv M
    have hb' : (Jvm.Free.Multi.fill (bm_fill s c c1 c2 N M L dv i) c1 c2 M L dv M).heap[s.heap.size]? = some (bm_out c N s.heap.size (1 + M) i) := by
      rw [Jvm.Free.Multi.fill_old (a := s.heap.size) _ c1 c2 M L dv (show s.heap.size < _ by rw [a]; omega)]; exact b
    refine ⟨?_, State.heap_setCell_self hb', ?_, ?_⟩
    · show ((Jvm.Free.Multi.fill (bm_fill s c c1 c2 N M L dv i) c1 c2 M L dv M).setCell s.heap.size _).heap.size = _
      simp only [State.setCell, Array.size_setIfInBounds]
      rw [f1, a, Nat.succ_mul]; omega
    · show ((Jvm.Free.Multi.fill (bm_fill s c c1 c2 N M L dv i) c1 c2 M L dv M).setCell s.heap.size _).vm = _
      rw [show ∀ (t : State) x y, (t.setCell x y).vm = t.vm from fun _ _ _ => rfl, f3, d]
    · show ((Jvm.Free.Multi.fill (bm_fill s c c1 c2 N M L dv i) c1 c2 M L dv M).setCell s.heap.size _).slotsUsed = _
      rw [show ∀ (t : State) x y, (t.setCell x y).slotsUsed = t.slotsUsed from fun _ _ _ => rfl, f4, u, Nat.succ_mul]; omega
theorem bm_fill_setTop (s : State) (f : JFrame) (c c1 c2 : ClassId) (N M L : Nat) (dv : Value) : ∀ i, bm_fill (s.setTop f) c c1 c2 N M L dv i = (bm_fill s c c1 c2 N M L dv i).setTop f
  | 0 => rfl
  | i + 1 => by simp only [bm_fill, bm_fill_setTop s f c c1 c2 N M L dv i, Jvm.Free.Multi.fill_setTop, State.heap_setTop, State.setCell_setTop]
theorem bm_fill_old (s : State) (c c1 c2 : ClassId) (N M L : Nat) (dv : Value) {a : Addr} (ha : a < s.heap.size) : ∀ i, (bm_fill s c c1 c2 N M L dv i).heap[a]? = s.heap[a]?
  | 0 => State.heap_pushCell_of_lt _ _ ha
  | i + 1 => by
    have f1 := (bm_fill_facts s c c1 c2 N M L dv i).1
    show ((Jvm.Free.Multi.fill (bm_fill s c c1 c2 N M L dv i) c1 c2 M L dv M).setCell s.heap.size _).heap[a]? = _
    rw [State.heap_setCell_other (Nat.ne_of_gt ha), Jvm.Free.Multi.fill_old (a := a) _ c1 c2 M L dv (Nat.lt_of_lt_of_le ha (by rw [f1]; omega))]
    exact bm_fill_old s c c1 c2 N M L dv ha i
theorem bm_fill_mid (s : State) (c c1 c2 : ClassId) (N M L : Nat) (dv : Value) : ∀ i j, j < i → (bm_fill s c c1 c2 N M L dv i).heap[s.heap.size + 1 + j * (1 + M)]? = some (Jvm.Free.Multi.outerC c1 M (s.heap.size + 1 + j * (1 + M)) M)
  | 0, _, h => absurd h (Nat.not_lt_zero _)
  | i + 1, j, h => by
    have f1 := (bm_fill_facts s c c1 c2 N M L dv i).1
    show ((Jvm.Free.Multi.fill (bm_fill s c c1 c2 N M L dv i) c1 c2 M L dv M).setCell s.heap.size _).heap[s.heap.size + 1 + j * (1 + M)]? = _
    rw [State.heap_setCell_other (show s.heap.size ≠ s.heap.size + 1 + j * (1 + M) by omega)]
    rcases Nat.lt_or_ge j i with hj | hj
    · have hm : (j + 1) * (1 + M) ≤ i * (1 + M) := Nat.mul_le_mul_right _ hj
      rw [Nat.succ_mul] at hm
      rw [Jvm.Free.Multi.fill_old (a := s.heap.size + 1 + j * (1 + M)) _ c1 c2 M L dv (show s.heap.size + 1 + j * (1 + M) < _ by rw [f1]; omega)]
      exact bm_fill_mid s c c1 c2 N M L dv i j hj
    · have e : j = i := by omega
      subst e
      have f2 := (Jvm.Free.Multi.fill_facts (bm_fill s c c1 c2 N M L dv j) c1 c2 M L dv M).2.1
      rw [f1] at f2
      exact f2
theorem bm_fill_inn (s : State) (c c1 c2 : ClassId) (N M L : Nat) (dv : Value) : ∀ i j k, j < i → k < M → (bm_fill s c c1 c2 N M L dv i).heap[s.heap.size + 1 + j * (1 + M) + 1 + k]? = some (Jvm.Free.Multi.innerC c2 L dv)
  | 0, _, _, h, _ => absurd h (Nat.not_lt_zero _)
  | i + 1, j, k, h, hk => by
    have f1 := (bm_fill_facts s c c1 c2 N M L dv i).1
    show ((Jvm.Free.Multi.fill (bm_fill s c c1 c2 N M L dv i) c1 c2 M L dv M).setCell s.heap.size _).heap[s.heap.size + 1 + j * (1 + M) + 1 + k]? = _
    rw [State.heap_setCell_other (show s.heap.size ≠ s.heap.size + 1 + j * (1 + M) + 1 + k by omega)]
    rcases Nat.lt_or_ge j i with hj | hj
    · have hm : (j + 1) * (1 + M) ≤ i * (1 + M) := Nat.mul_le_mul_right _ hj
      rw [Nat.succ_mul] at hm
      rw [Jvm.Free.Multi.fill_old (a := s.heap.size + 1 + j * (1 + M) + 1 + k) _ c1 c2 M L dv (show s.heap.size + 1 + j * (1 + M) + 1 + k < _ by rw [f1]; omega)]
      exact bm_fill_inn s c c1 c2 N M L dv i j k hj hk
    · have e : j = i := by omega
      subst e
      have f2 := Jvm.Free.Multi.fill_inner (bm_fill s c c1 c2 N M L dv j) c1 c2 M L dv M k hk
      rw [f1] at f2
      exact f2
section BMA
variable {E : CtlPost} {e : Env} {d : Bool} {acts : List Action} {s : State}
theorem bm_make3 {c c1 c2 cc : ClassId} {k k1 k2 : Class} {t0 t1 type : FieldType} {n m h : Int32} (hk : s.vm.classes[c]? = some k) (hkind : k.kind = .array c1 t0) (href : t0.isReference = true)
    (hk1 : s.vm.classes[c1]? = some k1) (hkind1 : k1.kind = .array c2 t1) (href1 : t1.isReference = true)
    (hk2 : s.vm.classes[c2]? = some k2) (hkind2 : k2.kind = .array cc type) (hn : ¬ n < 0) (hm : ¬ m < 0) (hh : ¬ h < 0)
    (hl1 : ¬ n.toNatClampNeg > e.platform.arrayLengthLimit) (hh1 : ¬ n.toNatClampNeg * componentBytes t0 > e.platform.maxHeapBytes)
    (hl2 : ¬ m.toNatClampNeg > e.platform.arrayLengthLimit) (hh2 : ¬ m.toNatClampNeg * componentBytes t1 > e.platform.maxHeapBytes)
    (hl3 : ¬ h.toNatClampNeg > e.platform.arrayLengthLimit) (hh3 : ¬ h.toNatClampNeg * componentBytes type > e.platform.maxHeapBytes)
    (hdf : fits type (defaultValue type) = true) (hdd : (defaultValue type).isDefault = true)
    (hc : s.heap.size + 1 + n.toNatClampNeg * (1 + m.toNatClampNeg) ≤ e.platform.maxCells) (hs : s.slotsUsed + n.toNatClampNeg + n.toNatClampNeg * (m.toNatClampNeg + m.toNatClampNeg * h.toNatClampNeg) ≤ e.platform.maxSlots)
    {Q : Addr → Pre} (hq : ∀ d' acts', Q s.heap.size d' acts' (bm_fill s c c1 c2 n.toNatClampNeg m.toNatClampNeg h.toNatClampNeg (defaultValue type) n.toNatClampNeg)) :
    wp (multianewarray.make c [n, m, h]) Q E e d acts s := by
  have hfind : ([m, h].find? (· < 0)) = none := by simp [hm, hh]
  rw [multianewarray.make]
  simp only [wp_bind', W.ite, hn, if_false, wp_pure', W.theClass, hk, hkind, Option.some.injEq, exists_eq_left']
  refine Jvm.Free.Multi.wp_newArray hk hkind hl1 hh1 (Jvm.Free.Multi.refFits href _ (Or.inl rfl)) rfl (by omega) (by have := Nat.zero_le (n.toNatClampNeg * (m.toNatClampNeg + m.toNatClampNeg * h.toNatClampNeg)); omega) ?_
  simp only [hfind]
  rw [ite_self, wp_bind', Std.Legacy.Range.forIn_eq_forIn_range']
  have hsz : ([:n.toNatClampNeg] : Std.Legacy.Range).size = n.toNatClampNeg := by simp [Std.Legacy.Range.size]
  rw [hsz]
  show wp (forIn (List.range' 0 n.toNatClampNeg 1) PUnit.unit _) _ E e d acts _
  refine wp_forIn_inv (fun rest s' => ∃ i, i ≤ n.toNatClampNeg ∧ rest = List.range' i (n.toNatClampNeg - i) ∧ s' = bm_fill s c c1 c2 n.toNatClampNeg m.toNatClampNeg h.toNatClampNeg (defaultValue type) i) _ _ ⟨0, Nat.zero_le _, rfl, rfl⟩ ?_ ?_
  · rintro x rest s' d' acts' Q' ⟨i, hi, hl, rfl⟩ hnext
    have hlt : i < n.toNatClampNeg := by
      rcases Nat.lt_or_ge i n.toNatClampNeg with h | h
      · exact h
      · rw [show n.toNatClampNeg - i = 0 from by omega] at hl; simp at hl
    obtain ⟨rfl, hrest⟩ : x = i ∧ rest = List.range' (i + 1) (n.toNatClampNeg - (i + 1)) := by
      rw [show n.toNatClampNeg - i = (n.toNatClampNeg - (i + 1)) + 1 from by omega, List.range'_succ] at hl
      exact ⟨(List.cons.inj hl).1, (List.cons.inj hl).2⟩
    obtain ⟨f1, f2, f3, f4⟩ := bm_fill_facts s c c1 c2 n.toNatClampNeg m.toNatClampNeg h.toNatClampNeg (defaultValue type) x
    obtain ⟨o1, o2, o3⟩ := bm_out_facts c n.toNatClampNeg s.heap.size (1 + m.toNatClampNeg) x
    have hmul1 : x * (1 + m.toNatClampNeg) + (1 + m.toNatClampNeg) ≤ n.toNatClampNeg * (1 + m.toNatClampNeg) := by
      have := Nat.mul_le_mul_right (1 + m.toNatClampNeg) (show x + 1 ≤ n.toNatClampNeg from hlt)
      rw [Nat.succ_mul] at this; exact this
    have hmul2 : x * (m.toNatClampNeg + m.toNatClampNeg * h.toNatClampNeg) + (m.toNatClampNeg + m.toNatClampNeg * h.toNatClampNeg) ≤ n.toNatClampNeg * (m.toNatClampNeg + m.toNatClampNeg * h.toNatClampNeg) := by
      have := Nat.mul_le_mul_right (m.toNatClampNeg + m.toNatClampNeg * h.toNatClampNeg) (show x + 1 ≤ n.toNatClampNeg from hlt)
      rw [Nat.succ_mul] at this; exact this
    simp only [wp_bind']
    refine Jvm.Free.Multi.wp_make2 (k := k1) (kc := k2) (comp := c2) (cc := cc) (t0 := t1) (type := type) (by rw [f3]; exact hk1) hkind1 href1 (by rw [f3]; exact hk2) hkind2 hm hh hl2 hh2 hl3 hh3 hdf hdd (by rw [f1]; omega) (by rw [f4]; omega) (fun d'' acts'' => ?_)
    have hlt0 : s.heap.size < (bm_fill s c c1 c2 n.toNatClampNeg m.toNatClampNeg h.toNatClampNeg (defaultValue type) x).heap.size := by rw [f1]; omega
    have g3 := (Jvm.Free.Multi.fill_facts (bm_fill s c c1 c2 n.toNatClampNeg m.toNatClampNeg h.toNatClampNeg (defaultValue type) x) c1 c2 m.toNatClampNeg h.toNatClampNeg (defaultValue type) m.toNatClampNeg).2.2.1
    simp only [wp_bind', W.writeLoc, wp_pure']
    refine ⟨bm_out c n.toNatClampNeg s.heap.size (1 + m.toNatClampNeg) x, by rw [Jvm.Free.Multi.fill_old _ c1 c2 _ _ _ hlt0]; exact f2, by rw [o2]; simp, by rw [o3]; exact hlt, ?_, hnext _ _ _ ⟨x + 1, hlt, hrest, ?_⟩⟩
    · rw [o1, o2]
      simp [State.fitsSlot, State.slotType?, g3, f3, hk, hkind, Jvm.Free.Multi.refFits href _ (Or.inr ⟨_, rfl⟩)]
    · rw [f1]; rfl
  · rintro s' d' acts' ⟨i, hi, hl, rfl⟩
    have hiN : i = n.toNatClampNeg := by
      rcases Nat.lt_or_ge i n.toNatClampNeg with h | h
      · rw [show n.toNatClampNeg - i = (n.toNatClampNeg - (i + 1)) + 1 from by omega, List.range'_succ] at hl; cases hl
      · omega
    subst hiN
    simp only [wp_pure']
    exact hq _ _
end BMA
section BMB
variable {p : Program} {l : Launch} {e : Env} {R : Room} {s : State} {m : MethodId} {args : Array Value} {below : List Frame} {meth : Method} {c : Code} {T : State} {locs : List Loc} {cells slots : Nat}
theorem bm_filled (X : Stand p l e R s m args below meth c T locs cells slots) (cA c1 c2 : ClassId) (N M L : Nat) (dv : Value) :
    ∀ i, ∃ J : List Loc, (∀ x ∈ J, T.heap.size ≤ x.base) ∧ Stand p l e R s m args below meth c (bm_fill T cA c1 c2 N M L dv i) (locs ++ J) (cells + 1 + i * (1 + M)) (slots + N + i * (M + M * L))
  | 0 => by
    have h := X.pushed (bm_out cA N T.heap.size (1 + M) 0)
    rw [(bm_out_facts cA N T.heap.size (1 + M) 0).2.2] at h
    exact ⟨[], fun x hx => absurd hx (by simp), by simpa [bm_fill] using h⟩
  | i + 1 => by
    obtain ⟨J, hJ, Xi⟩ := bm_filled X cA c1 c2 N M L dv i
    obtain ⟨f1, f2, f3, f4⟩ := bm_fill_facts T cA c1 c2 N M L dv i
    have Xf := Stand.filled Xi c1 c2 M L dv M
    have hcell : (Jvm.Free.Multi.fill (bm_fill T cA c1 c2 N M L dv i) c1 c2 M L dv M).heap[T.heap.size]? = some (bm_out cA N T.heap.size (1 + M) i) := by
      rw [Jvm.Free.Multi.fill_old (a := T.heap.size) _ c1 c2 M L dv (show T.heap.size < _ by rw [f1]; omega)]; exact f2
    have h := Xf.stored hcell i (.ref (T.heap.size + 1 + i * (1 + M)))
    refine ⟨J ++ (((List.range M).map fun j => (⟨(bm_fill T cA c1 c2 N M L dv i).heap.size, j⟩ : Loc)) ++ [⟨T.heap.size, i⟩]), ?_, ?_⟩
    · intro x hx
      rcases List.mem_append.mp hx with hx | hx
      · exact hJ x hx
      · rcases List.mem_append.mp hx with hx | hx
        · obtain ⟨j, -, rfl⟩ := List.mem_map.mp hx
          show T.heap.size ≤ (bm_fill T cA c1 c2 N M L dv i).heap.size
          rw [f1]; omega
        · rw [List.mem_singleton.mp hx]; exact Nat.le_refl _
    · rw [← List.append_assoc, ← List.append_assoc, show cells + 1 + (i + 1) * (1 + M) = cells + 1 + i * (1 + M) + 1 + M by rw [Nat.succ_mul]; omega, show slots + N + (i + 1) * (M + M * L) = slots + N + i * (M + M * L) + M + M * L by rw [Nat.succ_mul]; omega]
      exact h
theorem bm_multi3 (X : Stand p l e R s m args below meth c T locs cells slots) (hexec : p.tables.exec = Jvm.exec) {own : String} {index : Nat} {ty : FieldType}
    (hown : s.vm.findClass own = some m.cls) (hclink : (Cond.classLink own index ("[" ++ (FieldType.array (.array ty)).toString)).before args s = true)
    (hover2 : (Cond.arrayOver (.array (.array ty))).before args s = true) (hover : (Cond.arrayOver (.array ty)).before args s = true) (harr : (Cond.arrayClass ty).before args s = true)
    {g : JFrame} (hg : g.method = m) (hdg : decode c.code g.pc = .ok (.multianewarray index 3, 4)) {n k h : Int32} {rest : List Value} (hstack : g.stack = .int h :: .int k :: .int n :: rest)
    (hn : ¬ n < 0) (hk : ¬ k < 0) (hh : ¬ h < 0) (hb1 : n.toNatClampNeg * 4 ≤ 536870912) (hb2 : k.toNatClampNeg * 4 ≤ 536870912) (hb3 : h.toNatClampNeg * componentBytes ty ≤ 536870912) (hb4 : h.toNatClampNeg ≤ 536870912)
    (hdf : fits ty (defaultValue ty) = true) (hdd : (defaultValue ty).isDefault = true)
    (hcells : cells + (1 + n.toNatClampNeg * (1 + k.toNatClampNeg)) ≤ R.cells) (hslots : slots + (n.toNatClampNeg + n.toNatClampNeg * (k.toNatClampNeg + k.toNatClampNeg * h.toNatClampNeg)) ≤ R.slots) :
    ∃ (vm₁ : Vm) (cA c1 c2 : ClassId), s.WarmedH vm₁ ∧ s.vm.findClass ("[" ++ (FieldType.array (.array ty)).toString) = some cA ∧ s.vm.findClass ("[" ++ (FieldType.array ty).toString) = some c1 ∧ s.vm.findClass (FieldType.array ty).toString = some c2 ∧
      Stand p l e R s m args below meth c (bm_fill (T.setVm vm₁) cA c1 c2 n.toNatClampNeg k.toNatClampNeg h.toNatClampNeg (defaultValue ty) n.toNatClampNeg) locs (cells + 1 + n.toNatClampNeg * (1 + k.toNatClampNeg)) (slots + n.toNatClampNeg + n.toNatClampNeg * (k.toNatClampNeg + k.toNatClampNeg * h.toNatClampNeg)) ∧
      ∀ target, Steps p.tables e below ((bm_fill (T.setVm vm₁) cA c1 c2 n.toNatClampNeg k.toNatClampNeg h.toNatClampNeg (defaultValue ty) n.toNatClampNeg).setTop { g with pc := g.pc + 4, stack := .ref T.heap.size :: rest }) target →
        Steps p.tables e below (T.setTop g) target := by
  subst hg
  have hpl : e.platform.magicAccessors = ({} : Platform).magicAccessors := by rw [X.admits.platform]
  obtain ⟨c1, cA, kA, hc1, hkA, hkindA, hnameA⟩ := Cond.arrayOver_specA hover2
  obtain ⟨c2, c1', k1, hc2, hk1, hkind1, hname1⟩ := Cond.arrayOver_specA hover
  obtain ⟨c2', kC, cc, hc2', hkC, hkindC⟩ := Cond.arrayClass_spec harr
  have e2 : c2' = c2 := Option.some.inj (hc2'.symm.trans hc2)
  subst e2
  have e1 : c1' = c1 := Option.some.inj (hname1.symm.trans hc1)
  subst e1
  obtain ⟨c0, hfc0, hcl⟩ := Cond.classLink_spec hown hclink e.platform hpl
  cases hnameA.symm.trans hfc0
  obtain ⟨hg₁, hwarm₁, hready₁⟩ := State.classEntry (e := e) X.warmed hcl
  generalize T.vm.noted g.method.cls index (.cls cA) = vm₁ at hg₁ hwarm₁ hready₁
  have hal : s.vm.Alike vm₁ := hwarm₁.alike
  obtain ⟨kA₁, hkA₁, heA⟩ := hal.2.2 _ _ hkA
  obtain ⟨k1₁, hk1₁, he1⟩ := hal.2.2 _ _ hk1
  obtain ⟨kC₁, hkC₁, heC⟩ := hal.2.2 _ _ hkC
  have hkindA₁ : kA₁.kind = .array c1' (.array (.array ty)) := by rw [heA]; exact hkindA
  have hkind1₁ : k1₁.kind = .array c2' (.array ty) := by rw [he1]; exact hkind1
  have hkindC₁ : kC₁.kind = .array cc ty := by rw [heC]; exact hkindC
  have X₁ := X.noted hwarm₁
  obtain ⟨hr1, hr2⟩ := X.roomAbove hcells hslots
  obtain ⟨JF, hJF, XF'⟩ := bm_filled X₁ cA c1' c2' n.toNatClampNeg k.toNatClampNeg h.toNatClampNeg (defaultValue ty) n.toNatClampNeg
  have XF := XF'.dropFresh (fun x hx => Nat.le_trans X.heapGrown (hJF x hx))
  refine ⟨vm₁, cA, c1', c2', hwarm₁, hnameA, hname1, hc2, XF, fun target hrest => ?_⟩
  have hl1 : ¬ n.toNatClampNeg > e.platform.arrayLengthLimit := by rw [Launch.admits_arrayLengthLimit X.admits]; omega
  have hh1 : ¬ n.toNatClampNeg * componentBytes (.array (.array ty)) > e.platform.maxHeapBytes := by
    rw [Launch.admits_maxHeapBytes X.admits]; show ¬ n.toNatClampNeg * 4 > 536870912; omega
  have hl2 : ¬ k.toNatClampNeg > e.platform.arrayLengthLimit := by rw [Launch.admits_arrayLengthLimit X.admits]; omega
  have hh2 : ¬ k.toNatClampNeg * componentBytes (.array ty) > e.platform.maxHeapBytes := by
    rw [Launch.admits_maxHeapBytes X.admits]; show ¬ k.toNatClampNeg * 4 > 536870912; omega
  have hl3 : ¬ h.toNatClampNeg > e.platform.arrayLengthLimit := by rw [Launch.admits_arrayLengthLimit X.admits]; omega
  have hh3 : ¬ h.toNatClampNeg * componentBytes ty > e.platform.maxHeapBytes := by rw [Launch.admits_maxHeapBytes X.admits]; omega
  jvm_step X.here [hexec, hdg]
  simp only [multianewarray.sem, wp_bind', W.resolveClassAt_links (State.method?_setTop g X.here.top) hg₁]
  rw [W.popN, if_neg (by decide)]
  refine ⟨g, State.topJava?_setTop' (s := T.setVm vm₁) g X.here.top, [.int n, .int k, .int h], rest, rfl, hstack, ?_⟩
  simp only [List.mapM_cons, List.mapM_nil, wp_bind', wp_pure']
  refine bm_make3 (k := kA₁) (k1 := k1₁) (k2 := kC₁) (c1 := c1') (c2 := c2') (cc := cc) (t0 := .array (.array ty)) (t1 := .array ty) (type := ty) hkA₁ hkindA₁ rfl hk1₁ hkind1₁ rfl hkC₁ hkindC₁ hn hk hh hl1 hh1 hl2 hh2 hl3 hh3 hdf hdd (by show T.heap.size + 1 + _ ≤ _; omega) (by show T.slotsUsed + _ + _ ≤ _; omega) (fun d' acts' => ?_)
  have eS : ((T.setTop g).setVm vm₁).setTop { g with stack := rest } = (T.setVm vm₁).setTop { g with stack := rest } := by
    show ((T.setVm vm₁).setTop g).setTop _ = _
    rw [State.setTop_setTop]
  rw [eS, bm_fill_setTop]
  simp only [wp_bind', W.mark, W.pushRef, State.topJava?_setTop' _ XF.here.top, Option.some.injEq, exists_eq_left', State.setTop_setTop, State.heap_setTop]
  intro acts
  simp [jvm, XF.here.top]
  exact hrest
end BMB
