/-! ===== new T[n][k] and new T[n][k][h], out of the rows for any depth ===== -/
def bm_two (c c2 : ClassId) (N M : Nat) (dv : Value) (s : State) : State := bm_lay (fun t => t.pushCell (bm_one c2 M dv)) c N 1 s N
def bm_thr (c c1 c2 : ClassId) (N M L : Nat) (dv : Value) (s : State) : State := bm_lay (bm_two c1 c2 M L dv) c N (1 + M) s N
theorem bm_two_G (c c2 : ClassId) (N M : Nat) (dv : Value) : bm_G (bm_two c c2 N M dv) (1 + N) (N + N * M) := by
  have h := bm_lay_G (bm_one_G c2 M dv) c N
  rw [Nat.mul_one] at h
  exact h
theorem bm_two_X (c c2 : ClassId) (N M : Nat) (dv : Value) : bm_X (bm_two c c2 N M dv) (1 + N) (N + N * M) := by
  have h := bm_lay_X (bm_one_G c2 M dv) (bm_one_X c2 M dv) c N
  rw [Nat.mul_one] at h
  exact h
theorem bm_thr_G (c c1 c2 : ClassId) (N M L : Nat) (dv : Value) : bm_G (bm_thr c c1 c2 N M L dv) (1 + N * (1 + M)) (N + N * (M + M * L)) := bm_lay_G (bm_two_G c1 c2 M L dv) c N
theorem bm_thr_X (c c1 c2 : ClassId) (N M L : Nat) (dv : Value) : bm_X (bm_thr c c1 c2 N M L dv) (1 + N * (1 + M)) (N + N * (M + M * L)) := bm_lay_X (bm_two_G c1 c2 M L dv) (bm_two_X c1 c2 M L dv) c N
/-- where the cells lie: the row, and behind it the inner ones -/
theorem bm_two_at (c c2 : ClassId) (N M : Nat) (dv : Value) (s : State) : (bm_two c c2 N M dv s).heap.size = s.heap.size + 1 + N ∧ (bm_two c c2 N M dv s).heap[s.heap.size]? = some (bm_out c N s.heap.size 1 N) ∧ (∀ a : Nat, a < s.heap.size → (bm_two c c2 N M dv s).heap[a]? = s.heap[a]?) ∧
    ∀ j : Nat, j < N → (bm_two c c2 N M dv s).heap[s.heap.size + 1 + j]? = some (bm_one c2 M dv) := by
  obtain ⟨a1, a2, -, -, -, a6, a7⟩ := bm_lay_at (bm_one_G c2 M dv) c N s N
  refine ⟨by rw [Nat.mul_one] at a1; exact a1, a6, a2, fun j hj => ?_⟩
  have h := a7 j 0 hj Nat.one_pos
  obtain ⟨b1, -, -, -, -, -, -⟩ := bm_lay_at (bm_one_G c2 M dv) c N s j
  rw [Nat.add_zero, Nat.mul_one] at h
  rw [Nat.mul_one] at b1
  refine h.trans ?_
  rw [← b1]
  exact State.heap_pushCell_size _ _
theorem bm_thr_at (c c1 c2 : ClassId) (N M L : Nat) (dv : Value) (s : State) : (bm_thr c c1 c2 N M L dv s).heap.size = s.heap.size + 1 + N * (1 + M) ∧ (bm_thr c c1 c2 N M L dv s).heap[s.heap.size]? = some (bm_out c N s.heap.size (1 + M) N) ∧ (∀ a : Nat, a < s.heap.size → (bm_thr c c1 c2 N M L dv s).heap[a]? = s.heap[a]?) ∧
    (∀ j : Nat, j < N → (bm_thr c c1 c2 N M L dv s).heap[s.heap.size + 1 + j * (1 + M)]? = some (bm_out c1 M (s.heap.size + 1 + j * (1 + M)) 1 M)) ∧
    ∀ j k : Nat, j < N → k < M → (bm_thr c c1 c2 N M L dv s).heap[s.heap.size + 1 + j * (1 + M) + 1 + k]? = some (bm_one c2 L dv) := by
  obtain ⟨a1, a2, -, -, -, a6, a7⟩ := bm_lay_at (bm_two_G c1 c2 M L dv) c N s N
  refine ⟨a1, a6, a2, fun j hj => ?_, fun j k hj hk => ?_⟩
  · obtain ⟨b1, -, -, -, -, -, -⟩ := bm_lay_at (bm_two_G c1 c2 M L dv) c N s j
    obtain ⟨-, d2, -, -⟩ := bm_two_at c1 c2 M L dv (bm_lay (bm_two c1 c2 M L dv) c N (1 + M) s j)
    rw [b1] at d2
    exact (a7 j 0 hj (by omega)).trans d2
  · obtain ⟨b1, -, -, -, -, -, -⟩ := bm_lay_at (bm_two_G c1 c2 M L dv) c N s j
    obtain ⟨-, -, -, d4⟩ := bm_two_at c1 c2 M L dv (bm_lay (bm_two c1 c2 M L dv) c N (1 + M) s j)
    have d5 := d4 k hk
    rw [b1] at d5
    have h := a7 j (1 + k) hj (by omega)
    rw [← Nat.add_assoc] at h
    exact h.trans d5
section BMJ
variable {p : Program} {l : Launch} {e : Env} {R : Room} {s : State} {m : MethodId} {args : Array Value} {below : List Frame} {meth : Method} {c : Code} {T : State} {locs : List Loc} {cells slots : Nat}
theorem bm_multi2 (X : Stand p l e R s m args below meth c T locs cells slots) (hexec : p.tables.exec = Jvm.exec) {own : String} {index : Nat} {ty : FieldType} (hown : s.vm.findClass own = some m.cls) (hclink : (Cond.classLink own index ("[" ++ (FieldType.array ty).toString)).before args s = true)
    (hover : (Cond.arrayOver (.array ty)).before args s = true) (harr : (Cond.arrayClass ty).before args s = true) {g : JFrame} (hg : g.method = m) (hdg : decode c.code g.pc = .ok (.multianewarray index 2, 4)) {n k : Int32} {rest : List Value} (hstack : g.stack = .int k :: .int n :: rest)
    (hn : ¬ n < 0) (hk : ¬ k < 0) (hb1 : n.toNatClampNeg * 4 ≤ 536870912) (hb2 : k.toNatClampNeg * componentBytes ty ≤ 536870912) (hb3 : k.toNatClampNeg ≤ 536870912) (hdf : fits ty (defaultValue ty) = true)
    (hcells : cells + (1 + n.toNatClampNeg) ≤ R.cells) (hslots : slots + (n.toNatClampNeg + n.toNatClampNeg * k.toNatClampNeg) ≤ R.slots) :
    ∃ (vm₁ : Vm) (cA cB : ClassId), s.WarmedH vm₁ ∧ s.vm.findClass ("[" ++ (FieldType.array ty).toString) = some cA ∧ s.vm.findClass (FieldType.array ty).toString = some cB ∧
      Stand p l e R s m args below meth c (bm_two cA cB n.toNatClampNeg k.toNatClampNeg (defaultValue ty) (T.setVm vm₁)) locs (cells + 1 + n.toNatClampNeg) (slots + n.toNatClampNeg + n.toNatClampNeg * k.toNatClampNeg) ∧
      ∀ target, Steps p.tables e below ((bm_two cA cB n.toNatClampNeg k.toNatClampNeg (defaultValue ty) (T.setVm vm₁)).setTop { g with pc := g.pc + 4, stack := .ref T.heap.size :: rest }) target → Steps p.tables e below (T.setTop g) target := by
  obtain ⟨cB, cA, kA, h1, -, h2, h3, h4⟩ := bk_over hover
  obtain ⟨cB', kB, cc, h5, h6, h7⟩ := Cond.arrayClass_spec harr
  cases Option.some.inj (h5.symm.trans h1)
  obtain ⟨vm₁, w1, w2, w3⟩ := bm_ins (bm_two_G cA cB n.toNatClampNeg k.toNatClampNeg (defaultValue ty)) (bm_two_X cA cB n.toNatClampNeg k.toNatClampNeg (defaultValue ty)) X hexec hown hclink h4 hg (ds := [n, k]) (by simp) hdg hstack (fun vm hal => by
    obtain ⟨kA', q1, q2⟩ := hal.2.2 _ _ h2
    obtain ⟨kB', q3, q4⟩ := hal.2.2 _ _ h6
    have h := bm_more_M (e := e) (bm_one_G cB k.toNatClampNeg (defaultValue ty)) (bm_one_M (m := k) q3 (by rw [q4]; exact h7) hk (by rw [Launch.admits_arrayLengthLimit X.admits]; omega) (by rw [Launch.admits_maxHeapBytes X.admits]; omega) hdf) q1 (by rw [q2]; exact h3) rfl hn (by simp [hk]) (by rw [Launch.admits_arrayLengthLimit X.admits]; omega) (by rw [Launch.admits_maxHeapBytes X.admits]; show ¬ n.toNatClampNeg * 4 > _; omega)
    rw [Nat.mul_one] at h
    exact h) hcells hslots
  exact ⟨vm₁, cA, cB, w1, h4, h1, by rw [Nat.add_assoc cells, Nat.add_assoc slots]; exact w2, w3⟩
theorem bm_multi3 (X : Stand p l e R s m args below meth c T locs cells slots) (hexec : p.tables.exec = Jvm.exec) {own : String} {index : Nat} {ty : FieldType} (hown : s.vm.findClass own = some m.cls) (hclink : (Cond.classLink own index ("[" ++ (FieldType.array (.array ty)).toString)).before args s = true)
    (hover2 : (Cond.arrayOver (.array (.array ty))).before args s = true) (hover : (Cond.arrayOver (.array ty)).before args s = true) (harr : (Cond.arrayClass ty).before args s = true)
    {g : JFrame} (hg : g.method = m) (hdg : decode c.code g.pc = .ok (.multianewarray index 3, 4)) {n k h : Int32} {rest : List Value} (hstack : g.stack = .int h :: .int k :: .int n :: rest)
    (hn : ¬ n < 0) (hk : ¬ k < 0) (hh : ¬ h < 0) (hb1 : n.toNatClampNeg * 4 ≤ 536870912) (hb2 : k.toNatClampNeg * 4 ≤ 536870912) (hb3 : h.toNatClampNeg * componentBytes ty ≤ 536870912) (hb4 : h.toNatClampNeg ≤ 536870912) (hdf : fits ty (defaultValue ty) = true)
    (hcells : cells + (1 + n.toNatClampNeg * (1 + k.toNatClampNeg)) ≤ R.cells) (hslots : slots + (n.toNatClampNeg + n.toNatClampNeg * (k.toNatClampNeg + k.toNatClampNeg * h.toNatClampNeg)) ≤ R.slots) :
    ∃ (vm₁ : Vm) (cA c1 c2 : ClassId), s.WarmedH vm₁ ∧ s.vm.findClass ("[" ++ (FieldType.array (.array ty)).toString) = some cA ∧ s.vm.findClass ("[" ++ (FieldType.array ty).toString) = some c1 ∧ s.vm.findClass (FieldType.array ty).toString = some c2 ∧
      Stand p l e R s m args below meth c (bm_thr cA c1 c2 n.toNatClampNeg k.toNatClampNeg h.toNatClampNeg (defaultValue ty) (T.setVm vm₁)) locs (cells + 1 + n.toNatClampNeg * (1 + k.toNatClampNeg)) (slots + n.toNatClampNeg + n.toNatClampNeg * (k.toNatClampNeg + k.toNatClampNeg * h.toNatClampNeg)) ∧
      ∀ target, Steps p.tables e below ((bm_thr cA c1 c2 n.toNatClampNeg k.toNatClampNeg h.toNatClampNeg (defaultValue ty) (T.setVm vm₁)).setTop { g with pc := g.pc + 4, stack := .ref T.heap.size :: rest }) target → Steps p.tables e below (T.setTop g) target := by
  obtain ⟨c1, cA, kA, h1, -, h2, h3, h4⟩ := bk_over hover2
  obtain ⟨c2, c1', k1, h5, -, h6, h7, h8⟩ := bk_over hover
  obtain ⟨c2', k2, cc, h9, h10, h11⟩ := Cond.arrayClass_spec harr
  cases Option.some.inj (h9.symm.trans h5)
  cases Option.some.inj (h8.symm.trans h1)
  obtain ⟨vm₁, w1, w2, w3⟩ := bm_ins (bm_thr_G cA c1 c2 n.toNatClampNeg k.toNatClampNeg h.toNatClampNeg (defaultValue ty)) (bm_thr_X cA c1 c2 n.toNatClampNeg k.toNatClampNeg h.toNatClampNeg (defaultValue ty)) X hexec hown hclink h4 hg (ds := [n, k, h]) (by simp) hdg hstack (fun vm hal => by
    obtain ⟨kA', q1, q2⟩ := hal.2.2 _ _ h2
    obtain ⟨k1', q3, q4⟩ := hal.2.2 _ _ h6
    obtain ⟨k2', q5, q6⟩ := hal.2.2 _ _ h10
    have y := bm_more_M (e := e) (bm_one_G c2 h.toNatClampNeg (defaultValue ty)) (bm_one_M (m := h) q5 (by rw [q6]; exact h11) hh (by rw [Launch.admits_arrayLengthLimit X.admits]; omega) (by rw [Launch.admits_maxHeapBytes X.admits]; omega) hdf) q3 (by rw [q4]; exact h7) rfl hk (by simp [hh]) (by rw [Launch.admits_arrayLengthLimit X.admits]; omega) (by rw [Launch.admits_maxHeapBytes X.admits]; show ¬ k.toNatClampNeg * 4 > _; omega)
    rw [Nat.mul_one] at y
    exact bm_more_M (bm_two_G c1 c2 k.toNatClampNeg h.toNatClampNeg (defaultValue ty)) y q1 (by rw [q2]; exact h3) rfl hn (by simp [hk, hh]) (by rw [Launch.admits_arrayLengthLimit X.admits]; omega) (by rw [Launch.admits_maxHeapBytes X.admits]; show ¬ n.toNatClampNeg * 4 > _; omega)) hcells hslots
  exact ⟨vm₁, cA, c1, c2, w1, h4, h8, h5, by rw [Nat.add_assoc cells, Nat.add_assoc slots]; exact w2, w3⟩
end BMJ
