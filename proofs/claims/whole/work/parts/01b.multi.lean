/-! ===== new T[n][k].. of any depth: a row of n places, and n times whatever lays one block behind it ===== -/
/-- the outer row when i of its N places are set; each block has w cells -/
def bm_out (c : ClassId) (N h0 w : Nat) : Nat → Cell
  | 0 => { cls := c, slots := Array.replicate N .null, vm := .none }
  | i + 1 => (bm_out c N h0 w i).setSlot i (.ref (h0 + 1 + i * w))
def bm_one (c : ClassId) (M : Nat) (dv : Value) : Cell := { cls := c, slots := Array.replicate M dv, vm := .none }
/-- a row of N places, then i blocks that G lays, each hung into its place -/
def bm_lay (G : State → State) (c : ClassId) (N w : Nat) (s : State) : Nat → State
  | 0 => s.pushCell (bm_out c N s.heap.size w 0)
  | i + 1 => (G (bm_lay G c N w s i)).setCell s.heap.size (bm_out c N s.heap.size w (i + 1))
/-- G lays w cells of u slots together, and nothing else changes -/
def bm_G (G : State → State) (w u : Nat) : Prop := ∀ t : State, (G t).heap.size = t.heap.size + w ∧ (∀ a : Nat, a < t.heap.size → (G t).heap[a]? = t.heap[a]?) ∧ (G t).vm = t.vm ∧ (G t).slotsUsed = t.slotsUsed + u ∧ ∀ f : JFrame, G (t.setTop f) = (G t).setTop f
theorem bm_out_at (c : ClassId) (N h0 w : Nat) : ∀ i, (bm_out c N h0 w i).cls = c ∧ (bm_out c N h0 w i).vm = .none ∧ (bm_out c N h0 w i).slots.size = N
  | 0 => ⟨rfl, rfl, by simp [bm_out]⟩
  | i + 1 => by
    obtain ⟨a, b, d⟩ := bm_out_at c N h0 w i
    exact ⟨a, b, by simp [bm_out, Cell.setSlot, d]⟩
theorem bm_one_G (c : ClassId) (M : Nat) (dv : Value) : bm_G (fun t => t.pushCell (bm_one c M dv)) 1 M := fun t =>
  ⟨by simp, fun a ha => State.heap_pushCell_of_lt _ _ ha, rfl, by simp [bm_one], fun f => State.pushCell_setTop ..⟩
theorem bm_lay_at {G : State → State} {w u : Nat} (hG : bm_G G w u) (c : ClassId) (N : Nat) (s : State) : ∀ i,
    (bm_lay G c N w s i).heap.size = s.heap.size + 1 + i * w ∧ (∀ a : Nat, a < s.heap.size → (bm_lay G c N w s i).heap[a]? = s.heap[a]?) ∧ (bm_lay G c N w s i).vm = s.vm ∧ (bm_lay G c N w s i).slotsUsed = s.slotsUsed + N + i * u ∧
    (∀ f : JFrame, bm_lay G c N w (s.setTop f) i = (bm_lay G c N w s i).setTop f) ∧ (bm_lay G c N w s i).heap[s.heap.size]? = some (bm_out c N s.heap.size w i) ∧
    ∀ j x, j < i → x < w → (bm_lay G c N w s i).heap[s.heap.size + 1 + j * w + x]? = (G (bm_lay G c N w s j)).heap[s.heap.size + 1 + j * w + x]?
  | 0 => ⟨by simp [bm_lay], fun a ha => State.heap_pushCell_of_lt _ _ ha, rfl, by simp [bm_lay, bm_out], fun f => State.pushCell_setTop .., by simp [bm_lay], fun j x h => absurd h (Nat.not_lt_zero j)⟩
  | i + 1 => by
    obtain ⟨a1, a2, a3, a4, a5, a6, a7⟩ := bm_lay_at hG c N s i
    obtain ⟨b1, b2, b3, b4, b5⟩ := hG (bm_lay G c N w s i)
    have hin : s.heap.size < (bm_lay G c N w s i).heap.size := by omega
    have h6 : (G (bm_lay G c N w s i)).heap[s.heap.size]? = some (bm_out c N s.heap.size w i) := (b2 _ hin).trans a6
    have e : bm_lay G c N w s (i + 1) = (G (bm_lay G c N w s i)).setCell s.heap.size (bm_out c N s.heap.size w (i + 1)) := rfl
    rw [e]
    refine ⟨?_, fun a ha => ?_, b3.trans a3, ?_, fun f => ?_, State.heap_setCell_self h6, fun j x hj hx => ?_⟩
    · simp only [State.setCell, Array.size_setIfInBounds]
      rw [b1, a1, Nat.succ_mul]; omega
    · rw [State.heap_setCell_other (Nat.ne_of_gt ha), b2 a (by omega)]
      exact a2 a ha
    · show (G (bm_lay G c N w s i)).slotsUsed = _
      rw [b4, a4, Nat.succ_mul]; omega
    · show (G (bm_lay G c N w (s.setTop f) i)).setCell _ _ = _
      rw [a5 f, b5 f, State.heap_setTop, State.setCell_setTop]
    · rw [State.heap_setCell_other (show s.heap.size ≠ s.heap.size + 1 + j * w + x by omega)]
      rcases Nat.lt_or_ge j i with h | h
      · have hm : (j + 1) * w ≤ i * w := Nat.mul_le_mul_right _ h
        rw [Nat.succ_mul] at hm
        rw [b2 _ (by rw [a1]; omega)]
        exact a7 j x h hx
      · rw [show j = i by omega]
theorem bm_lay_G {G : State → State} {w u : Nat} (hG : bm_G G w u) (c : ClassId) (N : Nat) : bm_G (fun t => bm_lay G c N w t N) (1 + N * w) (N + N * u) := fun t => by
  obtain ⟨a1, a2, a3, a4, a5, -, -⟩ := bm_lay_at hG c N t N
  exact ⟨by rw [a1]; omega, a2, a3, by rw [a4]; omega, a5⟩
section BMX
/-- G keeps a walk's stand: what it writes lies in new cells -/
def bm_X (G : State → State) (w u : Nat) : Prop := ∀ (p : Program) (l : Launch) (e : Env) (R : Room) (s : State) (m : MethodId) (args : Array Value) (below : List Frame) (meth : Method) (c : Code) (T : State) (locs : List Loc) (cells slots : Nat),
  Stand p l e R s m args below meth c T locs cells slots → ∃ J : List Loc, (∀ x ∈ J, T.heap.size ≤ x.base) ∧ Stand p l e R s m args below meth c (G T) (locs ++ J) (cells + w) (slots + u)
theorem bm_one_X (k : ClassId) (M : Nat) (dv : Value) : bm_X (fun t => t.pushCell (bm_one k M dv)) 1 M := by
  intro p l e R s m args below meth c T locs cells slots X
  have h := X.pushed (bm_one k M dv)
  rw [show (bm_one k M dv).slots.size = M by simp [bm_one]] at h
  exact ⟨[], fun x hx => absurd hx (by simp), by rw [List.append_nil]; exact h⟩
theorem bm_lay_X {G : State → State} {w u : Nat} (hG : bm_G G w u) (hX : bm_X G w u) (k : ClassId) (N : Nat) : bm_X (fun t => bm_lay G k N w t N) (1 + N * w) (N + N * u) := by
  intro p l e R s m args below meth c T locs cells slots X
  have key : ∀ i, ∃ J : List Loc, (∀ x ∈ J, T.heap.size ≤ x.base) ∧ Stand p l e R s m args below meth c (bm_lay G k N w T i) (locs ++ J) (cells + 1 + i * w) (slots + N + i * u) := by
    intro i
    induction i with
    | zero =>
      have h := X.pushed (bm_out k N T.heap.size w 0)
      rw [(bm_out_at k N T.heap.size w 0).2.2] at h
      refine ⟨[], fun x hx => absurd hx (by simp), ?_⟩
      rw [List.append_nil, Nat.zero_mul, Nat.zero_mul]
      exact h
    | succ i ih =>
      obtain ⟨J, hJ, Xi⟩ := ih
      obtain ⟨a1, -, -, -, -, a6, -⟩ := bm_lay_at hG k N T i
      obtain ⟨J2, hJ2, X2⟩ := hX _ _ _ _ _ _ _ _ _ _ _ _ _ _ Xi
      have h6 := ((hG (bm_lay G k N w T i)).2.1 T.heap.size (by omega)).trans a6
      have X3 := X2.stored h6 i (.ref (T.heap.size + 1 + i * w))
      refine ⟨J ++ (J2 ++ [⟨T.heap.size, i⟩]), fun x hx => ?_, ?_⟩
      · rcases List.mem_append.mp hx with hx | hx
        · exact hJ x hx
        · rcases List.mem_append.mp hx with hx | hx
          · have := hJ2 x hx; omega
          · rw [List.mem_singleton.mp hx]; exact Nat.le_refl _
      · rw [← List.append_assoc, ← List.append_assoc, Nat.succ_mul, Nat.succ_mul, ← Nat.add_assoc, ← Nat.add_assoc]
        exact X3
  obtain ⟨J, hJ, XN⟩ := key N
  exact ⟨J, hJ, by rw [← Nat.add_assoc, ← Nat.add_assoc]; exact XN⟩
end BMX
section BMM
variable {e : Env} {vm : Vm}
/-- what G lays is what the machine makes of these lengths, where there is room -/
def bm_M (e : Env) (vm : Vm) (G : State → State) (w u : Nat) (c : ClassId) (ds : List Int32) : Prop := ∀ (E : CtlPost) (d : Bool) (acts : List Action) (t : State) (Q : Addr → Pre), t.vm = vm → t.heap.size + w ≤ e.platform.maxCells → t.slotsUsed + u ≤ e.platform.maxSlots →
  (∀ d' acts', Q t.heap.size d' acts' (G t)) → wp (multianewarray.make c ds) Q E e d acts t
theorem bm_null {t : FieldType} (h : t.isReference = true) : fits t .null = true := by
  cases t <;> first | rfl | cases h
theorem bm_ref {t : FieldType} (h : t.isReference = true) (a : Addr) : fits t (.ref a) = true := by
  cases t <;> first | rfl | cases h
theorem bm_one_M {c b : ClassId} {k : Class} {ty : FieldType} {m : Int32} (hk : vm.classes[c]? = some k) (hkind : k.kind = .array b ty) (hm : ¬ m < 0) (h1 : ¬ m.toNatClampNeg > e.platform.arrayLengthLimit) (h2 : ¬ m.toNatClampNeg * componentBytes ty > e.platform.maxHeapBytes)
    (hfit : fits ty (defaultValue ty) = true) : bm_M e vm (fun t => t.pushCell (bm_one c m.toNatClampNeg (defaultValue ty))) 1 m.toNatClampNeg c [m] := by
  intro E d acts t Q hvm hc hs hq
  subst hvm
  rw [multianewarray.make]
  simp only [wp_bind', W.ite, hm, if_false, wp_pure', W.theClass, hk, hkind, Option.some.injEq, exists_eq_left']
  exact W.newArray_of hk hkind h1 h2 (by omega) hs hfit (fun acts' => hq _ _)
theorem bm_more_M {G : State → State} {w u : Nat} (hG : bm_G G w u) {c b : ClassId} {k : Class} {t0 : FieldType} {n r : Int32} {rs : List Int32} (hM : bm_M e vm G w u b (r :: rs)) (hk : vm.classes[c]? = some k) (hkind : k.kind = .array b t0) (href : t0.isReference = true)
    (hn : ¬ n < 0) (hr : ((r :: rs).find? (· < 0)) = none) (h1 : ¬ n.toNatClampNeg > e.platform.arrayLengthLimit) (h2 : ¬ n.toNatClampNeg * componentBytes t0 > e.platform.maxHeapBytes) :
    bm_M e vm (fun t => bm_lay G c n.toNatClampNeg w t n.toNatClampNeg) (1 + n.toNatClampNeg * w) (n.toNatClampNeg + n.toNatClampNeg * u) c (n :: r :: rs) := by
  intro E d acts s Q hvm hc hs hq
  subst hvm
  rw [multianewarray.make]
  simp only [wp_bind', W.ite, hn, if_false, wp_pure', W.theClass, hk, hkind, Option.some.injEq, exists_eq_left']
  refine W.newArray_of hk hkind h1 h2 (by omega) (by omega) (bm_null href) (fun acts' => ?_)
  simp only [hr]
  rw [ite_self, wp_bind', Std.Legacy.Range.forIn_eq_forIn_range']
  rw [show ([:n.toNatClampNeg] : Std.Legacy.Range).size = n.toNatClampNeg by simp [Std.Legacy.Range.size]]
  show wp (forIn (List.range' 0 n.toNatClampNeg 1) PUnit.unit _) _ E e d acts' _
  generalize hN : n.toNatClampNeg = N at *
  refine wp_forIn_inv (fun todo t => todo.length ≤ N ∧ todo = List.range' (N - todo.length) todo.length ∧ t = bm_lay G c N w s (N - todo.length)) _ _ ⟨by simp, by simp, by simp [bm_lay, bm_out]⟩ ?_ ?_
  · rintro x todo t d1 acts1 Q1 ⟨t1, t2, rfl⟩ hnext
    rw [List.length_cons] at t1 t2 ⊢
    rw [List.range'_succ] at t2
    obtain ⟨t3, t4⟩ := List.cons.inj t2
    have t5 : N - (todo.length + 1) + 1 = N - todo.length := by omega
    rw [t5] at t4
    rw [← t3]
    have hx : x < N := by omega
    obtain ⟨a1, a2, a3, a4, a5, a6, a7⟩ := bm_lay_at hG c N s x
    obtain ⟨b1, b2, b3, b4, b5⟩ := hG (bm_lay G c N w s x)
    obtain ⟨o1, o2, o3⟩ := bm_out_at c N s.heap.size w x
    have m1 : (x + 1) * w ≤ N * w := Nat.mul_le_mul_right _ hx
    have m2 : (x + 1) * u ≤ N * u := Nat.mul_le_mul_right _ hx
    rw [Nat.succ_mul] at m1 m2
    simp only [wp_bind']
    refine hM _ _ _ _ _ a3 (by rw [a1]; omega) (by rw [a4]; omega) (fun d2 acts2 => ?_)
    simp only [wp_bind', W.writeLoc, wp_pure']
    refine ⟨bm_out c N s.heap.size w x, (b2 _ (by omega)).trans a6, by rw [o2]; simp, by rw [o3]; exact hx, ?_, hnext _ _ _ ⟨by omega, t4, ?_⟩⟩
    · rw [o1, o2]
      simp [State.fitsSlot, State.slotType?, b3, a3, hk, hkind, bm_ref href]
    · rw [← t5, ← t3, a1]; rfl
  · rintro t d1 acts1 ⟨-, -, rfl⟩
    simp only [wp_pure']
    exact hq _ _
end BMM
section BMI
variable {p : Program} {l : Launch} {e : Env} {R : Room} {s : State} {m : MethodId} {args : Array Value} {below : List Frame} {meth : Method} {c : Code} {T : State} {locs : List Loc} {cells slots : Nat}
theorem bm_ints {E : CtlPost} {d : Bool} {acts : List Action} {t : State} {f : Value → Sem Int32} (hf : ∀ n : Int32, f (.int n) = Pure.pure n) : ∀ (ds : List Int32) (Q : List Int32 → Pre), Q ds d acts t → wp ((ds.map Value.int).mapM f) Q E e d acts t
  | [], Q, h => by simp only [List.map_nil, List.mapM_nil, wp_pure']; exact h
  | n :: ds, Q, h => by
    simp only [List.map_cons, List.mapM_cons, wp_bind', hf, wp_pure']
    exact bm_ints (d := d) (acts := acts) (t := t) hf ds (fun l => Q (n :: l)) h
/-- the instruction, for any depth: the lengths ds lie on the stack, the last on top -/
theorem bm_ins {G : State → State} {w u : Nat} (hG : bm_G G w u) (hX : bm_X G w u) (X : Stand p l e R s m args below meth c T locs cells slots) (hexec : p.tables.exec = Jvm.exec) {own C : String} {index : Nat} {cA : ClassId} (hown : s.vm.findClass own = some m.cls)
    (hclink : (Cond.classLink own index C).before args s = true) (hA : s.vm.findClass C = some cA) {g : JFrame} (hg : g.method = m) {ds : List Int32} (hds : ds ≠ []) (hdg : decode c.code g.pc = .ok (.multianewarray index ds.length, 4)) {rest : List Value} (hstack : g.stack = (ds.map Value.int).reverse ++ rest)
    (hM : ∀ vm, s.vm.Alike vm → bm_M e vm G w u cA ds) (hcells : cells + w ≤ R.cells) (hslots : slots + u ≤ R.slots) :
    ∃ vm₁ : Vm, s.WarmedH vm₁ ∧ Stand p l e R s m args below meth c (G (T.setVm vm₁)) locs (cells + w) (slots + u) ∧
      ∀ target, Steps p.tables e below ((G (T.setVm vm₁)).setTop { g with pc := g.pc + 4, stack := .ref T.heap.size :: rest }) target → Steps p.tables e below (T.setTop g) target := by
  subst hg
  have hpl : e.platform.magicAccessors = ({} : Platform).magicAccessors := by rw [X.admits.platform]
  obtain ⟨c0, hc0, hcl⟩ := Cond.classLink_spec hown hclink e.platform hpl
  cases hA.symm.trans hc0
  obtain ⟨g1, g2, -⟩ := State.classEntry (e := e) X.warmed hcl
  generalize T.vm.noted g.method.cls index (.cls cA) = vm₁ at g1 g2
  obtain ⟨r1, r2⟩ := X.roomAbove hcells hslots
  obtain ⟨J, hJ, XG⟩ := hX _ _ _ _ _ _ _ _ _ _ _ _ _ _ (X.noted g2)
  have XF := XG.dropFresh (fun x hx => Nat.le_trans X.heapGrown (hJ x hx))
  refine ⟨vm₁, g2, XF, fun target hrest => ?_⟩
  jvm_step X.here [hexec, hdg]
  simp only [multianewarray.sem, wp_bind', W.resolveClassAt_links (State.method?_setTop g X.here.top) g1]
  rw [W.popN, if_neg (by simpa using hds)]
  refine ⟨g, State.topJava?_setTop' (s := T.setVm vm₁) g X.here.top, ds.map Value.int, rest, by simp, hstack, ?_⟩
  rw [wp_bind']
  refine bm_ints ?_ ds _ ?_
  · intro n; rfl
  rw [wp_bind']
  have eS : ((T.setTop g).setVm vm₁).setTop { g with stack := rest } = (T.setVm vm₁).setTop { g with stack := rest } := by
    show ((T.setVm vm₁).setTop g).setTop _ = _
    rw [State.setTop_setTop]
  rw [eS]
  refine hM vm₁ g2.alike _ _ _ _ _ (by simp) (by show T.heap.size + w ≤ _; omega) (by show T.slotsUsed + u ≤ _; omega) (fun d' acts' => ?_)
  rw [(hG _).2.2.2.2]
  simp only [wp_bind', W.mark, W.pushRef, State.topJava?_setTop' _ XF.here.top, Option.some.injEq, exists_eq_left', State.setTop_setTop, State.heap_setTop]
  intro acts
  simp [jvm, XF.here.top]
  exact hrest
end BMI
