/-! ===== own rows: the word of a row of rows, the search for a handler, new T[n][k].. of any depth ===== -/
section BKA
variable {args args' : Array Value} {first first' s U : State} {o o' : Option Outcome} {idx idx' : List Nat} {t : FieldType}
/-- what the word 'there is an array class over t[]' says -/
theorem bk_over (h : (Cond.arrayOver (.array t)).holds args first o s idx = true) : ∃ (b q : ClassId) (k : Class), s.vm.findClass (FieldType.array t).toString = some b ∧ (s.vm.classes.findIdx? fun x => match x.kind with | .array y _ => y == b | _ => false) = some q ∧ s.vm.classes[q]? = some k ∧ k.kind = .array b (.array t) ∧ s.vm.findClass ("[" ++ (FieldType.array t).toString) = some q := by
  simp only [Cond.holds, Cond.value, beq_iff_eq, Option.bind_eq_some_iff, Option.map_eq_some_iff] at h
  obtain ⟨b, h1, q, h2, k, h3, h4⟩ := h
  have h5 := (Array.findIdx?_eq_some_iff_getElem.mp h2).2.1
  rw [(Array.getElem?_eq_some_iff.mp h3).2] at h5
  refine ⟨b, q, k, h1, h2, h3, ?_⟩
  revert h4 h5
  cases k.kind with
  | array y ty =>
    intro h4 h5
    have e1 : y = b := by simpa using h5
    have e2 : ty = .array t ∧ s.vm.findClass ("[" ++ (FieldType.array t).toString) = some q := by simpa using h4
    exact ⟨by rw [e1, e2.1], e2.2⟩
  | _ => intro h4; simp at h4
theorem bk_over_moved (hal : s.vm.Alike U.vm) (h : (Cond.arrayOver (.array t)).holds args first o s idx = true) : (Cond.arrayOver (.array t)).holds args' first' o' U idx' = true := by
  obtain ⟨b, q, k, h1, h2, h3, h4, h5⟩ := bk_over h
  obtain ⟨k', h6, h7⟩ := hal.2.2 _ _ h3
  have h8 : k'.kind = .array b (.array t) := by rw [h7]; exact h4
  simp only [Cond.holds, Cond.value, beq_iff_eq, Option.bind_eq_some_iff, Option.map_eq_some_iff]
  refine ⟨b, by rw [hal.findClass]; exact h1, q, (hal.findIdx?_eqK _ (fun _ => rfl)).trans h2, k', h6, ?_⟩
  rw [h8]
  simp [hal.findClass, h5]
end BKA
section BKC
variable {e : Env} {f : JFrame} {a : Addr} {cell : Cell} {s : State}
/-- a row of the table whose class is linked: the entry is noted; the row takes what can be assigned to its class, and lets by what can't -/
theorem bk_row {Q : Handler → Pre} {E : CtlPost} {d : Bool} {acts : List Action} {S : State} {x : ExceptionTableEntry} {t : List ExceptionTableEntry} {k : ClassId} (hx : covers x f.pc = true) (h0 : x.catchType ≠ 0)
    (hl : S.vm.ClassLinks e.platform f.method.cls x.catchType k) (hcell : S.heap[a]? = some cell) (hv : cell.vm = .none) (hk : ∃ y, S.vm.classes[cell.cls]? = some y) :
    wp (findHandler.go f a (x :: t)) Q E e d acts S ↔
      if S.vm.assignable cell.cls k = true then Q (.found x.handlerPc) d acts (S.setVm (S.vm.noted f.method.cls x.catchType (.cls k)))
      else wp (findHandler.go f a t) Q E e d acts (S.setVm (S.vm.noted f.method.cls x.catchType (.cls k))) := by
  obtain ⟨g1, g2⟩ := (resolveClass_links e.toSetting hl).op (op := VmOp.resolveClass f.method.cls x.catchType) rfl
  obtain ⟨_, _, _, kt, _, _, _, _, _, hkt, _, _⟩ := hl.here
  have hal : S.vm.Alike (S.vm.noted f.method.cls x.catchType (.cls k)) := (Vm.Alike.refl S.vm).noted _ _ _
  obtain ⟨y, hy⟩ := hk
  obtain ⟨y', hy', -⟩ := hal.2.2 _ _ hy
  obtain ⟨kt', hkt', -⟩ := hal.2.2 _ _ hkt
  have hns : ∀ z, cell.vm ≠ .statics z := fun z q => by rw [hv] at q; cases q
  rw [← hal.assignable]
  simp only [covers] at hx
  cases hfit : (S.vm.noted f.method.cls x.catchType (.cls k)).assignable cell.cls k <;>
    simp [findHandler.go, hx, h0, g1, g2, hcell, hns, hy', hkt', hfit, VmOp.dirties, VmOp.acts]
/-- rows that let it by, then one that takes it: the search ends there, in tables that are only warmer -/
theorem bk_search (hk : ∃ y, s.vm.classes[cell.cls]? = some y) (hv : cell.vm = .none) {x : ExceptionTableEntry} {suf : List ExceptionTableEntry} (hx : covers x f.pc = true) (h0 : x.catchType ≠ 0) {q : ClassId}
    (hq : s.vm.ClassLinks e.platform f.method.cls x.catchType q) (hfit : s.vm.assignable cell.cls q = true) :
    ∀ pre : List ExceptionTableEntry, (∀ z ∈ pre, covers z f.pc = false ∨ (z.catchType ≠ 0 ∧ ∃ y, s.vm.ClassLinks e.platform f.method.cls z.catchType y ∧ s.vm.assignable cell.cls y = false)) →
      ∀ S : State, s.WarmedH S.vm → S.heap[a]? = some cell → ∃ v : Vm, s.WarmedH v ∧ ∀ (Q : Handler → Pre) (E : CtlPost) (d : Bool) (acts : List Action), wp (findHandler.go f a (pre ++ x :: suf)) Q E e d acts S ↔ Q (.found x.handlerPc) d acts (S.setVm v)
  | [], _, S, hW, hc => by
    obtain ⟨-, w1, -⟩ := State.classEntry (e := e) hW hq
    obtain ⟨y, hy⟩ := hk
    obtain ⟨y', hy', -⟩ := hW.alike.2.2 _ _ hy
    exact ⟨_, w1, fun Q E d acts => by rw [List.nil_append, bk_row hx h0 (hW.classLinks hq) hc hv ⟨y', hy'⟩, hW.alike.assignable, if_pos hfit]⟩
  | z :: zs, hz, S, hW, hc => by
    have hzs := fun z' h => hz z' (List.mem_cons_of_mem _ h)
    cases hcov : covers z f.pc with
    | false =>
      obtain ⟨v, w1, w2⟩ := bk_search hk hv hx h0 hq hfit zs hzs S hW hc
      exact ⟨v, w1, fun Q E d acts => by rw [List.cons_append, W.findHandler_go_skip hcov]; exact w2 Q E d acts⟩
    | true =>
      rcases hz z (List.mem_cons_self ..) with h | ⟨hz0, y, hy, hno⟩
      · rw [hcov] at h; cases h
      · obtain ⟨-, w1, -⟩ := State.classEntry (e := e) hW hy
        obtain ⟨v, w2, w3⟩ := bk_search hk hv hx h0 hq hfit zs hzs (S.setVm (S.vm.noted f.method.cls z.catchType (.cls y))) w1 hc
        obtain ⟨u, hu⟩ := hk
        obtain ⟨u', hu', -⟩ := hW.alike.2.2 _ _ hu
        exact ⟨v, w2, fun Q E d acts => by
          rw [List.cons_append, bk_row hcov hz0 (hW.classLinks hy) hc hv ⟨u', hu'⟩, hW.alike.assignable, if_neg (by rw [hno]; decide)]
          exact w3 Q E d acts⟩
/-- the machine's step into the handler that a search found, with the tables that the search left -/
theorem bk_into {tb : Tables} {S target : State} {g : JFrame} {c : Code} {below : List Frame} {pc : Nat} {v : Vm} (h : At S g.method c below)
    (hf : ∀ (Q : Handler → Pre) (E : CtlPost) (d : Bool) (acts : List Action), wp (findHandler g a) Q E e d acts ((S.setTop g).pushFrame (.throwing a)) ↔ Q (.found pc) d acts (((S.setTop g).pushFrame (.throwing a)).setVm v))
    (hr : Steps tb e below ((S.setVm v).setTop { g with pc := pc, stack := [.ref a] }) target) : Steps tb e below ((S.setTop g).pushFrame (.throwing a)) target := by
  obtain ⟨g0, hg0⟩ := Option.isSome_iff_exists.mp h.top
  obtain ⟨r, hfr⟩ := State.topJava?_eq_some.mp hg0
  obtain ⟨h1, h2⟩ := h.throwing a
  refine Steps.head h1 h2 ?_
  have h3 : (stepThrowing e ((S.setTop g).pushFrame (.throwing a)) a (.java g :: S.frames.tail)).Is ((((S.setTop g).pushFrame (.throwing a)).setVm v).setFrames (.java { g with pc := pc, stack := [.ref a] } :: S.frames.tail)) [] := by
    simp only [stepThrowing, searchFrame, vmDo]
    generalize hq : Sem.go _ e false [] _ = res
    obtain ⟨as, rfl, ha⟩ := Sem.eq_ok_of hq (a := Handler.found pc) (s' := ((S.setTop g).pushFrame (.throwing a)).setVm v) (acts' := []) (by simp [hf])
    exact ⟨rfl, ha⟩
  rw [stepThread_throwing (frames_entered h.top _), h3.1]
  have h4 : (((S.setTop g).pushFrame (.throwing a)).setVm v).setFrames (.java { g with pc := pc, stack := [.ref a] } :: S.frames.tail) = (S.setVm v).setTop { g with pc := pc, stack := [.ref a] } := by
    rw [State.setTop_of_frames _ (show (S.setVm v).frames = .java g0 :: r from hfr), State.setTop_of_frames _ hfr, hfr]
    show ((((S.setFrames _).setFrames _).setVm v).setFrames _) = _
    rw [State.setFrames_setFrames]
    show ((S.setVm v).setFrames _).setFrames _ = _
    rw [State.setFrames_setFrames]
    rfl
  rw [h4]
  exact hr
end BKC
section BKD
variable {p : Program} {l : Launch} {e : Env} {R : Room} {s : State} {m : MethodId} {args : Array Value} {below : List Frame} {meth : Method} {c : Code} {H : Heap} {locs : List Loc} {cells slots : Nat} {Q : State → Prop}
variable {pc : Nat} {ls : Array Slot} {rest : List Value}
/-- caught by the row x of this method's own table: the rows ahead of it name other classes -/
theorem bk_catch {own name : String} {E : String} {ce : Cell} {q : Addr} (hown : s.vm.findClass own = some m.cls) (pre : List ExceptionTableEntry) (x : ExceptionTableEntry) (suf : List ExceptionTableEntry) (hsplit : c.exceptionTable.toList = pre ++ x :: suf)
    (hpass : ∀ z ∈ pre, covers z pc = false ∨ (z.catchType ≠ 0 ∧ ∃ nm : String, (Cond.classLink own z.catchType nm).before args s = true ∧ va_Nc E nm s)) (hx : covers x pc = true) (h0 : x.catchType ≠ 0)
    (hlink : (Cond.classLink own x.catchType name).before args s = true) (hcast : (Cond.castable E name).before args s = true) (hcell : H[q]? = some ce) (hv : ce.vm = .none) (hcl : s.vm.findClass E = some ce.cls)
    (kk : W p l e R s m args below meth c H locs cells slots Q (F0 m x.handlerPc ls [.ref q])) : vx_W p l e R s m args below meth c H locs cells slots Q (F0 m pc ls rest) q := by
  intro T hT X
  have hpl : e.platform.magicAccessors = ({} : Platform).magicAccessors := by rw [X.admits.platform]
  obtain ⟨k1, k2, hk1, hk2, hasg⟩ := Cond.castable_spec hcast
  obtain ⟨k3, hk3, hln⟩ := Cond.classLink_spec hown hlink e.platform hpl
  cases Option.some.inj (hk1.symm.trans hcl)
  cases Option.some.inj (hk2.symm.trans hk3)
  obtain ⟨y, hy, -⟩ := Vm.findClass_spec hcl
  have hS : ((T.setTop (F0 m pc ls rest)).pushFrame (.throwing q)).vm = T.vm := throwing_vm T _ q
  have hSh : ((T.setTop (F0 m pc ls rest)).pushFrame (.throwing q)).heap = H := (throwing_heap T _ q).trans hT
  obtain ⟨v, w1, w2⟩ := bk_search (e := e) (f := F0 m pc ls rest) (a := q) (cell := ce) (s := s) (suf := suf) ⟨y, hy⟩ hv hx h0 hln hasg pre (fun z hz => by
    rcases hpass z hz with h | ⟨z0, nm, z1, k4, k5, z2, z3, z4⟩
    · exact Or.inl h
    · obtain ⟨k6, z5, z6⟩ := Cond.classLink_spec hown z1 e.platform hpl
      cases Option.some.inj (z2.symm.trans hcl)
      cases Option.some.inj (z3.symm.trans z5)
      exact Or.inr ⟨z0, _, z6, z4⟩) ((T.setTop (F0 m pc ls rest)).pushFrame (.throwing q)) (by rw [hS]; exact X.warmed) (by rw [hSh]; exact hcell)
  obtain ⟨t, a1, b1⟩ := kk (T.setVm v) hT (X.noted w1)
  exact ⟨t, bk_into (g := F0 m pc ls rest) X.here (fun Q' E' d' acts' => by
    rw [W.findHandler_eq (f := F0 m pc ls rest) (by rw [hS]; exact X.method') X.code, hsplit]
    exact w2 Q' E' d' acts') a1, b1⟩
end BKD
