/-! ===== the abstract machine: memory by names, a method's judgement WP, a method's contract MC ===== -/
/-- memory: ints, longs, references by (name, place); the kind of each name (0: none), the length of each row -/
abbrev bl_Mem : Type := (Nat → Nat → Int32) × (Nat → Nat → Int64) × (Nat → Nat → Option Nat) × (Nat → Nat) × (Nat → Nat)
/-- a method: its name, code, locals, answer's type, handlers -/
abbrev bl_MR : Type := MethodName × ByteArray × Nat × Option FieldType × List (Nat × Nat × Nat × Nat)
abbrev bl_Out : Type := Option Value ⊕ String
/-- classes and slots, array classes by kind, addresses of what is only read, where new cells begin, the script -/
abbrev bl_G : Type := va_G × (Nat → ClassId) × (Nat → Nat) × Nat × Nat × (Nat → Int32)
abbrev bl_z0 (G : bl_G) : Nat := G.2.2.2.1
def bl_A (G : bl_G) : Nat → Prop := fun q => bl_z0 G ≤ q
def bl_gw : List Cond := lw_tbl.filter goodWord
def bl_rv (φ : Nat → Nat) : Value → Value
  | .ref a => .ref (φ a)
  | v => v
def bl_live (K : Nat → Nat) : Value → Prop
  | .ref a => K a ≠ 0
  | _ => True
def bl_tyT : List (Nat → FieldType) := [tyX0, tyX1, tyX2, tyX3, tyX4, tyX5, tyX6, tyX7, tyX8, tyX9, tyX10, tyX11]
def bl_ty (ci k : Nat) : FieldType := (bl_tyT.getD ci tyX0) k
def bl_nf (ci : Nat) : Nat := ([19, 5, 3, 12, 3, 10, 3, 5, 7, 3, 14, 63] : List Nat).getD ci 0
def bl_isR : FieldType → Bool
  | .object _ => true
  | .array _ => true
  | _ => false
def bl_isL : FieldType → Bool
  | .long => true
  | _ => false
/-- what place k of the name a holds, by its type -/
def bl_gv (σ : bl_Mem) (a k : Nat) (ty : FieldType) : Value := if bl_isR ty then va_rf (σ.2.2.1 a k) else if bl_isL ty then .long (σ.2.1 a k) else .int (σ.1 a k)
def bl_fs (φ : Nat → Nat) (σ : bl_Mem) (ci a : Nat) : List Value := (List.range (bl_nf ci)).map (fun k => bl_rv φ (bl_gv σ a k (bl_ty ci k)))
def bl_cell (cA : Nat → ClassId) (φ : Nat → Nat) (σ : bl_Mem) (a : Nat) : va_E :=
  if σ.2.2.2.1 a = 20 then .inl (cA 20, σ.2.2.2.2 a, .inl (σ.1 a))
  else if σ.2.2.2.1 a = 21 then .inl (cA 21, σ.2.2.2.2 a, .inr (.inl (σ.2.1 a)))
  else if 22 ≤ σ.2.2.2.1 a then .inl (cA (σ.2.2.2.1 a), σ.2.2.2.2 a, .inr (.inr (.inr (.inr (fun i => (σ.2.2.1 a i).map φ)))))
  else .inr (σ.2.2.2.1 a - 1, bl_fs φ σ (σ.2.2.2.1 a - 1) a)
def bl_isC (k : Nat) : Prop := (1 ≤ k ∧ k ≤ 12) ∨ (20 ≤ k ∧ k ≤ 26)
def bl_ws (cA : Nat → ClassId) (φ : Nat → Nat) (σ : bl_Mem) (L : List Nat) : va_W := L.map (fun a => (φ a, bl_cell cA φ σ a))
/-- the heap holds the memory, by φ -/
def bl_Rel (G : bl_G) (φ : Nat → Nat) (σ : bl_Mem) (H : Heap) : Prop :=
  ∃ L : List Nat, (∀ a, a ∈ L ↔ bl_isC (σ.2.2.2.1 a)) ∧ va_P G.1 vwCl (bl_ws G.2.1 φ σ L) H ∧ va_D (bl_A G) (bl_ws G.2.1 φ σ L) ∧ (∀ a k b, bl_isC (σ.2.2.2.1 a) → σ.2.2.1 a k = some b → σ.2.2.2.1 b ≠ 0) ∧ ∀ a j, σ.2.2.2.1 a = 100 + j → φ a = G.2.2.1 j
def bl_tys (cA : Nat → ClassId) : List (ClassId × FieldType) := [(cA 20, .int), (cA 21, .long), (cA 22, .object RX4), (cA 23, .object RX5), (cA 24, .object RX7), (cA 25, .array .int), (cA 26, .array (.array .int))]
/-- words of the tables that are no good words, but stay true in a warmed machine -/
def bl_nwk : Cond → Bool
  | .methodLinkNest _ _ _ _ => true
  | .declares _ => true
  | .castable _ _ => true
  | _ => false
def bl_nw : List Cond := lw_tbl.filter bl_nwk
/-- static rows, only read: class, name, contents -/
def bl_stat : List (String × String × List Int32) := [("ButterLeaves$Kitchen", "UNTOLD", [6, 4, 0, 1000, 4, 8, 18, 10, 6]), ("ButterLeaves$Tape", "CLAUSE_LEAST", [2, 2, 0, 1, 0, 0, 0, 0, 0]), ("ButterLeaves$Tape", "CLAUSE_MOST", [12, 12, 3, 9999, 40, 40, 40, 99, 23]), ("ButterLeaves$Tape", "STEP_LEAST", [2, 2, 0, 1, 1, 0, 1, 1]), ("ButterLeaves$Tape", "STEP_MOST", [4, 4, 0, 9, 9, 0, 36, 36])]
/-- the String constants: class, entry, text, bytes -/
def bl_strs : List (String × Nat × String) := [("ButterLeaves$Tape", 135, "slab"), ("ButterLeaves$Tape", 137, "weight"), ("ButterLeaves$Tape", 139, "box"), ("ButterLeaves$Tape", 141, "low"), ("ButterLeaves$Tape", 143, "high"), ("ButterLeaves$Tape", 145, "rub"), ("ButterLeaves$Tape", 147, "start"), ("ButterLeaves$Tape", 149, "room"), ("ButterLeaves$Tape", 151, ""), ("ButterLeaves$Tape", 153, "roll"), ("ButterLeaves$Tape", 155, "fold"), ("ButterLeaves$Tape", 157, "book"), ("ButterLeaves$Tape", 159, "tuck"), ("ButterLeaves$Tape", 161, "cut"), ("ButterLeaves$Tape", 163, "turn"), ("ButterLeaves$Tape", 165, "rest"), ("ButterLeaves$Tape", 167, "stand"), ("ButterLeaves", 83, "the tape has not so many bytes"), ("ButterLeaves", 126, "told has 0 to 9"), ("ButterLeaves", 128, "an hour is 0 to 23"), ("ButterLeaves", 330, "no such recipe"), ("ButterLeaves", 142, "no such step"), ("ButterLeaves", 309, "no such what"), ("ButterLeaves", 344, "so many steps are not done"), ("ButterLeaves", 313, "no such cell"), ("ButterLeaves", 256, "a unit of the day is 0 to 287"), ("ButterLeaves", 311, "leaves are 1 to 1,024")]
def bl_byt : List (List Int32) := [[115, 108, 97, 98], [119, 101, 105, 103, 104, 116], [98, 111, 120], [108, 111, 119], [104, 105, 103, 104], [114, 117, 98], [115, 116, 97, 114, 116], [114, 111, 111, 109], [], [114, 111, 108, 108], [102, 111, 108, 100], [98, 111, 111, 107], [116, 117, 99, 107], [99, 117, 116], [116, 117, 114, 110], [114, 101, 115, 116], [115, 116, 97, 110, 100]]
def bl_IAE : String := "java/lang/IllegalArgumentException"
def bl_IOE : String := "java/lang/IndexOutOfBoundsException"
def bl_NSE : String := "java/util/NoSuchElementException"
/-- the part of it that no list of good words holds -/
def bl_CN (G : bl_G) (U : State) (H : Heap) : Prop :=
  (va_AO RX4 U ∧ va_AO RX5 U ∧ va_AO RX7 U ∧ va_AOA .int U ∧ va_AOA (.array .int) U) ∧ (∀ w ∈ bl_nw, va_Nw w U) ∧ (va_Nc bl_IOE bl_NSE U ∧ va_Nc bl_IAE bl_NSE U ∧ va_Nc bl_IAE bl_IOE U) ∧
  (∀ (j : Nat) (q : String × String × List Int32), bl_stat[j]? = some q → va_Z q.1 q.2.1 "[I" (.ref (G.2.2.1 j)) (bl_A G) U H ∧ va_T .int (G.2.2.1 j) q.2.2.length (fun i => .int (q.2.2.getD i 0)) (bl_A G) U H) ∧
  va_T .int (G.2.2.1 5) G.2.2.2.2.1 (fun i => .int (G.2.2.2.2.2 i)) (bl_A G) U H ∧
  (∀ (j : Nat) (q : String × Nat × String), bl_strs[j]? = some q → vk_R q.1 q.2.1 q.2.2 (G.2.2.1 (10 + j)) U) ∧
  (∀ (j : Nat) (q : List Int32), bl_byt[j]? = some q → va_O "java/lang/String" (G.2.2.1 (10 + j)) (bl_A G) U H ∧ va_OF "java/lang/String" "coder" "B" (.int 0) (G.2.2.1 (10 + j)) (bl_A G) U H ∧ va_OF "java/lang/String" "value" "[B" (.ref (G.2.2.1 (40 + j))) (G.2.2.1 (10 + j)) (bl_A G) U H ∧ va_T .byte (G.2.2.1 (40 + j)) q.length (fun i => .int (q.getD i 0)) (bl_A G) U H) ∧
  va_Z "java/lang/String" "COMPACT_STRINGS" "Z" (.int 1) (bl_A G) U H ∧ va_Zq "jdk/internal/util/Preconditions" "SIOOBE_FORMATTER" "Ljava/util/function/BiFunction;" (bl_A G) U H ∧
  vx_Zq Bundle.tN "UNASSIGNED_STACK" Bundle.steD (bl_A G) U H ∧ vx_Zq Bundle.tN "SUPPRESSED_SENTINEL" Bundle.listD (bl_A G) U H
/-- what holds of a state at a method's entry, and stays -/
def bl_CX (G : bl_G) (U : State) (H : Heap) : Prop := bl_z0 G ≤ H.size ∧ va_K G.1 vwCl (bl_tys G.2.1) U ∧ bl_CN G U H
def bl_rm (d : Nat) (b : Nat × Nat) : Room := { frames := d + 10, cells := b.1, slots := b.2, locals := 64 * d + 200 }
def bl_MF (M : bl_MR) (p : Program) (s : State) (m : MethodId) (args : Array Value) (meth : Method) (c : Code) : Prop :=
  p.tables.exec = Jvm.exec ∧ c.code = M.2.1 ∧ c.maxLocals = M.2.2.1 ∧ meth.sig.returnType = M.2.2.2.1 ∧ s.vm.findClass M.1.cls = some m.cls ∧ (∀ w ∈ bl_gw, w.before args s = true) ∧ meth.locks = false ∧ c.exceptionTable.toList = tableOf M.2.2.2.2 ∧ meth.name = M.1.name
/-- names that were there keep their addresses -/
def bl_Ext (φ0 : Nat → Nat) (K0 : Nat → Nat) (φ : Nat → Nat) (K : Nat → Nat) : Prop := ∀ a, K0 a ≠ 0 → φ a = φ0 a ∧ K a ≠ 0
def bl_QC (G : bl_G) (φ0 K0 : Nat → Nat) (Q : bl_Out → bl_Mem → Prop) : Array Value → State → Outcome → State → Prop := fun _ st o t =>
  (∃ (φ : Nat → Nat) (σ : bl_Mem) (v : Option Value), o = .returned (v.map (bl_rv φ)) ∧ Q (.inl v) σ ∧ bl_Rel G φ σ t.heap ∧ bl_Ext φ0 K0 φ σ.2.2.2.1 ∧ (∀ x, v = some x → bl_live σ.2.2.2.1 x)) ∧ va_F (bl_A G) st t
def bl_XC (G : bl_G) (φ0 K0 : Nat → Nat) (Q : bl_Out → bl_Mem → Prop) : String → State → State → Prop := fun E st t =>
  (∃ (φ : Nat → Nat) (σ : bl_Mem), Q (.inr E) σ ∧ bl_Rel G φ σ t.heap ∧ bl_Ext φ0 K0 φ σ.2.2.2.1) ∧ va_F (bl_A G) st t
def bl_St (G : bl_G) (d : Nat) (M : bl_MR) (σ : bl_Mem) (b : Nat × Nat) (p : Program) (R : Room) (s : State) (m : MethodId) (args : Array Value) (meth : Method) (c : Code) (H : Heap) (locs : List Loc) (cells slots mc ms : Nat) (φ φ0 K0 : Nat → Nat) : Prop :=
  bl_MF M p s m args meth c ∧ bl_CX G s s.heap ∧ bl_Rel G φ σ H ∧ va_S (bl_A G) s.heap H locs ∧ bl_Ext φ0 K0 φ σ.2.2.2.1 ∧ (d + 10 ≤ R.frames ∧ 64 * d + 200 ≤ R.locals ∧ mc ≤ R.cells ∧ ms ≤ R.slots) ∧ (cells + b.1 ≤ mc ∧ slots + b.2 ≤ ms)
def bl_WP (G : bl_G) (l : Launch) (d : Nat) (M : bl_MR) (pc : Nat) (lv : List (Nat × Value)) (st : List Value) (σ : bl_Mem) (b : Nat × Nat) (Q : bl_Out → bl_Mem → Prop) : Prop :=
  ∀ (p : Program) (e : Env) (R : Room) (s : State) (m : MethodId) (args : Array Value) (below : List Frame) (meth : Method) (c : Code) (H : Heap) (locs : List Loc) (cells slots mc ms : Nat) (φ φ0 K0 : Nat → Nat) (ls : Array Slot),
    bl_St G d M σ b p R s m args meth c H locs cells slots mc ms φ φ0 K0 → lv_has ls M.2.2.1 (lv.map (fun q => (q.1, bl_rv φ q.2))) → (∀ q ∈ lv, bl_live σ.2.2.2.1 q.2) → (∀ v ∈ st, bl_live σ.2.2.2.1 v) →
    W p l e R s m args below meth c H locs cells slots (vx_MQ below (bl_QC G φ0 K0 Q) (bl_XC G φ0 K0 Q) args s mc ms (bl_A G)) (F0 m pc ls (st.map (bl_rv φ)))
def bl_wsm (M : bl_MR) : List Cond := (if M.2.2.2.2 = [] then Cond.code M.1 M.2.1 M.2.2.1 M.2.2.2.1 else Cond.codeWith M.1 M.2.1 M.2.2.1 M.2.2.2.1 M.2.2.2.2) :: bl_gw
/-- a method's contract at these arguments and this memory -/
def bl_MC (G : bl_G) (l : Launch) (d : Nat) (M : bl_MR) (as : List Value) (σ : bl_Mem) (b : Nat × Nat) (Q : bl_Out → bl_Mem → Prop) : Prop :=
  ∀ φ : Nat → Nat, (∀ v ∈ as, bl_live σ.2.2.2.1 v) →
    vx_Met l M.1 (bl_wsm M) (bl_rm d b) (fun v U => v = (as.map (bl_rv φ)).toArray ∧ bl_CX G U U.heap ∧ bl_Rel G φ σ U.heap) (bl_QC G φ σ.2.2.2.1 Q) (bl_XC G φ σ.2.2.2.1 Q) b.1 b.2 (bl_A G)
theorem bl_rv_cat (φ : Nat → Nat) (v : Value) : (bl_rv φ v).category = v.category := by cases v <;> rfl
theorem bl_has_at {ls : Array Slot} {nL : Nat} {lv : List (Nat × Value)} {φ : Nat → Nat} (h : lv_has ls nL (lv.map (fun q => (q.1, bl_rv φ q.2)))) {i : Nat} {v : Value} (hk : (i, v) ∈ lv) : ls[i]? = some (.val (bl_rv φ v)) := h.2.2 (i, bl_rv φ v) (List.mem_map.mpr ⟨(i, v), hk, rfl⟩)
/-- a local's value by its number -/
def bl_get (lv : List (Nat × Value)) (i : Nat) : Option Value := lv.lookup i
theorem bl_get_mem : ∀ {lv : List (Nat × Value)} {i : Nat} {v : Value}, bl_get lv i = some v → (i, v) ∈ lv
  | [], _, _, h => by simp [bl_get] at h
  | (j, w) :: lv, i, v, h => by
    unfold bl_get at h
    rw [List.lookup_cons] at h
    by_cases e : i = j
    · subst e; simp at h; subst h; exact List.mem_cons_self
    · have e' : (i == j) = false := by simpa using e
      simp only [e'] at h
      exact List.mem_cons_of_mem _ (bl_get_mem h)
def bl_set1 (lv : List (Nat × Value)) (i : Nat) (v : Value) : List (Nat × Value) := (i, v) :: lv.filter (fun q => !(q.1 == i) && !(q.1 + 1 == i && q.2.category == 2))
def bl_set2 (lv : List (Nat × Value)) (i : Nat) (v : Value) : List (Nat × Value) := (i, v) :: lv.filter (fun q => !(q.1 == i) && (!(q.1 == i + 1) && !(q.1 + 1 == i && q.2.category == 2)))
theorem bl_set1_map (φ : Nat → Nat) (lv : List (Nat × Value)) (i : Nat) (v : Value) : (i, bl_rv φ v) :: (lv.map (fun q => (q.1, bl_rv φ q.2))).filter (fun q => !(q.1 == i) && !(q.1 + 1 == i && q.2.category == 2)) = (bl_set1 lv i v).map (fun q => (q.1, bl_rv φ q.2)) := by
  simp [bl_set1, List.filter_map, Function.comp_def, bl_rv_cat]
theorem bl_set2_map (φ : Nat → Nat) (lv : List (Nat × Value)) (i : Nat) (v : Value) : (i, bl_rv φ v) :: (lv.map (fun q => (q.1, bl_rv φ q.2))).filter (fun q => !(q.1 == i) && (!(q.1 == i + 1) && !(q.1 + 1 == i && q.2.category == 2))) = (bl_set2 lv i v).map (fun q => (q.1, bl_rv φ q.2)) := by
  simp [bl_set2, List.filter_map, Function.comp_def, bl_rv_cat]
theorem bl_set1_live {K : Nat → Nat} {lv : List (Nat × Value)} {i : Nat} {v : Value} (h : ∀ q ∈ lv, bl_live K q.2) (hv : bl_live K v) : ∀ q ∈ bl_set1 lv i v, bl_live K q.2 := by
  intro q hq
  rcases List.mem_cons.mp hq with e | e
  · subst e; exact hv
  · exact h q (List.mem_filter.mp e).1
theorem bl_set2_live {K : Nat → Nat} {lv : List (Nat × Value)} {i : Nat} {v : Value} (h : ∀ q ∈ lv, bl_live K q.2) (hv : bl_live K v) : ∀ q ∈ bl_set2 lv i v, bl_live K q.2 := by
  intro q hq
  rcases List.mem_cons.mp hq with e | e
  · subst e; exact hv
  · exact h q (List.mem_filter.mp e).1
section BLP
variable {G : bl_G} {l : Launch} {d : Nat} {M : bl_MR} {pc : Nat} {lv : List (Nat × Value)} {st : List Value} {σ : bl_Mem} {b : Nat × Nat} {Q : bl_Out → bl_Mem → Prop}
theorem bl_s_iadd {x y : Int32} (hd : decode M.2.1 pc = .ok (.iadd, 1)) (h : bl_WP G l d M (pc + 1) lv (.int (x + y) :: st) σ b Q) : bl_WP G l d M pc lv (.int y :: .int x :: st) σ b Q := by
  intro p e R s m args below meth c H locs cells slots mc ms φ φ0 K0 ls S hl hv hs
  refine lv_iadd S.1.1 S.1.2.1 hd ?_
  exact h p e R s m args below meth c H locs cells slots mc ms φ φ0 K0 ls S hl hv (fun v hv' => by
    rcases List.mem_cons.mp hv' with e | e
    · subst e; trivial
    · exact hs v (List.mem_cons_of_mem _ (List.mem_cons_of_mem _ e)))
theorem bl_s_iload_n {k : Fin 4} {x : Int32} (hd : decode M.2.1 pc = .ok (.iload_n k, 1)) (hk : bl_get lv k = some (.int x)) (h : bl_WP G l d M (pc + 1) lv (.int x :: st) σ b Q) : bl_WP G l d M pc lv st σ b Q := by
  intro p e R s m args below meth c H locs cells slots mc ms φ φ0 K0 ls S hl hv hs
  refine lv_iload_n S.1.1 S.1.2.1 hd rfl (bl_has_at hl (bl_get_mem hk)) ?_
  exact h p e R s m args below meth c H locs cells slots mc ms φ φ0 K0 ls S hl hv (fun v hv' => by
    rcases List.mem_cons.mp hv' with e | e
    · subst e; trivial
    · exact hs v e)
theorem bl_s_istore_n {k : Fin 4} {x : Int32} (hd : decode M.2.1 pc = .ok (.istore_n k, 1)) (hn : (k : Nat) < M.2.2.1) (h : bl_WP G l d M (pc + 1) (bl_set1 lv k (.int x)) st σ b Q) : bl_WP G l d M pc lv (.int x :: st) σ b Q := by
  intro p e R s m args below meth c H locs cells slots mc ms φ φ0 K0 ls S hl hv hs
  refine lv_istore_n S.1.1 S.1.2.1 hd rfl hl hn (bl_set1_map φ lv k (.int x)) (fun ls' hl' => ?_)
  exact h p e R s m args below meth c H locs cells slots mc ms φ φ0 K0 ls' S hl' (bl_set1_live hv trivial) (fun v hv' => hs v (List.mem_cons_of_mem _ hv'))
end BLP
