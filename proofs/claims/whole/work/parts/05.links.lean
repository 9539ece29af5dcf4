/-! ===== what a method's table must say (links by the tables' words) ===== -/
def bl_cw (N : bl_MR) : Cond := if N.2.2.2.2 = [] then Cond.code N.1 N.2.1 N.2.2.1 N.2.2.2.1 else Cond.codeWith N.1 N.2.1 N.2.2.1 N.2.2.2.1 N.2.2.2.2
/-- what a callee's own record must say -/
def bl_okN (N : bl_MR) (n : Nat) : Prop := (N.1.cls ≠ "java/lang/invoke/MethodHandle" ∧ N.1.cls ≠ "java/lang/invoke/VarHandle" ∧ (parseMethodDescriptor N.1.desc).map (fun d => d.parameters.length) = some n) ∧ N.2.2.1 ≤ 45 ∧ bl_cw N ∈ bl_gw ∧ Cond.initialized N.1.cls ∈ bl_gw
/-- the class of what a row of kind kd holds -/
def bl_elt (kd : Nat) : Nat := if kd = 22 then 4 else if kd = 23 then 5 else 7
def bl_sup : List String := ["java/lang/RuntimeException", "java/lang/Exception"]
/-- an instruction with what it links to: next place, two numbers, constants, the callee -/
abbrev bl_I : Type := Instr × Nat × Nat × Nat × Int32 × Int64 × bl_MR
/-- the words of 'throw new NoSuchElementException("..")': its constructor links its super by entry 13 -/
def bl_code13 : ByteArray := ⟨#[0x2a, 0x2b, 0xb7, 0x00, 0x0d, 0xb1]⟩
def bl_atN (own : String) (ic : Nat) : List Cond := (Bundle.throwableAtoms ++ Bundle.throwableSAtoms ++ (Bundle.passSAtoms bl_NSE "java/lang/RuntimeException" 13 bl_code13 ++ Bundle.chainSAtoms "java/lang/RuntimeException" ["java/lang/Exception"]) ++
  [Cond.methodLink own ic (Bundle.initS bl_NSE), Cond.instantiable bl_NSE 6, Cond.castable bl_NSE bl_NSE, Cond.selects bl_NSE Bundle.tFill0 Bundle.tFill0, Cond.selects bl_NSE Bundle.tFill Bundle.tFill,
   Cond.lays bl_NSE Bundle.tN "cause" "Ljava/lang/Throwable;", Cond.lays bl_NSE Bundle.tN "stackTrace" Bundle.steD, Cond.lays bl_NSE Bundle.tN "suppressedExceptions" Bundle.listD, Cond.lays bl_NSE Bundle.tN "detailMessage" "Ljava/lang/String;",
   Cond.fieldLink Bundle.tN 198 Bundle.tN "backtrace" "Ljava/lang/Object;", Cond.lays Bundle.tN Bundle.tN "backtrace" "Ljava/lang/Object;", Cond.lays bl_NSE Bundle.tN "backtrace" "Ljava/lang/Object;"]).filter vx_no
def bl_exn (k : Nat) : String := if k = 12 then bl_IAE else if k = 13 then bl_IOE else bl_NSE
def bl_atX (own : String) (ic k : Nat) : List Cond := if k = 14 then bl_atN own ic else vx_atS own ic (bl_exn k) bl_sup
def bl_okX (own : String) (ik ic k : Nat) : Prop := Bundle.fit (bl_exn k) = true ∧ Cond.classLink own ik (bl_exn k) ∈ bl_gw ∧ Cond.initialized (bl_exn k) ∈ bl_gw ∧ (∀ w ∈ bl_atX own ic k, w ∈ bl_gw ∨ w ∈ bl_nw) ∧ (∀ w ∈ Cond.classLink own ik (bl_exn k) :: Cond.initialized (bl_exn k) :: bl_atX own ic k, vx_ot w = true)
/-- what an instruction's links must say -/
def bl_okL (M : bl_MR) (pc : Nat) (i : bl_I) : Prop :=
  match i.1 with
  | .iconst n => Int32.ofInt n = i.2.2.2.2.1
  | .bipush n => (Int8.ofInt n).toInt32 = i.2.2.2.2.1
  | .sipush n => (Int16.ofInt n).toInt32 = i.2.2.2.2.1
  | .lconst n => Int64.ofNat (n : Nat) = i.2.2.2.2.2.1
  | .ldc idx => if i.2.2.1 = 0 then Cond.constant M.1.cls idx i.2.2.2.2.1 ∈ bl_gw else ∃ q : String × Nat × String, bl_strs[i.2.2.2.1]? = some q ∧ q.1 = M.1.cls ∧ q.2.1 = idx
  | .ldc_w idx => Cond.constant M.1.cls idx i.2.2.2.2.1 ∈ bl_gw
  | .ldc2_w idx => Cond.constantLong M.1.cls idx i.2.2.2.2.2.1 ∈ bl_gw
  | .istore_n k => (k : Nat) < M.2.2.1
  | .istore k => k < M.2.2.1
  | .lstore_n k => (k : Nat) + 1 < M.2.2.1
  | .lstore k => k + 1 < M.2.2.1
  | .astore_n k => (k : Nat) < M.2.2.1
  | .astore k => k < M.2.2.1
  | .iinc k n => Int32.ofInt n = i.2.2.2.2.1 ∧ k < M.2.2.1
  | .goto off => (pc : Int) + off = (i.2.2.1 : Int)
  | .ifCond _ off => (pc : Int) + off = (i.2.2.1 : Int)
  | .if_icmp _ off => (pc : Int) + off = (i.2.2.1 : Int)
  | .ifnull off => (pc : Int) + off = (i.2.2.1 : Int)
  | .ifnonnull off => (pc : Int) + off = (i.2.2.1 : Int)
  | .tableswitch dflt lo hi offs => 0 ≤ (pc : Int) + dflt ∧ (∀ o ∈ offs.toList, 0 ≤ (pc : Int) + o) ∧ lo ≤ hi ∧ offs.size = (hi - lo).toNat + 1
  | .getfield idx => ∃ r : vw_C, vwCl[i.2.2.1]? = some r ∧ i.2.2.2.1 < r.2.2 ∧ Cond.fieldLink M.1.cls idx (r.2.1 i.2.2.2.1).1 (r.2.1 i.2.2.2.1).2.1 (r.2.1 i.2.2.2.1).2.2.1 ∈ bl_gw
  | .putfield idx => ∃ r : vw_C, vwCl[i.2.2.1]? = some r ∧ i.2.2.2.1 < r.2.2 ∧ Cond.fieldLink M.1.cls idx (r.2.1 i.2.2.2.1).1 (r.2.1 i.2.2.2.1).2.1 (r.2.1 i.2.2.2.1).2.2.1 ∈ bl_gw ∧ ((r.2.1 i.2.2.2.1).2.2.2 = false ∨ ((r.2.1 i.2.2.2.1).2.2.2 = true ∧ M.1.name = "<init>" ∧ (r.2.1 i.2.2.2.1).1 = M.1.cls))
  | .getstatic idx => ∃ q : String × String × List Int32, bl_stat[i.2.2.1]? = some q ∧ Cond.fieldLink M.1.cls idx q.1 q.2.1 "[I" ∈ bl_gw
  | .new idx => if i.2.2.1 < 12 then ∃ r : vw_C, vwCl[i.2.2.1]? = some r ∧ Cond.classLink M.1.cls idx r.1 ∈ bl_gw ∧ Cond.instantiable r.1 r.2.2 ∈ bl_gw ∧ Cond.initialized r.1 ∈ bl_gw
      else ∃ (text : String) (is ic j : Nat) (wide : Bool), decode M.2.1 (pc + 3) = .ok (.dup, 1) ∧ decode M.2.1 (pc + 4) = .ok (if wide then (.ldc_w is, 3) else (.ldc is, 2)) ∧ decode M.2.1 (pc + 4 + if wide then 3 else 2) = .ok (.invokespecial ic, 3) ∧ decode M.2.1 (pc + 7 + if wide then 3 else 2) = .ok (.athrow, 1) ∧ M.2.2.2.2 = [] ∧ bl_okX M.1.cls idx ic i.2.2.1 ∧ bl_strs[j]? = some (M.1.cls, is, text)
  | .newarray at' => ((i.2.2.1 = 20 ∧ newarray.typeOf at' = .int) ∨ (i.2.2.1 = 21 ∧ newarray.typeOf at' = .long)) ∧ Cond.arrayClass (newarray.typeOf at') ∈ bl_gw
  | .anewarray idx => (i.2.2.1 = 22 ∨ i.2.2.1 = 23 ∨ i.2.2.1 = 24) ∧ ∃ r : vw_C, vwCl[bl_elt i.2.2.1]? = some r ∧ Cond.classLink M.1.cls idx r.1 ∈ bl_gw
  | .ireturn => M.2.2.2.1 = some .int ∨ M.2.2.2.1 = some .boolean
  | .lreturn => M.2.2.2.1 = some .long
  | .areturn => ∃ n, M.2.2.2.1 = some (.object n)
  | .return_ => M.2.2.2.1 = none
  | .multianewarray idx m => Cond.arrayClass .int ∈ bl_gw ∧ ((m = 2 ∧ Cond.classLink M.1.cls idx "[[I" ∈ bl_gw) ∨ (m = 3 ∧ Cond.classLink M.1.cls idx "[[[I" ∈ bl_gw))
  | .invokevirtual idx => if i.2.2.1 = 20 then Cond.methodLink M.1.cls idx ⟨"java/lang/String", "length", "()I"⟩ ∈ bl_gw else if i.2.2.1 = 21 then Cond.methodLink M.1.cls idx ⟨"java/lang/String", "charAt", "(I)C"⟩ ∈ bl_gw else ∃ r : vw_C, bl_okN i.2.2.2.2.2.2 i.2.2.2.1 ∧ i.2.2.2.2.2.2.2.2.2.2 = [] ∧ vwCl[i.2.2.1]? = some r ∧ i.2.2.2.2.2.2.1.cls = r.1 ∧ Cond.methodLink M.1.cls idx i.2.2.2.2.2.2.1 ∈ bl_gw ∧ Cond.instanceMethod i.2.2.2.2.2.2.1 ∈ bl_gw ∧ Cond.selects i.2.2.2.2.2.2.1.cls i.2.2.2.2.2.2.1 i.2.2.2.2.2.2.1 ∈ bl_gw
  | .invokestatic idx => if i.2.2.1 = 0 then bl_okN i.2.2.2.2.2.2 i.2.2.2.1 ∧ Cond.methodLink M.1.cls idx i.2.2.2.2.2.2.1 ∈ bl_gw ∧ Cond.static i.2.2.2.2.2.2.1 ∈ bl_gw
    else if i.2.2.1 = 1 then Cond.methodLink M.1.cls idx Lib.Math.max.name ∈ bl_gw ∧ Cond.static Lib.Math.max.name ∈ bl_gw ∧ Cond.initialized "java/lang/Math" ∈ bl_gw ∧ Cond.code Lib.Math.max.name Lib.Math.max.code 2 (some .int) ∈ bl_gw
    else if i.2.2.1 = 2 then Cond.methodLink M.1.cls idx Lib.Math.min.name ∈ bl_gw ∧ Cond.static Lib.Math.min.name ∈ bl_gw ∧ Cond.initialized "java/lang/Math" ∈ bl_gw ∧ Cond.code Lib.Math.min.name Lib.Math.min.code 2 (some .int) ∈ bl_gw
    else if i.2.2.1 = 3 then Cond.methodLink M.1.cls idx Lib.MathLoose.max_long.x ∈ bl_gw ∧ Cond.static Lib.MathLoose.max_long.x ∈ bl_gw ∧ Cond.initialized "java/lang/Math" ∈ bl_gw ∧ Cond.code Lib.MathLoose.max_long.x Lib.MathLoose.max_long.code 4 (some .long) ∈ bl_gw
    else Cond.methodLink M.1.cls idx Lib.MathLoose.min_long.x ∈ bl_gw ∧ Cond.static Lib.MathLoose.min_long.x ∈ bl_gw ∧ Cond.initialized "java/lang/Math" ∈ bl_gw ∧ Cond.code Lib.MathLoose.min_long.x Lib.MathLoose.min_long.code 4 (some .long) ∈ bl_gw
  | .invokespecial idx => if i.2.2.1 = 0 then Cond.methodLink M.1.cls idx objectInit ∈ bl_gw ∧ Cond.instanceMethod objectInit ∈ bl_gw ∧ Cond.code objectInit ⟨#[0xb1]⟩ 1 none ∈ bl_gw
    else bl_okN i.2.2.2.2.2.2 0 ∧ i.2.2.2.2.2.2.2.2.2.2 = [] ∧ i.2.2.2.2.2.2.2.2.2.1 = none ∧ i.2.2.2.2.2.2.1.name = "<init>" ∧ (Cond.methodLink M.1.cls idx i.2.2.2.2.2.2.1 ∈ bl_gw ∨ ∃ host : String, Cond.methodLinkNest M.1.cls idx i.2.2.2.2.2.2.1 host ∈ bl_nw) ∧ Cond.instanceMethod i.2.2.2.2.2.2.1 ∈ bl_gw
  | _ => True
/-- how many bytes it takes -/
def bl_len (ins : Instr) (r1 : Nat) : Nat := match ins with
  | .bipush _ => 2
  | .sipush _ => 3
  | .ldc _ => 2
  | .ldc_w _ => 3
  | .ldc2_w _ => 3
  | .iload _ => 2
  | .lload _ => 2
  | .aload _ => 2
  | .istore _ => 2
  | .lstore _ => 2
  | .astore _ => 2
  | .iinc _ _ => 3
  | .goto _ => 3
  | .ifCond _ _ => 3
  | .if_icmp _ _ => 3
  | .ifnull _ => 3
  | .ifnonnull _ => 3
  | .tableswitch _ _ _ _ => r1
  | .getfield _ => 3
  | .putfield _ => 3
  | .getstatic _ => 3
  | .new _ => 3
  | .newarray _ => 2
  | .anewarray _ => 3
  | .multianewarray _ _ => 4
  | .invokevirtual _ => 3
  | .invokestatic _ => 3
  | .invokespecial _ => 3
  | _ => 1
def bl_okI (M : bl_MR) (pc : Nat) (i : bl_I) : Prop := decode M.2.1 pc = .ok (i.1, bl_len i.1 i.2.2.1) ∧ i.2.1 = pc + bl_len i.1 i.2.2.1 ∧ bl_okL M pc i
def bl_okT (M : bl_MR) (T : List (Nat × bl_I)) : Prop := ∀ q ∈ T, bl_okI M q.1 q.2
/-- the plain instructions' own conditions, by program -/
def bl_ckP (M : bl_MR) (q : Nat × bl_I) : Bool :=
  match q.2.1 with
  | .iconst n => decide (Int32.ofInt n = q.2.2.2.2.2.1)
  | .bipush n => decide ((Int8.ofInt n).toInt32 = q.2.2.2.2.2.1)
  | .sipush n => decide ((Int16.ofInt n).toInt32 = q.2.2.2.2.2.1)
  | .lconst n => decide (Int64.ofNat (n : Nat) = q.2.2.2.2.2.2.1)
  | .istore_n k => decide ((k : Nat) < M.2.2.1)
  | .istore k => decide (k < M.2.2.1)
  | .lstore_n k => decide ((k : Nat) + 1 < M.2.2.1)
  | .lstore k => decide (k + 1 < M.2.2.1)
  | .astore_n k => decide ((k : Nat) < M.2.2.1)
  | .astore k => decide (k < M.2.2.1)
  | .iinc k n => decide (Int32.ofInt n = q.2.2.2.2.2.1) && decide (k < M.2.2.1)
  | .goto off => decide ((q.1 : Int) + off = (q.2.2.2.1 : Int))
  | .ifCond _ off => decide ((q.1 : Int) + off = (q.2.2.2.1 : Int))
  | .if_icmp _ off => decide ((q.1 : Int) + off = (q.2.2.2.1 : Int))
  | .ifnull off => decide ((q.1 : Int) + off = (q.2.2.2.1 : Int))
  | .ifnonnull off => decide ((q.1 : Int) + off = (q.2.2.2.1 : Int))
  | .tableswitch dflt lo hi offs => decide (0 ≤ (q.1 : Int) + dflt) && offs.toList.all (fun o => decide (0 ≤ (q.1 : Int) + o)) && decide (lo ≤ hi) && decide (offs.size = (hi - lo).toNat + 1)
  | .ireturn => decide (M.2.2.2.1 = some .int) || decide (M.2.2.2.1 = some .boolean)
  | .lreturn => decide (M.2.2.2.1 = some .long)
  | .return_ => decide (M.2.2.2.1 = none)
  | .areturn => match M.2.2.2.1 with
    | some (.object _) => true
    | _ => false
  | .ldc _ => false
  | .ldc_w _ => false
  | .ldc2_w _ => false
  | .getfield _ => false
  | .putfield _ => false
  | .getstatic _ => false
  | .new _ => false
  | .newarray _ => false
  | .anewarray _ => false
  | .multianewarray _ _ => false
  | .invokevirtual _ => false
  | .invokestatic _ => false
  | .invokespecial _ => false
  | _ => true
theorem bl_ckP_ok {M : bl_MR} {q : Nat × bl_I} (h : bl_ckP M q = true) : bl_okL M q.1 q.2 := by
  obtain ⟨pc, ins, np, r1, r2, cI, cJ, N⟩ := q
  cases ins
  case iconst n => exact (of_decide_eq_true (show decide (Int32.ofInt n = cI) = true from h) : Int32.ofInt n = cI)
  case bipush n => exact (of_decide_eq_true (show decide ((Int8.ofInt n).toInt32 = cI) = true from h) : (Int8.ofInt n).toInt32 = cI)
  case sipush n => exact (of_decide_eq_true (show decide ((Int16.ofInt n).toInt32 = cI) = true from h) : (Int16.ofInt n).toInt32 = cI)
  case lconst n => exact (of_decide_eq_true (show decide (Int64.ofNat (n : Nat) = cJ) = true from h) : Int64.ofNat (n : Nat) = cJ)
  case istore_n k => exact (of_decide_eq_true (show decide ((k : Nat) < M.2.2.1) = true from h) : (k : Nat) < M.2.2.1)
  case istore k => exact (of_decide_eq_true (show decide (k < M.2.2.1) = true from h) : k < M.2.2.1)
  case lstore_n k => exact (of_decide_eq_true (show decide ((k : Nat) + 1 < M.2.2.1) = true from h) : (k : Nat) + 1 < M.2.2.1)
  case lstore k => exact (of_decide_eq_true (show decide (k + 1 < M.2.2.1) = true from h) : k + 1 < M.2.2.1)
  case astore_n k => exact (of_decide_eq_true (show decide ((k : Nat) < M.2.2.1) = true from h) : (k : Nat) < M.2.2.1)
  case astore k => exact (of_decide_eq_true (show decide (k < M.2.2.1) = true from h) : k < M.2.2.1)
  case goto off => exact (of_decide_eq_true (show decide ((pc : Int) + off = (r1 : Int)) = true from h) : (pc : Int) + off = (r1 : Int))
  case ifCond c off => exact (of_decide_eq_true (show decide ((pc : Int) + off = (r1 : Int)) = true from h) : (pc : Int) + off = (r1 : Int))
  case if_icmp c off => exact (of_decide_eq_true (show decide ((pc : Int) + off = (r1 : Int)) = true from h) : (pc : Int) + off = (r1 : Int))
  case ifnull off => exact (of_decide_eq_true (show decide ((pc : Int) + off = (r1 : Int)) = true from h) : (pc : Int) + off = (r1 : Int))
  case ifnonnull off => exact (of_decide_eq_true (show decide ((pc : Int) + off = (r1 : Int)) = true from h) : (pc : Int) + off = (r1 : Int))
  case lreturn => exact (of_decide_eq_true (show decide (M.2.2.2.1 = some .long) = true from h) : M.2.2.2.1 = some .long)
  case return_ => exact (of_decide_eq_true (show decide (M.2.2.2.1 = none) = true from h) : M.2.2.2.1 = none)
  case ldc i => exact Bool.noConfusion (show false = true from h)
  case ldc_w i => exact Bool.noConfusion (show false = true from h)
  case ldc2_w i => exact Bool.noConfusion (show false = true from h)
  case getfield i => exact Bool.noConfusion (show false = true from h)
  case putfield i => exact Bool.noConfusion (show false = true from h)
  case getstatic i => exact Bool.noConfusion (show false = true from h)
  case new i => exact Bool.noConfusion (show false = true from h)
  case newarray i => exact Bool.noConfusion (show false = true from h)
  case anewarray i => exact Bool.noConfusion (show false = true from h)
  case multianewarray i k => exact Bool.noConfusion (show false = true from h)
  case invokevirtual i => exact Bool.noConfusion (show false = true from h)
  case invokestatic i => exact Bool.noConfusion (show false = true from h)
  case invokespecial i => exact Bool.noConfusion (show false = true from h)
  case iinc k n =>
    have h' := (Bool.and_eq_true _ _).mp (show (decide (Int32.ofInt n = cI) && decide (k < M.2.2.1)) = true from h)
    exact ⟨of_decide_eq_true h'.1, of_decide_eq_true h'.2⟩
  case tableswitch dflt lo hi offs =>
    simp only [bl_ckP, Bool.and_eq_true, decide_eq_true_eq, List.all_eq_true] at h
    exact ⟨h.1.1.1, h.1.1.2, h.1.2, h.2⟩
  case ireturn =>
    have h' := (Bool.or_eq_true _ _).mp (show (decide (M.2.2.2.1 = some .int) || decide (M.2.2.2.1 = some .boolean)) = true from h)
    exact h'.elim (fun q => Or.inl (of_decide_eq_true q)) (fun q => Or.inr (of_decide_eq_true q))
  case areturn =>
    dsimp only [bl_ckP] at h
    split at h
    · rename_i n hn
      exact ⟨n, hn⟩
    · exact Bool.noConfusion h
  all_goals exact True.intro
def bl_ckD (M : bl_MR) (q : Nat × bl_I) : Bool := decide (decode M.2.1 q.1 = .ok (q.2.1, bl_len q.2.1 q.2.2.2.1)) && decide (q.2.2.1 = q.1 + bl_len q.2.1 q.2.2.2.1)
theorem bl_okT_of {M : bl_MR} {TP TL : List (Nat × bl_I)} (h1 : (TP ++ TL).all (bl_ckD M) = true) (h2 : TP.all (bl_ckP M) = true) (h3 : ∀ q ∈ TL, bl_okL M q.1 q.2) : bl_okT M (TP ++ TL) := by
  intro q hq
  have hd := List.all_eq_true.mp h1 q hq
  simp only [bl_ckD, Bool.and_eq_true, decide_eq_true_eq] at hd
  refine ⟨hd.1, hd.2, ?_⟩
  rcases List.mem_append.mp hq with h | h
  · exact bl_ckP_ok (List.all_eq_true.mp h2 q h)
  · exact h3 q h
theorem bl_at {w : Cond} (p : Nat) (h : lw_tbl[p]? = some w) (g : goodWord w = true) : w ∈ bl_gw := List.mem_filter.mpr ⟨List.mem_of_getElem? h, g⟩
theorem bl_atW {w : Cond} (p : Nat) (h : lw_tbl[p]? = some w) (g : bl_nwk w = true) : w ∈ bl_nw := List.mem_filter.mpr ⟨List.mem_of_getElem? h, g⟩
