/-! ===== a step of the table is a step of the machine ===== -/
/-- the step holds here, shown apart from the table -/
def bl_sem (M : bl_MR) (pc : Nat) (i : bl_I) : Prop := ∀ (G : bl_G) (l : Launch) (d : Nat) (lv : List (Nat × Value)) (st : List Value) (σ : bl_Mem) (b : Nat × Nat) (Q : bl_Out → bl_Mem → Prop), bl_ex G l d M pc lv st σ b Q (fun pc lv st σ b => bl_WP G l d M pc lv st σ b Q) i → bl_WP G l d M pc lv st σ b Q
/-- what an instruction's links must say -/
def bl_okL (M : bl_MR) (pc : Nat) (i : bl_I) : Prop :=
  match i.1 with
  | .iconst n => Int32.ofInt n = i.2.2.2.2.1
  | .bipush n => (Int8.ofInt n).toInt32 = i.2.2.2.2.1
  | .sipush n => (Int16.ofInt n).toInt32 = i.2.2.2.2.1
  | .lconst n => Int64.ofNat (n : Nat) = i.2.2.2.2.2.1
  | .ldc idx => if i.2.2.1 = 0 then Cond.constant M.1.cls idx i.2.2.2.2.1 ∈ bl_gw else ∃ q : String × Nat × String, bl_strs[i.2.2.2.1]? = some q ∧ q.1 = M.1.cls ∧ q.2.1 = idx
  | .ldc_w idx => Cond.constant M.1.cls idx i.2.2.2.2.1 ∈ bl_gw
  | .ldc2_w idx => Cond.constantLong M.1.cls idx i.2.2.2.2.2.1 ∈ bl_gw
  | .istore_n k => (k : Nat) < M.2.2.1
  | .istore k => k < M.2.2.1
  | .lstore_n k => (k : Nat) + 1 < M.2.2.1
  | .lstore k => k + 1 < M.2.2.1
  | .astore_n k => (k : Nat) < M.2.2.1
  | .astore k => k < M.2.2.1
  | .iinc k n => Int32.ofInt n = i.2.2.2.2.1 ∧ k < M.2.2.1
  | .goto off => (pc : Int) + off = (i.2.2.1 : Int)
  | .ifCond _ off => (pc : Int) + off = (i.2.2.1 : Int)
  | .if_icmp _ off => (pc : Int) + off = (i.2.2.1 : Int)
  | .ifnull off => (pc : Int) + off = (i.2.2.1 : Int)
  | .ifnonnull off => (pc : Int) + off = (i.2.2.1 : Int)
  | .tableswitch dflt lo hi offs => 0 ≤ (pc : Int) + dflt ∧ (∀ o ∈ offs.toList, 0 ≤ (pc : Int) + o) ∧ lo ≤ hi ∧ offs.size = (hi - lo).toNat + 1
  | .getfield idx => ∃ r : vw_C, vwCl[i.2.2.1]? = some r ∧ i.2.2.2.1 < r.2.2 ∧ Cond.fieldLink M.1.cls idx (r.2.1 i.2.2.2.1).1 (r.2.1 i.2.2.2.1).2.1 (r.2.1 i.2.2.2.1).2.2.1 ∈ bl_gw
  | .putfield idx => ∃ r : vw_C, vwCl[i.2.2.1]? = some r ∧ i.2.2.2.1 < r.2.2 ∧ Cond.fieldLink M.1.cls idx (r.2.1 i.2.2.2.1).1 (r.2.1 i.2.2.2.1).2.1 (r.2.1 i.2.2.2.1).2.2.1 ∈ bl_gw ∧ ((r.2.1 i.2.2.2.1).2.2.2 = false ∨ ((r.2.1 i.2.2.2.1).2.2.2 = true ∧ M.1.name = "<init>" ∧ (r.2.1 i.2.2.2.1).1 = M.1.cls))
  | .getstatic idx => ∃ q : String × String × List Int32, bl_stat[i.2.2.1]? = some q ∧ Cond.fieldLink M.1.cls idx q.1 q.2.1 "[I" ∈ bl_gw
  | .new idx => if i.2.2.1 < 12 then ∃ r : vw_C, vwCl[i.2.2.1]? = some r ∧ Cond.classLink M.1.cls idx r.1 ∈ bl_gw ∧ Cond.instantiable r.1 r.2.2 ∈ bl_gw ∧ Cond.initialized r.1 ∈ bl_gw
      else if i.2.2.1 = 14 then bl_sem M pc i else ∃ (text : String) (is ic j : Nat) (wide : Bool), decode M.2.1 (pc + 3) = .ok (.dup, 1) ∧ decode M.2.1 (pc + 4) = .ok (if wide then (.ldc_w is, 3) else (.ldc is, 2)) ∧ decode M.2.1 (pc + 4 + if wide then 3 else 2) = .ok (.invokespecial ic, 3) ∧ decode M.2.1 (pc + 7 + if wide then 3 else 2) = .ok (.athrow, 1) ∧ M.2.2.2.2 = [] ∧ Bundle.fit (if i.2.2.1 = 12 then bl_IAE else if i.2.2.1 = 13 then bl_IOE else bl_NSE) = true ∧ Cond.classLink M.1.cls idx (if i.2.2.1 = 12 then bl_IAE else if i.2.2.1 = 13 then bl_IOE else bl_NSE) ∈ bl_gw ∧ Cond.initialized (if i.2.2.1 = 12 then bl_IAE else if i.2.2.1 = 13 then bl_IOE else bl_NSE) ∈ bl_gw ∧ bl_strs[j]? = some (M.1.cls, is, text) ∧ (∀ w ∈ vx_atS M.1.cls ic (if i.2.2.1 = 12 then bl_IAE else if i.2.2.1 = 13 then bl_IOE else bl_NSE) bl_sup, w ∈ bl_gw ∨ w ∈ bl_nw) ∧ (∀ w ∈ Cond.classLink M.1.cls idx (if i.2.2.1 = 12 then bl_IAE else if i.2.2.1 = 13 then bl_IOE else bl_NSE) :: Cond.initialized (if i.2.2.1 = 12 then bl_IAE else if i.2.2.1 = 13 then bl_IOE else bl_NSE) :: vx_atS M.1.cls ic (if i.2.2.1 = 12 then bl_IAE else if i.2.2.1 = 13 then bl_IOE else bl_NSE) bl_sup, vx_ot w = true)
  | .newarray at' => ((i.2.2.1 = 20 ∧ newarray.typeOf at' = .int) ∨ (i.2.2.1 = 21 ∧ newarray.typeOf at' = .long)) ∧ Cond.arrayClass (newarray.typeOf at') ∈ bl_gw
  | .anewarray idx => (i.2.2.1 = 22 ∨ i.2.2.1 = 23 ∨ i.2.2.1 = 24) ∧ ∃ r : vw_C, vwCl[bl_elt i.2.2.1]? = some r ∧ Cond.classLink M.1.cls idx r.1 ∈ bl_gw
  | .ireturn => M.2.2.2.1 = some .int ∨ M.2.2.2.1 = some .boolean
  | .lreturn => M.2.2.2.1 = some .long
  | .areturn => ∃ n, M.2.2.2.1 = some (.object n)
  | .return_ => M.2.2.2.1 = none
  | .multianewarray _ _ => bl_sem M pc i
  | .invokevirtual idx => if i.2.2.1 = 20 ∨ i.2.2.1 = 21 then bl_sem M pc i else ∃ r : vw_C, bl_okN i.2.2.2.2.2.2 i.2.2.2.1 ∧ i.2.2.2.2.2.2.2.2.2.2 = [] ∧ vwCl[i.2.2.1]? = some r ∧ i.2.2.2.2.2.2.1.cls = r.1 ∧ Cond.methodLink M.1.cls idx i.2.2.2.2.2.2.1 ∈ bl_gw ∧ Cond.instanceMethod i.2.2.2.2.2.2.1 ∈ bl_gw ∧ Cond.selects i.2.2.2.2.2.2.1.cls i.2.2.2.2.2.2.1 i.2.2.2.2.2.2.1 ∈ bl_gw
  | .invokestatic idx => if i.2.2.1 = 0 then bl_okN i.2.2.2.2.2.2 i.2.2.2.1 ∧ Cond.methodLink M.1.cls idx i.2.2.2.2.2.2.1 ∈ bl_gw ∧ Cond.static i.2.2.2.2.2.2.1 ∈ bl_gw
    else if i.2.2.1 = 1 then Cond.methodLink M.1.cls idx Lib.Math.max.name ∈ bl_gw ∧ Cond.static Lib.Math.max.name ∈ bl_gw ∧ Cond.initialized "java/lang/Math" ∈ bl_gw ∧ Cond.code Lib.Math.max.name Lib.Math.max.code 2 (some .int) ∈ bl_gw
    else if i.2.2.1 = 2 then Cond.methodLink M.1.cls idx Lib.Math.min.name ∈ bl_gw ∧ Cond.static Lib.Math.min.name ∈ bl_gw ∧ Cond.initialized "java/lang/Math" ∈ bl_gw ∧ Cond.code Lib.Math.min.name Lib.Math.min.code 2 (some .int) ∈ bl_gw
    else if i.2.2.1 = 3 then Cond.methodLink M.1.cls idx Lib.MathLoose.max_long.x ∈ bl_gw ∧ Cond.static Lib.MathLoose.max_long.x ∈ bl_gw ∧ Cond.initialized "java/lang/Math" ∈ bl_gw ∧ Cond.code Lib.MathLoose.max_long.x Lib.MathLoose.max_long.code 4 (some .long) ∈ bl_gw
    else Cond.methodLink M.1.cls idx Lib.MathLoose.min_long.x ∈ bl_gw ∧ Cond.static Lib.MathLoose.min_long.x ∈ bl_gw ∧ Cond.initialized "java/lang/Math" ∈ bl_gw ∧ Cond.code Lib.MathLoose.min_long.x Lib.MathLoose.min_long.code 4 (some .long) ∈ bl_gw
  | .invokespecial idx => if i.2.2.1 = 0 then Cond.methodLink M.1.cls idx objectInit ∈ bl_gw ∧ Cond.instanceMethod objectInit ∈ bl_gw ∧ Cond.code objectInit ⟨#[0xb1]⟩ 1 none ∈ bl_gw
    else bl_okN i.2.2.2.2.2.2 0 ∧ i.2.2.2.2.2.2.2.2.2.2 = [] ∧ i.2.2.2.2.2.2.2.2.2.1 = none ∧ i.2.2.2.2.2.2.1.name = "<init>" ∧ (Cond.methodLink M.1.cls idx i.2.2.2.2.2.2.1 ∈ bl_gw ∨ ∃ host : String, Cond.methodLinkNest M.1.cls idx i.2.2.2.2.2.2.1 host ∈ bl_nw) ∧ Cond.instanceMethod i.2.2.2.2.2.2.1 ∈ bl_gw
  | _ => True
/-- how many bytes it takes -/
def bl_len (ins : Instr) (r1 : Nat) : Nat := match ins with
  | .bipush _ => 2
  | .sipush _ => 3
  | .ldc _ => 2
  | .ldc_w _ => 3
  | .ldc2_w _ => 3
  | .iload _ => 2
  | .lload _ => 2
  | .aload _ => 2
  | .istore _ => 2
  | .lstore _ => 2
  | .astore _ => 2
  | .iinc _ _ => 3
  | .goto _ => 3
  | .ifCond _ _ => 3
  | .if_icmp _ _ => 3
  | .ifnull _ => 3
  | .ifnonnull _ => 3
  | .tableswitch _ _ _ _ => r1
  | .getfield _ => 3
  | .putfield _ => 3
  | .getstatic _ => 3
  | .new _ => 3
  | .newarray _ => 2
  | .anewarray _ => 3
  | .multianewarray _ _ => 4
  | .invokevirtual _ => 3
  | .invokestatic _ => 3
  | .invokespecial _ => 3
  | _ => 1
def bl_okI (M : bl_MR) (pc : Nat) (i : bl_I) : Prop := decode M.2.1 pc = .ok (i.1, bl_len i.1 i.2.2.1) ∧ i.2.1 = pc + bl_len i.1 i.2.2.1 ∧ bl_okL M pc i
theorem bl_pi_inv {st : List Value} {k : Int32 → List Value → Prop} (h : bl_pi st k) : ∃ x r, st = .int x :: r ∧ k x r := by
  unfold bl_pi at h
  split at h
  · exact ⟨_, _, rfl, h⟩
  · exact h.elim
theorem bl_pj_inv {st : List Value} {k : Int64 → List Value → Prop} (h : bl_pj st k) : ∃ x r, st = .long x :: r ∧ k x r := by
  unfold bl_pj at h
  split at h
  · exact ⟨_, _, rfl, h⟩
  · exact h.elim
theorem bl_pr_inv {st : List Value} {k : Nat → List Value → Prop} (h : bl_pr st k) : ∃ x r, st = .ref x :: r ∧ k x r := by
  unfold bl_pr at h
  split at h
  · exact ⟨_, _, rfl, h⟩
  · exact h.elim
theorem bl_li_inv {v : Option Value} {k : Int32 → Prop} (h : bl_li v k) : ∃ x, v = some (.int x) ∧ k x := by
  unfold bl_li at h
  split at h
  · exact ⟨_, rfl, h⟩
  · exact h.elim
theorem bl_lj_inv {v : Option Value} {k : Int64 → Prop} (h : bl_lj v k) : ∃ x, v = some (.long x) ∧ k x := by
  unfold bl_lj at h
  split at h
  · exact ⟨_, rfl, h⟩
  · exact h.elim
theorem bl_la_inv {v : Option Value} {k : Value → Prop} (h : bl_la v k) : (∃ x, v = some (.ref x) ∧ k (.ref x)) ∨ (v = some .null ∧ k .null) := by
  unfold bl_la at h
  split at h
  · exact Or.inl ⟨_, rfl, h⟩
  · exact Or.inr ⟨rfl, h⟩
  · exact h.elim
theorem bl_c1_inv {v : Value} (h : bl_c1 v = true) : v.category = 1 := by simpa [bl_c1] using h
