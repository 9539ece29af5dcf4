/-! ===== one step of any instruction, by a table of the method ===== -/
def bl_pi (st : List Value) (k : Int32 → List Value → Prop) : Prop := match st with
  | .int x :: r => k x r
  | _ => False
def bl_pj (st : List Value) (k : Int64 → List Value → Prop) : Prop := match st with
  | .long x :: r => k x r
  | _ => False
def bl_pr (st : List Value) (k : Nat → List Value → Prop) : Prop := match st with
  | .ref x :: r => k x r
  | _ => False
def bl_li (v : Option Value) (k : Int32 → Prop) : Prop := match v with
  | some (.int x) => k x
  | _ => False
def bl_lj (v : Option Value) (k : Int64 → Prop) : Prop := match v with
  | some (.long x) => k x
  | _ => False
def bl_la (v : Option Value) (k : Value → Prop) : Prop := match v with
  | some (.ref x) => k (.ref x)
  | some .null => k .null
  | _ => False
theorem bl_vs {r : Option Nat} {q : Nat} (h : r = some q) : va_rf r = .ref q := by rw [h]; rfl
theorem bl_v0 {r : Option Nat} (h : r = none) : va_rf r = .null := by rw [h]; rfl
def bl_c1 (v : Value) : Bool := v.category == 1
/-- the arguments of a call: the last n values, first argument first -/
def bl_args (n : Nat) (st : List Value) : List Value := (st.take n).reverse
def bl_ex (G : bl_G) (l : Launch) (d : Nat) (M : bl_MR) (pc : Nat) (lv : List (Nat × Value)) (st : List Value) (σ : bl_Mem) (b : Nat × Nat) (Q : bl_Out → bl_Mem → Prop) (K : Nat → List (Nat × Value) → List Value → bl_Mem → Nat × Nat → Prop) (i : bl_I) : Prop :=
  match i.1 with
  | .iconst _ => K i.2.1 lv (.int i.2.2.2.2.1 :: st) σ b
  | .bipush _ => K i.2.1 lv (.int i.2.2.2.2.1 :: st) σ b
  | .sipush _ => K i.2.1 lv (.int i.2.2.2.2.1 :: st) σ b
  | .lconst _ => K i.2.1 lv (.long i.2.2.2.2.2.1 :: st) σ b
  | .ldc _ => if i.2.2.1 = 0 then K i.2.1 lv (.int i.2.2.2.2.1 :: st) σ b else ∃ a, σ.2.2.2.1 a = 110 + i.2.2.2.1 ∧ K i.2.1 lv (.ref a :: st) σ b
  | .ldc_w _ => K i.2.1 lv (.int i.2.2.2.2.1 :: st) σ b
  | .ldc2_w _ => K i.2.1 lv (.long i.2.2.2.2.2.1 :: st) σ b
  | .iload_n k => bl_li (bl_get lv k) (fun x => K i.2.1 lv (.int x :: st) σ b)
  | .iload k => bl_li (bl_get lv k) (fun x => K i.2.1 lv (.int x :: st) σ b)
  | .lload_n k => bl_lj (bl_get lv k) (fun x => K i.2.1 lv (.long x :: st) σ b)
  | .lload k => bl_lj (bl_get lv k) (fun x => K i.2.1 lv (.long x :: st) σ b)
  | .aload_n k => bl_la (bl_get lv k) (fun x => K i.2.1 lv (x :: st) σ b)
  | .aload k => bl_la (bl_get lv k) (fun x => K i.2.1 lv (x :: st) σ b)
  | .istore_n k => bl_pi st (fun x r => K i.2.1 (bl_set1 lv k (.int x)) r σ b)
  | .istore k => bl_pi st (fun x r => K i.2.1 (bl_set1 lv k (.int x)) r σ b)
  | .lstore_n k => bl_pj st (fun x r => K i.2.1 (bl_set2 lv k (.long x)) r σ b)
  | .lstore k => bl_pj st (fun x r => K i.2.1 (bl_set2 lv k (.long x)) r σ b)
  | .astore_n k => match st with
    | .ref x :: r => K i.2.1 (bl_set1 lv k (.ref x)) r σ b
    | .null :: r => K i.2.1 (bl_set1 lv k .null) r σ b
    | _ => False
  | .astore k => match st with
    | .ref x :: r => K i.2.1 (bl_set1 lv k (.ref x)) r σ b
    | .null :: r => K i.2.1 (bl_set1 lv k .null) r σ b
    | _ => False
  | .iinc k _ => bl_li (bl_get lv k) (fun x => K i.2.1 (bl_set1 lv k (.int (x + i.2.2.2.2.1))) st σ b)
  | .iadd => bl_pi st (fun y r => bl_pi r (fun x r => K i.2.1 lv (.int (x + y) :: r) σ b))
  | .isub => bl_pi st (fun y r => bl_pi r (fun x r => K i.2.1 lv (.int (x - y) :: r) σ b))
  | .imul => bl_pi st (fun y r => bl_pi r (fun x r => K i.2.1 lv (.int (x * y) :: r) σ b))
  | .iand => bl_pi st (fun y r => bl_pi r (fun x r => K i.2.1 lv (.int (x &&& y) :: r) σ b))
  | .ior => bl_pi st (fun y r => bl_pi r (fun x r => K i.2.1 lv (.int (x ||| y) :: r) σ b))
  | .ishl => bl_pi st (fun y r => bl_pi r (fun x r => K i.2.1 lv (.int (x <<< (y &&& 31)) :: r) σ b))
  | .ishr => bl_pi st (fun y r => bl_pi r (fun x r => K i.2.1 lv (.int (x >>> (y &&& 31)) :: r) σ b))
  | .iushr => bl_pi st (fun y r => bl_pi r (fun x r => K i.2.1 lv (.int (x.toUInt32 >>> (y.toUInt32 &&& Int32.toUInt32 31)).toInt32 :: r) σ b))
  | .idiv => bl_pi st (fun y r => bl_pi r (fun x r => ¬ y = 0 ∧ K i.2.1 lv (.int (x / y) :: r) σ b))
  | .irem => bl_pi st (fun y r => bl_pi r (fun x r => ¬ y = 0 ∧ K i.2.1 lv (.int (x - x / y * y) :: r) σ b))
  | .ladd => bl_pj st (fun y r => bl_pj r (fun x r => K i.2.1 lv (.long (x + y) :: r) σ b))
  | .lsub => bl_pj st (fun y r => bl_pj r (fun x r => K i.2.1 lv (.long (x - y) :: r) σ b))
  | .lmul => bl_pj st (fun y r => bl_pj r (fun x r => K i.2.1 lv (.long (x * y) :: r) σ b))
  | .land => bl_pj st (fun y r => bl_pj r (fun x r => K i.2.1 lv (.long (x &&& y) :: r) σ b))
  | .lor => bl_pj st (fun y r => bl_pj r (fun x r => K i.2.1 lv (.long (x ||| y) :: r) σ b))
  | .ldiv => bl_pj st (fun y r => bl_pj r (fun x r => ¬ y = 0 ∧ K i.2.1 lv (.long (x / y) :: r) σ b))
  | .lrem => bl_pj st (fun y r => bl_pj r (fun x r => ¬ y = 0 ∧ K i.2.1 lv (.long (x - x / y * y) :: r) σ b))
  | .lshl => bl_pi st (fun y r => bl_pj r (fun x r => K i.2.1 lv (.long (x <<< (y.toInt64 &&& 63)) :: r) σ b))
  | .lcmp => bl_pj st (fun y r => bl_pj r (fun x r => K i.2.1 lv (.int (lg_cmp x y) :: r) σ b))
  | .i2l => bl_pi st (fun x r => K i.2.1 lv (.long x.toInt64 :: r) σ b)
  | .dup => match st with
    | v :: r => bl_c1 v = true ∧ K i.2.1 lv (v :: v :: r) σ b
    | _ => False
  | .dup2 => match st with
    | v :: w :: r => (bl_c1 v = true ∧ bl_c1 w = true) ∧ K i.2.1 lv (v :: w :: v :: w :: r) σ b
    | _ => False
  | .pop => match st with
    | v :: r => bl_c1 v = true ∧ K i.2.1 lv r σ b
    | _ => False
  | .goto _ => K i.2.2.1 lv st σ b
  | .ifCond .eq _ => bl_pi st (fun x r => (x = 0 → K i.2.2.1 lv r σ b) ∧ (¬ x = 0 → K i.2.1 lv r σ b))
  | .ifCond .ne _ => bl_pi st (fun x r => (¬ x = 0 → K i.2.2.1 lv r σ b) ∧ (x = 0 → K i.2.1 lv r σ b))
  | .ifCond .lt _ => bl_pi st (fun x r => (x < 0 → K i.2.2.1 lv r σ b) ∧ (¬ x < 0 → K i.2.1 lv r σ b))
  | .ifCond .ge _ => bl_pi st (fun x r => (0 ≤ x → K i.2.2.1 lv r σ b) ∧ (¬ 0 ≤ x → K i.2.1 lv r σ b))
  | .ifCond .gt _ => bl_pi st (fun x r => (0 < x → K i.2.2.1 lv r σ b) ∧ (¬ 0 < x → K i.2.1 lv r σ b))
  | .ifCond .le _ => bl_pi st (fun x r => (x ≤ 0 → K i.2.2.1 lv r σ b) ∧ (¬ x ≤ 0 → K i.2.1 lv r σ b))
  | .if_icmp .eq _ => bl_pi st (fun y r => bl_pi r (fun x r => (x = y → K i.2.2.1 lv r σ b) ∧ (¬ x = y → K i.2.1 lv r σ b)))
  | .if_icmp .ne _ => bl_pi st (fun y r => bl_pi r (fun x r => (¬ x = y → K i.2.2.1 lv r σ b) ∧ (x = y → K i.2.1 lv r σ b)))
  | .if_icmp .lt _ => bl_pi st (fun y r => bl_pi r (fun x r => (x < y → K i.2.2.1 lv r σ b) ∧ (¬ x < y → K i.2.1 lv r σ b)))
  | .if_icmp .ge _ => bl_pi st (fun y r => bl_pi r (fun x r => (y ≤ x → K i.2.2.1 lv r σ b) ∧ (¬ y ≤ x → K i.2.1 lv r σ b)))
  | .if_icmp .gt _ => bl_pi st (fun y r => bl_pi r (fun x r => (y < x → K i.2.2.1 lv r σ b) ∧ (¬ y < x → K i.2.1 lv r σ b)))
  | .if_icmp .le _ => bl_pi st (fun y r => bl_pi r (fun x r => (x ≤ y → K i.2.2.1 lv r σ b) ∧ (¬ x ≤ y → K i.2.1 lv r σ b)))
  | .ifnull _ => match st with
    | .ref _ :: r => K i.2.1 lv r σ b
    | .null :: r => K i.2.2.1 lv r σ b
    | _ => False
  | .ifnonnull _ => match st with
    | .ref _ :: r => K i.2.2.1 lv r σ b
    | .null :: r => K i.2.1 lv r σ b
    | _ => False
  | .tableswitch dflt lo hi offs => bl_pi st (fun x r => ((x.toInt < lo ∨ hi < x.toInt) → K ((pc : Int) + dflt).toNat lv r σ b) ∧ ∀ (j : Nat) (off : Int), offs[j]? = some off → x.toInt = lo + j → j ≤ (hi - lo).toNat → K ((pc : Int) + off).toNat lv r σ b)
  | .getfield _ => bl_pr st (fun a r => σ.2.2.2.1 a = i.2.2.1 + 1 ∧ if bl_isR (bl_ty i.2.2.1 i.2.2.2.1) then (∃ v, va_rf (σ.2.2.1 a i.2.2.2.1) = v ∧ K i.2.1 lv (v :: r) σ b) else if bl_isL (bl_ty i.2.2.1 i.2.2.2.1) then K i.2.1 lv (.long (σ.2.1 a i.2.2.2.1) :: r) σ b else K i.2.1 lv (.int (σ.1 a i.2.2.2.1) :: r) σ b)
  | .putfield _ => match st with
    | v :: .ref a :: r => σ.2.2.2.1 a = i.2.2.1 + 1 ∧ bl_fit (bl_ty i.2.2.1 i.2.2.2.1) v ∧ (bl_ty i.2.2.1 i.2.2.2.1 = .boolean → v = .int 0 ∨ v = .int 1) ∧ K i.2.1 lv r (bl_pv σ a i.2.2.2.1 v) b
    | _ => False
  | .getstatic _ => ∃ a, σ.2.2.2.1 a = 100 + i.2.2.1 ∧ K i.2.1 lv (.ref a :: st) σ b
  | .iaload => bl_pi st (fun x r => bl_pr r (fun a r => (σ.2.2.2.1 a = 20 ∧ vp_in x (σ.2.2.2.2 a) ∧ K i.2.1 lv (.int (σ.1 a x.toNatClampNeg) :: r) σ b) ∨ (∃ (j : Nat) (q : String × String × List Int32), bl_stat[j]? = some q ∧ σ.2.2.2.1 a = 100 + j ∧ vp_in x q.2.2.length ∧ K i.2.1 lv (.int (q.2.2.getD x.toNatClampNeg 0) :: r) σ b) ∨ (σ.2.2.2.1 a = 105 ∧ vp_in x G.2.2.2.2.1 ∧ K i.2.1 lv (.int (G.2.2.2.2.2 x.toNatClampNeg) :: r) σ b)))
  | .laload => bl_pi st (fun x r => bl_pr r (fun a r => σ.2.2.2.1 a = 21 ∧ vp_in x (σ.2.2.2.2 a) ∧ K i.2.1 lv (.long (σ.2.1 a x.toNatClampNeg) :: r) σ b))
  | .aaload => bl_pi st (fun x r => bl_pr r (fun a r => (22 ≤ σ.2.2.2.1 a ∧ σ.2.2.2.1 a ≤ 26) ∧ vp_in x (σ.2.2.2.2 a) ∧ ∃ v, va_rf (σ.2.2.1 a x.toNatClampNeg) = v ∧ K i.2.1 lv (v :: r) σ b))
  | .iastore => bl_pi st (fun v r => bl_pi r (fun x r => bl_pr r (fun a r => σ.2.2.2.1 a = 20 ∧ vp_in x (σ.2.2.2.2 a) ∧ K i.2.1 lv r (bl_pv σ a x.toNatClampNeg (.int v)) b)))
  | .lastore => bl_pj st (fun v r => bl_pi r (fun x r => bl_pr r (fun a r => σ.2.2.2.1 a = 21 ∧ vp_in x (σ.2.2.2.2 a) ∧ K i.2.1 lv r (bl_pv σ a x.toNatClampNeg (.long v)) b)))
  | .aastore => bl_pr st (fun v r => bl_pi r (fun x r => bl_pr r (fun a r => (σ.2.2.2.1 a = 22 ∨ σ.2.2.2.1 a = 23 ∨ σ.2.2.2.1 a = 24) ∧ σ.2.2.2.1 v = bl_elt (σ.2.2.2.1 a) + 1 ∧ vp_in x (σ.2.2.2.2 a) ∧ K i.2.1 lv r (bl_pv σ a x.toNatClampNeg (.ref v)) b)))
  | .arraylength => bl_pr st (fun a r => ((20 ≤ σ.2.2.2.1 a ∧ σ.2.2.2.1 a ≤ 26) ∧ K i.2.1 lv (.int (Int32.ofNat (σ.2.2.2.2 a)) :: r) σ b) ∨ (∃ (j : Nat) (q : String × String × List Int32), bl_stat[j]? = some q ∧ σ.2.2.2.1 a = 100 + j ∧ K i.2.1 lv (.int (Int32.ofNat q.2.2.length) :: r) σ b) ∨ (σ.2.2.2.1 a = 105 ∧ K i.2.1 lv (.int (Int32.ofNat G.2.2.2.2.1) :: r) σ b))
  | .new _ => if i.2.2.1 < 12 then ∃ a, σ.2.2.2.1 a = 0 ∧ 1 ≤ b.1 ∧ bl_nf i.2.2.1 ≤ b.2 ∧ K i.2.1 lv (.ref a :: st) (bl_mk σ a (i.2.2.1 + 1) 0) (b.1 - 1, b.2 - bl_nf i.2.2.1)
      else l.stackTraces = false ∧ 1 ≤ b.1 ∧ 6 ≤ b.2 ∧ (st.map fun v => v.category).sum ≤ 8 ∧ Q (.inr (bl_exn i.2.2.1)) σ
  | .newarray _ => bl_pi st (fun n r => ∃ a, σ.2.2.2.1 a = 0 ∧ ¬ n < 0 ∧ n.toNatClampNeg ≤ 1000000 ∧ 1 ≤ b.1 ∧ n.toNatClampNeg ≤ b.2 ∧ K i.2.1 lv (.ref a :: r) (bl_mk σ a i.2.2.1 n.toNatClampNeg) (b.1 - 1, b.2 - n.toNatClampNeg))
  | .anewarray _ => bl_pi st (fun n r => ∃ a, σ.2.2.2.1 a = 0 ∧ ¬ n < 0 ∧ n.toNatClampNeg ≤ 1000000 ∧ 1 ≤ b.1 ∧ n.toNatClampNeg ≤ b.2 ∧ K i.2.1 lv (.ref a :: r) (bl_mk σ a i.2.2.1 n.toNatClampNeg) (b.1 - 1, b.2 - n.toNatClampNeg))
  | .ireturn => match st with
    | [.int v] => (M.2.2.2.1 = some .boolean → v = 0 ∨ v = 1) ∧ Q (.inl (some (.int v))) σ
    | _ => False
  | .lreturn => match st with
    | [.long v] => Q (.inl (some (.long v))) σ
    | _ => False
  | .areturn => match st with
    | [.ref v] => Q (.inl (some (.ref v))) σ
    | [.null] => Q (.inl (some .null)) σ
    | _ => False
  | .return_ => match st with
    | [] => Q (.inl none) σ
    | _ => False
  | .multianewarray _ m => if m = 2 then bl_pi st (fun k r => bl_pi r (fun n r => ∃ o r0 : Nat, ((¬ n < 0 ∧ n.toNatClampNeg ≤ 1000) ∧ (¬ k < 0 ∧ k.toNatClampNeg ≤ 1000)) ∧ ((o < r0 ∨ r0 + n.toNatClampNeg ≤ o) ∧ σ.2.2.2.1 o = 0 ∧ ∀ x, r0 ≤ x → x < r0 + n.toNatClampNeg → σ.2.2.2.1 x = 0) ∧ (1 + n.toNatClampNeg ≤ b.1 ∧ n.toNatClampNeg + n.toNatClampNeg * k.toNatClampNeg ≤ b.2) ∧ K i.2.1 lv (.ref o :: r) (bl_mk2 σ o r0 n.toNatClampNeg k.toNatClampNeg) (b.1 - (1 + n.toNatClampNeg), b.2 - (n.toNatClampNeg + n.toNatClampNeg * k.toNatClampNeg))))
      else bl_pi st (fun h r => bl_pi r (fun k r => bl_pi r (fun n r => ∃ o m0 r0 : Nat, ((¬ n < 0 ∧ n.toNatClampNeg ≤ 1000) ∧ (¬ k < 0 ∧ k.toNatClampNeg ≤ 1000) ∧ (¬ h < 0 ∧ h.toNatClampNeg ≤ 1000)) ∧ ((o < m0 ∧ m0 + n.toNatClampNeg ≤ r0) ∧ σ.2.2.2.1 o = 0 ∧ (∀ x, m0 ≤ x → x < m0 + n.toNatClampNeg → σ.2.2.2.1 x = 0) ∧ ∀ x, r0 ≤ x → x < r0 + n.toNatClampNeg * k.toNatClampNeg → σ.2.2.2.1 x = 0) ∧ (1 + n.toNatClampNeg + n.toNatClampNeg * k.toNatClampNeg ≤ b.1 ∧ n.toNatClampNeg + n.toNatClampNeg * k.toNatClampNeg + n.toNatClampNeg * k.toNatClampNeg * h.toNatClampNeg ≤ b.2) ∧ K i.2.1 lv (.ref o :: r) (bl_mk3 σ o m0 r0 n.toNatClampNeg k.toNatClampNeg h.toNatClampNeg) (b.1 - (1 + n.toNatClampNeg + n.toNatClampNeg * k.toNatClampNeg), b.2 - (n.toNatClampNeg + n.toNatClampNeg * k.toNatClampNeg + n.toNatClampNeg * k.toNatClampNeg * h.toNatClampNeg)))))
  | .invokevirtual _ => if i.2.2.1 = 20 then bl_pr st (fun a r => ∃ (j : Nat) (q : List Int32), bl_byt[j]? = some q ∧ σ.2.2.2.1 a = 110 + j ∧ (r.map fun v => v.category).sum ≤ 8 ∧ K i.2.1 lv (.int (Int32.ofNat q.length) :: r) σ b)
    else if i.2.2.1 = 21 then bl_pi st (fun x r => bl_pr r (fun a r => ∃ (j : Nat) (q : List Int32), bl_byt[j]? = some q ∧ σ.2.2.2.1 a = 110 + j ∧ vp_in x q.length ∧ (r.map fun v => v.category).sum ≤ 8 ∧ K i.2.1 lv (.int (q.getD x.toNatClampNeg 0) :: r) σ b))
    else match d with
    | 0 => False
    | d + 1 => match st.drop i.2.2.2.1 with
      | .ref a :: r => st.length = (st.take i.2.2.2.1).length + 1 + r.length ∧ (st.take i.2.2.2.1).length = i.2.2.2.1 ∧ σ.2.2.2.1 a = i.2.2.1 + 1 ∧ (r.map fun v => v.category).sum ≤ 8 ∧ ∃ b1 : Nat × Nat, b1.1 ≤ b.1 ∧ b1.2 ≤ b.2 ∧ bl_MC G l d i.2.2.2.2.2.2 (.ref a :: bl_args i.2.2.2.1 st) σ b1 (bl_after G l (d + 1) M pc lv r (b.1 - b1.1, b.2 - b1.2) Q)
      | _ => False
  | .invokestatic _ => if i.2.2.1 = 0 then (match d with
      | 0 => False
      | d + 1 => (st.take i.2.2.2.1).length = i.2.2.2.1 ∧ ((st.drop i.2.2.2.1).map fun v => v.category).sum ≤ 8 ∧ ∃ b1 : Nat × Nat, b1.1 ≤ b.1 ∧ b1.2 ≤ b.2 ∧ bl_MC G l d i.2.2.2.2.2.2 (bl_args i.2.2.2.1 st) σ b1 (bl_after G l (d + 1) M pc lv (st.drop i.2.2.2.1) (b.1 - b1.1, b.2 - b1.2) Q))
    else if i.2.2.1 = 1 then bl_pi st (fun y r => bl_pi r (fun x r => (r.map fun v => v.category).sum ≤ 8 ∧ K i.2.1 lv (.int (if x < y then y else x) :: r) σ b))
    else if i.2.2.1 = 2 then bl_pi st (fun y r => bl_pi r (fun x r => (r.map fun v => v.category).sum ≤ 8 ∧ K i.2.1 lv (.int (if y < x then y else x) :: r) σ b))
    else if i.2.2.1 = 3 then bl_pj st (fun y r => bl_pj r (fun x r => (r.map fun v => v.category).sum ≤ 8 ∧ K i.2.1 lv (.long (if y < x then x else y) :: r) σ b))
    else bl_pj st (fun y r => bl_pj r (fun x r => (r.map fun v => v.category).sum ≤ 8 ∧ K i.2.1 lv (.long (if y < x then y else x) :: r) σ b))
  | .invokespecial _ => if i.2.2.1 = 0 then bl_pr st (fun _ r => (r.map fun v => v.category).sum ≤ 8 ∧ K i.2.1 lv r σ b)
    else (match d with
      | 0 => False
      | d + 1 => bl_pr st (fun a r => (r.map fun v => v.category).sum ≤ 8 ∧ ∃ (b1 : Nat × Nat) (Qi : bl_Mem → Prop), b1.1 ≤ b.1 ∧ b1.2 ≤ b.2 ∧ bl_MC G l d i.2.2.2.2.2.2 [.ref a] σ b1 (fun o σ1 => match o with | .inl v => v = none ∧ Qi σ1 | .inr _ => False) ∧ ∀ σ1, Qi σ1 → K i.2.1 lv r σ1 (b.1 - b1.1, b.2 - b1.2)))
  | _ => False
