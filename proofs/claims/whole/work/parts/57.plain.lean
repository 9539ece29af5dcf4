/-! ===== the plain instructions (written by wip/tools/gen_pure.py) ===== -/
section BLQ
variable {G : bl_G} {l : Launch} {d : Nat} {M : bl_MR} {pc : Nat} {lv : List (Nat × Value)} {st : List Value} {σ : bl_Mem} {b : Nat × Nat} {Q : bl_Out → bl_Mem → Prop}
theorem bl_s_isub {x y : Int32} (hd : decode M.2.1 pc = .ok (.isub, 1)) (h : bl_WP G l d M (pc + 1) lv (.int (x - y) :: st) σ b Q) : bl_WP G l d M pc lv (.int y :: .int x :: st) σ b Q := by
  intro p e R s m args below meth c H locs cells slots mc ms φ φ0 K0 ls S hl hv hs
  refine lv_isub S.1.1 S.1.2.1 hd ?_
  exact h p e R s m args below meth c H locs cells slots mc ms φ φ0 K0 ls S hl hv (bl_hd trivial (bl_t1 (bl_t1 hs)))
theorem bl_s_imul {x y : Int32} (hd : decode M.2.1 pc = .ok (.imul, 1)) (h : bl_WP G l d M (pc + 1) lv (.int (x * y) :: st) σ b Q) : bl_WP G l d M pc lv (.int y :: .int x :: st) σ b Q := by
  intro p e R s m args below meth c H locs cells slots mc ms φ φ0 K0 ls S hl hv hs
  refine lv_imul S.1.1 S.1.2.1 hd ?_
  exact h p e R s m args below meth c H locs cells slots mc ms φ φ0 K0 ls S hl hv (bl_hd trivial (bl_t1 (bl_t1 hs)))
theorem bl_s_iand {x y : Int32} (hd : decode M.2.1 pc = .ok (.iand, 1)) (h : bl_WP G l d M (pc + 1) lv (.int (x &&& y) :: st) σ b Q) : bl_WP G l d M pc lv (.int y :: .int x :: st) σ b Q := by
  intro p e R s m args below meth c H locs cells slots mc ms φ φ0 K0 ls S hl hv hs
  refine lv_iand S.1.1 S.1.2.1 hd ?_
  exact h p e R s m args below meth c H locs cells slots mc ms φ φ0 K0 ls S hl hv (bl_hd trivial (bl_t1 (bl_t1 hs)))
theorem bl_s_ior {x y : Int32} (hd : decode M.2.1 pc = .ok (.ior, 1)) (h : bl_WP G l d M (pc + 1) lv (.int (x ||| y) :: st) σ b Q) : bl_WP G l d M pc lv (.int y :: .int x :: st) σ b Q := by
  intro p e R s m args below meth c H locs cells slots mc ms φ φ0 K0 ls S hl hv hs
  refine lv_ior S.1.1 S.1.2.1 hd ?_
  exact h p e R s m args below meth c H locs cells slots mc ms φ φ0 K0 ls S hl hv (bl_hd trivial (bl_t1 (bl_t1 hs)))
theorem bl_s_ishl {x y : Int32} (hd : decode M.2.1 pc = .ok (.ishl, 1)) (h : bl_WP G l d M (pc + 1) lv (.int (x <<< (y &&& 31)) :: st) σ b Q) : bl_WP G l d M pc lv (.int y :: .int x :: st) σ b Q := by
  intro p e R s m args below meth c H locs cells slots mc ms φ φ0 K0 ls S hl hv hs
  refine lv_ishl S.1.1 S.1.2.1 hd ?_
  exact h p e R s m args below meth c H locs cells slots mc ms φ φ0 K0 ls S hl hv (bl_hd trivial (bl_t1 (bl_t1 hs)))
theorem bl_s_ishr {x y : Int32} (hd : decode M.2.1 pc = .ok (.ishr, 1)) (h : bl_WP G l d M (pc + 1) lv (.int (x >>> (y &&& 31)) :: st) σ b Q) : bl_WP G l d M pc lv (.int y :: .int x :: st) σ b Q := by
  intro p e R s m args below meth c H locs cells slots mc ms φ φ0 K0 ls S hl hv hs
  refine lv_ishr S.1.1 S.1.2.1 hd ?_
  exact h p e R s m args below meth c H locs cells slots mc ms φ φ0 K0 ls S hl hv (bl_hd trivial (bl_t1 (bl_t1 hs)))
theorem bl_s_iushr {x y : Int32} (hd : decode M.2.1 pc = .ok (.iushr, 1)) (h : bl_WP G l d M (pc + 1) lv (.int (x.toUInt32 >>> (y.toUInt32 &&& Int32.toUInt32 31)).toInt32 :: st) σ b Q) : bl_WP G l d M pc lv (.int y :: .int x :: st) σ b Q := by
  intro p e R s m args below meth c H locs cells slots mc ms φ φ0 K0 ls S hl hv hs
  refine lv_iushr S.1.1 S.1.2.1 hd rfl ?_
  exact h p e R s m args below meth c H locs cells slots mc ms φ φ0 K0 ls S hl hv (bl_hd trivial (bl_t1 (bl_t1 hs)))
theorem bl_s_idiv {x y : Int32} (hd : decode M.2.1 pc = .ok (.idiv, 1)) (hne : ¬ y = 0) (h : bl_WP G l d M (pc + 1) lv (.int (x / y) :: st) σ b Q) : bl_WP G l d M pc lv (.int y :: .int x :: st) σ b Q := by
  intro p e R s m args below meth c H locs cells slots mc ms φ φ0 K0 ls S hl hv hs
  refine lv_idiv S.1.1 S.1.2.1 hd hne ?_
  exact h p e R s m args below meth c H locs cells slots mc ms φ φ0 K0 ls S hl hv (bl_hd trivial (bl_t1 (bl_t1 hs)))
theorem bl_s_irem {x y : Int32} (hd : decode M.2.1 pc = .ok (.irem, 1)) (hne : ¬ y = 0) (h : bl_WP G l d M (pc + 1) lv (.int (x - x / y * y) :: st) σ b Q) : bl_WP G l d M pc lv (.int y :: .int x :: st) σ b Q := by
  intro p e R s m args below meth c H locs cells slots mc ms φ φ0 K0 ls S hl hv hs
  refine lv_irem S.1.1 S.1.2.1 hd hne ?_
  exact h p e R s m args below meth c H locs cells slots mc ms φ φ0 K0 ls S hl hv (bl_hd trivial (bl_t1 (bl_t1 hs)))
theorem bl_s_ladd {x y : Int64} (hd : decode M.2.1 pc = .ok (.ladd, 1)) (h : bl_WP G l d M (pc + 1) lv (.long (x + y) :: st) σ b Q) : bl_WP G l d M pc lv (.long y :: .long x :: st) σ b Q := by
  intro p e R s m args below meth c H locs cells slots mc ms φ φ0 K0 ls S hl hv hs
  refine lv_ladd S.1.1 S.1.2.1 hd ?_
  exact h p e R s m args below meth c H locs cells slots mc ms φ φ0 K0 ls S hl hv (bl_hd trivial (bl_t1 (bl_t1 hs)))
theorem bl_s_lsub {x y : Int64} (hd : decode M.2.1 pc = .ok (.lsub, 1)) (h : bl_WP G l d M (pc + 1) lv (.long (x - y) :: st) σ b Q) : bl_WP G l d M pc lv (.long y :: .long x :: st) σ b Q := by
  intro p e R s m args below meth c H locs cells slots mc ms φ φ0 K0 ls S hl hv hs
  refine lv_lsub S.1.1 S.1.2.1 hd ?_
  exact h p e R s m args below meth c H locs cells slots mc ms φ φ0 K0 ls S hl hv (bl_hd trivial (bl_t1 (bl_t1 hs)))
theorem bl_s_lmul {x y : Int64} (hd : decode M.2.1 pc = .ok (.lmul, 1)) (h : bl_WP G l d M (pc + 1) lv (.long (x * y) :: st) σ b Q) : bl_WP G l d M pc lv (.long y :: .long x :: st) σ b Q := by
  intro p e R s m args below meth c H locs cells slots mc ms φ φ0 K0 ls S hl hv hs
  refine lv_lmul S.1.1 S.1.2.1 hd ?_
  exact h p e R s m args below meth c H locs cells slots mc ms φ φ0 K0 ls S hl hv (bl_hd trivial (bl_t1 (bl_t1 hs)))
theorem bl_s_land {x y : Int64} (hd : decode M.2.1 pc = .ok (.land, 1)) (h : bl_WP G l d M (pc + 1) lv (.long (x &&& y) :: st) σ b Q) : bl_WP G l d M pc lv (.long y :: .long x :: st) σ b Q := by
  intro p e R s m args below meth c H locs cells slots mc ms φ φ0 K0 ls S hl hv hs
  refine lv_land S.1.1 S.1.2.1 hd ?_
  exact h p e R s m args below meth c H locs cells slots mc ms φ φ0 K0 ls S hl hv (bl_hd trivial (bl_t1 (bl_t1 hs)))
theorem bl_s_lor {x y : Int64} (hd : decode M.2.1 pc = .ok (.lor, 1)) (h : bl_WP G l d M (pc + 1) lv (.long (x ||| y) :: st) σ b Q) : bl_WP G l d M pc lv (.long y :: .long x :: st) σ b Q := by
  intro p e R s m args below meth c H locs cells slots mc ms φ φ0 K0 ls S hl hv hs
  refine lv_lor S.1.1 S.1.2.1 hd ?_
  exact h p e R s m args below meth c H locs cells slots mc ms φ φ0 K0 ls S hl hv (bl_hd trivial (bl_t1 (bl_t1 hs)))
theorem bl_s_ldiv {x y : Int64} (hd : decode M.2.1 pc = .ok (.ldiv, 1)) (hne : ¬ y = 0) (h : bl_WP G l d M (pc + 1) lv (.long (x / y) :: st) σ b Q) : bl_WP G l d M pc lv (.long y :: .long x :: st) σ b Q := by
  intro p e R s m args below meth c H locs cells slots mc ms φ φ0 K0 ls S hl hv hs
  refine lv_ldiv S.1.1 S.1.2.1 hd hne ?_
  exact h p e R s m args below meth c H locs cells slots mc ms φ φ0 K0 ls S hl hv (bl_hd trivial (bl_t1 (bl_t1 hs)))
theorem bl_s_lrem {x y : Int64} (hd : decode M.2.1 pc = .ok (.lrem, 1)) (hne : ¬ y = 0) (h : bl_WP G l d M (pc + 1) lv (.long (x - x / y * y) :: st) σ b Q) : bl_WP G l d M pc lv (.long y :: .long x :: st) σ b Q := by
  intro p e R s m args below meth c H locs cells slots mc ms φ φ0 K0 ls S hl hv hs
  refine lv_lrem S.1.1 S.1.2.1 hd hne ?_
  exact h p e R s m args below meth c H locs cells slots mc ms φ φ0 K0 ls S hl hv (bl_hd trivial (bl_t1 (bl_t1 hs)))
theorem bl_s_lshl {x : Int64} {y : Int32} (hd : decode M.2.1 pc = .ok (.lshl, 1)) (h : bl_WP G l d M (pc + 1) lv (.long (x <<< (y.toInt64 &&& 63)) :: st) σ b Q) : bl_WP G l d M pc lv (.int y :: .long x :: st) σ b Q := by
  intro p e R s m args below meth c H locs cells slots mc ms φ φ0 K0 ls S hl hv hs
  refine lv_lshl S.1.1 S.1.2.1 hd rfl ?_
  exact h p e R s m args below meth c H locs cells slots mc ms φ φ0 K0 ls S hl hv (bl_hd trivial (bl_t1 (bl_t1 hs)))
theorem bl_s_lcmp {x y : Int64} (hd : decode M.2.1 pc = .ok (.lcmp, 1)) (h : bl_WP G l d M (pc + 1) lv (.int (lg_cmp x y) :: st) σ b Q) : bl_WP G l d M pc lv (.long y :: .long x :: st) σ b Q := by
  intro p e R s m args below meth c H locs cells slots mc ms φ φ0 K0 ls S hl hv hs
  refine W.lcmp S.1.1 S.1.2.1 hd ?_
  exact h p e R s m args below meth c H locs cells slots mc ms φ φ0 K0 ls S hl hv (bl_hd trivial (bl_t1 (bl_t1 hs)))
theorem bl_s_i2l {x : Int32} (hd : decode M.2.1 pc = .ok (.i2l, 1)) (h : bl_WP G l d M (pc + 1) lv (.long x.toInt64 :: st) σ b Q) : bl_WP G l d M pc lv (.int x :: st) σ b Q := by
  intro p e R s m args below meth c H locs cells slots mc ms φ φ0 K0 ls S hl hv hs
  refine lv_i2l S.1.1 S.1.2.1 hd rfl ?_
  exact h p e R s m args below meth c H locs cells slots mc ms φ φ0 K0 ls S hl hv (bl_hd trivial (bl_t1 hs))
theorem bl_s_iconst {n : Int} {v : Int32} (hd : decode M.2.1 pc = .ok (.iconst n, 1)) (hv' : Int32.ofInt n = v) (h : bl_WP G l d M (pc + 1) lv (.int v :: st) σ b Q) : bl_WP G l d M pc lv (st) σ b Q := by
  intro p e R s m args below meth c H locs cells slots mc ms φ φ0 K0 ls S hl hv hs
  refine lv_iconst S.1.1 S.1.2.1 hd hv' ?_
  exact h p e R s m args below meth c H locs cells slots mc ms φ φ0 K0 ls S hl hv (bl_hd trivial hs)
theorem bl_s_bipush {n : Int} {v : Int32} (hd : decode M.2.1 pc = .ok (.bipush n, 2)) (hv' : (Int8.ofInt n).toInt32 = v) (h : bl_WP G l d M (pc + 2) lv (.int v :: st) σ b Q) : bl_WP G l d M pc lv (st) σ b Q := by
  intro p e R s m args below meth c H locs cells slots mc ms φ φ0 K0 ls S hl hv hs
  refine lv_bipush S.1.1 S.1.2.1 hd hv' ?_
  exact h p e R s m args below meth c H locs cells slots mc ms φ φ0 K0 ls S hl hv (bl_hd trivial hs)
theorem bl_s_sipush {n : Int} {v : Int32} (hd : decode M.2.1 pc = .ok (.sipush n, 3)) (hv' : (Int16.ofInt n).toInt32 = v) (h : bl_WP G l d M (pc + 3) lv (.int v :: st) σ b Q) : bl_WP G l d M pc lv (st) σ b Q := by
  intro p e R s m args below meth c H locs cells slots mc ms φ φ0 K0 ls S hl hv hs
  refine lv_sipush S.1.1 S.1.2.1 hd hv' ?_
  exact h p e R s m args below meth c H locs cells slots mc ms φ φ0 K0 ls S hl hv (bl_hd trivial hs)
theorem bl_s_lconst {n : Fin 2} {v : Int64} (hd : decode M.2.1 pc = .ok (.lconst n, 1)) (hv' : Int64.ofNat (n : Nat) = v) (h : bl_WP G l d M (pc + 1) lv (.long v :: st) σ b Q) : bl_WP G l d M pc lv (st) σ b Q := by
  intro p e R s m args below meth c H locs cells slots mc ms φ φ0 K0 ls S hl hv hs
  refine lv_lconst S.1.1 S.1.2.1 hd hv' ?_
  exact h p e R s m args below meth c H locs cells slots mc ms φ φ0 K0 ls S hl hv (bl_hd trivial hs)
theorem bl_s_ldc {idx : Nat} {v : Int32} (hd : decode M.2.1 pc = .ok (.ldc idx, 2)) (hw : Cond.constant M.1.cls idx v ∈ bl_gw) (h : bl_WP G l d M (pc + 2) lv (.int v :: st) σ b Q) : bl_WP G l d M pc lv (st) σ b Q := by
  intro p e R s m args below meth c H locs cells slots mc ms φ φ0 K0 ls S hl hv hs
  refine lv_ldc S.1.1 S.1.2.1 S.1.2.2.2.2.1 (S.1.2.2.2.2.2.1 _ hw) hd ?_
  exact h p e R s m args below meth c H locs cells slots mc ms φ φ0 K0 ls S hl hv (bl_hd trivial hs)
theorem bl_s_ldc_w {idx : Nat} {v : Int32} (hd : decode M.2.1 pc = .ok (.ldc_w idx, 3)) (hw : Cond.constant M.1.cls idx v ∈ bl_gw) (h : bl_WP G l d M (pc + 3) lv (.int v :: st) σ b Q) : bl_WP G l d M pc lv (st) σ b Q := by
  intro p e R s m args below meth c H locs cells slots mc ms φ φ0 K0 ls S hl hv hs
  refine lv_ldcw S.1.1 S.1.2.1 S.1.2.2.2.2.1 (S.1.2.2.2.2.2.1 _ hw) hd ?_
  exact h p e R s m args below meth c H locs cells slots mc ms φ φ0 K0 ls S hl hv (bl_hd trivial hs)
theorem bl_s_ldc2_w {idx : Nat} {v : Int64} (hd : decode M.2.1 pc = .ok (.ldc2_w idx, 3)) (hw : Cond.constantLong M.1.cls idx v ∈ bl_gw) (h : bl_WP G l d M (pc + 3) lv (.long v :: st) σ b Q) : bl_WP G l d M pc lv (st) σ b Q := by
  intro p e R s m args below meth c H locs cells slots mc ms φ φ0 K0 ls S hl hv hs
  refine lv_ldc2 S.1.1 S.1.2.1 S.1.2.2.2.2.1 (S.1.2.2.2.2.2.1 _ hw) hd ?_
  exact h p e R s m args below meth c H locs cells slots mc ms φ φ0 K0 ls S hl hv (bl_hd trivial hs)
theorem bl_s_dup {v : Value} (hd : decode M.2.1 pc = .ok (.dup, 1)) (hc : v.category = 1) (h : bl_WP G l d M (pc + 1) lv (v :: v :: st) σ b Q) : bl_WP G l d M pc lv (v :: st) σ b Q := by
  intro p e R s m args below meth c H locs cells slots mc ms φ φ0 K0 ls S hl hv hs
  refine lv_dup S.1.1 S.1.2.1 hd (by rw [bl_rv_cat]; exact hc) ?_
  exact h p e R s m args below meth c H locs cells slots mc ms φ φ0 K0 ls S hl hv (bl_hd (hs _ List.mem_cons_self) hs)
theorem bl_s_dup2 {v w : Value} (hd : decode M.2.1 pc = .ok (.dup2, 1)) (hc : v.category = 1) (hc2 : w.category = 1) (h : bl_WP G l d M (pc + 1) lv (v :: w :: v :: w :: st) σ b Q) : bl_WP G l d M pc lv (v :: w :: st) σ b Q := by
  intro p e R s m args below meth c H locs cells slots mc ms φ φ0 K0 ls S hl hv hs
  refine lv_dup2_11 S.1.1 S.1.2.1 hd (by rw [bl_rv_cat]; exact hc) (by rw [bl_rv_cat]; exact hc2) ?_
  exact h p e R s m args below meth c H locs cells slots mc ms φ φ0 K0 ls S hl hv (bl_hd (hs _ List.mem_cons_self) (bl_hd (hs _ (List.mem_cons_of_mem _ List.mem_cons_self)) hs))
theorem bl_s_pop {v : Value} (hd : decode M.2.1 pc = .ok (.pop, 1)) (hc : v.category = 1) (h : bl_WP G l d M (pc + 1) lv (st) σ b Q) : bl_WP G l d M pc lv (v :: st) σ b Q := by
  intro p e R s m args below meth c H locs cells slots mc ms φ φ0 K0 ls S hl hv hs
  refine lv_pop S.1.1 S.1.2.1 hd (by rw [bl_rv_cat]; exact hc) ?_
  exact h p e R s m args below meth c H locs cells slots mc ms φ φ0 K0 ls S hl hv (bl_t1 hs)
theorem bl_s_iload {i : Nat} {x : Int32} (hd : decode M.2.1 pc = .ok (.iload i, 2)) (hk : bl_get lv i = some (.int x)) (h : bl_WP G l d M (pc + 2) lv (.int x :: st) σ b Q) : bl_WP G l d M pc lv (st) σ b Q := by
  intro p e R s m args below meth c H locs cells slots mc ms φ φ0 K0 ls S hl hv hs
  refine lv_iload S.1.1 S.1.2.1 hd (bl_has_at hl (bl_get_mem hk)) ?_
  exact h p e R s m args below meth c H locs cells slots mc ms φ φ0 K0 ls S hl hv (bl_hd trivial hs)
theorem bl_s_lload_n {k : Fin 4} {x : Int64} (hd : decode M.2.1 pc = .ok (.lload_n k, 1)) (hk : bl_get lv k = some (.long x)) (h : bl_WP G l d M (pc + 1) lv (.long x :: st) σ b Q) : bl_WP G l d M pc lv (st) σ b Q := by
  intro p e R s m args below meth c H locs cells slots mc ms φ φ0 K0 ls S hl hv hs
  refine lv_lload_n S.1.1 S.1.2.1 hd rfl (bl_has_at hl (bl_get_mem hk)) ?_
  exact h p e R s m args below meth c H locs cells slots mc ms φ φ0 K0 ls S hl hv (bl_hd trivial hs)
theorem bl_s_lload {i : Nat} {x : Int64} (hd : decode M.2.1 pc = .ok (.lload i, 2)) (hk : bl_get lv i = some (.long x)) (h : bl_WP G l d M (pc + 2) lv (.long x :: st) σ b Q) : bl_WP G l d M pc lv (st) σ b Q := by
  intro p e R s m args below meth c H locs cells slots mc ms φ φ0 K0 ls S hl hv hs
  refine lv_lload S.1.1 S.1.2.1 hd (bl_has_at hl (bl_get_mem hk)) ?_
  exact h p e R s m args below meth c H locs cells slots mc ms φ φ0 K0 ls S hl hv (bl_hd trivial hs)
theorem bl_s_aload_n {k : Fin 4} {x : Nat} (hd : decode M.2.1 pc = .ok (.aload_n k, 1)) (hk : bl_get lv k = some (.ref x)) (h : bl_WP G l d M (pc + 1) lv (.ref x :: st) σ b Q) : bl_WP G l d M pc lv (st) σ b Q := by
  intro p e R s m args below meth c H locs cells slots mc ms φ φ0 K0 ls S hl hv hs
  refine lv_aload_n S.1.1 S.1.2.1 hd rfl (bl_has_at hl (bl_get_mem hk)) ?_
  exact h p e R s m args below meth c H locs cells slots mc ms φ φ0 K0 ls S hl hv (bl_hd (hv _ (bl_get_mem hk)) hs)
theorem bl_s_aload {i : Nat} {x : Nat} (hd : decode M.2.1 pc = .ok (.aload i, 2)) (hk : bl_get lv i = some (.ref x)) (h : bl_WP G l d M (pc + 2) lv (.ref x :: st) σ b Q) : bl_WP G l d M pc lv (st) σ b Q := by
  intro p e R s m args below meth c H locs cells slots mc ms φ φ0 K0 ls S hl hv hs
  refine lv_aload S.1.1 S.1.2.1 hd (bl_has_at hl (bl_get_mem hk)) ?_
  exact h p e R s m args below meth c H locs cells slots mc ms φ φ0 K0 ls S hl hv (bl_hd (hv _ (bl_get_mem hk)) hs)
theorem bl_s_aload_nN {k : Fin 4} (hd : decode M.2.1 pc = .ok (.aload_n k, 1)) (hk : bl_get lv k = some .null) (h : bl_WP G l d M (pc + 1) lv (.null :: st) σ b Q) : bl_WP G l d M pc lv (st) σ b Q := by
  intro p e R s m args below meth c H locs cells slots mc ms φ φ0 K0 ls S hl hv hs
  refine lv_aload_nN S.1.1 S.1.2.1 hd rfl (bl_has_at hl (bl_get_mem hk)) ?_
  exact h p e R s m args below meth c H locs cells slots mc ms φ φ0 K0 ls S hl hv (bl_hd trivial hs)
theorem bl_s_aloadN {i : Nat} (hd : decode M.2.1 pc = .ok (.aload i, 2)) (hk : bl_get lv i = some .null) (h : bl_WP G l d M (pc + 2) lv (.null :: st) σ b Q) : bl_WP G l d M pc lv (st) σ b Q := by
  intro p e R s m args below meth c H locs cells slots mc ms φ φ0 K0 ls S hl hv hs
  refine lv_aloadN S.1.1 S.1.2.1 hd (bl_has_at hl (bl_get_mem hk)) ?_
  exact h p e R s m args below meth c H locs cells slots mc ms φ φ0 K0 ls S hl hv (bl_hd trivial hs)
theorem bl_s_istore {i : Nat} {x : Int32} (hd : decode M.2.1 pc = .ok (.istore i, 2)) (hn : i < M.2.2.1) (h : bl_WP G l d M (pc + 2) (bl_set1 lv i (.int x)) st σ b Q) : bl_WP G l d M pc lv (.int x :: st) σ b Q := by
  intro p e R s m args below meth c H locs cells slots mc ms φ φ0 K0 ls S hl hv hs
  refine lv_istore S.1.1 S.1.2.1 hd hl hn (bl_set1_map φ lv i (.int x)) (fun ls' hl' => ?_)
  exact h p e R s m args below meth c H locs cells slots mc ms φ φ0 K0 ls' S hl' (bl_set1_live hv trivial) (bl_t1 hs)
theorem bl_s_lstore_n {k : Fin 4} {x : Int64} (hd : decode M.2.1 pc = .ok (.lstore_n k, 1)) (hn : (k : Nat) + 1 < M.2.2.1) (h : bl_WP G l d M (pc + 1) (bl_set2 lv k (.long x)) st σ b Q) : bl_WP G l d M pc lv (.long x :: st) σ b Q := by
  intro p e R s m args below meth c H locs cells slots mc ms φ φ0 K0 ls S hl hv hs
  refine lv_lstore_n S.1.1 S.1.2.1 hd rfl hl hn (bl_set2_map φ lv k (.long x)) (fun ls' hl' => ?_)
  exact h p e R s m args below meth c H locs cells slots mc ms φ φ0 K0 ls' S hl' (bl_set2_live hv trivial) (bl_t1 hs)
theorem bl_s_lstore {i : Nat} {x : Int64} (hd : decode M.2.1 pc = .ok (.lstore i, 2)) (hn : i + 1 < M.2.2.1) (h : bl_WP G l d M (pc + 2) (bl_set2 lv i (.long x)) st σ b Q) : bl_WP G l d M pc lv (.long x :: st) σ b Q := by
  intro p e R s m args below meth c H locs cells slots mc ms φ φ0 K0 ls S hl hv hs
  refine lv_lstore S.1.1 S.1.2.1 hd hl hn (bl_set2_map φ lv i (.long x)) (fun ls' hl' => ?_)
  exact h p e R s m args below meth c H locs cells slots mc ms φ φ0 K0 ls' S hl' (bl_set2_live hv trivial) (bl_t1 hs)
theorem bl_s_astore_n {k : Fin 4} {x : Nat} (hd : decode M.2.1 pc = .ok (.astore_n k, 1)) (hn : (k : Nat) < M.2.2.1) (h : bl_WP G l d M (pc + 1) (bl_set1 lv k (.ref x)) st σ b Q) : bl_WP G l d M pc lv (.ref x :: st) σ b Q := by
  intro p e R s m args below meth c H locs cells slots mc ms φ φ0 K0 ls S hl hv hs
  refine lv_astore_n S.1.1 S.1.2.1 hd rfl hl hn (bl_set1_map φ lv k (.ref x)) (fun ls' hl' => ?_)
  exact h p e R s m args below meth c H locs cells slots mc ms φ φ0 K0 ls' S hl' (bl_set1_live hv (hs _ List.mem_cons_self)) (bl_t1 hs)
theorem bl_s_astore {i x : Nat} (hd : decode M.2.1 pc = .ok (.astore i, 2)) (hn : i < M.2.2.1) (h : bl_WP G l d M (pc + 2) (bl_set1 lv i (.ref x)) st σ b Q) : bl_WP G l d M pc lv (.ref x :: st) σ b Q := by
  intro p e R s m args below meth c H locs cells slots mc ms φ φ0 K0 ls S hl hv hs
  refine lv_astore S.1.1 S.1.2.1 hd hl hn (bl_set1_map φ lv i (.ref x)) (fun ls' hl' => ?_)
  exact h p e R s m args below meth c H locs cells slots mc ms φ φ0 K0 ls' S hl' (bl_set1_live hv (hs _ List.mem_cons_self)) (bl_t1 hs)
theorem bl_s_astore_nN {k : Fin 4} (hd : decode M.2.1 pc = .ok (.astore_n k, 1)) (hn : (k : Nat) < M.2.2.1) (h : bl_WP G l d M (pc + 1) (bl_set1 lv k (.null)) st σ b Q) : bl_WP G l d M pc lv (.null :: st) σ b Q := by
  intro p e R s m args below meth c H locs cells slots mc ms φ φ0 K0 ls S hl hv hs
  refine lv_astore_nN S.1.1 S.1.2.1 hd rfl hl hn (bl_set1_map φ lv k (.null)) (fun ls' hl' => ?_)
  exact h p e R s m args below meth c H locs cells slots mc ms φ φ0 K0 ls' S hl' (bl_set1_live hv trivial) (bl_t1 hs)
theorem bl_s_astoreN {i : Nat} (hd : decode M.2.1 pc = .ok (.astore i, 2)) (hn : i < M.2.2.1) (h : bl_WP G l d M (pc + 2) (bl_set1 lv i (.null)) st σ b Q) : bl_WP G l d M pc lv (.null :: st) σ b Q := by
  intro p e R s m args below meth c H locs cells slots mc ms φ φ0 K0 ls S hl hv hs
  refine lv_astoreN S.1.1 S.1.2.1 hd hl hn (bl_set1_map φ lv i (.null)) (fun ls' hl' => ?_)
  exact h p e R s m args below meth c H locs cells slots mc ms φ φ0 K0 ls' S hl' (bl_set1_live hv trivial) (bl_t1 hs)
theorem bl_s_iinc {i : Nat} {n : Int} {x v : Int32} (hd : decode M.2.1 pc = .ok (.iinc i n, 3)) (hk : bl_get lv i = some (.int x)) (hv' : Int32.ofInt n = v) (hn : i < M.2.2.1) (h : bl_WP G l d M (pc + 3) (bl_set1 lv i (.int (x + v))) st σ b Q) : bl_WP G l d M pc lv st σ b Q := by
  intro p e R s m args below meth c H locs cells slots mc ms φ φ0 K0 ls S hl hv hs
  obtain ⟨k, hk'⟩ := List.getElem?_of_mem (bl_get_mem hk)
  refine lv_iinc (k := k) (x := x) (v := x + v) S.1.1 S.1.2.1 hd hl (by rw [List.getElem?_map, hk']; rfl) (by rw [hv']) hn (bl_set1_map φ lv i (.int (x + v))) (fun ls' hl' => ?_)
  exact h p e R s m args below meth c H locs cells slots mc ms φ φ0 K0 ls' S hl' (bl_set1_live hv trivial) hs
theorem bl_s_if_eq {x : Int32} {off : Int} {tgt : Nat} (hd : decode M.2.1 pc = .ok (.ifCond .eq off, 3)) (ht : (pc : Int) + off = (tgt : Int)) (kt : x = 0 → bl_WP G l d M tgt lv st σ b Q) (kf : ¬ x = 0 → bl_WP G l d M (pc + 3) lv st σ b Q) : bl_WP G l d M pc lv (.int x :: st) σ b Q := by
  intro p e R s m args below meth c H locs cells slots mc ms φ φ0 K0 ls S hl hv hs
  exact lv_if_eq S.1.1 S.1.2.1 hd ht (fun q => kt q p e R s m args below meth c H locs cells slots mc ms φ φ0 K0 ls S hl hv (bl_t1 hs)) (fun q => kf q p e R s m args below meth c H locs cells slots mc ms φ φ0 K0 ls S hl hv (bl_t1 hs))
theorem bl_s_icmp_eq {x y : Int32} {off : Int} {tgt : Nat} (hd : decode M.2.1 pc = .ok (.if_icmp .eq off, 3)) (ht : (pc : Int) + off = (tgt : Int)) (kt : x = y → bl_WP G l d M tgt lv st σ b Q) (kf : ¬ x = y → bl_WP G l d M (pc + 3) lv st σ b Q) : bl_WP G l d M pc lv (.int y :: .int x :: st) σ b Q := by
  intro p e R s m args below meth c H locs cells slots mc ms φ φ0 K0 ls S hl hv hs
  exact lv_icmp_eq S.1.1 S.1.2.1 hd ht (fun q => kt q p e R s m args below meth c H locs cells slots mc ms φ φ0 K0 ls S hl hv (bl_t1 (bl_t1 hs))) (fun q => kf q p e R s m args below meth c H locs cells slots mc ms φ φ0 K0 ls S hl hv (bl_t1 (bl_t1 hs)))
theorem bl_s_if_ne {x : Int32} {off : Int} {tgt : Nat} (hd : decode M.2.1 pc = .ok (.ifCond .ne off, 3)) (ht : (pc : Int) + off = (tgt : Int)) (kt : ¬ x = 0 → bl_WP G l d M tgt lv st σ b Q) (kf : x = 0 → bl_WP G l d M (pc + 3) lv st σ b Q) : bl_WP G l d M pc lv (.int x :: st) σ b Q := by
  intro p e R s m args below meth c H locs cells slots mc ms φ φ0 K0 ls S hl hv hs
  exact lv_if_ne S.1.1 S.1.2.1 hd ht (fun q => kt q p e R s m args below meth c H locs cells slots mc ms φ φ0 K0 ls S hl hv (bl_t1 hs)) (fun q => kf q p e R s m args below meth c H locs cells slots mc ms φ φ0 K0 ls S hl hv (bl_t1 hs))
theorem bl_s_icmp_ne {x y : Int32} {off : Int} {tgt : Nat} (hd : decode M.2.1 pc = .ok (.if_icmp .ne off, 3)) (ht : (pc : Int) + off = (tgt : Int)) (kt : ¬ x = y → bl_WP G l d M tgt lv st σ b Q) (kf : x = y → bl_WP G l d M (pc + 3) lv st σ b Q) : bl_WP G l d M pc lv (.int y :: .int x :: st) σ b Q := by
  intro p e R s m args below meth c H locs cells slots mc ms φ φ0 K0 ls S hl hv hs
  exact lv_icmp_ne S.1.1 S.1.2.1 hd ht (fun q => kt q p e R s m args below meth c H locs cells slots mc ms φ φ0 K0 ls S hl hv (bl_t1 (bl_t1 hs))) (fun q => kf q p e R s m args below meth c H locs cells slots mc ms φ φ0 K0 ls S hl hv (bl_t1 (bl_t1 hs)))
theorem bl_s_if_lt {x : Int32} {off : Int} {tgt : Nat} (hd : decode M.2.1 pc = .ok (.ifCond .lt off, 3)) (ht : (pc : Int) + off = (tgt : Int)) (kt : x < 0 → bl_WP G l d M tgt lv st σ b Q) (kf : ¬ x < 0 → bl_WP G l d M (pc + 3) lv st σ b Q) : bl_WP G l d M pc lv (.int x :: st) σ b Q := by
  intro p e R s m args below meth c H locs cells slots mc ms φ φ0 K0 ls S hl hv hs
  exact lv_if_lt S.1.1 S.1.2.1 hd ht (fun q => kt q p e R s m args below meth c H locs cells slots mc ms φ φ0 K0 ls S hl hv (bl_t1 hs)) (fun q => kf q p e R s m args below meth c H locs cells slots mc ms φ φ0 K0 ls S hl hv (bl_t1 hs))
theorem bl_s_icmp_lt {x y : Int32} {off : Int} {tgt : Nat} (hd : decode M.2.1 pc = .ok (.if_icmp .lt off, 3)) (ht : (pc : Int) + off = (tgt : Int)) (kt : x < y → bl_WP G l d M tgt lv st σ b Q) (kf : ¬ x < y → bl_WP G l d M (pc + 3) lv st σ b Q) : bl_WP G l d M pc lv (.int y :: .int x :: st) σ b Q := by
  intro p e R s m args below meth c H locs cells slots mc ms φ φ0 K0 ls S hl hv hs
  exact lv_icmp_lt S.1.1 S.1.2.1 hd ht (fun q => kt q p e R s m args below meth c H locs cells slots mc ms φ φ0 K0 ls S hl hv (bl_t1 (bl_t1 hs))) (fun q => kf q p e R s m args below meth c H locs cells slots mc ms φ φ0 K0 ls S hl hv (bl_t1 (bl_t1 hs)))
theorem bl_s_if_ge {x : Int32} {off : Int} {tgt : Nat} (hd : decode M.2.1 pc = .ok (.ifCond .ge off, 3)) (ht : (pc : Int) + off = (tgt : Int)) (kt : 0 ≤ x → bl_WP G l d M tgt lv st σ b Q) (kf : ¬ 0 ≤ x → bl_WP G l d M (pc + 3) lv st σ b Q) : bl_WP G l d M pc lv (.int x :: st) σ b Q := by
  intro p e R s m args below meth c H locs cells slots mc ms φ φ0 K0 ls S hl hv hs
  exact lv_if_ge S.1.1 S.1.2.1 hd ht (fun q => kt q p e R s m args below meth c H locs cells slots mc ms φ φ0 K0 ls S hl hv (bl_t1 hs)) (fun q => kf q p e R s m args below meth c H locs cells slots mc ms φ φ0 K0 ls S hl hv (bl_t1 hs))
theorem bl_s_icmp_ge {x y : Int32} {off : Int} {tgt : Nat} (hd : decode M.2.1 pc = .ok (.if_icmp .ge off, 3)) (ht : (pc : Int) + off = (tgt : Int)) (kt : y ≤ x → bl_WP G l d M tgt lv st σ b Q) (kf : ¬ y ≤ x → bl_WP G l d M (pc + 3) lv st σ b Q) : bl_WP G l d M pc lv (.int y :: .int x :: st) σ b Q := by
  intro p e R s m args below meth c H locs cells slots mc ms φ φ0 K0 ls S hl hv hs
  exact lv_icmp_ge S.1.1 S.1.2.1 hd ht (fun q => kt q p e R s m args below meth c H locs cells slots mc ms φ φ0 K0 ls S hl hv (bl_t1 (bl_t1 hs))) (fun q => kf q p e R s m args below meth c H locs cells slots mc ms φ φ0 K0 ls S hl hv (bl_t1 (bl_t1 hs)))
theorem bl_s_if_gt {x : Int32} {off : Int} {tgt : Nat} (hd : decode M.2.1 pc = .ok (.ifCond .gt off, 3)) (ht : (pc : Int) + off = (tgt : Int)) (kt : 0 < x → bl_WP G l d M tgt lv st σ b Q) (kf : ¬ 0 < x → bl_WP G l d M (pc + 3) lv st σ b Q) : bl_WP G l d M pc lv (.int x :: st) σ b Q := by
  intro p e R s m args below meth c H locs cells slots mc ms φ φ0 K0 ls S hl hv hs
  exact lv_if_gt S.1.1 S.1.2.1 hd ht (fun q => kt q p e R s m args below meth c H locs cells slots mc ms φ φ0 K0 ls S hl hv (bl_t1 hs)) (fun q => kf q p e R s m args below meth c H locs cells slots mc ms φ φ0 K0 ls S hl hv (bl_t1 hs))
theorem bl_s_icmp_gt {x y : Int32} {off : Int} {tgt : Nat} (hd : decode M.2.1 pc = .ok (.if_icmp .gt off, 3)) (ht : (pc : Int) + off = (tgt : Int)) (kt : y < x → bl_WP G l d M tgt lv st σ b Q) (kf : ¬ y < x → bl_WP G l d M (pc + 3) lv st σ b Q) : bl_WP G l d M pc lv (.int y :: .int x :: st) σ b Q := by
  intro p e R s m args below meth c H locs cells slots mc ms φ φ0 K0 ls S hl hv hs
  exact lv_icmp_gt S.1.1 S.1.2.1 hd ht (fun q => kt q p e R s m args below meth c H locs cells slots mc ms φ φ0 K0 ls S hl hv (bl_t1 (bl_t1 hs))) (fun q => kf q p e R s m args below meth c H locs cells slots mc ms φ φ0 K0 ls S hl hv (bl_t1 (bl_t1 hs)))
theorem bl_s_if_le {x : Int32} {off : Int} {tgt : Nat} (hd : decode M.2.1 pc = .ok (.ifCond .le off, 3)) (ht : (pc : Int) + off = (tgt : Int)) (kt : x ≤ 0 → bl_WP G l d M tgt lv st σ b Q) (kf : ¬ x ≤ 0 → bl_WP G l d M (pc + 3) lv st σ b Q) : bl_WP G l d M pc lv (.int x :: st) σ b Q := by
  intro p e R s m args below meth c H locs cells slots mc ms φ φ0 K0 ls S hl hv hs
  exact lv_if_le S.1.1 S.1.2.1 hd ht (fun q => kt q p e R s m args below meth c H locs cells slots mc ms φ φ0 K0 ls S hl hv (bl_t1 hs)) (fun q => kf q p e R s m args below meth c H locs cells slots mc ms φ φ0 K0 ls S hl hv (bl_t1 hs))
theorem bl_s_icmp_le {x y : Int32} {off : Int} {tgt : Nat} (hd : decode M.2.1 pc = .ok (.if_icmp .le off, 3)) (ht : (pc : Int) + off = (tgt : Int)) (kt : x ≤ y → bl_WP G l d M tgt lv st σ b Q) (kf : ¬ x ≤ y → bl_WP G l d M (pc + 3) lv st σ b Q) : bl_WP G l d M pc lv (.int y :: .int x :: st) σ b Q := by
  intro p e R s m args below meth c H locs cells slots mc ms φ φ0 K0 ls S hl hv hs
  exact lv_icmp_le S.1.1 S.1.2.1 hd ht (fun q => kt q p e R s m args below meth c H locs cells slots mc ms φ φ0 K0 ls S hl hv (bl_t1 (bl_t1 hs))) (fun q => kf q p e R s m args below meth c H locs cells slots mc ms φ φ0 K0 ls S hl hv (bl_t1 (bl_t1 hs)))
theorem bl_s_goto {off : Int} {tgt : Nat} (hd : decode M.2.1 pc = .ok (.goto off, 3)) (ht : (pc : Int) + off = (tgt : Int)) (h : bl_WP G l d M tgt lv st σ b Q) : bl_WP G l d M pc lv st σ b Q := by
  intro p e R s m args below meth c H locs cells slots mc ms φ φ0 K0 ls S hl hv hs
  exact lv_goto S.1.1 S.1.2.1 hd ht (h p e R s m args below meth c H locs cells slots mc ms φ φ0 K0 ls S hl hv hs)
theorem bl_s_ifnonnull {x : Nat} {off : Int} {tgt : Nat} (hd : decode M.2.1 pc = .ok (.ifnonnull off, 3)) (ht : (pc : Int) + off = (tgt : Int)) (h : bl_WP G l d M tgt lv st σ b Q) : bl_WP G l d M pc lv (.ref x :: st) σ b Q := by
  intro p e R s m args below meth c H locs cells slots mc ms φ φ0 K0 ls S hl hv hs
  exact lv_ifnonnull S.1.1 S.1.2.1 hd ht (h p e R s m args below meth c H locs cells slots mc ms φ φ0 K0 ls S hl hv (bl_t1 hs))
theorem bl_s_ifnonnullN {off : Int} (hd : decode M.2.1 pc = .ok (.ifnonnull off, 3)) (h : bl_WP G l d M (pc + 3) lv st σ b Q) : bl_WP G l d M pc lv (.null :: st) σ b Q := by
  intro p e R s m args below meth c H locs cells slots mc ms φ φ0 K0 ls S hl hv hs
  exact lv_ifnonnullN S.1.1 S.1.2.1 hd (h p e R s m args below meth c H locs cells slots mc ms φ φ0 K0 ls S hl hv (bl_t1 hs))
theorem bl_s_ifnull {x : Nat} {off : Int} (hd : decode M.2.1 pc = .ok (.ifnull off, 3)) (h : bl_WP G l d M (pc + 3) lv st σ b Q) : bl_WP G l d M pc lv (.ref x :: st) σ b Q := by
  intro p e R s m args below meth c H locs cells slots mc ms φ φ0 K0 ls S hl hv hs
  exact lv_ifnull S.1.1 S.1.2.1 hd (h p e R s m args below meth c H locs cells slots mc ms φ φ0 K0 ls S hl hv (bl_t1 hs))
theorem bl_s_ifnullN {off : Int} {tgt : Nat} (hd : decode M.2.1 pc = .ok (.ifnull off, 3)) (ht : (pc : Int) + off = (tgt : Int)) (h : bl_WP G l d M tgt lv st σ b Q) : bl_WP G l d M pc lv (.null :: st) σ b Q := by
  intro p e R s m args below meth c H locs cells slots mc ms φ φ0 K0 ls S hl hv hs
  exact lv_ifnullN S.1.1 S.1.2.1 hd ht (h p e R s m args below meth c H locs cells slots mc ms φ φ0 K0 ls S hl hv (bl_t1 hs))
theorem bl_s_tableIn {dflt lo hi : Int} {offs : Array Int} {len : Nat} {x : Int32} {off : Int} {tgt : Nat} (hd : decode M.2.1 pc = .ok (.tableswitch dflt lo hi offs, len)) (h1 : ¬ x.toInt < lo) (h2 : ¬ hi < x.toInt) (ho : offs[(x.toInt - lo).toNat]? = some off) (ht : (pc : Int) + off = (tgt : Int)) (h : bl_WP G l d M tgt lv st σ b Q) : bl_WP G l d M pc lv (.int x :: st) σ b Q := by
  intro p e R s m args below meth c H locs cells slots mc ms φ φ0 K0 ls S hl hv hs
  exact lv_tableIn S.1.1 S.1.2.1 hd h1 h2 ho ht (h p e R s m args below meth c H locs cells slots mc ms φ φ0 K0 ls S hl hv (bl_t1 hs))
theorem bl_s_tableOut {dflt lo hi : Int} {offs : Array Int} {len : Nat} {x : Int32} {tgt : Nat} (hd : decode M.2.1 pc = .ok (.tableswitch dflt lo hi offs, len)) (h0 : x.toInt < lo ∨ hi < x.toInt) (ht : (pc : Int) + dflt = (tgt : Int)) (h : bl_WP G l d M tgt lv st σ b Q) : bl_WP G l d M pc lv (.int x :: st) σ b Q := by
  intro p e R s m args below meth c H locs cells slots mc ms φ φ0 K0 ls S hl hv hs
  exact lv_tableOut S.1.1 S.1.2.1 hd h0 ht (h p e R s m args below meth c H locs cells slots mc ms φ φ0 K0 ls S hl hv (bl_t1 hs))
end BLQ
