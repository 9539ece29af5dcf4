/-! ===== a run along a table, and what makes a table good ===== -/
def bl_rn (G : bl_G) (l : Launch) (d : Nat) (M : bl_MR) (T : List (Nat × bl_I)) (cs : List Nat) (Q : bl_Out → bl_Mem → Prop) : Nat → Nat → List (Nat × Value) → List Value → bl_Mem → Nat × Nat → Prop
  | 0, pc, lv, st, σ, b => bl_WP G l d M pc lv st σ b Q
  | n + 1, pc, lv, st, σ, b => if cs.contains pc then bl_WP G l d M pc lv st σ b Q else match T.lookup pc with
    | some i => bl_ex G l d M pc lv st σ b Q (bl_rn G l d M T cs Q n) i
    | none => False
def bl_okT (M : bl_MR) (T : List (Nat × bl_I)) : Prop := ∀ q ∈ T, bl_okI M q.1 q.2
theorem bl_lookup_mem : ∀ {T : List (Nat × bl_I)} {pc : Nat} {i : bl_I}, T.lookup pc = some i → (pc, i) ∈ T
  | [], _, _, h => by simp at h
  | (j, w) :: T, pc, i, h => by
    rw [List.lookup_cons] at h
    by_cases e : pc = j
    · subst e; simp at h; subst h; exact List.mem_cons_self
    · have e' : (pc == j) = false := by simpa using e
      simp only [e'] at h
      exact List.mem_cons_of_mem _ (bl_lookup_mem h)
theorem bl_rn_sound {G : bl_G} {l : Launch} {d : Nat} {M : bl_MR} {T : List (Nat × bl_I)} {cs : List Nat} {Q : bl_Out → bl_Mem → Prop} (hT : bl_okT M T) : ∀ (n pc : Nat) (lv : List (Nat × Value)) (st : List Value) (σ : bl_Mem) (b : Nat × Nat), bl_rn G l d M T cs Q n pc lv st σ b → bl_WP G l d M pc lv st σ b Q
  | 0, _, _, _, _, _, h => h
  | n + 1, pc, lv, st, σ, b, h => by
    unfold bl_rn at h
    split at h
    · exact h
    · split at h
      · rename_i i hi
        exact bl_step (i := i) (K := bl_rn G l d M T cs Q n) (hT (pc, i) (bl_lookup_mem hi)) (fun pc lv st σ b => bl_rn_sound hT n pc lv st σ b) h
      · exact h.elim
/-- from pc on, at least one step, till a place of cs (or n steps) -/
theorem bl_go {G : bl_G} {l : Launch} {d : Nat} {M : bl_MR} {T : List (Nat × bl_I)} (hT : bl_okT M T) (n : Nat) (cs : List Nat) {Q : bl_Out → bl_Mem → Prop} {pc : Nat} {lv : List (Nat × Value)} {st : List Value} {σ : bl_Mem} {b : Nat × Nat} {i : bl_I} (hi : T.lookup pc = some i) (h : bl_ex G l d M pc lv st σ b Q (bl_rn G l d M T cs Q n) i) : bl_WP G l d M pc lv st σ b Q := bl_step (i := i) (K := bl_rn G l d M T cs Q n) (hT (pc, i) (bl_lookup_mem hi)) (fun pc lv st σ b => bl_rn_sound hT n pc lv st σ b) h
/-- the plain instructions' own conditions, by program -/
def bl_ckP (M : bl_MR) (q : Nat × bl_I) : Bool :=
  match q.2.1 with
  | .iconst n => decide (Int32.ofInt n = q.2.2.2.2.2.1)
  | .bipush n => decide ((Int8.ofInt n).toInt32 = q.2.2.2.2.2.1)
  | .sipush n => decide ((Int16.ofInt n).toInt32 = q.2.2.2.2.2.1)
  | .lconst n => decide (Int64.ofNat (n : Nat) = q.2.2.2.2.2.2.1)
  | .istore_n k => decide ((k : Nat) < M.2.2.1)
  | .istore k => decide (k < M.2.2.1)
  | .lstore_n k => decide ((k : Nat) + 1 < M.2.2.1)
  | .lstore k => decide (k + 1 < M.2.2.1)
  | .astore_n k => decide ((k : Nat) < M.2.2.1)
  | .astore k => decide (k < M.2.2.1)
  | .iinc k n => decide (Int32.ofInt n = q.2.2.2.2.2.1) && decide (k < M.2.2.1)
  | .goto off => decide ((q.1 : Int) + off = (q.2.2.2.1 : Int))
  | .ifCond _ off => decide ((q.1 : Int) + off = (q.2.2.2.1 : Int))
  | .if_icmp _ off => decide ((q.1 : Int) + off = (q.2.2.2.1 : Int))
  | .ifnull off => decide ((q.1 : Int) + off = (q.2.2.2.1 : Int))
  | .ifnonnull off => decide ((q.1 : Int) + off = (q.2.2.2.1 : Int))
  | .tableswitch dflt lo hi offs => decide (0 ≤ (q.1 : Int) + dflt) && offs.toList.all (fun o => decide (0 ≤ (q.1 : Int) + o)) && decide (lo ≤ hi) && decide (offs.size = (hi - lo).toNat + 1)
  | .ireturn => decide (M.2.2.2.1 = some .int) || decide (M.2.2.2.1 = some .boolean)
  | .lreturn => decide (M.2.2.2.1 = some .long)
  | .return_ => decide (M.2.2.2.1 = none)
  | .areturn => match M.2.2.2.1 with
    | some (.object _) => true
    | _ => false
  | .ldc _ => false
  | .ldc_w _ => false
  | .ldc2_w _ => false
  | .getfield _ => false
  | .putfield _ => false
  | .getstatic _ => false
  | .new _ => false
  | .newarray _ => false
  | .anewarray _ => false
  | .multianewarray _ _ => false
  | .invokevirtual _ => false
  | .invokestatic _ => false
  | .invokespecial _ => false
  | _ => true
theorem bl_ckP_ok {M : bl_MR} {q : Nat × bl_I} (h : bl_ckP M q = true) : bl_okL M q.1 q.2 := by
  obtain ⟨pc, ins, np, r1, r2, cI, cJ, N⟩ := q
  cases ins
  case iconst n => exact (of_decide_eq_true (show decide (Int32.ofInt n = cI) = true from h) : Int32.ofInt n = cI)
  case bipush n => exact (of_decide_eq_true (show decide ((Int8.ofInt n).toInt32 = cI) = true from h) : (Int8.ofInt n).toInt32 = cI)
  case sipush n => exact (of_decide_eq_true (show decide ((Int16.ofInt n).toInt32 = cI) = true from h) : (Int16.ofInt n).toInt32 = cI)
  case lconst n => exact (of_decide_eq_true (show decide (Int64.ofNat (n : Nat) = cJ) = true from h) : Int64.ofNat (n : Nat) = cJ)
  case istore_n k => exact (of_decide_eq_true (show decide ((k : Nat) < M.2.2.1) = true from h) : (k : Nat) < M.2.2.1)
  case istore k => exact (of_decide_eq_true (show decide (k < M.2.2.1) = true from h) : k < M.2.2.1)
  case lstore_n k => exact (of_decide_eq_true (show decide ((k : Nat) + 1 < M.2.2.1) = true from h) : (k : Nat) + 1 < M.2.2.1)
  case lstore k => exact (of_decide_eq_true (show decide (k + 1 < M.2.2.1) = true from h) : k + 1 < M.2.2.1)
  case astore_n k => exact (of_decide_eq_true (show decide ((k : Nat) < M.2.2.1) = true from h) : (k : Nat) < M.2.2.1)
  case astore k => exact (of_decide_eq_true (show decide (k < M.2.2.1) = true from h) : k < M.2.2.1)
  case goto off => exact (of_decide_eq_true (show decide ((pc : Int) + off = (r1 : Int)) = true from h) : (pc : Int) + off = (r1 : Int))
  case ifCond c off => exact (of_decide_eq_true (show decide ((pc : Int) + off = (r1 : Int)) = true from h) : (pc : Int) + off = (r1 : Int))
  case if_icmp c off => exact (of_decide_eq_true (show decide ((pc : Int) + off = (r1 : Int)) = true from h) : (pc : Int) + off = (r1 : Int))
  case ifnull off => exact (of_decide_eq_true (show decide ((pc : Int) + off = (r1 : Int)) = true from h) : (pc : Int) + off = (r1 : Int))
  case ifnonnull off => exact (of_decide_eq_true (show decide ((pc : Int) + off = (r1 : Int)) = true from h) : (pc : Int) + off = (r1 : Int))
  case lreturn => exact (of_decide_eq_true (show decide (M.2.2.2.1 = some .long) = true from h) : M.2.2.2.1 = some .long)
  case return_ => exact (of_decide_eq_true (show decide (M.2.2.2.1 = none) = true from h) : M.2.2.2.1 = none)
  case ldc i => exact Bool.noConfusion (show false = true from h)
  case ldc_w i => exact Bool.noConfusion (show false = true from h)
  case ldc2_w i => exact Bool.noConfusion (show false = true from h)
  case getfield i => exact Bool.noConfusion (show false = true from h)
  case putfield i => exact Bool.noConfusion (show false = true from h)
  case getstatic i => exact Bool.noConfusion (show false = true from h)
  case new i => exact Bool.noConfusion (show false = true from h)
  case newarray i => exact Bool.noConfusion (show false = true from h)
  case anewarray i => exact Bool.noConfusion (show false = true from h)
  case multianewarray i k => exact Bool.noConfusion (show false = true from h)
  case invokevirtual i => exact Bool.noConfusion (show false = true from h)
  case invokestatic i => exact Bool.noConfusion (show false = true from h)
  case invokespecial i => exact Bool.noConfusion (show false = true from h)
  case iinc k n =>
    have h' := (Bool.and_eq_true _ _).mp (show (decide (Int32.ofInt n = cI) && decide (k < M.2.2.1)) = true from h)
    exact ⟨of_decide_eq_true h'.1, of_decide_eq_true h'.2⟩
  case tableswitch dflt lo hi offs =>
    simp only [bl_ckP, Bool.and_eq_true, decide_eq_true_eq, List.all_eq_true] at h
    exact ⟨h.1.1.1, h.1.1.2, h.1.2, h.2⟩
  case ireturn =>
    have h' := (Bool.or_eq_true _ _).mp (show (decide (M.2.2.2.1 = some .int) || decide (M.2.2.2.1 = some .boolean)) = true from h)
    exact h'.elim (fun q => Or.inl (of_decide_eq_true q)) (fun q => Or.inr (of_decide_eq_true q))
  case areturn =>
    dsimp only [bl_ckP] at h
    split at h
    · rename_i n hn
      exact ⟨n, hn⟩
    · exact Bool.noConfusion h
  all_goals exact True.intro
def bl_ckD (M : bl_MR) (q : Nat × bl_I) : Bool := decide (decode M.2.1 q.1 = .ok (q.2.1, bl_len q.2.1 q.2.2.2.1)) && decide (q.2.2.1 = q.1 + bl_len q.2.1 q.2.2.2.1)
theorem bl_okT_of {M : bl_MR} {TP TL : List (Nat × bl_I)} (h1 : (TP ++ TL).all (bl_ckD M) = true) (h2 : TP.all (bl_ckP M) = true) (h3 : ∀ q ∈ TL, bl_okL M q.1 q.2) : bl_okT M (TP ++ TL) := by
  intro q hq
  have hd := List.all_eq_true.mp h1 q hq
  simp only [bl_ckD, Bool.and_eq_true, decide_eq_true_eq] at hd
  refine ⟨hd.1, hd.2, ?_⟩
  rcases List.mem_append.mp hq with h | h
  · exact bl_ckP_ok (List.all_eq_true.mp h2 q h)
  · exact h3 q h
theorem bl_at {w : Cond} (p : Nat) (h : lw_tbl[p]? = some w) (g : goodWord w = true) : w ∈ bl_gw := List.mem_filter.mpr ⟨List.mem_of_getElem? h, g⟩
theorem bl_atN {w : Cond} (p : Nat) (h : lw_tbl[p]? = some w) (g : bl_nwk w = true) : w ∈ bl_nw := List.mem_filter.mpr ⟨List.mem_of_getElem? h, g⟩
theorem bl_MC_mono {G : bl_G} {l : Launch} {d : Nat} {M : bl_MR} {as : List Value} {σ : bl_Mem} {b : Nat × Nat} {Q Q' : bl_Out → bl_Mem → Prop} (h : bl_MC G l d M as σ b Q) (hq : ∀ o σ', Q o σ' → Q' o σ') : bl_MC G l d M as σ b Q' := by
  intro φ hl p e ha hc hk s m args below hf happ hP hK
  obtain ⟨k, o, h1, h2, h3, hQ⟩ := h φ hl p e ha hc hk s m args below hf happ hP hK
  refine ⟨k, o, h1, h2, h3, ?_⟩
  rcases hQ with ⟨⟨⟨φ1, σ1, v1, q1, q2, q3⟩, q4⟩, q5⟩ | ⟨q, e1, E, ce, L, ⟨⟨φ1, σ1, q2, q3⟩, q4⟩, q5⟩
  · exact Or.inl ⟨⟨⟨φ1, σ1, v1, q1, hq _ _ q2, q3⟩, q4⟩, q5⟩
  · exact Or.inr ⟨q, e1, E, ce, L, ⟨⟨φ1, σ1, hq _ _ q2, q3⟩, q4⟩, q5⟩
/-- fewer locals are enough -/
theorem bl_WP_sub {G : bl_G} {l : Launch} {d : Nat} {M : bl_MR} {pc : Nat} {lv lv' : List (Nat × Value)} {st : List Value} {σ : bl_Mem} {b : Nat × Nat} {Q : bl_Out → bl_Mem → Prop} (hs : ∀ q ∈ lv', q ∈ lv) (h : bl_WP G l d M pc lv' st σ b Q) : bl_WP G l d M pc lv st σ b Q := by
  intro p e R s m args below meth c H locs cells slots mc ms φ φ0 K0 ls S hl hv hst
  refine h p e R s m args below meth c H locs cells slots mc ms φ φ0 K0 ls S ⟨hl.1, hl.2.1, fun q hq => ?_⟩ (fun q hq => hv q (hs q hq)) hst
  obtain ⟨q', hq', rfl⟩ := List.mem_map.mp hq
  exact hl.2.2 _ (List.mem_map.mpr ⟨q', hs q' hq', rfl⟩)
/-- the same by places -/
theorem bl_lv {G : bl_G} {l : Launch} {d : Nat} {M : bl_MR} {pc : Nat} {lv lv' : List (Nat × Value)} {st : List Value} {σ : bl_Mem} {b : Nat × Nat} {Q : bl_Out → bl_Mem → Prop} (ks : List Nat) (hl : lv_pick lv ks = lv') (h : bl_WP G l d M pc lv' st σ b Q) : bl_WP G l d M pc lv st σ b Q := by
  refine bl_WP_sub (fun q hq => ?_) h
  rw [← hl] at hq
  obtain ⟨k, -, hk⟩ := List.mem_filterMap.mp hq
  exact List.mem_of_getElem? hk
theorem bl_WP_mono {G : bl_G} {l : Launch} {d : Nat} {M : bl_MR} {pc : Nat} {lv : List (Nat × Value)} {st : List Value} {σ : bl_Mem} {b : Nat × Nat} {Q Q' : bl_Out → bl_Mem → Prop} (h : bl_WP G l d M pc lv st σ b Q) (hq : ∀ o σ', Q o σ' → Q' o σ') : bl_WP G l d M pc lv st σ b Q' := by
  intro p e R s m args below meth c H locs cells slots mc ms φ φ0 K0 ls S hl hv hst T hT X
  obtain ⟨t, h1, o, h2, h3, hQ⟩ := h p e R s m args below meth c H locs cells slots mc ms φ φ0 K0 ls S hl hv hst T hT X
  refine ⟨t, h1, o, h2, h3, ?_⟩
  rcases hQ with ⟨⟨⟨φ1, σ1, v1, q1, q2, q3⟩, q4⟩, q5⟩ | ⟨q, e1, E, ce, L, ⟨⟨φ1, σ1, q2, q3⟩, q4⟩, q5⟩
  · exact Or.inl ⟨⟨⟨φ1, σ1, v1, q1, hq _ _ q2, q3⟩, q4⟩, q5⟩
  · exact Or.inr ⟨q, e1, E, ce, L, ⟨⟨φ1, σ1, hq _ _ q2, q3⟩, q4⟩, q5⟩
