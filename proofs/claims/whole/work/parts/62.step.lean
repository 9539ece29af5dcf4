/-! ===== the step (written by wip/tools/gen_step.py) ===== -/
section BLS
variable {G : bl_G} {l : Launch} {d : Nat} {M : bl_MR} {pc : Nat} {lv : List (Nat × Value)} {st : List Value} {σ : bl_Mem} {b : Nat × Nat} {Q : bl_Out → bl_Mem → Prop} {K : Nat → List (Nat × Value) → List Value → bl_Mem → Nat × Nat → Prop}
theorem bl_step {i : bl_I} (hok : bl_okI M pc i) (hK : ∀ pc lv st σ b, K pc lv st σ b → bl_WP G l d M pc lv st σ b Q) (h : bl_ex G l d M pc lv st σ b Q K i) : bl_WP G l d M pc lv st σ b Q := by
  obtain ⟨ins, np, r1, r2, cI, cJ, N⟩ := i
  obtain ⟨hd, hn, hl⟩ := hok
  dsimp only at hn
  cases ins <;> try exact (show False from h).elim
  case iconst n =>
    subst hn
    exact bl_s_iconst hd hl (hK _ _ _ _ _ h)
  case bipush n =>
    subst hn
    exact bl_s_bipush hd hl (hK _ _ _ _ _ h)
  case sipush n =>
    subst hn
    exact bl_s_sipush hd hl (hK _ _ _ _ _ h)
  case lconst n =>
    subst hn
    exact bl_s_lconst hd hl (hK _ _ _ _ _ h)
  case ldc idx =>
    subst hn
    dsimp only [bl_ex, bl_okL] at h hl
    by_cases e : r1 = 0
    · rw [if_pos e] at h hl
      exact bl_s_ldc hd hl (hK _ _ _ _ _ h)
    · rw [if_neg e] at h hl
      obtain ⟨a, ha, h⟩ := h
      obtain ⟨q, hq, h1, h2⟩ := hl
      exact bl_s_ldcS hd hq h1 h2 ha (hK _ _ _ _ _ h)
  case ldc_w idx =>
    subst hn
    exact bl_s_ldc_w hd hl (hK _ _ _ _ _ h)
  case ldc2_w idx =>
    subst hn
    exact bl_s_ldc2_w hd hl (hK _ _ _ _ _ h)
  case iload_n k =>
    subst hn
    obtain ⟨x, hx, h⟩ := bl_li_inv h
    exact bl_s_iload_n hd hx (hK _ _ _ _ _ h)
  case iload k =>
    subst hn
    obtain ⟨x, hx, h⟩ := bl_li_inv h
    exact bl_s_iload hd hx (hK _ _ _ _ _ h)
  case lload_n k =>
    subst hn
    obtain ⟨x, hx, h⟩ := bl_lj_inv h
    exact bl_s_lload_n hd hx (hK _ _ _ _ _ h)
  case lload k =>
    subst hn
    obtain ⟨x, hx, h⟩ := bl_lj_inv h
    exact bl_s_lload hd hx (hK _ _ _ _ _ h)
  case aload_n k =>
    subst hn
    replace h : bl_la (bl_get lv k) (fun x => K _ lv (x :: st) σ b) := h
    rcases bl_la_inv h with ⟨x, hx, h⟩ | ⟨hx, h⟩
    · exact bl_s_aload_n hd hx (hK _ _ _ _ _ h)
    · exact bl_s_aload_nN hd hx (hK _ _ _ _ _ h)
  case aload k =>
    subst hn
    replace h : bl_la (bl_get lv k) (fun x => K _ lv (x :: st) σ b) := h
    rcases bl_la_inv h with ⟨x, hx, h⟩ | ⟨hx, h⟩
    · exact bl_s_aload hd hx (hK _ _ _ _ _ h)
    · exact bl_s_aloadN hd hx (hK _ _ _ _ _ h)
  case istore_n k =>
    subst hn
    obtain ⟨x, r, rfl, h⟩ := bl_pi_inv h
    exact bl_s_istore_n hd hl (hK _ _ _ _ _ h)
  case istore k =>
    subst hn
    obtain ⟨x, r, rfl, h⟩ := bl_pi_inv h
    exact bl_s_istore hd hl (hK _ _ _ _ _ h)
  case lstore_n k =>
    subst hn
    obtain ⟨x, r, rfl, h⟩ := bl_pj_inv h
    exact bl_s_lstore_n hd hl (hK _ _ _ _ _ h)
  case lstore k =>
    subst hn
    obtain ⟨x, r, rfl, h⟩ := bl_pj_inv h
    exact bl_s_lstore hd hl (hK _ _ _ _ _ h)
  case astore_n k =>
    subst hn
    dsimp only [bl_ex] at h
    split at h
    · exact bl_s_astore_n hd hl (hK _ _ _ _ _ h)
    · exact bl_s_astore_nN hd hl (hK _ _ _ _ _ h)
    · exact h.elim
  case astore k =>
    subst hn
    dsimp only [bl_ex] at h
    split at h
    · exact bl_s_astore hd hl (hK _ _ _ _ _ h)
    · exact bl_s_astoreN hd hl (hK _ _ _ _ _ h)
    · exact h.elim
  case iinc k n =>
    subst hn
    obtain ⟨x, hx, h⟩ := bl_li_inv h
    exact bl_s_iinc hd hx hl.1 hl.2 (hK _ _ _ _ _ h)
  case iadd =>
    subst hn
    obtain ⟨y, r, rfl, h⟩ := bl_pi_inv h
    obtain ⟨x, r, rfl, h⟩ := bl_pi_inv h
    exact bl_s_iadd hd (hK _ _ _ _ _ h)
  case isub =>
    subst hn
    obtain ⟨y, r, rfl, h⟩ := bl_pi_inv h
    obtain ⟨x, r, rfl, h⟩ := bl_pi_inv h
    exact bl_s_isub hd (hK _ _ _ _ _ h)
  case imul =>
    subst hn
    obtain ⟨y, r, rfl, h⟩ := bl_pi_inv h
    obtain ⟨x, r, rfl, h⟩ := bl_pi_inv h
    exact bl_s_imul hd (hK _ _ _ _ _ h)
  case iand =>
    subst hn
    obtain ⟨y, r, rfl, h⟩ := bl_pi_inv h
    obtain ⟨x, r, rfl, h⟩ := bl_pi_inv h
    exact bl_s_iand hd (hK _ _ _ _ _ h)
  case ior =>
    subst hn
    obtain ⟨y, r, rfl, h⟩ := bl_pi_inv h
    obtain ⟨x, r, rfl, h⟩ := bl_pi_inv h
    exact bl_s_ior hd (hK _ _ _ _ _ h)
  case ishl =>
    subst hn
    obtain ⟨y, r, rfl, h⟩ := bl_pi_inv h
    obtain ⟨x, r, rfl, h⟩ := bl_pi_inv h
    exact bl_s_ishl hd (hK _ _ _ _ _ h)
  case ishr =>
    subst hn
    obtain ⟨y, r, rfl, h⟩ := bl_pi_inv h
    obtain ⟨x, r, rfl, h⟩ := bl_pi_inv h
    exact bl_s_ishr hd (hK _ _ _ _ _ h)
  case iushr =>
    subst hn
    obtain ⟨y, r, rfl, h⟩ := bl_pi_inv h
    obtain ⟨x, r, rfl, h⟩ := bl_pi_inv h
    exact bl_s_iushr hd (hK _ _ _ _ _ h)
  case idiv =>
    subst hn
    obtain ⟨y, r, rfl, h⟩ := bl_pi_inv h
    obtain ⟨x, r, rfl, h⟩ := bl_pi_inv h
    exact bl_s_idiv hd h.1 (hK _ _ _ _ _ h.2)
  case irem =>
    subst hn
    obtain ⟨y, r, rfl, h⟩ := bl_pi_inv h
    obtain ⟨x, r, rfl, h⟩ := bl_pi_inv h
    exact bl_s_irem hd h.1 (hK _ _ _ _ _ h.2)
  case ladd =>
    subst hn
    obtain ⟨y, r, rfl, h⟩ := bl_pj_inv h
    obtain ⟨x, r, rfl, h⟩ := bl_pj_inv h
    exact bl_s_ladd hd (hK _ _ _ _ _ h)
  case lsub =>
    subst hn
    obtain ⟨y, r, rfl, h⟩ := bl_pj_inv h
    obtain ⟨x, r, rfl, h⟩ := bl_pj_inv h
    exact bl_s_lsub hd (hK _ _ _ _ _ h)
  case lmul =>
    subst hn
    obtain ⟨y, r, rfl, h⟩ := bl_pj_inv h
    obtain ⟨x, r, rfl, h⟩ := bl_pj_inv h
    exact bl_s_lmul hd (hK _ _ _ _ _ h)
  case land =>
    subst hn
    obtain ⟨y, r, rfl, h⟩ := bl_pj_inv h
    obtain ⟨x, r, rfl, h⟩ := bl_pj_inv h
    exact bl_s_land hd (hK _ _ _ _ _ h)
  case lor =>
    subst hn
    obtain ⟨y, r, rfl, h⟩ := bl_pj_inv h
    obtain ⟨x, r, rfl, h⟩ := bl_pj_inv h
    exact bl_s_lor hd (hK _ _ _ _ _ h)
  case lcmp =>
    subst hn
    obtain ⟨y, r, rfl, h⟩ := bl_pj_inv h
    obtain ⟨x, r, rfl, h⟩ := bl_pj_inv h
    exact bl_s_lcmp hd (hK _ _ _ _ _ h)
  case ldiv =>
    subst hn
    obtain ⟨y, r, rfl, h⟩ := bl_pj_inv h
    obtain ⟨x, r, rfl, h⟩ := bl_pj_inv h
    exact bl_s_ldiv hd h.1 (hK _ _ _ _ _ h.2)
  case lrem =>
    subst hn
    obtain ⟨y, r, rfl, h⟩ := bl_pj_inv h
    obtain ⟨x, r, rfl, h⟩ := bl_pj_inv h
    exact bl_s_lrem hd h.1 (hK _ _ _ _ _ h.2)
  case lshl =>
    subst hn
    obtain ⟨y, r, rfl, h⟩ := bl_pi_inv h
    obtain ⟨x, r, rfl, h⟩ := bl_pj_inv h
    exact bl_s_lshl hd (hK _ _ _ _ _ h)
  case i2l =>
    subst hn
    obtain ⟨y, r, rfl, h⟩ := bl_pi_inv h
    exact bl_s_i2l hd (hK _ _ _ _ _ h)
  case dup =>
    subst hn
    dsimp only [bl_ex] at h
    split at h
    · exact bl_s_dup hd (bl_c1_inv h.1) (hK _ _ _ _ _ h.2)
    · exact h.elim
  case dup2 =>
    subst hn
    dsimp only [bl_ex] at h
    split at h
    · exact bl_s_dup2 hd (bl_c1_inv h.1.1) (bl_c1_inv h.1.2) (hK _ _ _ _ _ h.2)
    · exact h.elim
  case pop =>
    subst hn
    dsimp only [bl_ex] at h
    split at h
    · exact bl_s_pop hd (bl_c1_inv h.1) (hK _ _ _ _ _ h.2)
    · exact h.elim
  case goto off =>
    exact bl_s_goto hd hl (hK _ _ _ _ _ h)
  case ifCond cn off =>
    subst hn
    cases cn
    case eq =>
      obtain ⟨x, r, rfl, h⟩ := bl_pi_inv h
      exact bl_s_if_eq hd hl (fun q => hK _ _ _ _ _ (h.1 q)) (fun q => hK _ _ _ _ _ (h.2 q))
    case ne =>
      obtain ⟨x, r, rfl, h⟩ := bl_pi_inv h
      exact bl_s_if_ne hd hl (fun q => hK _ _ _ _ _ (h.1 q)) (fun q => hK _ _ _ _ _ (h.2 q))
    case lt =>
      obtain ⟨x, r, rfl, h⟩ := bl_pi_inv h
      exact bl_s_if_lt hd hl (fun q => hK _ _ _ _ _ (h.1 q)) (fun q => hK _ _ _ _ _ (h.2 q))
    case ge =>
      obtain ⟨x, r, rfl, h⟩ := bl_pi_inv h
      exact bl_s_if_ge hd hl (fun q => hK _ _ _ _ _ (h.1 q)) (fun q => hK _ _ _ _ _ (h.2 q))
    case gt =>
      obtain ⟨x, r, rfl, h⟩ := bl_pi_inv h
      exact bl_s_if_gt hd hl (fun q => hK _ _ _ _ _ (h.1 q)) (fun q => hK _ _ _ _ _ (h.2 q))
    case le =>
      obtain ⟨x, r, rfl, h⟩ := bl_pi_inv h
      exact bl_s_if_le hd hl (fun q => hK _ _ _ _ _ (h.1 q)) (fun q => hK _ _ _ _ _ (h.2 q))
  case if_icmp cn off =>
    subst hn
    cases cn
    case eq =>
      obtain ⟨y, r, rfl, h⟩ := bl_pi_inv h
      obtain ⟨x, r, rfl, h⟩ := bl_pi_inv h
      exact bl_s_icmp_eq hd hl (fun q => hK _ _ _ _ _ (h.1 q)) (fun q => hK _ _ _ _ _ (h.2 q))
    case ne =>
      obtain ⟨y, r, rfl, h⟩ := bl_pi_inv h
      obtain ⟨x, r, rfl, h⟩ := bl_pi_inv h
      exact bl_s_icmp_ne hd hl (fun q => hK _ _ _ _ _ (h.1 q)) (fun q => hK _ _ _ _ _ (h.2 q))
    case lt =>
      obtain ⟨y, r, rfl, h⟩ := bl_pi_inv h
      obtain ⟨x, r, rfl, h⟩ := bl_pi_inv h
      exact bl_s_icmp_lt hd hl (fun q => hK _ _ _ _ _ (h.1 q)) (fun q => hK _ _ _ _ _ (h.2 q))
    case ge =>
      obtain ⟨y, r, rfl, h⟩ := bl_pi_inv h
      obtain ⟨x, r, rfl, h⟩ := bl_pi_inv h
      exact bl_s_icmp_ge hd hl (fun q => hK _ _ _ _ _ (h.1 q)) (fun q => hK _ _ _ _ _ (h.2 q))
    case gt =>
      obtain ⟨y, r, rfl, h⟩ := bl_pi_inv h
      obtain ⟨x, r, rfl, h⟩ := bl_pi_inv h
      exact bl_s_icmp_gt hd hl (fun q => hK _ _ _ _ _ (h.1 q)) (fun q => hK _ _ _ _ _ (h.2 q))
    case le =>
      obtain ⟨y, r, rfl, h⟩ := bl_pi_inv h
      obtain ⟨x, r, rfl, h⟩ := bl_pi_inv h
      exact bl_s_icmp_le hd hl (fun q => hK _ _ _ _ _ (h.1 q)) (fun q => hK _ _ _ _ _ (h.2 q))
  case ifnull off =>
    subst hn
    dsimp only [bl_ex] at h
    split at h
    · exact bl_s_ifnull hd (hK _ _ _ _ _ h)
    · exact bl_s_ifnullN hd hl (hK _ _ _ _ _ h)
    · exact h.elim
  case ifnonnull off =>
    subst hn
    dsimp only [bl_ex] at h
    split at h
    · exact bl_s_ifnonnull hd hl (hK _ _ _ _ _ h)
    · exact bl_s_ifnonnullN hd (hK _ _ _ _ _ h)
    · exact h.elim
  case tableswitch dflt lo hi offs =>
    obtain ⟨x, r, rfl, h1, h2⟩ := bl_pi_inv h
    obtain ⟨l1, l2, l3, l4⟩ := hl
    by_cases e : x.toInt < lo ∨ hi < x.toInt
    · exact bl_s_tableOut hd e (Int.toNat_of_nonneg l1).symm (hK _ _ _ _ _ (h1 e))
    · have e1 : ¬ x.toInt < lo := fun q => e (Or.inl q)
      have e2 : ¬ hi < x.toInt := fun q => e (Or.inr q)
      have hj : (x.toInt - lo).toNat < offs.size := by omega
      have ho : offs[(x.toInt - lo).toNat]? = some offs[(x.toInt - lo).toNat] := Array.getElem?_eq_getElem hj
      have hmem : offs[(x.toInt - lo).toNat] ∈ offs.toList := Array.getElem_mem_toList hj
      exact bl_s_tableIn hd e1 e2 ho (Int.toNat_of_nonneg (l2 _ hmem)).symm (hK _ _ _ _ _ (h2 _ _ ho (by omega) (by omega)))
  case getfield idx =>
    subst hn
    obtain ⟨a, r, rfl, h1, h2⟩ := bl_pr_inv h
    obtain ⟨q, l1, l2, l3⟩ := hl
    refine bl_s_getfield hd l1 l2 l3 h1 ?_
    dsimp only at h2
    by_cases e : bl_isR (bl_ty r1 r2) = true
    · rw [if_pos e] at h2
      unfold bl_gv
      rw [if_pos e]
      obtain ⟨v, e1, h2⟩ := h2
      rw [e1]; exact hK _ _ _ _ _ h2
    · rw [if_neg e] at h2
      unfold bl_gv
      rw [if_neg e]
      by_cases e2 : bl_isL (bl_ty r1 r2) = true
      · rw [if_pos e2] at h2 ⊢
        exact hK _ _ _ _ _ h2
      · rw [if_neg e2] at h2 ⊢
        exact hK _ _ _ _ _ h2
  case putfield idx =>
    subst hn
    obtain ⟨q, l1, l2, l3, l4⟩ := hl
    dsimp only [bl_ex] at h
    split at h
    · obtain ⟨h1, h2, h3, h4⟩ := h
      have hci := bl_cl_lt l1
      exact bl_s_putfield hd l1 l2 l3 (bl_ty_tok r1 hci r2 (Nat.lt_of_lt_of_le (by rw [bl_cl_nf r1 hci q l1] at l2; exact l2) (bl_nf_le r1 hci))) l4 h1 h2 h3 (hK _ _ _ _ _ h4)
    · exact h.elim
  case getstatic idx =>
    subst hn
    obtain ⟨a, h1, h2⟩ := h
    obtain ⟨q, l1, l2⟩ := hl
    exact bl_s_getstatic hd l1 l2 h1 (hK _ _ _ _ _ h2)
  case iaload =>
    subst hn
    obtain ⟨x, r, rfl, h⟩ := bl_pi_inv h
    obtain ⟨a, r, rfl, h⟩ := bl_pr_inv h
    rcases h with ⟨h1, h2, h3⟩ | ⟨j, q, h1, h2, h3, h4⟩ | ⟨h1, h2, h3⟩
    · exact bl_s_iaload hd h1 h2 (hK _ _ _ _ _ h3)
    · exact bl_s_ialoadR hd h1 h2 h3 (hK _ _ _ _ _ h4)
    · exact bl_s_ialoadX hd h1 h2 (hK _ _ _ _ _ h3)
  case laload =>
    subst hn
    obtain ⟨x, r, rfl, h⟩ := bl_pi_inv h
    obtain ⟨a, r, rfl, h1, h2, h3⟩ := bl_pr_inv h
    exact bl_s_laload hd h1 h2 (hK _ _ _ _ _ h3)
  case aaload =>
    subst hn
    obtain ⟨x, r0, rfl, g⟩ := bl_pi_inv h
    obtain ⟨a, r, rfl, h1, h2, h3⟩ := bl_pr_inv g
    refine bl_s_aaload hd rfl h1.1 h1.2 h2 ?_
    obtain ⟨v, e1, h3⟩ := h3
    rw [e1]; exact hK _ _ _ _ _ h3
  case iastore =>
    subst hn
    obtain ⟨v, r, rfl, h⟩ := bl_pi_inv h
    obtain ⟨x, r, rfl, h⟩ := bl_pi_inv h
    obtain ⟨a, r, rfl, h1, h2, h3⟩ := bl_pr_inv h
    exact bl_s_iastore hd h1 h2 (hK _ _ _ _ _ h3)
  case lastore =>
    subst hn
    obtain ⟨v, r, rfl, h⟩ := bl_pj_inv h
    obtain ⟨x, r, rfl, h⟩ := bl_pi_inv h
    obtain ⟨a, r, rfl, h1, h2, h3⟩ := bl_pr_inv h
    exact bl_s_lastore hd h1 h2 (hK _ _ _ _ _ h3)
  case aastore =>
    subst hn
    obtain ⟨v, r, rfl, h⟩ := bl_pr_inv h
    obtain ⟨x, r, rfl, h⟩ := bl_pi_inv h
    obtain ⟨a, r, rfl, h1, h2, h3, h4⟩ := bl_pr_inv h
    exact bl_s_aastore hd h1 rfl h2 h3 (hK _ _ _ _ _ h4)
  case arraylength =>
    subst hn
    obtain ⟨a, r, rfl, h⟩ := bl_pr_inv h
    rcases h with ⟨h1, h2⟩ | ⟨j, q, h1, h2, h3⟩ | ⟨h1, h2⟩
    · exact bl_s_arraylength hd rfl h1.1 h1.2 (hK _ _ _ _ _ h2)
    · exact bl_s_lengthR hd h1 h2 (hK _ _ _ _ _ h3)
    · exact bl_s_lengthX hd h1 (hK _ _ _ _ _ h2)
  case new idx =>
    subst hn
    dsimp only [bl_ex, bl_okL] at h hl
    by_cases e : r1 < 12
    · rw [if_pos e] at h hl
      obtain ⟨q, l1, l2, l3, l4⟩ := hl
      obtain ⟨a, h1, h2, h3, h4⟩ := h
      rw [← bl_cl_nf r1 e q l1] at h3 h4
      exact bl_s_new a hd l1 l2 l3 l4 h1 h2 h3 (hK _ _ _ _ _ h4)
    · rw [if_neg e] at h hl
      obtain ⟨text, is, ic, j, wide, d3, d4, d6, d9, hh, ⟨hcls, hk, hini, hat, hgood⟩, hstr⟩ := hl
      obtain ⟨h0, h1, h2, h3, h4⟩ := h
      by_cases e4 : r1 = 14
      · subst e4
        exact bl_s_throwN h0 hd d3 wide d4 d6 d9 hh hk hini hstr hat hgood h1 h2 h3 h4
      · unfold bl_atX at hat hgood
        rw [if_neg e4] at hat hgood
        exact bl_s_throw h0 wide hd d3 d4 d6 d9 hh hcls hk hini hstr hat hgood h1 h2 h3 h4
  case newarray at' =>
    subst hn
    obtain ⟨n, r, rfl, a, h1, h2, h3, h4, h5, h6⟩ := bl_pi_inv h
    exact bl_s_newarray a hd hl.1 hl.2 h1 h2 h3 h4 h5 (hK _ _ _ _ _ h6)
  case anewarray idx =>
    subst hn
    obtain ⟨n, r, rfl, a, h1, h2, h3, h4, h5, h6⟩ := bl_pi_inv h
    obtain ⟨l1, q, l2, l3⟩ := hl
    refine bl_s_anewarray a hd l1 l2 l3 (fun U H hC => ?_) h1 h2 h3 h4 h5 (hK _ _ _ _ _ h6)
    dsimp only at l1 l2
    rcases l1 with rfl | rfl | rfl <;> cases l2
    · exact hC.2.2.1.1
    · exact hC.2.2.1.2.1
    · exact hC.2.2.1.2.2.1
  case ireturn =>
    dsimp only [bl_ex] at h
    split at h
    · rcases hl with hl | hl
      · exact bl_r_int hd hl rfl h.2
      · refine bl_r_int hd hl ?_ h.2
        rcases h.1 hl with rfl | rfl <;> rfl
    · exact h.elim
  case lreturn =>
    dsimp only [bl_ex] at h
    split at h
    · exact bl_r_long hd hl h
    · exact h.elim
  case areturn =>
    obtain ⟨n, hl⟩ := hl
    dsimp only [bl_ex] at h
    split at h
    · exact bl_r_ref hd hl (Or.inl ⟨n, rfl⟩) (Or.inr ⟨_, rfl⟩) h
    · exact bl_r_ref hd hl (Or.inl ⟨n, rfl⟩) (Or.inl rfl) h
    · exact h.elim
  case return_ =>
    dsimp only [bl_ex] at h
    split at h
    · exact bl_r_void hd hl h
    · exact h.elim
  case multianewarray idx m =>
    subst hn
    dsimp only [bl_ex, bl_okL] at h hl
    obtain ⟨l1, l2⟩ := hl
    by_cases e : m = 2
    · rw [if_pos e] at h
      obtain ⟨k, r, rfl, g⟩ := bl_pi_inv h
      obtain ⟨n, r', rfl, o, r0, h1, h2, h3, h4⟩ := bl_pi_inv g
      subst e
      rcases l2 with l2 | l2
      · exact bl_s_mna2 hd l1 l2.2 h1 h2 h3 (hK _ _ _ _ _ h4)
      · exact absurd l2.1 (by decide)
    · rw [if_neg e] at h
      obtain ⟨q, r, rfl, g⟩ := bl_pi_inv h
      obtain ⟨k, r', rfl, g'⟩ := bl_pi_inv g
      obtain ⟨n, r'', rfl, o, m0, r0, h1, h2, h3, h4⟩ := bl_pi_inv g'
      rcases l2 with l2 | l2
      · exact absurd l2.1 e
      · obtain ⟨rfl, l3⟩ := l2
        exact bl_s_mna3 hd l1 l3 h1 h2 h3 (hK _ _ _ _ _ h4)
  case invokevirtual idx =>
    dsimp only [bl_ex, bl_okL] at h hl
    by_cases e20 : r1 = 20
    · rw [if_pos e20] at h hl
      subst hn
      obtain ⟨a, r, rfl, j, q, h1, h2, h3, h4⟩ := bl_pr_inv h
      exact bl_s_strlen hd hl h1 h2 h3 (hK _ _ _ _ _ h4)
    by_cases e21 : r1 = 21
    · rw [if_neg e20, if_pos e21] at h hl
      subst hn
      obtain ⟨x, r, rfl, g⟩ := bl_pi_inv h
      obtain ⟨a, r', rfl, j, q, h1, h2, h3, h4, h5⟩ := bl_pr_inv g
      exact bl_s_charAt hd hl h1 h2 h3 h4 (hK _ _ _ _ _ h5)
    rw [if_neg e20, if_neg e21] at h hl
    obtain ⟨q, l1, l2, l3, l4, l5, l6, l7⟩ := hl
    cases d with
    | zero => exact h.elim
    | succ d =>
      dsimp only at h
      split at h
      · rename_i a r hdr
        obtain ⟨h1, h2, h3, h4, b1, h5, h6, h7⟩ := h
        have hst : st = (bl_args r2 st).reverse ++ .ref a :: r := by
          rw [bl_args, List.reverse_reverse, ← hdr, List.take_append_drop]
        have hlen : (bl_args r2 st).length = r2 := by rw [bl_args, List.length_reverse]; exact h2
        generalize bl_args r2 st = As at hst hlen h7
        subst hst
        exact bl_s_invokevirtual hd l1 l2 l3 l4 l5 l6 l7 hlen h3 h4 h5 h6 h7
      · exact h.elim
  case invokestatic idx =>
    dsimp only [bl_ex, bl_okL] at h hl
    by_cases e : r1 = 0
    · rw [if_pos e] at h hl
      cases d with
      | zero => exact h.elim
      | succ d =>
        obtain ⟨h2, h4, b1, h5, h6, h7⟩ := h
        have hst : st = (bl_args r2 st).reverse ++ st.drop r2 := by
          rw [bl_args, List.reverse_reverse, List.take_append_drop]
        have hlen : (bl_args r2 st).length = r2 := by rw [bl_args, List.length_reverse]; exact h2
        generalize bl_args r2 st = As at hst hlen h7
        generalize st.drop r2 = r at hst h4 h7
        subst hst
        exact bl_s_invokestatic hd hl.1 hl.2.1 hl.2.2 hlen h4 h5 h6 h7
    · rw [if_neg e] at h hl
      subst hn
      by_cases e1 : r1 = 1
      · rw [if_pos e1] at h hl
        obtain ⟨y, r0, rfl, g⟩ := bl_pi_inv h
        obtain ⟨x, r, rfl, h1, h2⟩ := bl_pi_inv g
        exact bl_s_maxI hd hl.1 hl.2.1 hl.2.2.1 hl.2.2.2 h1 (hK _ _ _ _ _ h2)
      · rw [if_neg e1] at h hl
        by_cases e2 : r1 = 2
        · rw [if_pos e2] at h hl
          obtain ⟨y, r0, rfl, g⟩ := bl_pi_inv h
          obtain ⟨x, r, rfl, h1, h2⟩ := bl_pi_inv g
          exact bl_s_minI hd hl.1 hl.2.1 hl.2.2.1 hl.2.2.2 h1 (hK _ _ _ _ _ h2)
        · rw [if_neg e2] at h hl
          by_cases e3 : r1 = 3
          · rw [if_pos e3] at h hl
            obtain ⟨y, r0, rfl, g⟩ := bl_pj_inv h
            obtain ⟨x, r, rfl, h1, h2⟩ := bl_pj_inv g
            exact bl_s_maxJ hd hl.1 hl.2.1 hl.2.2.1 hl.2.2.2 h1 (hK _ _ _ _ _ h2)
          · rw [if_neg e3] at h hl
            obtain ⟨y, r0, rfl, g⟩ := bl_pj_inv h
            obtain ⟨x, r, rfl, h1, h2⟩ := bl_pj_inv g
            exact bl_s_minJ hd hl.1 hl.2.1 hl.2.2.1 hl.2.2.2 h1 (hK _ _ _ _ _ h2)
  case invokespecial idx =>
    dsimp only [bl_ex, bl_okL] at h hl
    subst hn
    by_cases e : r1 = 0
    · rw [if_pos e] at h hl
      obtain ⟨a, r, rfl, h1, h2⟩ := bl_pr_inv h
      exact bl_s_objinit hd hl.1 hl.2.1 hl.2.2 h1 (hK _ _ _ _ _ h2)
    · rw [if_neg e] at h hl
      cases d with
      | zero => exact h.elim
      | succ d =>
        obtain ⟨a, r, rfl, h1, b1, Qi, h2, h3, h4, h5⟩ := bl_pr_inv h
        obtain ⟨l1, l2, l3, l4, l5, l6⟩ := hl
        refine bl_s_init (As := []) hd l1 l2 l3 l4 ?_ l6 rfl h1 h2 h3 h4 (fun σ1 hq => hK _ _ _ _ _ (h5 σ1 hq))
        rcases l5 with l5 | ⟨host, l5⟩
        · exact Or.inl l5
        · exact Or.inr ⟨host, fun U H hC => hC.2.2.2.1 _ l5⟩
end BLS
