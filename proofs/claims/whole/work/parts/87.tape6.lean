/-! ===== Tape: feeding ===== -/
def fdb (v : Int32) (m : Nat) : Int32 := (v >>> (zI (24 - 8 * (m : Int)) &&& 31)) &&& 255
theorem and255 (a b : BitVec 32) (h : ∀ i, i < 8 → a.getLsbD i = b.getLsbD i) : a &&& 255#32 = b &&& 255#32 := by
  apply BitVec.eq_of_getLsbD_eq
  intro i hi
  rw [BitVec.getLsbD_and, BitVec.getLsbD_and]
  by_cases e : i < 8
  · rw [h i e]
  · have : (255#32).getLsbD i = false := by
      have : ∀ j : Fin 32, 8 ≤ j.1 → (255#32).getLsbD j.1 = false := by decide
      exact this ⟨i, hi⟩ (show 8 ≤ i by omega)
    rw [this, Bool.and_false, Bool.and_false]
theorem fdb_c (x : Int32) {m : Nat} (hm : m < 4) : (x.toUInt32 >>> ((zI (24 - 8 * (m : Int))).toUInt32 &&& Int32.toUInt32 31)).toInt32 &&& 255 = fdb x m := by
  unfold fdb
  apply Int32.toBitVec_inj.mp
  rw [Int32.toBitVec_and, Int32.toBitVec_and]
  refine and255 _ _ (fun i hi => ?_)
  rw [Int32.toBitVec_shiftRight, BitVec.getLsbD_sshiftRight']
  rw [show ∀ y : UInt32, y.toInt32.toBitVec = y.toBitVec from fun _ => rfl, UInt32.toBitVec_shiftRight]
  match m, hm with
  | 0, _ =>
    show (x.toBitVec >>> (24#32)).getLsbD i = _
    rw [show ((zI (24 - 8 * ((0 : Nat) : Int)) &&& 31).toBitVec.smod 32) = 24#32 by decide +kernel]
    rw [BitVec.ushiftRight_eq', BitVec.getLsbD_ushiftRight, show ((24#32 : BitVec 32)).toNat = 24 by decide +kernel, if_pos (by omega)]
    rw [decide_eq_false (by omega), Bool.not_false, Bool.true_and]
  | 1, _ =>
    show (x.toBitVec >>> (16#32)).getLsbD i = _
    rw [show ((zI (24 - 8 * ((1 : Nat) : Int)) &&& 31).toBitVec.smod 32) = 16#32 by decide +kernel]
    rw [BitVec.ushiftRight_eq', BitVec.getLsbD_ushiftRight, show ((16#32 : BitVec 32)).toNat = 16 by decide +kernel, if_pos (by omega)]
    rw [decide_eq_false (by omega), Bool.not_false, Bool.true_and]
  | 2, _ =>
    show (x.toBitVec >>> (8#32)).getLsbD i = _
    rw [show ((zI (24 - 8 * ((2 : Nat) : Int)) &&& 31).toBitVec.smod 32) = 8#32 by decide +kernel]
    rw [BitVec.ushiftRight_eq', BitVec.getLsbD_ushiftRight, show ((8#32 : BitVec 32)).toNat = 8 by decide +kernel, if_pos (by omega)]
    rw [decide_eq_false (by omega), Bool.not_false, Bool.true_and]
  | 3, _ =>
    show (x.toBitVec >>> (0#32)).getLsbD i = _
    rw [show ((zI (24 - 8 * ((3 : Nat) : Int)) &&& 31).toBitVec.smod 32) = 0#32 by decide +kernel]
    rw [BitVec.ushiftRight_eq', BitVec.getLsbD_ushiftRight, show ((0#32 : BitVec 32)).toNat = 0 by decide +kernel, if_pos (by omega)]
    rw [decide_eq_false (by omega), Bool.not_false, Bool.true_and]
section TAPE6
variable {G : bl_G} {l : Launch} {d t : Nat} {I : Nat → Nat → Int32} {J : Nat → Nat → Int64} {R : Nat → Nat → Option Nat} {K N : Nat → Nat} {fk fp en at' wa : Int32} {m : Nat}
/-- m bytes held, then the first k of v -/
def fd4 (I : Nat → Nat → Int32) (t m : Nat) (v : Int32) (k : Nat) : Nat → Nat → Int32 := fun x j => if x = t + 1 ∧ m ≤ j ∧ j < m + k then fdb v (j - m) else I x j
theorem fd4_s (I : Nat → Nat → Int32) (t m : Nat) (v : Int32) (k : Nat) : bl_up2 (fd4 I t m v k) (t + 1) (m + k) (fdb v k) = fd4 I t m v (k + 1) := by
  funext x j
  unfold bl_up2 fd4
  by_cases e1 : x = t + 1
  · by_cases e2 : j = m + k
    · rw [if_pos ⟨e1, e2⟩, if_pos ⟨e1, by omega, by omega⟩, e2, Nat.add_sub_cancel_left]
    · rw [if_neg (fun q => e2 q.2)]
      by_cases e3 : m ≤ j ∧ j < m + k
      · rw [if_pos ⟨e1, e3⟩, if_pos ⟨e1, by omega, by omega⟩]
      · rw [if_neg (fun q => e3 q.2), if_neg (fun q => e3 ⟨q.2.1, by omega⟩)]
  · rw [if_neg (fun q => e1 q.1), if_neg (fun q => e1 q.1), if_neg (fun q => e1 q.1)]
theorem fd4_0 (I : Nat → Nat → Int32) (t m : Nat) (v : Int32) : fd4 I t m v 0 = I := by
  funext x j; unfold fd4; rw [if_neg (by omega)]
theorem c_Tape_appendNumber {v h : Int32} (ht : tpS R K N t) (hh : h = nI m) (hm : m + 4 ≤ 400) : bl_MC G l d mX8_appendNumber [.ref t, .int v] (tpI I t h fk fp en at' wa, J, R, K, N) (0, 0) (fun o σ' => o = .inl none ∧ σ' = (tpI (fd4 I t m v 4) t (nI (m + 4)) fk fp en at' wa, J, R, K, N)) := by
  obtain ⟨-, kt, rt_0, ktb, ntb⟩ := ht
  subst hh
  refine bl_MC_intro (by decide +kernel) rfl (Nat.le_of_ble_eq_true rfl) ?_
  have L : ∀ k : Nat, k ≤ 4 → ∀ x y, x = zI (24 - 8 * (k : Int)) → y = nI (m + k) → bl_WP G l d mX8_appendNumber 3 [(2, .int x), (0, .ref t), (1, .int v)] [] (tpI (fd4 I t m v k) t y fk fp en at' wa, J, R, K, N) (0, 0) (fun o σ' => o = .inl none ∧ σ' = (tpI (fd4 I t m v 4) t (nI (m + 4)) fk fp en at' wa, J, R, K, N)) := by
    refine bl_for 4 ?_ (fun k hk ih => ?_)
    · intro x y hx hy; subst hx hy
      refine bl_go oX8_appendNumber 80 [3] rfl ?_
      refine ⟨fun h4 => ?_, fun h4 => ?_⟩
      · try simp (disch := omega) only [zI_n, zI_o, zI_lit, zI_neg, zI_add, zI_sub, zI_mul, zI_lt, zI_le, zI_eq, zI_clamp, zI_in, zI_div, zI_rem, lg_lt0, lg_gt0, lg_eq0, lg_le0, lg_ge0, Int.toNat_natCast, ge_iff_le, gt_iff_lt, List.length_cons, List.length_nil, bl_up2_at, bl_up2_nk, bl_up2_nx] at h4
        try show _ ∧ _
        try dsimp only [bl_pv]
        exact ⟨rfl, rfl⟩
      · try simp (disch := omega) only [zI_n, zI_o, zI_lit, zI_neg, zI_add, zI_sub, zI_mul, zI_lt, zI_le, zI_eq, zI_clamp, zI_in, zI_div, zI_rem, lg_lt0, lg_gt0, lg_eq0, lg_le0, lg_ge0, Int.toNat_natCast, ge_iff_le, gt_iff_lt, List.length_cons, List.length_nil, bl_up2_at, bl_up2_nk, bl_up2_nx] at h4
        exfalso; omega
    · intro x y hx hy; subst hx hy
      have ec : (nI (m + k)).toNatClampNeg = m + k := nI_clamp (by omega)
      refine bl_go oX8_appendNumber 80 [3] rfl ?_
      refine ⟨fun h4 => ?_, fun h4 => ?_⟩
      · try simp (disch := omega) only [tp1, zI_n, zI_o, zI_lit, zI_neg, zI_add, zI_sub, zI_mul, zI_lt, zI_le, zI_eq, zI_clamp, zI_in, zI_div, zI_rem, lg_lt0, lg_gt0, lg_eq0, lg_le0, lg_ge0, Int.toNat_natCast, ge_iff_le, gt_iff_lt, List.length_cons, List.length_nil, bl_up2_at, bl_up2_nk, bl_up2_nx] at h4
        exfalso; omega
      · try simp (disch := omega) only [tp1, zI_n, zI_o, zI_lit, zI_neg, zI_add, zI_sub, zI_mul, zI_lt, zI_le, zI_eq, zI_clamp, zI_in, zI_div, zI_rem, lg_lt0, lg_gt0, lg_eq0, lg_le0, lg_ge0, Int.toNat_natCast, ge_iff_le, gt_iff_lt, List.length_cons, List.length_nil, bl_up2_at, bl_up2_nk, bl_up2_nx] at h4
        refine ⟨kt, fun h14 => ?_, fun h14 => ?_⟩
        · try simp (disch := omega) only [tp1, zI_n, zI_o, zI_lit, zI_neg, zI_add, zI_sub, zI_mul, zI_lt, zI_le, zI_eq, zI_clamp, zI_in, zI_div, zI_rem, lg_lt0, lg_gt0, lg_eq0, lg_le0, lg_ge0, Int.toNat_natCast, ge_iff_le, gt_iff_lt, List.length_cons, List.length_nil, bl_up2_at, bl_up2_nk, bl_up2_nx] at h14
          exfalso; omega
        · try simp (disch := omega) only [tp1, zI_n, zI_o, zI_lit, zI_neg, zI_add, zI_sub, zI_mul, zI_lt, zI_le, zI_eq, zI_clamp, zI_in, zI_div, zI_rem, lg_lt0, lg_gt0, lg_eq0, lg_le0, lg_ge0, Int.toNat_natCast, ge_iff_le, gt_iff_lt, List.length_cons, List.length_nil, bl_up2_at, bl_up2_nk, bl_up2_nx] at h14
          refine ⟨kt, _, bl_vs rt_0, kt, ktb, (by (try dsimp only [bl_pv]); show vp_in _ (N _); rw [ntb, tp1]; exact vp_in_nI (by omega) (by omega)), rfl, kt, kt, Or.inr (Or.inr ⟨rfl, rfl, _, rfl⟩), (fun h => by cases h), ?_⟩
          try dsimp only [bl_pv]
          have em : bl_up2 (bl_up2 (tpI (fd4 I t m v k) t (nI (m + k)) fk fp en at' wa) (t + 1) (tpI (fd4 I t m v k) t (nI (m + k)) fk fp en at' wa t 1).toNatClampNeg ((v.toUInt32 >>> ((zI (24 - 8 * (k : Int))).toUInt32 &&& Int32.toUInt32 31)).toInt32 &&& 255)) t 1 (bl_up2 (tpI (fd4 I t m v k) t (nI (m + k)) fk fp en at' wa) (t + 1) (tpI (fd4 I t m v k) t (nI (m + k)) fk fp en at' wa t 1).toNatClampNeg ((v.toUInt32 >>> ((zI (24 - 8 * (k : Int))).toUInt32 &&& Int32.toUInt32 31)).toInt32 &&& 255) t 1 + 1) = tpI (fd4 I t m v (k + 1)) t (nI (m + (k + 1))) fk fp en at' wa := by
            rw [tp1, ec, fdb_c v hk, tpI_up (by omega), fd4_s, tp1, tpu1, nI_1]; rfl
          rw [em]
          refine ih _ _ ?_ rfl
          simp (disch := omega) only [zI_n, zI_o, zI_lit, zI_neg, zI_add, zI_sub, zI_mul, zI_lt, zI_le, zI_eq, zI_clamp, zI_in, zI_div, zI_rem, lg_lt0, lg_gt0, lg_eq0, lg_le0, lg_ge0, Int.toNat_natCast, ge_iff_le, gt_iff_lt, List.length_cons, List.length_nil, bl_up2_at, bl_up2_nk, bl_up2_nx]
          congr 1; omega
  refine bl_go oX8_appendNumber 80 [3] rfl ?_
  try dsimp only [bl_pv]
  have := L 0 (by omega) _ _ rfl rfl
  rw [fd4_0] at this
  exact this
/-- twenty bytes of five ints -/
def fd20 (a b c d e : Int32) (k : Nat) : Int32 := fdb (if k < 4 then a else if k < 8 then b else if k < 12 then c else if k < 16 then d else e) (k % 4)
theorem c_Tape_append {v1 v2 v3 v4 v5 h : Int32} (ht : tpS R K N t) (hh : h = nI m) (hm : m ≤ 400) : bl_MC G l (d + 1) mX8_append [.ref t, .int v1, .int v2, .int v3, .int v4, .int v5] (tpI I t h fk fp en at' wa, J, R, K, N) (0, 0) (fun o σ' => (380 < m ∧ o = .inl (some (.int (zI (-1)))) ∧ σ' = (tpI I t h fk fp en at' wa, J, R, K, N)) ∨ (m ≤ 380 ∧ o = .inl (some (.int (nI (m + 20)))) ∧ ∃ I', σ' = (tpI I' t (nI (m + 20)) fk fp en at' wa, J, R, K, N) ∧ (∀ x, x ≠ t + 1 → I' x = I x) ∧ ∀ j, I' (t + 1) j = if m ≤ j ∧ j < m + 20 then fd20 v1 v2 v3 v4 v5 (j - m) else I (t + 1) j)) := by
  have kt := ht.2.1
  subst hh
  refine bl_MC_intro (by decide +kernel) rfl (Nat.le_of_ble_eq_true rfl) ?_
  refine bl_go oX8_append 80 [] rfl ?_
  refine ⟨kt, fun h7 => ?_, fun h7 => ?_⟩
  · try simp (disch := omega) only [tp1, zI_n, zI_o, zI_lit, zI_neg, zI_add, zI_sub, zI_mul, zI_lt, zI_le, zI_eq, zI_clamp, zI_in, zI_div, zI_rem, lg_lt0, lg_gt0, lg_eq0, lg_le0, lg_ge0, Int.toNat_natCast, ge_iff_le, gt_iff_lt, List.length_cons, List.length_nil, bl_up2_at, bl_up2_nk, bl_up2_nx] at h7
    first
    | (exfalso; first | omega | exact h7 trivial)
    | (refine ⟨rfl, rfl, kt, (Nat.le_of_ble_eq_true rfl), (0, 0), Nat.le_of_ble_eq_true rfl, Nat.le_of_ble_eq_true rfl, bl_MC_mono (c_Tape_appendNumber (d := d) (m := m) ht rfl (by omega)) (fun o14 σ14 q14 => ?_)⟩
       try dsimp only [bl_pv] at q14
       obtain ⟨rfl, rfl⟩ := q14
       refine bl_go oX8_append 80 [] rfl ?_
       refine ⟨rfl, rfl, kt, (Nat.le_of_ble_eq_true rfl), (0, 0), Nat.le_of_ble_eq_true rfl, Nat.le_of_ble_eq_true rfl, bl_MC_mono (c_Tape_appendNumber (d := d) (m := m + 4) ht rfl (by omega)) (fun o19 σ19 q19 => ?_)⟩
       try dsimp only [bl_pv] at q19
       obtain ⟨rfl, rfl⟩ := q19
       refine bl_go oX8_append 80 [] rfl ?_
       refine ⟨rfl, rfl, kt, (Nat.le_of_ble_eq_true rfl), (0, 0), Nat.le_of_ble_eq_true rfl, Nat.le_of_ble_eq_true rfl, bl_MC_mono (c_Tape_appendNumber (d := d) (m := m + 4 + 4) ht rfl (by omega)) (fun o24 σ24 q24 => ?_)⟩
       try dsimp only [bl_pv] at q24
       obtain ⟨rfl, rfl⟩ := q24
       refine bl_go oX8_append 80 [] rfl ?_
       refine ⟨rfl, rfl, kt, (Nat.le_of_ble_eq_true rfl), (0, 0), Nat.le_of_ble_eq_true rfl, Nat.le_of_ble_eq_true rfl, bl_MC_mono (c_Tape_appendNumber (d := d) (m := m + 4 + 4 + 4) ht rfl (by omega)) (fun o30 σ30 q30 => ?_)⟩
       try dsimp only [bl_pv] at q30
       obtain ⟨rfl, rfl⟩ := q30
       refine bl_go oX8_append 80 [] rfl ?_
       refine ⟨rfl, rfl, kt, (Nat.le_of_ble_eq_true rfl), (0, 0), Nat.le_of_ble_eq_true rfl, Nat.le_of_ble_eq_true rfl, bl_MC_mono (c_Tape_appendNumber (d := d) (m := m + 4 + 4 + 4 + 4) ht rfl (by omega)) (fun o36 σ36 q36 => ?_)⟩
       try dsimp only [bl_pv] at q36
       obtain ⟨rfl, rfl⟩ := q36
       refine bl_go oX8_append 80 [] rfl ?_
       refine ⟨kt, (fun h => by cases h), ?_⟩
       try show _ ∧ _
       try dsimp only [bl_pv]
       refine Or.inr ⟨by omega, by rw [tp1], _, rfl, fun x hx => ?_, fun j => ?_⟩
       · funext j
         simp only [fd4, hx, false_and, if_false]
       · simp only [fd4, true_and]
         by_cases e0 : m ≤ j ∧ j < m + 20
         · rw [if_pos e0]
           unfold fd20
           by_cases e5 : m + 16 ≤ j
           · rw [if_pos (by omega), if_neg (by omega), if_neg (by omega), if_neg (by omega), if_neg (by omega)]; congr 1; omega
           · rw [if_neg (by omega)]
             by_cases e4 : m + 12 ≤ j
             · rw [if_pos (by omega), if_neg (by omega), if_neg (by omega), if_neg (by omega), if_pos (by omega)]; congr 1; omega
             · rw [if_neg (by omega)]
               by_cases e3 : m + 8 ≤ j
               · rw [if_pos (by omega), if_neg (by omega), if_neg (by omega), if_pos (by omega)]; congr 1; omega
               · rw [if_neg (by omega)]
                 by_cases e2 : m + 4 ≤ j
                 · rw [if_pos (by omega), if_neg (by omega), if_pos (by omega)]; congr 1; omega
                 · rw [if_neg (by omega), if_pos (by omega), if_pos (by omega)]; congr 1; omega
         · rw [if_neg e0, if_neg (by omega), if_neg (by omega), if_neg (by omega), if_neg (by omega), if_neg (by omega)])
  · try simp (disch := omega) only [tp1, zI_n, zI_o, zI_lit, zI_neg, zI_add, zI_sub, zI_mul, zI_lt, zI_le, zI_eq, zI_clamp, zI_in, zI_div, zI_rem, lg_lt0, lg_gt0, lg_eq0, lg_le0, lg_ge0, Int.toNat_natCast, ge_iff_le, gt_iff_lt, List.length_cons, List.length_nil, bl_up2_at, bl_up2_nk, bl_up2_nx] at h7
    first
    | (exfalso; first | omega | exact h7 trivial)
    | (refine ⟨(fun h => by cases h), ?_⟩
       try show _ ∧ _
       try dsimp only [bl_pv]
       exact Or.inl ⟨by omega, rfl, rfl⟩)
end TAPE6
