/-! ===== Tape: clauses, kitchens ===== -/
def cLo (c : Nat) : Nat := ([2, 2, 0, 1, 0, 0, 0, 0, 0] : List Nat).getD c 0
def cHi (c : Nat) : Nat := ([12, 12, 3, 9999, 40, 40, 40, 99, 23] : List Nat).getD c 0
/-- values told, the room as told -/
abbrev kst : Type := (Nat → Int32) × (Nat → Int32)
def up1 {α : Type} (f : Nat → α) (k : Nat) (v : α) : Nat → α := fun j => if j = k then v else f j
def pcl (B : Nat → Int32) (n c : Nat) (S : kst) (i : Nat) : pr (kst × Nat) :=
  if c = 0 then pbd (pnum B n 2 12 i) fun a => pbd (pnum B n 2 12 a.2) fun b => pbd (pnum B n 0 (min 3 ((min a.1 b.1 - 1) / 2)) b.2) fun r => .inl ((up1 (up1 (up1 S.1 0 (nI a.1)) 1 (nI b.1)) 2 (nI r.1), S.2), r.2)
  else if c = 9 then pbd (pnum B n 0 23 i) fun a => pbd (pnum B n 0 40 a.2) fun b => .inl ((S.1, up1 S.2 a.1 (nI b.1)), b.2)
  else pbd (pnum B n (cLo c) (cHi c) i) fun a => .inl ((up1 S.1 c (nI a.1), S.2), a.2)
def pkit (B : Nat → Int32) (n : Nat) : Nat → Nat → kst → Nat → pr kst
  | 0, _, _, _ => .inr (0, 0)
  | f + 1, c, S, i => if n ≤ skB B n i then .inl S
    else if ckd B (skB B n i) (skW B n (skB B n i)) = zI (-1) then .inr (1, skB B n i)
    else if 30 ≤ c then .inr (3, skB B n i)
    else pbd (pcl B n (ckd B (skB B n i) (skW B n (skB B n i))).toNatClampNeg S (skW B n (skB B n i))) fun a => pbd (pend B n a.2) fun j => pkit B n f (c + 1) a.1 j
def kC (I : Nat → Nat → Int32) (a : Nat) (S : kst) : Prop := (∀ k, k < 9 → I (a + 1) k = S.1 k) ∧ ∀ k, k < 24 → I (a + 2) k = S.2 k
theorem pcl_le {B : Nat → Int32} {n c : Nat} {S : kst} {i : Nat} (h : i ≤ n) {S' : kst} {j : Nat} (hp : pcl B n c S i = .inl (S', j)) : j ≤ n := by
  unfold pcl at hp
  split at hp
  · cases h1 : pnum B n 2 12 i with
    | inr f => rw [h1] at hp; cases hp
    | inl a =>
      rw [h1] at hp
      obtain ⟨a1, a2⟩ := a
      have := (pnum_le h h1).1
      simp only [pbd] at hp
      cases h2 : pnum B n 2 12 a2 with
      | inr f => rw [h2] at hp; cases hp
      | inl b =>
        rw [h2] at hp
        obtain ⟨b1, b2⟩ := b
        have := (pnum_le this h2).1
        simp only at hp
        cases h3 : pnum B n 0 (min 3 ((min a1 b1 - 1) / 2)) b2 with
        | inr f => rw [h3] at hp; cases hp
        | inl r =>
          rw [h3] at hp
          obtain ⟨r1, r2⟩ := r
          cases hp
          exact (pnum_le this h3).1
  · split at hp
    · cases h1 : pnum B n 0 23 i with
      | inr f => rw [h1] at hp; cases hp
      | inl a =>
        rw [h1] at hp
        obtain ⟨a1, a2⟩ := a
        have := (pnum_le h h1).1
        simp only [pbd] at hp
        cases h2 : pnum B n 0 40 a2 with
        | inr f => rw [h2] at hp; cases hp
        | inl b =>
          rw [h2] at hp
          obtain ⟨b1, b2⟩ := b
          cases hp
          exact (pnum_le this h2).1
    · cases h1 : pnum B n (cLo c) (cHi c) i with
      | inr f => rw [h1] at hp; cases hp
      | inl a =>
        rw [h1] at hp
        obtain ⟨a1, a2⟩ := a
        cases hp
        exact (pnum_le h h1).1
section TAPE3
variable {G : bl_G} {l : Launch} {d t a u1 u2 : Nat} {I : Nat → Nat → Int32} {J : Nat → Nat → Int64} {R : Nat → Nat → Option Nat} {K N : Nat → Nat} {h fk fp wa : Int32} {n i : Nat} {S : kst}
theorem c_Tape_readRoom (ht : tpS R K N t) (ha : kiS R K N a) (hat : a + 3 < t ∨ t + 1 < a) (hC : kC I a S) (hn : n ≤ 400) (hi : i ≤ n) : bl_MC G l (d + 2) mX8_readRoom [.ref t, .ref a] (tpI I t h fk fp (nI n) (nI i) wa, J, R, K, N) (0, 0) (fun o σ' => (∃ S' j I', pcl (I (t + 1)) n 9 S i = .inl (S', j) ∧ o = .inl (some (.int 1)) ∧ σ' = (tpI I' t h fk fp (nI n) (nI j) wa, J, R, K, N) ∧ (∀ x, x ≠ a + 1 → x ≠ a + 2 → I' x = I x) ∧ kC I' a S') ∨ (∃ k p a', pcl (I (t + 1)) n 9 S i = .inr (k, p) ∧ o = .inl (some (.int 0)) ∧ σ' = (tpI I t h (nI k) (nI p) (nI n) a' wa, J, R, K, N))) := by
  have kt := ht.2.1
  obtain ⟨-, ka, ra_0, ra_1, -, ⟨kav, nav⟩, ⟨kaq, naq⟩, -⟩ := ha
  have e9 : pcl (I (t + 1)) n 9 S i = pbd (pnum (I (t + 1)) n 0 23 i) fun a => pbd (pnum (I (t + 1)) n 0 40 a.2) fun b => .inl ((S.1, up1 S.2 a.1 (nI b.1)), b.2) := rfl
  rw [e9]
  refine bl_MC_intro (by decide +kernel) rfl (Nat.le_of_ble_eq_true rfl) ?_
  refine bl_go oX8_readRoom 80 [] rfl ?_
  refine ⟨rfl, rfl, kt, (Nat.le_of_ble_eq_true rfl), (0, 0), Nat.le_of_ble_eq_true rfl, Nat.le_of_ble_eq_true rfl, bl_MC_mono (c_Tape_readNumber (d := d) ht hn hi (lo := 0) (hi := 23) rfl rfl (by omega) (by omega)) (fun o4 σ4 q4 => ?_)⟩
  rcases q4 with ⟨v, e, p1, rfl, rfl⟩ | ⟨k, p, a', p1, rfl, rfl⟩
  · rw [p1]
    have hv := pnum_le hi p1
    have ev : (nI v).toNatClampNeg = v := nI_clamp (by omega)
    refine bl_go oX8_readRoom 80 [] rfl ?_
    refine ⟨fun h10 => ?_, fun h10 => ?_⟩
    · try simp (disch := omega) only [zI_n, zI_o, zI_lit, zI_neg, zI_add, zI_sub, zI_mul, zI_lt, zI_le, zI_eq, zI_clamp, zI_in, zI_div, zI_rem, lg_lt0, lg_gt0, lg_eq0, lg_le0, lg_ge0, Int.toNat_natCast, ge_iff_le, gt_iff_lt, List.length_cons, List.length_nil, bl_up2_at, bl_up2_nk, bl_up2_nx] at h10
      first
      | (exfalso; first | omega | exact h10 trivial)
      | (refine ⟨rfl, rfl, kt, (Nat.le_of_ble_eq_true rfl), (0, 0), Nat.le_of_ble_eq_true rfl, Nat.le_of_ble_eq_true rfl, bl_MC_mono (c_Tape_readNumber (d := d) ht hn hv.1 (lo := 0) (hi := 40) rfl rfl (by omega) (by omega)) (fun o19 σ19 q19 => ?_)⟩
         rcases q19 with ⟨v2, e2, p2, rfl, rfl⟩ | ⟨k, p, a', p2, rfl, rfl⟩
         · have hv2 := pnum_le hv.1 p2
           refine bl_go oX8_readRoom 80 [] rfl ?_
           refine ⟨fun h25 => ?_, fun h25 => ?_⟩
           · try simp (disch := omega) only [zI_n, zI_o, zI_lit, zI_neg, zI_add, zI_sub, zI_mul, zI_lt, zI_le, zI_eq, zI_clamp, zI_in, zI_div, zI_rem, lg_lt0, lg_gt0, lg_eq0, lg_le0, lg_ge0, Int.toNat_natCast, ge_iff_le, gt_iff_lt, List.length_cons, List.length_nil, bl_up2_at, bl_up2_nk, bl_up2_nx] at h25
             first
             | (exfalso; first | omega | exact h25 trivial)
             | (refine ⟨ka, _, bl_vs ra_1, kaq, (by first | exact (by rw [naq]; exact vp_in_nI (by omega) (by omega)) | ((try dsimp only [bl_pv]); show vp_in _ (N _); rw [naq]; simp (disch := omega) only [zI_n, zI_o, zI_lit, zI_neg, zI_add, zI_sub, zI_mul, zI_lt, zI_le, zI_eq, zI_clamp, zI_in, zI_div, zI_rem, lg_lt0, lg_gt0, lg_eq0, lg_le0, lg_ge0, Int.toNat_natCast, ge_iff_le, gt_iff_lt, List.length_cons, List.length_nil, bl_up2_at, bl_up2_nk, bl_up2_nx] <;> omega)), (fun _ => by first | exact Or.inl rfl | exact Or.inr rfl), ?_⟩
                try show _ ∧ _
                try dsimp only [bl_pv]
                first
                | exact Or.inr ⟨k, p, a', rfl, rfl, rfl⟩
                | exact Or.inr ⟨k, p, a', by simp only [pbd, p2], rfl, rfl⟩
                | (refine Or.inl ⟨(S.1, up1 S.2 v (nI v2)), e2, bl_up2 I (a + 2) v (nI v2), by simp only [pbd, p2], rfl, ?_, fun x x1 x2 => bl_up2_ne x2, ?_, ?_⟩
                   · rw [ev, tpI_up (by omega)]
                   · intro k hk; rw [bl_up2_ne (by omega)]; exact hC.1 k hk
                   · intro k hk
                     show _ = (if k = v then nI v2 else S.2 k)
                     by_cases e : k = v
                     · subst e; rw [bl_up2_at, if_pos rfl]
                     · rw [bl_up2_nk e, if_neg e]; exact hC.2 k hk))
           · try simp (disch := omega) only [zI_n, zI_o, zI_lit, zI_neg, zI_add, zI_sub, zI_mul, zI_lt, zI_le, zI_eq, zI_clamp, zI_in, zI_div, zI_rem, lg_lt0, lg_gt0, lg_eq0, lg_le0, lg_ge0, Int.toNat_natCast, ge_iff_le, gt_iff_lt, List.length_cons, List.length_nil, bl_up2_at, bl_up2_nk, bl_up2_nx] at h25
             first
             | (exfalso; first | omega | exact h25 trivial)
             | (refine ⟨(fun _ => by first | exact Or.inl rfl | exact Or.inr rfl), ?_⟩
                try show _ ∧ _
                try dsimp only [bl_pv]
                first
                | exact Or.inr ⟨k, p, a', rfl, rfl, rfl⟩
                | exact Or.inr ⟨k, p, a', by simp only [pbd, p2], rfl, rfl⟩
                | (refine Or.inl ⟨(S.1, up1 S.2 v (nI v2)), e2, bl_up2 I (a + 2) v (nI v2), by simp only [pbd, p2], rfl, ?_, fun x x1 x2 => bl_up2_ne x2, ?_, ?_⟩
                   · rw [ev, tpI_up (by omega)]
                   · intro k hk; rw [bl_up2_ne (by omega)]; exact hC.1 k hk
                   · intro k hk
                     show _ = (if k = v then nI v2 else S.2 k)
                     by_cases e : k = v
                     · subst e; rw [bl_up2_at, if_pos rfl]
                     · rw [bl_up2_nk e, if_neg e]; exact hC.2 k hk))
         · refine bl_go oX8_readRoom 80 [] rfl ?_
           refine ⟨fun h25 => ?_, fun h25 => ?_⟩
           · try simp (disch := omega) only [zI_n, zI_o, zI_lit, zI_neg, zI_add, zI_sub, zI_mul, zI_lt, zI_le, zI_eq, zI_clamp, zI_in, zI_div, zI_rem, lg_lt0, lg_gt0, lg_eq0, lg_le0, lg_ge0, Int.toNat_natCast, ge_iff_le, gt_iff_lt, List.length_cons, List.length_nil, bl_up2_at, bl_up2_nk, bl_up2_nx] at h25
             first
             | (exfalso; first | omega | exact h25 trivial)
             | (refine ⟨ka, _, bl_vs ra_1, kaq, (by first | exact (by rw [naq]; exact vp_in_nI (by omega) (by omega)) | ((try dsimp only [bl_pv]); show vp_in _ (N _); rw [naq]; simp (disch := omega) only [zI_n, zI_o, zI_lit, zI_neg, zI_add, zI_sub, zI_mul, zI_lt, zI_le, zI_eq, zI_clamp, zI_in, zI_div, zI_rem, lg_lt0, lg_gt0, lg_eq0, lg_le0, lg_ge0, Int.toNat_natCast, ge_iff_le, gt_iff_lt, List.length_cons, List.length_nil, bl_up2_at, bl_up2_nk, bl_up2_nx] <;> omega)), (fun _ => by first | exact Or.inl rfl | exact Or.inr rfl), ?_⟩
                try show _ ∧ _
                try dsimp only [bl_pv]
                first
                | exact Or.inr ⟨k, p, a', rfl, rfl, rfl⟩
                | exact Or.inr ⟨k, p, a', by simp only [pbd, p2], rfl, rfl⟩
                | (refine Or.inl ⟨(S.1, up1 S.2 v (nI v2)), e2, bl_up2 I (a + 2) v (nI v2), by simp only [pbd, p2], rfl, ?_, fun x x1 x2 => bl_up2_ne x2, ?_, ?_⟩
                   · rw [ev, tpI_up (by omega)]
                   · intro k hk; rw [bl_up2_ne (by omega)]; exact hC.1 k hk
                   · intro k hk
                     show _ = (if k = v then nI v2 else S.2 k)
                     by_cases e : k = v
                     · subst e; rw [bl_up2_at, if_pos rfl]
                     · rw [bl_up2_nk e, if_neg e]; exact hC.2 k hk))
           · try simp (disch := omega) only [zI_n, zI_o, zI_lit, zI_neg, zI_add, zI_sub, zI_mul, zI_lt, zI_le, zI_eq, zI_clamp, zI_in, zI_div, zI_rem, lg_lt0, lg_gt0, lg_eq0, lg_le0, lg_ge0, Int.toNat_natCast, ge_iff_le, gt_iff_lt, List.length_cons, List.length_nil, bl_up2_at, bl_up2_nk, bl_up2_nx] at h25
             first
             | (exfalso; first | omega | exact h25 trivial)
             | (refine ⟨(fun _ => by first | exact Or.inl rfl | exact Or.inr rfl), ?_⟩
                try show _ ∧ _
                try dsimp only [bl_pv]
                first
                | exact Or.inr ⟨k, p, a', rfl, rfl, rfl⟩
                | exact Or.inr ⟨k, p, a', by simp only [pbd, p2], rfl, rfl⟩
                | (refine Or.inl ⟨(S.1, up1 S.2 v (nI v2)), e2, bl_up2 I (a + 2) v (nI v2), by simp only [pbd, p2], rfl, ?_, fun x x1 x2 => bl_up2_ne x2, ?_, ?_⟩
                   · rw [ev, tpI_up (by omega)]
                   · intro k hk; rw [bl_up2_ne (by omega)]; exact hC.1 k hk
                   · intro k hk
                     show _ = (if k = v then nI v2 else S.2 k)
                     by_cases e : k = v
                     · subst e; rw [bl_up2_at, if_pos rfl]
                     · rw [bl_up2_nk e, if_neg e]; exact hC.2 k hk)))
    · try simp (disch := omega) only [zI_n, zI_o, zI_lit, zI_neg, zI_add, zI_sub, zI_mul, zI_lt, zI_le, zI_eq, zI_clamp, zI_in, zI_div, zI_rem, lg_lt0, lg_gt0, lg_eq0, lg_le0, lg_ge0, Int.toNat_natCast, ge_iff_le, gt_iff_lt, List.length_cons, List.length_nil, bl_up2_at, bl_up2_nk, bl_up2_nx] at h10
      first
      | (exfalso; first | omega | exact h10 trivial)
      | (refine ⟨(fun _ => by first | exact Or.inl rfl | exact Or.inr rfl), ?_⟩
         try show _ ∧ _
         try dsimp only [bl_pv]
         first
         | exact Or.inr ⟨k, p, a', rfl, rfl, rfl⟩
         | exact Or.inr ⟨k, p, a', by simp only [pbd, p2], rfl, rfl⟩
         | (refine Or.inl ⟨(S.1, up1 S.2 v (nI v2)), e2, bl_up2 I (a + 2) v (nI v2), by simp only [pbd, p2], rfl, ?_, fun x x1 x2 => bl_up2_ne x2, ?_, ?_⟩
            · rw [ev, tpI_up (by omega)]
            · intro k hk; rw [bl_up2_ne (by omega)]; exact hC.1 k hk
            · intro k hk
              show _ = (if k = v then nI v2 else S.2 k)
              by_cases e : k = v
              · subst e; rw [bl_up2_at, if_pos rfl]
              · rw [bl_up2_nk e, if_neg e]; exact hC.2 k hk))
  · rw [p1]
    refine bl_go oX8_readRoom 80 [] rfl ?_
    refine ⟨fun h10 => ?_, fun h10 => ?_⟩
    · try simp (disch := omega) only [zI_n, zI_o, zI_lit, zI_neg, zI_add, zI_sub, zI_mul, zI_lt, zI_le, zI_eq, zI_clamp, zI_in, zI_div, zI_rem, lg_lt0, lg_gt0, lg_eq0, lg_le0, lg_ge0, Int.toNat_natCast, ge_iff_le, gt_iff_lt, List.length_cons, List.length_nil, bl_up2_at, bl_up2_nk, bl_up2_nx] at h10
      first
      | (exfalso; first | omega | exact h10 trivial)
      | (refine ⟨rfl, rfl, kt, (Nat.le_of_ble_eq_true rfl), (0, 0), Nat.le_of_ble_eq_true rfl, Nat.le_of_ble_eq_true rfl, bl_MC_mono (c_Tape_readNumber (d := d) ht hn hv.1 (lo := 0) (hi := 40) rfl rfl (by omega) (by omega)) (fun o19 σ19 q19 => ?_)⟩
         rcases q19 with ⟨v2, e2, p2, rfl, rfl⟩ | ⟨k, p, a', p2, rfl, rfl⟩
         · have hv2 := pnum_le hv.1 p2
           refine bl_go oX8_readRoom 80 [] rfl ?_
           refine ⟨fun h25 => ?_, fun h25 => ?_⟩
           · try simp (disch := omega) only [zI_n, zI_o, zI_lit, zI_neg, zI_add, zI_sub, zI_mul, zI_lt, zI_le, zI_eq, zI_clamp, zI_in, zI_div, zI_rem, lg_lt0, lg_gt0, lg_eq0, lg_le0, lg_ge0, Int.toNat_natCast, ge_iff_le, gt_iff_lt, List.length_cons, List.length_nil, bl_up2_at, bl_up2_nk, bl_up2_nx] at h25
             first
             | (exfalso; first | omega | exact h25 trivial)
             | (refine ⟨ka, _, bl_vs ra_1, kaq, (by first | exact (by rw [naq]; exact vp_in_nI (by omega) (by omega)) | ((try dsimp only [bl_pv]); show vp_in _ (N _); rw [naq]; simp (disch := omega) only [zI_n, zI_o, zI_lit, zI_neg, zI_add, zI_sub, zI_mul, zI_lt, zI_le, zI_eq, zI_clamp, zI_in, zI_div, zI_rem, lg_lt0, lg_gt0, lg_eq0, lg_le0, lg_ge0, Int.toNat_natCast, ge_iff_le, gt_iff_lt, List.length_cons, List.length_nil, bl_up2_at, bl_up2_nk, bl_up2_nx] <;> omega)), (fun _ => by first | exact Or.inl rfl | exact Or.inr rfl), ?_⟩
                try show _ ∧ _
                try dsimp only [bl_pv]
                first
                | exact Or.inr ⟨k, p, a', rfl, rfl, rfl⟩
                | exact Or.inr ⟨k, p, a', by simp only [pbd, p2], rfl, rfl⟩
                | (refine Or.inl ⟨(S.1, up1 S.2 v (nI v2)), e2, bl_up2 I (a + 2) v (nI v2), by simp only [pbd, p2], rfl, ?_, fun x x1 x2 => bl_up2_ne x2, ?_, ?_⟩
                   · rw [ev, tpI_up (by omega)]
                   · intro k hk; rw [bl_up2_ne (by omega)]; exact hC.1 k hk
                   · intro k hk
                     show _ = (if k = v then nI v2 else S.2 k)
                     by_cases e : k = v
                     · subst e; rw [bl_up2_at, if_pos rfl]
                     · rw [bl_up2_nk e, if_neg e]; exact hC.2 k hk))
           · try simp (disch := omega) only [zI_n, zI_o, zI_lit, zI_neg, zI_add, zI_sub, zI_mul, zI_lt, zI_le, zI_eq, zI_clamp, zI_in, zI_div, zI_rem, lg_lt0, lg_gt0, lg_eq0, lg_le0, lg_ge0, Int.toNat_natCast, ge_iff_le, gt_iff_lt, List.length_cons, List.length_nil, bl_up2_at, bl_up2_nk, bl_up2_nx] at h25
             first
             | (exfalso; first | omega | exact h25 trivial)
             | (refine ⟨(fun _ => by first | exact Or.inl rfl | exact Or.inr rfl), ?_⟩
                try show _ ∧ _
                try dsimp only [bl_pv]
                first
                | exact Or.inr ⟨k, p, a', rfl, rfl, rfl⟩
                | exact Or.inr ⟨k, p, a', by simp only [pbd, p2], rfl, rfl⟩
                | (refine Or.inl ⟨(S.1, up1 S.2 v (nI v2)), e2, bl_up2 I (a + 2) v (nI v2), by simp only [pbd, p2], rfl, ?_, fun x x1 x2 => bl_up2_ne x2, ?_, ?_⟩
                   · rw [ev, tpI_up (by omega)]
                   · intro k hk; rw [bl_up2_ne (by omega)]; exact hC.1 k hk
                   · intro k hk
                     show _ = (if k = v then nI v2 else S.2 k)
                     by_cases e : k = v
                     · subst e; rw [bl_up2_at, if_pos rfl]
                     · rw [bl_up2_nk e, if_neg e]; exact hC.2 k hk))
         · refine bl_go oX8_readRoom 80 [] rfl ?_
           refine ⟨fun h25 => ?_, fun h25 => ?_⟩
           · try simp (disch := omega) only [zI_n, zI_o, zI_lit, zI_neg, zI_add, zI_sub, zI_mul, zI_lt, zI_le, zI_eq, zI_clamp, zI_in, zI_div, zI_rem, lg_lt0, lg_gt0, lg_eq0, lg_le0, lg_ge0, Int.toNat_natCast, ge_iff_le, gt_iff_lt, List.length_cons, List.length_nil, bl_up2_at, bl_up2_nk, bl_up2_nx] at h25
             first
             | (exfalso; first | omega | exact h25 trivial)
             | (refine ⟨ka, _, bl_vs ra_1, kaq, (by first | exact (by rw [naq]; exact vp_in_nI (by omega) (by omega)) | ((try dsimp only [bl_pv]); show vp_in _ (N _); rw [naq]; simp (disch := omega) only [zI_n, zI_o, zI_lit, zI_neg, zI_add, zI_sub, zI_mul, zI_lt, zI_le, zI_eq, zI_clamp, zI_in, zI_div, zI_rem, lg_lt0, lg_gt0, lg_eq0, lg_le0, lg_ge0, Int.toNat_natCast, ge_iff_le, gt_iff_lt, List.length_cons, List.length_nil, bl_up2_at, bl_up2_nk, bl_up2_nx] <;> omega)), (fun _ => by first | exact Or.inl rfl | exact Or.inr rfl), ?_⟩
                try show _ ∧ _
                try dsimp only [bl_pv]
                first
                | exact Or.inr ⟨k, p, a', rfl, rfl, rfl⟩
                | exact Or.inr ⟨k, p, a', by simp only [pbd, p2], rfl, rfl⟩
                | (refine Or.inl ⟨(S.1, up1 S.2 v (nI v2)), e2, bl_up2 I (a + 2) v (nI v2), by simp only [pbd, p2], rfl, ?_, fun x x1 x2 => bl_up2_ne x2, ?_, ?_⟩
                   · rw [ev, tpI_up (by omega)]
                   · intro k hk; rw [bl_up2_ne (by omega)]; exact hC.1 k hk
                   · intro k hk
                     show _ = (if k = v then nI v2 else S.2 k)
                     by_cases e : k = v
                     · subst e; rw [bl_up2_at, if_pos rfl]
                     · rw [bl_up2_nk e, if_neg e]; exact hC.2 k hk))
           · try simp (disch := omega) only [zI_n, zI_o, zI_lit, zI_neg, zI_add, zI_sub, zI_mul, zI_lt, zI_le, zI_eq, zI_clamp, zI_in, zI_div, zI_rem, lg_lt0, lg_gt0, lg_eq0, lg_le0, lg_ge0, Int.toNat_natCast, ge_iff_le, gt_iff_lt, List.length_cons, List.length_nil, bl_up2_at, bl_up2_nk, bl_up2_nx] at h25
             first
             | (exfalso; first | omega | exact h25 trivial)
             | (refine ⟨(fun _ => by first | exact Or.inl rfl | exact Or.inr rfl), ?_⟩
                try show _ ∧ _
                try dsimp only [bl_pv]
                first
                | exact Or.inr ⟨k, p, a', rfl, rfl, rfl⟩
                | exact Or.inr ⟨k, p, a', by simp only [pbd, p2], rfl, rfl⟩
                | (refine Or.inl ⟨(S.1, up1 S.2 v (nI v2)), e2, bl_up2 I (a + 2) v (nI v2), by simp only [pbd, p2], rfl, ?_, fun x x1 x2 => bl_up2_ne x2, ?_, ?_⟩
                   · rw [ev, tpI_up (by omega)]
                   · intro k hk; rw [bl_up2_ne (by omega)]; exact hC.1 k hk
                   · intro k hk
                     show _ = (if k = v then nI v2 else S.2 k)
                     by_cases e : k = v
                     · subst e; rw [bl_up2_at, if_pos rfl]
                     · rw [bl_up2_nk e, if_neg e]; exact hC.2 k hk)))
    · try simp (disch := omega) only [zI_n, zI_o, zI_lit, zI_neg, zI_add, zI_sub, zI_mul, zI_lt, zI_le, zI_eq, zI_clamp, zI_in, zI_div, zI_rem, lg_lt0, lg_gt0, lg_eq0, lg_le0, lg_ge0, Int.toNat_natCast, ge_iff_le, gt_iff_lt, List.length_cons, List.length_nil, bl_up2_at, bl_up2_nk, bl_up2_nx] at h10
      first
      | (exfalso; first | omega | exact h10 trivial)
      | (refine ⟨(fun _ => by first | exact Or.inl rfl | exact Or.inr rfl), ?_⟩
         try show _ ∧ _
         try dsimp only [bl_pv]
         first
         | exact Or.inr ⟨k, p, a', rfl, rfl, rfl⟩
         | exact Or.inr ⟨k, p, a', by simp only [pbd, p2], rfl, rfl⟩
         | (refine Or.inl ⟨(S.1, up1 S.2 v (nI v2)), e2, bl_up2 I (a + 2) v (nI v2), by simp only [pbd, p2], rfl, ?_, fun x x1 x2 => bl_up2_ne x2, ?_, ?_⟩
            · rw [ev, tpI_up (by omega)]
            · intro k hk; rw [bl_up2_ne (by omega)]; exact hC.1 k hk
            · intro k hk
              show _ = (if k = v then nI v2 else S.2 k)
              by_cases e : k = v
              · subst e; rw [bl_up2_at, if_pos rfl]
              · rw [bl_up2_nk e, if_neg e]; exact hC.2 k hk))
theorem c_Tape_readSlab (ht : tpS R K N t) (ha : kiS R K N a) (hat : a + 3 < t ∨ t + 1 < a) (ku1 : K u1 = 101) (ku2 : K u2 = 102) (hC : kC I a S) (hn : n ≤ 400) (hi : i ≤ n) : bl_MC G l (d + 2) mX8_readSlab [.ref t, .ref a] (tpI I t h fk fp (nI n) (nI i) wa, J, R, K, N) (0, 0) (fun o σ' => (∃ S' j I', pcl (I (t + 1)) n 0 S i = .inl (S', j) ∧ o = .inl (some (.int 1)) ∧ σ' = (tpI I' t h fk fp (nI n) (nI j) wa, J, R, K, N) ∧ (∀ x, x ≠ a + 1 → x ≠ a + 2 → I' x = I x) ∧ kC I' a S') ∨ (∃ k p a', pcl (I (t + 1)) n 0 S i = .inr (k, p) ∧ o = .inl (some (.int 0)) ∧ σ' = (tpI I t h (nI k) (nI p) (nI n) a' wa, J, R, K, N))) := by
  have kt := ht.2.1
  obtain ⟨-, ka, ra_0, ra_1, -, ⟨kav, nav⟩, ⟨kaq, naq⟩, -⟩ := ha
  have e9 : pcl (I (t + 1)) n 0 S i = pbd (pnum (I (t + 1)) n 2 12 i) fun a => pbd (pnum (I (t + 1)) n 2 12 a.2) fun b => pbd (pnum (I (t + 1)) n 0 (min 3 ((min a.1 b.1 - 1) / 2)) b.2) fun r => .inl ((up1 (up1 (up1 S.1 0 (nI a.1)) 1 (nI b.1)) 2 (nI r.1), S.2), r.2) := rfl
  rw [e9]
  refine bl_MC_intro (by decide +kernel) rfl (Nat.le_of_ble_eq_true rfl) ?_
  refine bl_go oX8_readSlab 80 [] rfl ?_
  refine ⟨u1, ku1, Or.inr (Or.inl ⟨1, _, rfl, ku1, (by show vp_in _ 9; simp (disch := omega) only [zI_n, zI_o, zI_lit, zI_neg, zI_add, zI_sub, zI_mul, zI_lt, zI_le, zI_eq, zI_clamp, zI_in, zI_div, zI_rem, lg_lt0, lg_gt0, lg_eq0, lg_le0, lg_ge0, Int.toNat_natCast, ge_iff_le, gt_iff_lt, List.length_cons, List.length_nil, bl_up2_at, bl_up2_nk, bl_up2_nx] <;> omega), u2, ku2, Or.inr (Or.inl ⟨2, _, rfl, ku2, (by show vp_in _ 9; simp (disch := omega) only [zI_n, zI_o, zI_lit, zI_neg, zI_add, zI_sub, zI_mul, zI_lt, zI_le, zI_eq, zI_clamp, zI_in, zI_div, zI_rem, lg_lt0, lg_gt0, lg_eq0, lg_le0, lg_ge0, Int.toNat_natCast, ge_iff_le, gt_iff_lt, List.length_cons, List.length_nil, bl_up2_at, bl_up2_nk, bl_up2_nx] <;> omega), rfl, rfl, kt, (Nat.le_of_ble_eq_true rfl), (0, 0), Nat.le_of_ble_eq_true rfl, Nat.le_of_ble_eq_true rfl, bl_MC_mono (c_Tape_readNumber (d := d) ht hn hi (lo := 2) (hi := 12) rfl rfl (by omega) (by omega)) (fun o11 σ11 q11 => ?_)⟩)⟩)⟩
  rcases q11 with ⟨v, e, p1, rfl, rfl⟩ | ⟨k, p, a', p1, rfl, rfl⟩
  · rw [p1]
    have hv := pnum_le hi p1
    refine bl_go oX8_readSlab 80 [] rfl ?_
    refine ⟨fun h17 => ?_, fun h17 => ?_⟩
    · try simp (disch := omega) only [zI_n, zI_o, zI_lit, zI_neg, zI_add, zI_sub, zI_mul, zI_lt, zI_le, zI_eq, zI_clamp, zI_in, zI_div, zI_rem, lg_lt0, lg_gt0, lg_eq0, lg_le0, lg_ge0, Int.toNat_natCast, ge_iff_le, gt_iff_lt, List.length_cons, List.length_nil, bl_up2_at, bl_up2_nk, bl_up2_nx] at h17
      first
      | (exfalso; first | omega | exact h17 trivial)
      | (refine ⟨u1, ku1, Or.inr (Or.inl ⟨1, _, rfl, ku1, (by show vp_in _ 9; simp (disch := omega) only [zI_n, zI_o, zI_lit, zI_neg, zI_add, zI_sub, zI_mul, zI_lt, zI_le, zI_eq, zI_clamp, zI_in, zI_div, zI_rem, lg_lt0, lg_gt0, lg_eq0, lg_le0, lg_ge0, Int.toNat_natCast, ge_iff_le, gt_iff_lt, List.length_cons, List.length_nil, bl_up2_at, bl_up2_nk, bl_up2_nx] <;> omega), u2, ku2, Or.inr (Or.inl ⟨2, _, rfl, ku2, (by show vp_in _ 9; simp (disch := omega) only [zI_n, zI_o, zI_lit, zI_neg, zI_add, zI_sub, zI_mul, zI_lt, zI_le, zI_eq, zI_clamp, zI_in, zI_div, zI_rem, lg_lt0, lg_gt0, lg_eq0, lg_le0, lg_ge0, Int.toNat_natCast, ge_iff_le, gt_iff_lt, List.length_cons, List.length_nil, bl_up2_at, bl_up2_nk, bl_up2_nx] <;> omega), rfl, rfl, kt, (Nat.le_of_ble_eq_true rfl), (0, 0), Nat.le_of_ble_eq_true rfl, Nat.le_of_ble_eq_true rfl, bl_MC_mono (c_Tape_readNumber (d := d) ht hn hv.1 (lo := 2) (hi := 12) rfl rfl (by omega) (by omega)) (fun o33 σ33 q33 => ?_)⟩)⟩)⟩
         rcases q33 with ⟨v2, e2, p2, rfl, rfl⟩ | ⟨k, p, a', p2, rfl, rfl⟩
         · have hv2 := pnum_le hv.1 p2
           have ew : (if nI v2 < nI v then nI v2 else nI v) = nI (min v v2) := by
             by_cases hb : v2 < v
             · rw [if_pos (nI_lt hb (by omega)), show min v v2 = v2 by omega]
             · rw [if_neg (nI_nlt (by omega) (by omega)), show min v v2 = v by omega]
           have ew2 : (nI (min v v2) - 1) / 2 = nI ((min v v2 - 1) / 2) := by
             have h2 : 2 ≤ min v v2 ∧ min v v2 ≤ 12 := by omega
             generalize min v v2 = m at *
             simp (disch := omega) only [zI_n, zI_o, zI_lit, zI_neg, zI_add, zI_sub, zI_mul, zI_lt, zI_le, zI_eq, zI_clamp, zI_in, zI_div, zI_rem, lg_lt0, lg_gt0, lg_eq0, lg_le0, lg_ge0, Int.toNat_natCast, ge_iff_le, gt_iff_lt, List.length_cons, List.length_nil, bl_up2_at, bl_up2_nk, bl_up2_nx]
             omega
           have ew3 : (if nI ((min v v2 - 1) / 2) < (3 : Int32) then nI ((min v v2 - 1) / 2) else (3 : Int32)) = nI (min 3 ((min v v2 - 1) / 2)) := by
             generalize hw : (min v v2 - 1) / 2 = w
             show (if nI w < nI 3 then nI w else nI 3) = _
             by_cases hb : w < 3
             · rw [if_pos (nI_lt hb (by omega)), show min 3 w = w by omega]
             · rw [if_neg (nI_nlt (by omega) (by omega)), show min 3 w = 3 by omega]
           refine bl_go oX8_readSlab 80 [] rfl ?_
           refine ⟨fun h39 => ?_, fun h39 => ?_⟩
           · try simp (disch := omega) only [zI_n, zI_o, zI_lit, zI_neg, zI_add, zI_sub, zI_mul, zI_lt, zI_le, zI_eq, zI_clamp, zI_in, zI_div, zI_rem, lg_lt0, lg_gt0, lg_eq0, lg_le0, lg_ge0, Int.toNat_natCast, ge_iff_le, gt_iff_lt, List.length_cons, List.length_nil, bl_up2_at, bl_up2_nk, bl_up2_nx] at h39
             first
             | (exfalso; first | omega | exact h39 trivial)
             | (refine ⟨(Nat.le_of_ble_eq_true rfl), (by decide), u1, ku1, Or.inr (Or.inl ⟨1, _, rfl, ku1, (by show vp_in _ 9; simp (disch := omega) only [zI_n, zI_o, zI_lit, zI_neg, zI_add, zI_sub, zI_mul, zI_lt, zI_le, zI_eq, zI_clamp, zI_in, zI_div, zI_rem, lg_lt0, lg_gt0, lg_eq0, lg_le0, lg_ge0, Int.toNat_natCast, ge_iff_le, gt_iff_lt, List.length_cons, List.length_nil, bl_up2_at, bl_up2_nk, bl_up2_nx] <;> omega), u2, ku2, Or.inr (Or.inl ⟨2, _, rfl, ku2, (by show vp_in _ 9; simp (disch := omega) only [zI_n, zI_o, zI_lit, zI_neg, zI_add, zI_sub, zI_mul, zI_lt, zI_le, zI_eq, zI_clamp, zI_in, zI_div, zI_rem, lg_lt0, lg_gt0, lg_eq0, lg_le0, lg_ge0, Int.toNat_natCast, ge_iff_le, gt_iff_lt, List.length_cons, List.length_nil, bl_up2_at, bl_up2_nk, bl_up2_nx] <;> omega), (Nat.le_of_ble_eq_true rfl), rfl, rfl, kt, (Nat.le_of_ble_eq_true rfl), (0, 0), Nat.le_of_ble_eq_true rfl, Nat.le_of_ble_eq_true rfl, bl_MC_mono (c_Tape_readNumber (d := d) ht hn hv2.1 (lo := 0) (hi := min 3 ((min v v2 - 1) / 2)) rfl (ew3 ▸ ew2 ▸ ew ▸ rfl) (by omega) (by omega)) (fun o71 σ71 q71 => ?_)⟩)⟩)⟩
                rcases q71 with ⟨v3, e3, p3, rfl, rfl⟩ | ⟨k, p, a', p3, rfl, rfl⟩
                · have hv3 := pnum_le hv2.1 p3
                  refine bl_go oX8_readSlab 80 [] rfl ?_
                  refine ⟨fun h79 => ?_, fun h79 => ?_⟩
                  · try simp (disch := omega) only [zI_n, zI_o, zI_lit, zI_neg, zI_add, zI_sub, zI_mul, zI_lt, zI_le, zI_eq, zI_clamp, zI_in, zI_div, zI_rem, lg_lt0, lg_gt0, lg_eq0, lg_le0, lg_ge0, Int.toNat_natCast, ge_iff_le, gt_iff_lt, List.length_cons, List.length_nil, bl_up2_at, bl_up2_nk, bl_up2_nx] at h79
                    first
                    | (exfalso; first | omega | exact h79 trivial)
                    | (refine ⟨ka, _, bl_vs ra_0, kav, (by first | exact (by rw [nav]; exact vp_in_nI (by omega) (by omega)) | ((try dsimp only [bl_pv]); show vp_in _ (N _); rw [nav]; simp (disch := omega) only [zI_n, zI_o, zI_lit, zI_neg, zI_add, zI_sub, zI_mul, zI_lt, zI_le, zI_eq, zI_clamp, zI_in, zI_div, zI_rem, lg_lt0, lg_gt0, lg_eq0, lg_le0, lg_ge0, Int.toNat_natCast, ge_iff_le, gt_iff_lt, List.length_cons, List.length_nil, bl_up2_at, bl_up2_nk, bl_up2_nx] <;> omega)), ka, _, bl_vs ra_0, kav, (by first | exact (by rw [nav]; exact vp_in_nI (by omega) (by omega)) | ((try dsimp only [bl_pv]); show vp_in _ (N _); rw [nav]; simp (disch := omega) only [zI_n, zI_o, zI_lit, zI_neg, zI_add, zI_sub, zI_mul, zI_lt, zI_le, zI_eq, zI_clamp, zI_in, zI_div, zI_rem, lg_lt0, lg_gt0, lg_eq0, lg_le0, lg_ge0, Int.toNat_natCast, ge_iff_le, gt_iff_lt, List.length_cons, List.length_nil, bl_up2_at, bl_up2_nk, bl_up2_nx] <;> omega)), ka, _, bl_vs ra_0, kav, (by first | exact (by rw [nav]; exact vp_in_nI (by omega) (by omega)) | ((try dsimp only [bl_pv]); show vp_in _ (N _); rw [nav]; simp (disch := omega) only [zI_n, zI_o, zI_lit, zI_neg, zI_add, zI_sub, zI_mul, zI_lt, zI_le, zI_eq, zI_clamp, zI_in, zI_div, zI_rem, lg_lt0, lg_gt0, lg_eq0, lg_le0, lg_ge0, Int.toNat_natCast, ge_iff_le, gt_iff_lt, List.length_cons, List.length_nil, bl_up2_at, bl_up2_nk, bl_up2_nx] <;> omega)), (fun _ => by first | exact Or.inl rfl | exact Or.inr rfl), ?_⟩
                       try show _ ∧ _
                       try dsimp only [bl_pv]
                       first
                       | exact Or.inr ⟨k, p, a', rfl, rfl, rfl⟩
                       | (have hq := p3; exact Or.inr ⟨k, p, a', by simp only [pbd, p2, p3], rfl, rfl⟩)
                       | exact Or.inr ⟨k, p, a', by simp only [pbd, p2], rfl, rfl⟩
                       | (refine Or.inl ⟨(up1 (up1 (up1 S.1 0 (nI v)) 1 (nI v2)) 2 (nI v3), S.2), e3, bl_up2 (bl_up2 (bl_up2 I (a + 1) 0 (nI v)) (a + 1) 1 (nI v2)) (a + 1) 2 (nI v3), by simp only [pbd, p2, p3], rfl, ?_, fun x x1 x2 => ?_, ?_, ?_⟩
                          · rw [cl0, cl1, cl2, tpI_up (by omega), tpI_up (by omega), tpI_up (by omega)]
                          · rw [bl_up2_ne x1, bl_up2_ne x1, bl_up2_ne x1]
                          · intro k hk
                            show _ = (if k = 2 then nI v3 else if k = 1 then nI v2 else if k = 0 then nI v else S.1 k)
                            by_cases e2 : k = 2
                            · subst e2; rw [bl_up2_at, if_pos rfl]
                            · rw [bl_up2_nk e2, if_neg e2]
                              by_cases e1 : k = 1
                              · subst e1; rw [bl_up2_at, if_pos rfl]
                              · rw [bl_up2_nk e1, if_neg e1]
                                by_cases e0 : k = 0
                                · subst e0; rw [bl_up2_at, if_pos rfl]
                                · rw [bl_up2_nk e0, if_neg e0]; exact hC.1 k hk
                          · intro k hk; rw [bl_up2_ne (by omega), bl_up2_ne (by omega), bl_up2_ne (by omega)]; exact hC.2 k hk))
                  · try simp (disch := omega) only [zI_n, zI_o, zI_lit, zI_neg, zI_add, zI_sub, zI_mul, zI_lt, zI_le, zI_eq, zI_clamp, zI_in, zI_div, zI_rem, lg_lt0, lg_gt0, lg_eq0, lg_le0, lg_ge0, Int.toNat_natCast, ge_iff_le, gt_iff_lt, List.length_cons, List.length_nil, bl_up2_at, bl_up2_nk, bl_up2_nx] at h79
                    first
                    | (exfalso; first | omega | exact h79 trivial)
                    | (refine ⟨(fun _ => by first | exact Or.inl rfl | exact Or.inr rfl), ?_⟩
                       try show _ ∧ _
                       try dsimp only [bl_pv]
                       first
                       | exact Or.inr ⟨k, p, a', rfl, rfl, rfl⟩
                       | (have hq := p3; exact Or.inr ⟨k, p, a', by simp only [pbd, p2, p3], rfl, rfl⟩)
                       | exact Or.inr ⟨k, p, a', by simp only [pbd, p2], rfl, rfl⟩
                       | (refine Or.inl ⟨(up1 (up1 (up1 S.1 0 (nI v)) 1 (nI v2)) 2 (nI v3), S.2), e3, bl_up2 (bl_up2 (bl_up2 I (a + 1) 0 (nI v)) (a + 1) 1 (nI v2)) (a + 1) 2 (nI v3), by simp only [pbd, p2, p3], rfl, ?_, fun x x1 x2 => ?_, ?_, ?_⟩
                          · rw [cl0, cl1, cl2, tpI_up (by omega), tpI_up (by omega), tpI_up (by omega)]
                          · rw [bl_up2_ne x1, bl_up2_ne x1, bl_up2_ne x1]
                          · intro k hk
                            show _ = (if k = 2 then nI v3 else if k = 1 then nI v2 else if k = 0 then nI v else S.1 k)
                            by_cases e2 : k = 2
                            · subst e2; rw [bl_up2_at, if_pos rfl]
                            · rw [bl_up2_nk e2, if_neg e2]
                              by_cases e1 : k = 1
                              · subst e1; rw [bl_up2_at, if_pos rfl]
                              · rw [bl_up2_nk e1, if_neg e1]
                                by_cases e0 : k = 0
                                · subst e0; rw [bl_up2_at, if_pos rfl]
                                · rw [bl_up2_nk e0, if_neg e0]; exact hC.1 k hk
                          · intro k hk; rw [bl_up2_ne (by omega), bl_up2_ne (by omega), bl_up2_ne (by omega)]; exact hC.2 k hk))
                · refine bl_go oX8_readSlab 80 [] rfl ?_
                  refine ⟨fun h79 => ?_, fun h79 => ?_⟩
                  · try simp (disch := omega) only [zI_n, zI_o, zI_lit, zI_neg, zI_add, zI_sub, zI_mul, zI_lt, zI_le, zI_eq, zI_clamp, zI_in, zI_div, zI_rem, lg_lt0, lg_gt0, lg_eq0, lg_le0, lg_ge0, Int.toNat_natCast, ge_iff_le, gt_iff_lt, List.length_cons, List.length_nil, bl_up2_at, bl_up2_nk, bl_up2_nx] at h79
                    first
                    | (exfalso; first | omega | exact h79 trivial)
                    | (refine ⟨ka, _, bl_vs ra_0, kav, (by first | exact (by rw [nav]; exact vp_in_nI (by omega) (by omega)) | ((try dsimp only [bl_pv]); show vp_in _ (N _); rw [nav]; simp (disch := omega) only [zI_n, zI_o, zI_lit, zI_neg, zI_add, zI_sub, zI_mul, zI_lt, zI_le, zI_eq, zI_clamp, zI_in, zI_div, zI_rem, lg_lt0, lg_gt0, lg_eq0, lg_le0, lg_ge0, Int.toNat_natCast, ge_iff_le, gt_iff_lt, List.length_cons, List.length_nil, bl_up2_at, bl_up2_nk, bl_up2_nx] <;> omega)), ka, _, bl_vs ra_0, kav, (by first | exact (by rw [nav]; exact vp_in_nI (by omega) (by omega)) | ((try dsimp only [bl_pv]); show vp_in _ (N _); rw [nav]; simp (disch := omega) only [zI_n, zI_o, zI_lit, zI_neg, zI_add, zI_sub, zI_mul, zI_lt, zI_le, zI_eq, zI_clamp, zI_in, zI_div, zI_rem, lg_lt0, lg_gt0, lg_eq0, lg_le0, lg_ge0, Int.toNat_natCast, ge_iff_le, gt_iff_lt, List.length_cons, List.length_nil, bl_up2_at, bl_up2_nk, bl_up2_nx] <;> omega)), ka, _, bl_vs ra_0, kav, (by first | exact (by rw [nav]; exact vp_in_nI (by omega) (by omega)) | ((try dsimp only [bl_pv]); show vp_in _ (N _); rw [nav]; simp (disch := omega) only [zI_n, zI_o, zI_lit, zI_neg, zI_add, zI_sub, zI_mul, zI_lt, zI_le, zI_eq, zI_clamp, zI_in, zI_div, zI_rem, lg_lt0, lg_gt0, lg_eq0, lg_le0, lg_ge0, Int.toNat_natCast, ge_iff_le, gt_iff_lt, List.length_cons, List.length_nil, bl_up2_at, bl_up2_nk, bl_up2_nx] <;> omega)), (fun _ => by first | exact Or.inl rfl | exact Or.inr rfl), ?_⟩
                       try show _ ∧ _
                       try dsimp only [bl_pv]
                       first
                       | exact Or.inr ⟨k, p, a', rfl, rfl, rfl⟩
                       | (have hq := p3; exact Or.inr ⟨k, p, a', by simp only [pbd, p2, p3], rfl, rfl⟩)
                       | exact Or.inr ⟨k, p, a', by simp only [pbd, p2], rfl, rfl⟩
                       | (refine Or.inl ⟨(up1 (up1 (up1 S.1 0 (nI v)) 1 (nI v2)) 2 (nI v3), S.2), e3, bl_up2 (bl_up2 (bl_up2 I (a + 1) 0 (nI v)) (a + 1) 1 (nI v2)) (a + 1) 2 (nI v3), by simp only [pbd, p2, p3], rfl, ?_, fun x x1 x2 => ?_, ?_, ?_⟩
                          · rw [cl0, cl1, cl2, tpI_up (by omega), tpI_up (by omega), tpI_up (by omega)]
                          · rw [bl_up2_ne x1, bl_up2_ne x1, bl_up2_ne x1]
                          · intro k hk
                            show _ = (if k = 2 then nI v3 else if k = 1 then nI v2 else if k = 0 then nI v else S.1 k)
                            by_cases e2 : k = 2
                            · subst e2; rw [bl_up2_at, if_pos rfl]
                            · rw [bl_up2_nk e2, if_neg e2]
                              by_cases e1 : k = 1
                              · subst e1; rw [bl_up2_at, if_pos rfl]
                              · rw [bl_up2_nk e1, if_neg e1]
                                by_cases e0 : k = 0
                                · subst e0; rw [bl_up2_at, if_pos rfl]
                                · rw [bl_up2_nk e0, if_neg e0]; exact hC.1 k hk
                          · intro k hk; rw [bl_up2_ne (by omega), bl_up2_ne (by omega), bl_up2_ne (by omega)]; exact hC.2 k hk))
                  · try simp (disch := omega) only [zI_n, zI_o, zI_lit, zI_neg, zI_add, zI_sub, zI_mul, zI_lt, zI_le, zI_eq, zI_clamp, zI_in, zI_div, zI_rem, lg_lt0, lg_gt0, lg_eq0, lg_le0, lg_ge0, Int.toNat_natCast, ge_iff_le, gt_iff_lt, List.length_cons, List.length_nil, bl_up2_at, bl_up2_nk, bl_up2_nx] at h79
                    first
                    | (exfalso; first | omega | exact h79 trivial)
                    | (refine ⟨(fun _ => by first | exact Or.inl rfl | exact Or.inr rfl), ?_⟩
                       try show _ ∧ _
                       try dsimp only [bl_pv]
                       first
                       | exact Or.inr ⟨k, p, a', rfl, rfl, rfl⟩
                       | (have hq := p3; exact Or.inr ⟨k, p, a', by simp only [pbd, p2, p3], rfl, rfl⟩)
                       | exact Or.inr ⟨k, p, a', by simp only [pbd, p2], rfl, rfl⟩
                       | (refine Or.inl ⟨(up1 (up1 (up1 S.1 0 (nI v)) 1 (nI v2)) 2 (nI v3), S.2), e3, bl_up2 (bl_up2 (bl_up2 I (a + 1) 0 (nI v)) (a + 1) 1 (nI v2)) (a + 1) 2 (nI v3), by simp only [pbd, p2, p3], rfl, ?_, fun x x1 x2 => ?_, ?_, ?_⟩
                          · rw [cl0, cl1, cl2, tpI_up (by omega), tpI_up (by omega), tpI_up (by omega)]
                          · rw [bl_up2_ne x1, bl_up2_ne x1, bl_up2_ne x1]
                          · intro k hk
                            show _ = (if k = 2 then nI v3 else if k = 1 then nI v2 else if k = 0 then nI v else S.1 k)
                            by_cases e2 : k = 2
                            · subst e2; rw [bl_up2_at, if_pos rfl]
                            · rw [bl_up2_nk e2, if_neg e2]
                              by_cases e1 : k = 1
                              · subst e1; rw [bl_up2_at, if_pos rfl]
                              · rw [bl_up2_nk e1, if_neg e1]
                                by_cases e0 : k = 0
                                · subst e0; rw [bl_up2_at, if_pos rfl]
                                · rw [bl_up2_nk e0, if_neg e0]; exact hC.1 k hk
                          · intro k hk; rw [bl_up2_ne (by omega), bl_up2_ne (by omega), bl_up2_ne (by omega)]; exact hC.2 k hk)))
           · try simp (disch := omega) only [zI_n, zI_o, zI_lit, zI_neg, zI_add, zI_sub, zI_mul, zI_lt, zI_le, zI_eq, zI_clamp, zI_in, zI_div, zI_rem, lg_lt0, lg_gt0, lg_eq0, lg_le0, lg_ge0, Int.toNat_natCast, ge_iff_le, gt_iff_lt, List.length_cons, List.length_nil, bl_up2_at, bl_up2_nk, bl_up2_nx] at h39
             first
             | (exfalso; first | omega | exact h39 trivial)
             | (refine ⟨(fun _ => by first | exact Or.inl rfl | exact Or.inr rfl), ?_⟩
                try show _ ∧ _
                try dsimp only [bl_pv]
                first
                | exact Or.inr ⟨k, p, a', rfl, rfl, rfl⟩
                | (have hq := p3; exact Or.inr ⟨k, p, a', by simp only [pbd, p2, p3], rfl, rfl⟩)
                | exact Or.inr ⟨k, p, a', by simp only [pbd, p2], rfl, rfl⟩
                | (refine Or.inl ⟨(up1 (up1 (up1 S.1 0 (nI v)) 1 (nI v2)) 2 (nI v3), S.2), e3, bl_up2 (bl_up2 (bl_up2 I (a + 1) 0 (nI v)) (a + 1) 1 (nI v2)) (a + 1) 2 (nI v3), by simp only [pbd, p2, p3], rfl, ?_, fun x x1 x2 => ?_, ?_, ?_⟩
                   · rw [cl0, cl1, cl2, tpI_up (by omega), tpI_up (by omega), tpI_up (by omega)]
                   · rw [bl_up2_ne x1, bl_up2_ne x1, bl_up2_ne x1]
                   · intro k hk
                     show _ = (if k = 2 then nI v3 else if k = 1 then nI v2 else if k = 0 then nI v else S.1 k)
                     by_cases e2 : k = 2
                     · subst e2; rw [bl_up2_at, if_pos rfl]
                     · rw [bl_up2_nk e2, if_neg e2]
                       by_cases e1 : k = 1
                       · subst e1; rw [bl_up2_at, if_pos rfl]
                       · rw [bl_up2_nk e1, if_neg e1]
                         by_cases e0 : k = 0
                         · subst e0; rw [bl_up2_at, if_pos rfl]
                         · rw [bl_up2_nk e0, if_neg e0]; exact hC.1 k hk
                   · intro k hk; rw [bl_up2_ne (by omega), bl_up2_ne (by omega), bl_up2_ne (by omega)]; exact hC.2 k hk))
         · refine bl_go oX8_readSlab 80 [] rfl ?_
           refine ⟨fun h39 => ?_, fun h39 => ?_⟩
           · try simp (disch := omega) only [zI_n, zI_o, zI_lit, zI_neg, zI_add, zI_sub, zI_mul, zI_lt, zI_le, zI_eq, zI_clamp, zI_in, zI_div, zI_rem, lg_lt0, lg_gt0, lg_eq0, lg_le0, lg_ge0, Int.toNat_natCast, ge_iff_le, gt_iff_lt, List.length_cons, List.length_nil, bl_up2_at, bl_up2_nk, bl_up2_nx] at h39
             first
             | (exfalso; first | omega | exact h39 trivial)
             | (refine ⟨(Nat.le_of_ble_eq_true rfl), (by decide), u1, ku1, Or.inr (Or.inl ⟨1, _, rfl, ku1, (by show vp_in _ 9; simp (disch := omega) only [zI_n, zI_o, zI_lit, zI_neg, zI_add, zI_sub, zI_mul, zI_lt, zI_le, zI_eq, zI_clamp, zI_in, zI_div, zI_rem, lg_lt0, lg_gt0, lg_eq0, lg_le0, lg_ge0, Int.toNat_natCast, ge_iff_le, gt_iff_lt, List.length_cons, List.length_nil, bl_up2_at, bl_up2_nk, bl_up2_nx] <;> omega), u2, ku2, Or.inr (Or.inl ⟨2, _, rfl, ku2, (by show vp_in _ 9; simp (disch := omega) only [zI_n, zI_o, zI_lit, zI_neg, zI_add, zI_sub, zI_mul, zI_lt, zI_le, zI_eq, zI_clamp, zI_in, zI_div, zI_rem, lg_lt0, lg_gt0, lg_eq0, lg_le0, lg_ge0, Int.toNat_natCast, ge_iff_le, gt_iff_lt, List.length_cons, List.length_nil, bl_up2_at, bl_up2_nk, bl_up2_nx] <;> omega), (Nat.le_of_ble_eq_true rfl), rfl, rfl, kt, (Nat.le_of_ble_eq_true rfl), (0, 0), Nat.le_of_ble_eq_true rfl, Nat.le_of_ble_eq_true rfl, bl_MC_mono (c_Tape_readNumber (d := d) ht hn hv2.1 (lo := 0) (hi := min 3 ((min v v2 - 1) / 2)) rfl (ew3 ▸ ew2 ▸ ew ▸ rfl) (by omega) (by omega)) (fun o71 σ71 q71 => ?_)⟩)⟩)⟩
                rcases q71 with ⟨v3, e3, p3, rfl, rfl⟩ | ⟨k, p, a', p3, rfl, rfl⟩
                · have hv3 := pnum_le hv2.1 p3
                  refine bl_go oX8_readSlab 80 [] rfl ?_
                  refine ⟨fun h79 => ?_, fun h79 => ?_⟩
                  · try simp (disch := omega) only [zI_n, zI_o, zI_lit, zI_neg, zI_add, zI_sub, zI_mul, zI_lt, zI_le, zI_eq, zI_clamp, zI_in, zI_div, zI_rem, lg_lt0, lg_gt0, lg_eq0, lg_le0, lg_ge0, Int.toNat_natCast, ge_iff_le, gt_iff_lt, List.length_cons, List.length_nil, bl_up2_at, bl_up2_nk, bl_up2_nx] at h79
                    first
                    | (exfalso; first | omega | exact h79 trivial)
                    | (refine ⟨ka, _, bl_vs ra_0, kav, (by first | exact (by rw [nav]; exact vp_in_nI (by omega) (by omega)) | ((try dsimp only [bl_pv]); show vp_in _ (N _); rw [nav]; simp (disch := omega) only [zI_n, zI_o, zI_lit, zI_neg, zI_add, zI_sub, zI_mul, zI_lt, zI_le, zI_eq, zI_clamp, zI_in, zI_div, zI_rem, lg_lt0, lg_gt0, lg_eq0, lg_le0, lg_ge0, Int.toNat_natCast, ge_iff_le, gt_iff_lt, List.length_cons, List.length_nil, bl_up2_at, bl_up2_nk, bl_up2_nx] <;> omega)), ka, _, bl_vs ra_0, kav, (by first | exact (by rw [nav]; exact vp_in_nI (by omega) (by omega)) | ((try dsimp only [bl_pv]); show vp_in _ (N _); rw [nav]; simp (disch := omega) only [zI_n, zI_o, zI_lit, zI_neg, zI_add, zI_sub, zI_mul, zI_lt, zI_le, zI_eq, zI_clamp, zI_in, zI_div, zI_rem, lg_lt0, lg_gt0, lg_eq0, lg_le0, lg_ge0, Int.toNat_natCast, ge_iff_le, gt_iff_lt, List.length_cons, List.length_nil, bl_up2_at, bl_up2_nk, bl_up2_nx] <;> omega)), ka, _, bl_vs ra_0, kav, (by first | exact (by rw [nav]; exact vp_in_nI (by omega) (by omega)) | ((try dsimp only [bl_pv]); show vp_in _ (N _); rw [nav]; simp (disch := omega) only [zI_n, zI_o, zI_lit, zI_neg, zI_add, zI_sub, zI_mul, zI_lt, zI_le, zI_eq, zI_clamp, zI_in, zI_div, zI_rem, lg_lt0, lg_gt0, lg_eq0, lg_le0, lg_ge0, Int.toNat_natCast, ge_iff_le, gt_iff_lt, List.length_cons, List.length_nil, bl_up2_at, bl_up2_nk, bl_up2_nx] <;> omega)), (fun _ => by first | exact Or.inl rfl | exact Or.inr rfl), ?_⟩
                       try show _ ∧ _
                       try dsimp only [bl_pv]
                       first
                       | exact Or.inr ⟨k, p, a', rfl, rfl, rfl⟩
                       | (have hq := p3; exact Or.inr ⟨k, p, a', by simp only [pbd, p2, p3], rfl, rfl⟩)
                       | exact Or.inr ⟨k, p, a', by simp only [pbd, p2], rfl, rfl⟩
                       | (refine Or.inl ⟨(up1 (up1 (up1 S.1 0 (nI v)) 1 (nI v2)) 2 (nI v3), S.2), e3, bl_up2 (bl_up2 (bl_up2 I (a + 1) 0 (nI v)) (a + 1) 1 (nI v2)) (a + 1) 2 (nI v3), by simp only [pbd, p2, p3], rfl, ?_, fun x x1 x2 => ?_, ?_, ?_⟩
                          · rw [cl0, cl1, cl2, tpI_up (by omega), tpI_up (by omega), tpI_up (by omega)]
                          · rw [bl_up2_ne x1, bl_up2_ne x1, bl_up2_ne x1]
                          · intro k hk
                            show _ = (if k = 2 then nI v3 else if k = 1 then nI v2 else if k = 0 then nI v else S.1 k)
                            by_cases e2 : k = 2
                            · subst e2; rw [bl_up2_at, if_pos rfl]
                            · rw [bl_up2_nk e2, if_neg e2]
                              by_cases e1 : k = 1
                              · subst e1; rw [bl_up2_at, if_pos rfl]
                              · rw [bl_up2_nk e1, if_neg e1]
                                by_cases e0 : k = 0
                                · subst e0; rw [bl_up2_at, if_pos rfl]
                                · rw [bl_up2_nk e0, if_neg e0]; exact hC.1 k hk
                          · intro k hk; rw [bl_up2_ne (by omega), bl_up2_ne (by omega), bl_up2_ne (by omega)]; exact hC.2 k hk))
                  · try simp (disch := omega) only [zI_n, zI_o, zI_lit, zI_neg, zI_add, zI_sub, zI_mul, zI_lt, zI_le, zI_eq, zI_clamp, zI_in, zI_div, zI_rem, lg_lt0, lg_gt0, lg_eq0, lg_le0, lg_ge0, Int.toNat_natCast, ge_iff_le, gt_iff_lt, List.length_cons, List.length_nil, bl_up2_at, bl_up2_nk, bl_up2_nx] at h79
                    first
                    | (exfalso; first | omega | exact h79 trivial)
                    | (refine ⟨(fun _ => by first | exact Or.inl rfl | exact Or.inr rfl), ?_⟩
                       try show _ ∧ _
                       try dsimp only [bl_pv]
                       first
                       | exact Or.inr ⟨k, p, a', rfl, rfl, rfl⟩
                       | (have hq := p3; exact Or.inr ⟨k, p, a', by simp only [pbd, p2, p3], rfl, rfl⟩)
                       | exact Or.inr ⟨k, p, a', by simp only [pbd, p2], rfl, rfl⟩
                       | (refine Or.inl ⟨(up1 (up1 (up1 S.1 0 (nI v)) 1 (nI v2)) 2 (nI v3), S.2), e3, bl_up2 (bl_up2 (bl_up2 I (a + 1) 0 (nI v)) (a + 1) 1 (nI v2)) (a + 1) 2 (nI v3), by simp only [pbd, p2, p3], rfl, ?_, fun x x1 x2 => ?_, ?_, ?_⟩
                          · rw [cl0, cl1, cl2, tpI_up (by omega), tpI_up (by omega), tpI_up (by omega)]
                          · rw [bl_up2_ne x1, bl_up2_ne x1, bl_up2_ne x1]
                          · intro k hk
                            show _ = (if k = 2 then nI v3 else if k = 1 then nI v2 else if k = 0 then nI v else S.1 k)
                            by_cases e2 : k = 2
                            · subst e2; rw [bl_up2_at, if_pos rfl]
                            · rw [bl_up2_nk e2, if_neg e2]
                              by_cases e1 : k = 1
                              · subst e1; rw [bl_up2_at, if_pos rfl]
                              · rw [bl_up2_nk e1, if_neg e1]
                                by_cases e0 : k = 0
                                · subst e0; rw [bl_up2_at, if_pos rfl]
                                · rw [bl_up2_nk e0, if_neg e0]; exact hC.1 k hk
                          · intro k hk; rw [bl_up2_ne (by omega), bl_up2_ne (by omega), bl_up2_ne (by omega)]; exact hC.2 k hk))
                · refine bl_go oX8_readSlab 80 [] rfl ?_
                  refine ⟨fun h79 => ?_, fun h79 => ?_⟩
                  · try simp (disch := omega) only [zI_n, zI_o, zI_lit, zI_neg, zI_add, zI_sub, zI_mul, zI_lt, zI_le, zI_eq, zI_clamp, zI_in, zI_div, zI_rem, lg_lt0, lg_gt0, lg_eq0, lg_le0, lg_ge0, Int.toNat_natCast, ge_iff_le, gt_iff_lt, List.length_cons, List.length_nil, bl_up2_at, bl_up2_nk, bl_up2_nx] at h79
                    first
                    | (exfalso; first | omega | exact h79 trivial)
                    | (refine ⟨ka, _, bl_vs ra_0, kav, (by first | exact (by rw [nav]; exact vp_in_nI (by omega) (by omega)) | ((try dsimp only [bl_pv]); show vp_in _ (N _); rw [nav]; simp (disch := omega) only [zI_n, zI_o, zI_lit, zI_neg, zI_add, zI_sub, zI_mul, zI_lt, zI_le, zI_eq, zI_clamp, zI_in, zI_div, zI_rem, lg_lt0, lg_gt0, lg_eq0, lg_le0, lg_ge0, Int.toNat_natCast, ge_iff_le, gt_iff_lt, List.length_cons, List.length_nil, bl_up2_at, bl_up2_nk, bl_up2_nx] <;> omega)), ka, _, bl_vs ra_0, kav, (by first | exact (by rw [nav]; exact vp_in_nI (by omega) (by omega)) | ((try dsimp only [bl_pv]); show vp_in _ (N _); rw [nav]; simp (disch := omega) only [zI_n, zI_o, zI_lit, zI_neg, zI_add, zI_sub, zI_mul, zI_lt, zI_le, zI_eq, zI_clamp, zI_in, zI_div, zI_rem, lg_lt0, lg_gt0, lg_eq0, lg_le0, lg_ge0, Int.toNat_natCast, ge_iff_le, gt_iff_lt, List.length_cons, List.length_nil, bl_up2_at, bl_up2_nk, bl_up2_nx] <;> omega)), ka, _, bl_vs ra_0, kav, (by first | exact (by rw [nav]; exact vp_in_nI (by omega) (by omega)) | ((try dsimp only [bl_pv]); show vp_in _ (N _); rw [nav]; simp (disch := omega) only [zI_n, zI_o, zI_lit, zI_neg, zI_add, zI_sub, zI_mul, zI_lt, zI_le, zI_eq, zI_clamp, zI_in, zI_div, zI_rem, lg_lt0, lg_gt0, lg_eq0, lg_le0, lg_ge0, Int.toNat_natCast, ge_iff_le, gt_iff_lt, List.length_cons, List.length_nil, bl_up2_at, bl_up2_nk, bl_up2_nx] <;> omega)), (fun _ => by first | exact Or.inl rfl | exact Or.inr rfl), ?_⟩
                       try show _ ∧ _
                       try dsimp only [bl_pv]
                       first
                       | exact Or.inr ⟨k, p, a', rfl, rfl, rfl⟩
                       | (have hq := p3; exact Or.inr ⟨k, p, a', by simp only [pbd, p2, p3], rfl, rfl⟩)
                       | exact Or.inr ⟨k, p, a', by simp only [pbd, p2], rfl, rfl⟩
                       | (refine Or.inl ⟨(up1 (up1 (up1 S.1 0 (nI v)) 1 (nI v2)) 2 (nI v3), S.2), e3, bl_up2 (bl_up2 (bl_up2 I (a + 1) 0 (nI v)) (a + 1) 1 (nI v2)) (a + 1) 2 (nI v3), by simp only [pbd, p2, p3], rfl, ?_, fun x x1 x2 => ?_, ?_, ?_⟩
                          · rw [cl0, cl1, cl2, tpI_up (by omega), tpI_up (by omega), tpI_up (by omega)]
                          · rw [bl_up2_ne x1, bl_up2_ne x1, bl_up2_ne x1]
                          · intro k hk
                            show _ = (if k = 2 then nI v3 else if k = 1 then nI v2 else if k = 0 then nI v else S.1 k)
                            by_cases e2 : k = 2
                            · subst e2; rw [bl_up2_at, if_pos rfl]
                            · rw [bl_up2_nk e2, if_neg e2]
                              by_cases e1 : k = 1
                              · subst e1; rw [bl_up2_at, if_pos rfl]
                              · rw [bl_up2_nk e1, if_neg e1]
                                by_cases e0 : k = 0
                                · subst e0; rw [bl_up2_at, if_pos rfl]
                                · rw [bl_up2_nk e0, if_neg e0]; exact hC.1 k hk
                          · intro k hk; rw [bl_up2_ne (by omega), bl_up2_ne (by omega), bl_up2_ne (by omega)]; exact hC.2 k hk))
                  · try simp (disch := omega) only [zI_n, zI_o, zI_lit, zI_neg, zI_add, zI_sub, zI_mul, zI_lt, zI_le, zI_eq, zI_clamp, zI_in, zI_div, zI_rem, lg_lt0, lg_gt0, lg_eq0, lg_le0, lg_ge0, Int.toNat_natCast, ge_iff_le, gt_iff_lt, List.length_cons, List.length_nil, bl_up2_at, bl_up2_nk, bl_up2_nx] at h79
                    first
                    | (exfalso; first | omega | exact h79 trivial)
                    | (refine ⟨(fun _ => by first | exact Or.inl rfl | exact Or.inr rfl), ?_⟩
                       try show _ ∧ _
                       try dsimp only [bl_pv]
                       first
                       | exact Or.inr ⟨k, p, a', rfl, rfl, rfl⟩
                       | (have hq := p3; exact Or.inr ⟨k, p, a', by simp only [pbd, p2, p3], rfl, rfl⟩)
                       | exact Or.inr ⟨k, p, a', by simp only [pbd, p2], rfl, rfl⟩
                       | (refine Or.inl ⟨(up1 (up1 (up1 S.1 0 (nI v)) 1 (nI v2)) 2 (nI v3), S.2), e3, bl_up2 (bl_up2 (bl_up2 I (a + 1) 0 (nI v)) (a + 1) 1 (nI v2)) (a + 1) 2 (nI v3), by simp only [pbd, p2, p3], rfl, ?_, fun x x1 x2 => ?_, ?_, ?_⟩
                          · rw [cl0, cl1, cl2, tpI_up (by omega), tpI_up (by omega), tpI_up (by omega)]
                          · rw [bl_up2_ne x1, bl_up2_ne x1, bl_up2_ne x1]
                          · intro k hk
                            show _ = (if k = 2 then nI v3 else if k = 1 then nI v2 else if k = 0 then nI v else S.1 k)
                            by_cases e2 : k = 2
                            · subst e2; rw [bl_up2_at, if_pos rfl]
                            · rw [bl_up2_nk e2, if_neg e2]
                              by_cases e1 : k = 1
                              · subst e1; rw [bl_up2_at, if_pos rfl]
                              · rw [bl_up2_nk e1, if_neg e1]
                                by_cases e0 : k = 0
                                · subst e0; rw [bl_up2_at, if_pos rfl]
                                · rw [bl_up2_nk e0, if_neg e0]; exact hC.1 k hk
                          · intro k hk; rw [bl_up2_ne (by omega), bl_up2_ne (by omega), bl_up2_ne (by omega)]; exact hC.2 k hk)))
           · try simp (disch := omega) only [zI_n, zI_o, zI_lit, zI_neg, zI_add, zI_sub, zI_mul, zI_lt, zI_le, zI_eq, zI_clamp, zI_in, zI_div, zI_rem, lg_lt0, lg_gt0, lg_eq0, lg_le0, lg_ge0, Int.toNat_natCast, ge_iff_le, gt_iff_lt, List.length_cons, List.length_nil, bl_up2_at, bl_up2_nk, bl_up2_nx] at h39
             first
             | (exfalso; first | omega | exact h39 trivial)
             | (refine ⟨(fun _ => by first | exact Or.inl rfl | exact Or.inr rfl), ?_⟩
                try show _ ∧ _
                try dsimp only [bl_pv]
                first
                | exact Or.inr ⟨k, p, a', rfl, rfl, rfl⟩
                | (have hq := p3; exact Or.inr ⟨k, p, a', by simp only [pbd, p2, p3], rfl, rfl⟩)
                | exact Or.inr ⟨k, p, a', by simp only [pbd, p2], rfl, rfl⟩
                | (refine Or.inl ⟨(up1 (up1 (up1 S.1 0 (nI v)) 1 (nI v2)) 2 (nI v3), S.2), e3, bl_up2 (bl_up2 (bl_up2 I (a + 1) 0 (nI v)) (a + 1) 1 (nI v2)) (a + 1) 2 (nI v3), by simp only [pbd, p2, p3], rfl, ?_, fun x x1 x2 => ?_, ?_, ?_⟩
                   · rw [cl0, cl1, cl2, tpI_up (by omega), tpI_up (by omega), tpI_up (by omega)]
                   · rw [bl_up2_ne x1, bl_up2_ne x1, bl_up2_ne x1]
                   · intro k hk
                     show _ = (if k = 2 then nI v3 else if k = 1 then nI v2 else if k = 0 then nI v else S.1 k)
                     by_cases e2 : k = 2
                     · subst e2; rw [bl_up2_at, if_pos rfl]
                     · rw [bl_up2_nk e2, if_neg e2]
                       by_cases e1 : k = 1
                       · subst e1; rw [bl_up2_at, if_pos rfl]
                       · rw [bl_up2_nk e1, if_neg e1]
                         by_cases e0 : k = 0
                         · subst e0; rw [bl_up2_at, if_pos rfl]
                         · rw [bl_up2_nk e0, if_neg e0]; exact hC.1 k hk
                   · intro k hk; rw [bl_up2_ne (by omega), bl_up2_ne (by omega), bl_up2_ne (by omega)]; exact hC.2 k hk)))
    · try simp (disch := omega) only [zI_n, zI_o, zI_lit, zI_neg, zI_add, zI_sub, zI_mul, zI_lt, zI_le, zI_eq, zI_clamp, zI_in, zI_div, zI_rem, lg_lt0, lg_gt0, lg_eq0, lg_le0, lg_ge0, Int.toNat_natCast, ge_iff_le, gt_iff_lt, List.length_cons, List.length_nil, bl_up2_at, bl_up2_nk, bl_up2_nx] at h17
      first
      | (exfalso; first | omega | exact h17 trivial)
      | (refine ⟨(fun _ => by first | exact Or.inl rfl | exact Or.inr rfl), ?_⟩
         try show _ ∧ _
         try dsimp only [bl_pv]
         first
         | exact Or.inr ⟨k, p, a', rfl, rfl, rfl⟩
         | (have hq := p3; exact Or.inr ⟨k, p, a', by simp only [pbd, p2, p3], rfl, rfl⟩)
         | exact Or.inr ⟨k, p, a', by simp only [pbd, p2], rfl, rfl⟩
         | (refine Or.inl ⟨(up1 (up1 (up1 S.1 0 (nI v)) 1 (nI v2)) 2 (nI v3), S.2), e3, bl_up2 (bl_up2 (bl_up2 I (a + 1) 0 (nI v)) (a + 1) 1 (nI v2)) (a + 1) 2 (nI v3), by simp only [pbd, p2, p3], rfl, ?_, fun x x1 x2 => ?_, ?_, ?_⟩
            · rw [cl0, cl1, cl2, tpI_up (by omega), tpI_up (by omega), tpI_up (by omega)]
            · rw [bl_up2_ne x1, bl_up2_ne x1, bl_up2_ne x1]
            · intro k hk
              show _ = (if k = 2 then nI v3 else if k = 1 then nI v2 else if k = 0 then nI v else S.1 k)
              by_cases e2 : k = 2
              · subst e2; rw [bl_up2_at, if_pos rfl]
              · rw [bl_up2_nk e2, if_neg e2]
                by_cases e1 : k = 1
                · subst e1; rw [bl_up2_at, if_pos rfl]
                · rw [bl_up2_nk e1, if_neg e1]
                  by_cases e0 : k = 0
                  · subst e0; rw [bl_up2_at, if_pos rfl]
                  · rw [bl_up2_nk e0, if_neg e0]; exact hC.1 k hk
            · intro k hk; rw [bl_up2_ne (by omega), bl_up2_ne (by omega), bl_up2_ne (by omega)]; exact hC.2 k hk))
  · rw [p1]
    refine bl_go oX8_readSlab 80 [] rfl ?_
    refine ⟨fun h17 => ?_, fun h17 => ?_⟩
    · try simp (disch := omega) only [zI_n, zI_o, zI_lit, zI_neg, zI_add, zI_sub, zI_mul, zI_lt, zI_le, zI_eq, zI_clamp, zI_in, zI_div, zI_rem, lg_lt0, lg_gt0, lg_eq0, lg_le0, lg_ge0, Int.toNat_natCast, ge_iff_le, gt_iff_lt, List.length_cons, List.length_nil, bl_up2_at, bl_up2_nk, bl_up2_nx] at h17
      first
      | (exfalso; first | omega | exact h17 trivial)
      | (refine ⟨u1, ku1, Or.inr (Or.inl ⟨1, _, rfl, ku1, (by show vp_in _ 9; simp (disch := omega) only [zI_n, zI_o, zI_lit, zI_neg, zI_add, zI_sub, zI_mul, zI_lt, zI_le, zI_eq, zI_clamp, zI_in, zI_div, zI_rem, lg_lt0, lg_gt0, lg_eq0, lg_le0, lg_ge0, Int.toNat_natCast, ge_iff_le, gt_iff_lt, List.length_cons, List.length_nil, bl_up2_at, bl_up2_nk, bl_up2_nx] <;> omega), u2, ku2, Or.inr (Or.inl ⟨2, _, rfl, ku2, (by show vp_in _ 9; simp (disch := omega) only [zI_n, zI_o, zI_lit, zI_neg, zI_add, zI_sub, zI_mul, zI_lt, zI_le, zI_eq, zI_clamp, zI_in, zI_div, zI_rem, lg_lt0, lg_gt0, lg_eq0, lg_le0, lg_ge0, Int.toNat_natCast, ge_iff_le, gt_iff_lt, List.length_cons, List.length_nil, bl_up2_at, bl_up2_nk, bl_up2_nx] <;> omega), rfl, rfl, kt, (Nat.le_of_ble_eq_true rfl), (0, 0), Nat.le_of_ble_eq_true rfl, Nat.le_of_ble_eq_true rfl, bl_MC_mono (c_Tape_readNumber (d := d) ht hn hv.1 (lo := 2) (hi := 12) rfl rfl (by omega) (by omega)) (fun o33 σ33 q33 => ?_)⟩)⟩)⟩
         rcases q33 with ⟨v2, e2, p2, rfl, rfl⟩ | ⟨k, p, a', p2, rfl, rfl⟩
         · have hv2 := pnum_le hv.1 p2
           have ew : (if nI v2 < nI v then nI v2 else nI v) = nI (min v v2) := by
             by_cases hb : v2 < v
             · rw [if_pos (nI_lt hb (by omega)), show min v v2 = v2 by omega]
             · rw [if_neg (nI_nlt (by omega) (by omega)), show min v v2 = v by omega]
           have ew2 : (nI (min v v2) - 1) / 2 = nI ((min v v2 - 1) / 2) := by
             have h2 : 2 ≤ min v v2 ∧ min v v2 ≤ 12 := by omega
             generalize min v v2 = m at *
             simp (disch := omega) only [zI_n, zI_o, zI_lit, zI_neg, zI_add, zI_sub, zI_mul, zI_lt, zI_le, zI_eq, zI_clamp, zI_in, zI_div, zI_rem, lg_lt0, lg_gt0, lg_eq0, lg_le0, lg_ge0, Int.toNat_natCast, ge_iff_le, gt_iff_lt, List.length_cons, List.length_nil, bl_up2_at, bl_up2_nk, bl_up2_nx]
             omega
           have ew3 : (if nI ((min v v2 - 1) / 2) < (3 : Int32) then nI ((min v v2 - 1) / 2) else (3 : Int32)) = nI (min 3 ((min v v2 - 1) / 2)) := by
             generalize hw : (min v v2 - 1) / 2 = w
             show (if nI w < nI 3 then nI w else nI 3) = _
             by_cases hb : w < 3
             · rw [if_pos (nI_lt hb (by omega)), show min 3 w = w by omega]
             · rw [if_neg (nI_nlt (by omega) (by omega)), show min 3 w = 3 by omega]
           refine bl_go oX8_readSlab 80 [] rfl ?_
           refine ⟨fun h39 => ?_, fun h39 => ?_⟩
           · try simp (disch := omega) only [zI_n, zI_o, zI_lit, zI_neg, zI_add, zI_sub, zI_mul, zI_lt, zI_le, zI_eq, zI_clamp, zI_in, zI_div, zI_rem, lg_lt0, lg_gt0, lg_eq0, lg_le0, lg_ge0, Int.toNat_natCast, ge_iff_le, gt_iff_lt, List.length_cons, List.length_nil, bl_up2_at, bl_up2_nk, bl_up2_nx] at h39
             first
             | (exfalso; first | omega | exact h39 trivial)
             | (refine ⟨(Nat.le_of_ble_eq_true rfl), (by decide), u1, ku1, Or.inr (Or.inl ⟨1, _, rfl, ku1, (by show vp_in _ 9; simp (disch := omega) only [zI_n, zI_o, zI_lit, zI_neg, zI_add, zI_sub, zI_mul, zI_lt, zI_le, zI_eq, zI_clamp, zI_in, zI_div, zI_rem, lg_lt0, lg_gt0, lg_eq0, lg_le0, lg_ge0, Int.toNat_natCast, ge_iff_le, gt_iff_lt, List.length_cons, List.length_nil, bl_up2_at, bl_up2_nk, bl_up2_nx] <;> omega), u2, ku2, Or.inr (Or.inl ⟨2, _, rfl, ku2, (by show vp_in _ 9; simp (disch := omega) only [zI_n, zI_o, zI_lit, zI_neg, zI_add, zI_sub, zI_mul, zI_lt, zI_le, zI_eq, zI_clamp, zI_in, zI_div, zI_rem, lg_lt0, lg_gt0, lg_eq0, lg_le0, lg_ge0, Int.toNat_natCast, ge_iff_le, gt_iff_lt, List.length_cons, List.length_nil, bl_up2_at, bl_up2_nk, bl_up2_nx] <;> omega), (Nat.le_of_ble_eq_true rfl), rfl, rfl, kt, (Nat.le_of_ble_eq_true rfl), (0, 0), Nat.le_of_ble_eq_true rfl, Nat.le_of_ble_eq_true rfl, bl_MC_mono (c_Tape_readNumber (d := d) ht hn hv2.1 (lo := 0) (hi := min 3 ((min v v2 - 1) / 2)) rfl (ew3 ▸ ew2 ▸ ew ▸ rfl) (by omega) (by omega)) (fun o71 σ71 q71 => ?_)⟩)⟩)⟩
                rcases q71 with ⟨v3, e3, p3, rfl, rfl⟩ | ⟨k, p, a', p3, rfl, rfl⟩
                · have hv3 := pnum_le hv2.1 p3
                  refine bl_go oX8_readSlab 80 [] rfl ?_
                  refine ⟨fun h79 => ?_, fun h79 => ?_⟩
                  · try simp (disch := omega) only [zI_n, zI_o, zI_lit, zI_neg, zI_add, zI_sub, zI_mul, zI_lt, zI_le, zI_eq, zI_clamp, zI_in, zI_div, zI_rem, lg_lt0, lg_gt0, lg_eq0, lg_le0, lg_ge0, Int.toNat_natCast, ge_iff_le, gt_iff_lt, List.length_cons, List.length_nil, bl_up2_at, bl_up2_nk, bl_up2_nx] at h79
                    first
                    | (exfalso; first | omega | exact h79 trivial)
                    | (refine ⟨ka, _, bl_vs ra_0, kav, (by first | exact (by rw [nav]; exact vp_in_nI (by omega) (by omega)) | ((try dsimp only [bl_pv]); show vp_in _ (N _); rw [nav]; simp (disch := omega) only [zI_n, zI_o, zI_lit, zI_neg, zI_add, zI_sub, zI_mul, zI_lt, zI_le, zI_eq, zI_clamp, zI_in, zI_div, zI_rem, lg_lt0, lg_gt0, lg_eq0, lg_le0, lg_ge0, Int.toNat_natCast, ge_iff_le, gt_iff_lt, List.length_cons, List.length_nil, bl_up2_at, bl_up2_nk, bl_up2_nx] <;> omega)), ka, _, bl_vs ra_0, kav, (by first | exact (by rw [nav]; exact vp_in_nI (by omega) (by omega)) | ((try dsimp only [bl_pv]); show vp_in _ (N _); rw [nav]; simp (disch := omega) only [zI_n, zI_o, zI_lit, zI_neg, zI_add, zI_sub, zI_mul, zI_lt, zI_le, zI_eq, zI_clamp, zI_in, zI_div, zI_rem, lg_lt0, lg_gt0, lg_eq0, lg_le0, lg_ge0, Int.toNat_natCast, ge_iff_le, gt_iff_lt, List.length_cons, List.length_nil, bl_up2_at, bl_up2_nk, bl_up2_nx] <;> omega)), ka, _, bl_vs ra_0, kav, (by first | exact (by rw [nav]; exact vp_in_nI (by omega) (by omega)) | ((try dsimp only [bl_pv]); show vp_in _ (N _); rw [nav]; simp (disch := omega) only [zI_n, zI_o, zI_lit, zI_neg, zI_add, zI_sub, zI_mul, zI_lt, zI_le, zI_eq, zI_clamp, zI_in, zI_div, zI_rem, lg_lt0, lg_gt0, lg_eq0, lg_le0, lg_ge0, Int.toNat_natCast, ge_iff_le, gt_iff_lt, List.length_cons, List.length_nil, bl_up2_at, bl_up2_nk, bl_up2_nx] <;> omega)), (fun _ => by first | exact Or.inl rfl | exact Or.inr rfl), ?_⟩
                       try show _ ∧ _
                       try dsimp only [bl_pv]
                       first
                       | exact Or.inr ⟨k, p, a', rfl, rfl, rfl⟩
                       | (have hq := p3; exact Or.inr ⟨k, p, a', by simp only [pbd, p2, p3], rfl, rfl⟩)
                       | exact Or.inr ⟨k, p, a', by simp only [pbd, p2], rfl, rfl⟩
                       | (refine Or.inl ⟨(up1 (up1 (up1 S.1 0 (nI v)) 1 (nI v2)) 2 (nI v3), S.2), e3, bl_up2 (bl_up2 (bl_up2 I (a + 1) 0 (nI v)) (a + 1) 1 (nI v2)) (a + 1) 2 (nI v3), by simp only [pbd, p2, p3], rfl, ?_, fun x x1 x2 => ?_, ?_, ?_⟩
                          · rw [cl0, cl1, cl2, tpI_up (by omega), tpI_up (by omega), tpI_up (by omega)]
                          · rw [bl_up2_ne x1, bl_up2_ne x1, bl_up2_ne x1]
                          · intro k hk
                            show _ = (if k = 2 then nI v3 else if k = 1 then nI v2 else if k = 0 then nI v else S.1 k)
                            by_cases e2 : k = 2
                            · subst e2; rw [bl_up2_at, if_pos rfl]
                            · rw [bl_up2_nk e2, if_neg e2]
                              by_cases e1 : k = 1
                              · subst e1; rw [bl_up2_at, if_pos rfl]
                              · rw [bl_up2_nk e1, if_neg e1]
                                by_cases e0 : k = 0
                                · subst e0; rw [bl_up2_at, if_pos rfl]
                                · rw [bl_up2_nk e0, if_neg e0]; exact hC.1 k hk
                          · intro k hk; rw [bl_up2_ne (by omega), bl_up2_ne (by omega), bl_up2_ne (by omega)]; exact hC.2 k hk))
                  · try simp (disch := omega) only [zI_n, zI_o, zI_lit, zI_neg, zI_add, zI_sub, zI_mul, zI_lt, zI_le, zI_eq, zI_clamp, zI_in, zI_div, zI_rem, lg_lt0, lg_gt0, lg_eq0, lg_le0, lg_ge0, Int.toNat_natCast, ge_iff_le, gt_iff_lt, List.length_cons, List.length_nil, bl_up2_at, bl_up2_nk, bl_up2_nx] at h79
                    first
                    | (exfalso; first | omega | exact h79 trivial)
                    | (refine ⟨(fun _ => by first | exact Or.inl rfl | exact Or.inr rfl), ?_⟩
                       try show _ ∧ _
                       try dsimp only [bl_pv]
                       first
                       | exact Or.inr ⟨k, p, a', rfl, rfl, rfl⟩
                       | (have hq := p3; exact Or.inr ⟨k, p, a', by simp only [pbd, p2, p3], rfl, rfl⟩)
                       | exact Or.inr ⟨k, p, a', by simp only [pbd, p2], rfl, rfl⟩
                       | (refine Or.inl ⟨(up1 (up1 (up1 S.1 0 (nI v)) 1 (nI v2)) 2 (nI v3), S.2), e3, bl_up2 (bl_up2 (bl_up2 I (a + 1) 0 (nI v)) (a + 1) 1 (nI v2)) (a + 1) 2 (nI v3), by simp only [pbd, p2, p3], rfl, ?_, fun x x1 x2 => ?_, ?_, ?_⟩
                          · rw [cl0, cl1, cl2, tpI_up (by omega), tpI_up (by omega), tpI_up (by omega)]
                          · rw [bl_up2_ne x1, bl_up2_ne x1, bl_up2_ne x1]
                          · intro k hk
                            show _ = (if k = 2 then nI v3 else if k = 1 then nI v2 else if k = 0 then nI v else S.1 k)
                            by_cases e2 : k = 2
                            · subst e2; rw [bl_up2_at, if_pos rfl]
                            · rw [bl_up2_nk e2, if_neg e2]
                              by_cases e1 : k = 1
                              · subst e1; rw [bl_up2_at, if_pos rfl]
                              · rw [bl_up2_nk e1, if_neg e1]
                                by_cases e0 : k = 0
                                · subst e0; rw [bl_up2_at, if_pos rfl]
                                · rw [bl_up2_nk e0, if_neg e0]; exact hC.1 k hk
                          · intro k hk; rw [bl_up2_ne (by omega), bl_up2_ne (by omega), bl_up2_ne (by omega)]; exact hC.2 k hk))
                · refine bl_go oX8_readSlab 80 [] rfl ?_
                  refine ⟨fun h79 => ?_, fun h79 => ?_⟩
                  · try simp (disch := omega) only [zI_n, zI_o, zI_lit, zI_neg, zI_add, zI_sub, zI_mul, zI_lt, zI_le, zI_eq, zI_clamp, zI_in, zI_div, zI_rem, lg_lt0, lg_gt0, lg_eq0, lg_le0, lg_ge0, Int.toNat_natCast, ge_iff_le, gt_iff_lt, List.length_cons, List.length_nil, bl_up2_at, bl_up2_nk, bl_up2_nx] at h79
                    first
                    | (exfalso; first | omega | exact h79 trivial)
                    | (refine ⟨ka, _, bl_vs ra_0, kav, (by first | exact (by rw [nav]; exact vp_in_nI (by omega) (by omega)) | ((try dsimp only [bl_pv]); show vp_in _ (N _); rw [nav]; simp (disch := omega) only [zI_n, zI_o, zI_lit, zI_neg, zI_add, zI_sub, zI_mul, zI_lt, zI_le, zI_eq, zI_clamp, zI_in, zI_div, zI_rem, lg_lt0, lg_gt0, lg_eq0, lg_le0, lg_ge0, Int.toNat_natCast, ge_iff_le, gt_iff_lt, List.length_cons, List.length_nil, bl_up2_at, bl_up2_nk, bl_up2_nx] <;> omega)), ka, _, bl_vs ra_0, kav, (by first | exact (by rw [nav]; exact vp_in_nI (by omega) (by omega)) | ((try dsimp only [bl_pv]); show vp_in _ (N _); rw [nav]; simp (disch := omega) only [zI_n, zI_o, zI_lit, zI_neg, zI_add, zI_sub, zI_mul, zI_lt, zI_le, zI_eq, zI_clamp, zI_in, zI_div, zI_rem, lg_lt0, lg_gt0, lg_eq0, lg_le0, lg_ge0, Int.toNat_natCast, ge_iff_le, gt_iff_lt, List.length_cons, List.length_nil, bl_up2_at, bl_up2_nk, bl_up2_nx] <;> omega)), ka, _, bl_vs ra_0, kav, (by first | exact (by rw [nav]; exact vp_in_nI (by omega) (by omega)) | ((try dsimp only [bl_pv]); show vp_in _ (N _); rw [nav]; simp (disch := omega) only [zI_n, zI_o, zI_lit, zI_neg, zI_add, zI_sub, zI_mul, zI_lt, zI_le, zI_eq, zI_clamp, zI_in, zI_div, zI_rem, lg_lt0, lg_gt0, lg_eq0, lg_le0, lg_ge0, Int.toNat_natCast, ge_iff_le, gt_iff_lt, List.length_cons, List.length_nil, bl_up2_at, bl_up2_nk, bl_up2_nx] <;> omega)), (fun _ => by first | exact Or.inl rfl | exact Or.inr rfl), ?_⟩
                       try show _ ∧ _
                       try dsimp only [bl_pv]
                       first
                       | exact Or.inr ⟨k, p, a', rfl, rfl, rfl⟩
                       | (have hq := p3; exact Or.inr ⟨k, p, a', by simp only [pbd, p2, p3], rfl, rfl⟩)
                       | exact Or.inr ⟨k, p, a', by simp only [pbd, p2], rfl, rfl⟩
                       | (refine Or.inl ⟨(up1 (up1 (up1 S.1 0 (nI v)) 1 (nI v2)) 2 (nI v3), S.2), e3, bl_up2 (bl_up2 (bl_up2 I (a + 1) 0 (nI v)) (a + 1) 1 (nI v2)) (a + 1) 2 (nI v3), by simp only [pbd, p2, p3], rfl, ?_, fun x x1 x2 => ?_, ?_, ?_⟩
                          · rw [cl0, cl1, cl2, tpI_up (by omega), tpI_up (by omega), tpI_up (by omega)]
                          · rw [bl_up2_ne x1, bl_up2_ne x1, bl_up2_ne x1]
                          · intro k hk
                            show _ = (if k = 2 then nI v3 else if k = 1 then nI v2 else if k = 0 then nI v else S.1 k)
                            by_cases e2 : k = 2
                            · subst e2; rw [bl_up2_at, if_pos rfl]
                            · rw [bl_up2_nk e2, if_neg e2]
                              by_cases e1 : k = 1
                              · subst e1; rw [bl_up2_at, if_pos rfl]
                              · rw [bl_up2_nk e1, if_neg e1]
                                by_cases e0 : k = 0
                                · subst e0; rw [bl_up2_at, if_pos rfl]
                                · rw [bl_up2_nk e0, if_neg e0]; exact hC.1 k hk
                          · intro k hk; rw [bl_up2_ne (by omega), bl_up2_ne (by omega), bl_up2_ne (by omega)]; exact hC.2 k hk))
                  · try simp (disch := omega) only [zI_n, zI_o, zI_lit, zI_neg, zI_add, zI_sub, zI_mul, zI_lt, zI_le, zI_eq, zI_clamp, zI_in, zI_div, zI_rem, lg_lt0, lg_gt0, lg_eq0, lg_le0, lg_ge0, Int.toNat_natCast, ge_iff_le, gt_iff_lt, List.length_cons, List.length_nil, bl_up2_at, bl_up2_nk, bl_up2_nx] at h79
                    first
                    | (exfalso; first | omega | exact h79 trivial)
                    | (refine ⟨(fun _ => by first | exact Or.inl rfl | exact Or.inr rfl), ?_⟩
                       try show _ ∧ _
                       try dsimp only [bl_pv]
                       first
                       | exact Or.inr ⟨k, p, a', rfl, rfl, rfl⟩
                       | (have hq := p3; exact Or.inr ⟨k, p, a', by simp only [pbd, p2, p3], rfl, rfl⟩)
                       | exact Or.inr ⟨k, p, a', by simp only [pbd, p2], rfl, rfl⟩
                       | (refine Or.inl ⟨(up1 (up1 (up1 S.1 0 (nI v)) 1 (nI v2)) 2 (nI v3), S.2), e3, bl_up2 (bl_up2 (bl_up2 I (a + 1) 0 (nI v)) (a + 1) 1 (nI v2)) (a + 1) 2 (nI v3), by simp only [pbd, p2, p3], rfl, ?_, fun x x1 x2 => ?_, ?_, ?_⟩
                          · rw [cl0, cl1, cl2, tpI_up (by omega), tpI_up (by omega), tpI_up (by omega)]
                          · rw [bl_up2_ne x1, bl_up2_ne x1, bl_up2_ne x1]
                          · intro k hk
                            show _ = (if k = 2 then nI v3 else if k = 1 then nI v2 else if k = 0 then nI v else S.1 k)
                            by_cases e2 : k = 2
                            · subst e2; rw [bl_up2_at, if_pos rfl]
                            · rw [bl_up2_nk e2, if_neg e2]
                              by_cases e1 : k = 1
                              · subst e1; rw [bl_up2_at, if_pos rfl]
                              · rw [bl_up2_nk e1, if_neg e1]
                                by_cases e0 : k = 0
                                · subst e0; rw [bl_up2_at, if_pos rfl]
                                · rw [bl_up2_nk e0, if_neg e0]; exact hC.1 k hk
                          · intro k hk; rw [bl_up2_ne (by omega), bl_up2_ne (by omega), bl_up2_ne (by omega)]; exact hC.2 k hk)))
           · try simp (disch := omega) only [zI_n, zI_o, zI_lit, zI_neg, zI_add, zI_sub, zI_mul, zI_lt, zI_le, zI_eq, zI_clamp, zI_in, zI_div, zI_rem, lg_lt0, lg_gt0, lg_eq0, lg_le0, lg_ge0, Int.toNat_natCast, ge_iff_le, gt_iff_lt, List.length_cons, List.length_nil, bl_up2_at, bl_up2_nk, bl_up2_nx] at h39
             first
             | (exfalso; first | omega | exact h39 trivial)
             | (refine ⟨(fun _ => by first | exact Or.inl rfl | exact Or.inr rfl), ?_⟩
                try show _ ∧ _
                try dsimp only [bl_pv]
                first
                | exact Or.inr ⟨k, p, a', rfl, rfl, rfl⟩
                | (have hq := p3; exact Or.inr ⟨k, p, a', by simp only [pbd, p2, p3], rfl, rfl⟩)
                | exact Or.inr ⟨k, p, a', by simp only [pbd, p2], rfl, rfl⟩
                | (refine Or.inl ⟨(up1 (up1 (up1 S.1 0 (nI v)) 1 (nI v2)) 2 (nI v3), S.2), e3, bl_up2 (bl_up2 (bl_up2 I (a + 1) 0 (nI v)) (a + 1) 1 (nI v2)) (a + 1) 2 (nI v3), by simp only [pbd, p2, p3], rfl, ?_, fun x x1 x2 => ?_, ?_, ?_⟩
                   · rw [cl0, cl1, cl2, tpI_up (by omega), tpI_up (by omega), tpI_up (by omega)]
                   · rw [bl_up2_ne x1, bl_up2_ne x1, bl_up2_ne x1]
                   · intro k hk
                     show _ = (if k = 2 then nI v3 else if k = 1 then nI v2 else if k = 0 then nI v else S.1 k)
                     by_cases e2 : k = 2
                     · subst e2; rw [bl_up2_at, if_pos rfl]
                     · rw [bl_up2_nk e2, if_neg e2]
                       by_cases e1 : k = 1
                       · subst e1; rw [bl_up2_at, if_pos rfl]
                       · rw [bl_up2_nk e1, if_neg e1]
                         by_cases e0 : k = 0
                         · subst e0; rw [bl_up2_at, if_pos rfl]
                         · rw [bl_up2_nk e0, if_neg e0]; exact hC.1 k hk
                   · intro k hk; rw [bl_up2_ne (by omega), bl_up2_ne (by omega), bl_up2_ne (by omega)]; exact hC.2 k hk))
         · refine bl_go oX8_readSlab 80 [] rfl ?_
           refine ⟨fun h39 => ?_, fun h39 => ?_⟩
           · try simp (disch := omega) only [zI_n, zI_o, zI_lit, zI_neg, zI_add, zI_sub, zI_mul, zI_lt, zI_le, zI_eq, zI_clamp, zI_in, zI_div, zI_rem, lg_lt0, lg_gt0, lg_eq0, lg_le0, lg_ge0, Int.toNat_natCast, ge_iff_le, gt_iff_lt, List.length_cons, List.length_nil, bl_up2_at, bl_up2_nk, bl_up2_nx] at h39
             first
             | (exfalso; first | omega | exact h39 trivial)
             | (refine ⟨(Nat.le_of_ble_eq_true rfl), (by decide), u1, ku1, Or.inr (Or.inl ⟨1, _, rfl, ku1, (by show vp_in _ 9; simp (disch := omega) only [zI_n, zI_o, zI_lit, zI_neg, zI_add, zI_sub, zI_mul, zI_lt, zI_le, zI_eq, zI_clamp, zI_in, zI_div, zI_rem, lg_lt0, lg_gt0, lg_eq0, lg_le0, lg_ge0, Int.toNat_natCast, ge_iff_le, gt_iff_lt, List.length_cons, List.length_nil, bl_up2_at, bl_up2_nk, bl_up2_nx] <;> omega), u2, ku2, Or.inr (Or.inl ⟨2, _, rfl, ku2, (by show vp_in _ 9; simp (disch := omega) only [zI_n, zI_o, zI_lit, zI_neg, zI_add, zI_sub, zI_mul, zI_lt, zI_le, zI_eq, zI_clamp, zI_in, zI_div, zI_rem, lg_lt0, lg_gt0, lg_eq0, lg_le0, lg_ge0, Int.toNat_natCast, ge_iff_le, gt_iff_lt, List.length_cons, List.length_nil, bl_up2_at, bl_up2_nk, bl_up2_nx] <;> omega), (Nat.le_of_ble_eq_true rfl), rfl, rfl, kt, (Nat.le_of_ble_eq_true rfl), (0, 0), Nat.le_of_ble_eq_true rfl, Nat.le_of_ble_eq_true rfl, bl_MC_mono (c_Tape_readNumber (d := d) ht hn hv2.1 (lo := 0) (hi := min 3 ((min v v2 - 1) / 2)) rfl (ew3 ▸ ew2 ▸ ew ▸ rfl) (by omega) (by omega)) (fun o71 σ71 q71 => ?_)⟩)⟩)⟩
                rcases q71 with ⟨v3, e3, p3, rfl, rfl⟩ | ⟨k, p, a', p3, rfl, rfl⟩
                · have hv3 := pnum_le hv2.1 p3
                  refine bl_go oX8_readSlab 80 [] rfl ?_
                  refine ⟨fun h79 => ?_, fun h79 => ?_⟩
                  · try simp (disch := omega) only [zI_n, zI_o, zI_lit, zI_neg, zI_add, zI_sub, zI_mul, zI_lt, zI_le, zI_eq, zI_clamp, zI_in, zI_div, zI_rem, lg_lt0, lg_gt0, lg_eq0, lg_le0, lg_ge0, Int.toNat_natCast, ge_iff_le, gt_iff_lt, List.length_cons, List.length_nil, bl_up2_at, bl_up2_nk, bl_up2_nx] at h79
                    first
                    | (exfalso; first | omega | exact h79 trivial)
                    | (refine ⟨ka, _, bl_vs ra_0, kav, (by first | exact (by rw [nav]; exact vp_in_nI (by omega) (by omega)) | ((try dsimp only [bl_pv]); show vp_in _ (N _); rw [nav]; simp (disch := omega) only [zI_n, zI_o, zI_lit, zI_neg, zI_add, zI_sub, zI_mul, zI_lt, zI_le, zI_eq, zI_clamp, zI_in, zI_div, zI_rem, lg_lt0, lg_gt0, lg_eq0, lg_le0, lg_ge0, Int.toNat_natCast, ge_iff_le, gt_iff_lt, List.length_cons, List.length_nil, bl_up2_at, bl_up2_nk, bl_up2_nx] <;> omega)), ka, _, bl_vs ra_0, kav, (by first | exact (by rw [nav]; exact vp_in_nI (by omega) (by omega)) | ((try dsimp only [bl_pv]); show vp_in _ (N _); rw [nav]; simp (disch := omega) only [zI_n, zI_o, zI_lit, zI_neg, zI_add, zI_sub, zI_mul, zI_lt, zI_le, zI_eq, zI_clamp, zI_in, zI_div, zI_rem, lg_lt0, lg_gt0, lg_eq0, lg_le0, lg_ge0, Int.toNat_natCast, ge_iff_le, gt_iff_lt, List.length_cons, List.length_nil, bl_up2_at, bl_up2_nk, bl_up2_nx] <;> omega)), ka, _, bl_vs ra_0, kav, (by first | exact (by rw [nav]; exact vp_in_nI (by omega) (by omega)) | ((try dsimp only [bl_pv]); show vp_in _ (N _); rw [nav]; simp (disch := omega) only [zI_n, zI_o, zI_lit, zI_neg, zI_add, zI_sub, zI_mul, zI_lt, zI_le, zI_eq, zI_clamp, zI_in, zI_div, zI_rem, lg_lt0, lg_gt0, lg_eq0, lg_le0, lg_ge0, Int.toNat_natCast, ge_iff_le, gt_iff_lt, List.length_cons, List.length_nil, bl_up2_at, bl_up2_nk, bl_up2_nx] <;> omega)), (fun _ => by first | exact Or.inl rfl | exact Or.inr rfl), ?_⟩
                       try show _ ∧ _
                       try dsimp only [bl_pv]
                       first
                       | exact Or.inr ⟨k, p, a', rfl, rfl, rfl⟩
                       | (have hq := p3; exact Or.inr ⟨k, p, a', by simp only [pbd, p2, p3], rfl, rfl⟩)
                       | exact Or.inr ⟨k, p, a', by simp only [pbd, p2], rfl, rfl⟩
                       | (refine Or.inl ⟨(up1 (up1 (up1 S.1 0 (nI v)) 1 (nI v2)) 2 (nI v3), S.2), e3, bl_up2 (bl_up2 (bl_up2 I (a + 1) 0 (nI v)) (a + 1) 1 (nI v2)) (a + 1) 2 (nI v3), by simp only [pbd, p2, p3], rfl, ?_, fun x x1 x2 => ?_, ?_, ?_⟩
                          · rw [cl0, cl1, cl2, tpI_up (by omega), tpI_up (by omega), tpI_up (by omega)]
                          · rw [bl_up2_ne x1, bl_up2_ne x1, bl_up2_ne x1]
                          · intro k hk
                            show _ = (if k = 2 then nI v3 else if k = 1 then nI v2 else if k = 0 then nI v else S.1 k)
                            by_cases e2 : k = 2
                            · subst e2; rw [bl_up2_at, if_pos rfl]
                            · rw [bl_up2_nk e2, if_neg e2]
                              by_cases e1 : k = 1
                              · subst e1; rw [bl_up2_at, if_pos rfl]
                              · rw [bl_up2_nk e1, if_neg e1]
                                by_cases e0 : k = 0
                                · subst e0; rw [bl_up2_at, if_pos rfl]
                                · rw [bl_up2_nk e0, if_neg e0]; exact hC.1 k hk
                          · intro k hk; rw [bl_up2_ne (by omega), bl_up2_ne (by omega), bl_up2_ne (by omega)]; exact hC.2 k hk))
                  · try simp (disch := omega) only [zI_n, zI_o, zI_lit, zI_neg, zI_add, zI_sub, zI_mul, zI_lt, zI_le, zI_eq, zI_clamp, zI_in, zI_div, zI_rem, lg_lt0, lg_gt0, lg_eq0, lg_le0, lg_ge0, Int.toNat_natCast, ge_iff_le, gt_iff_lt, List.length_cons, List.length_nil, bl_up2_at, bl_up2_nk, bl_up2_nx] at h79
                    first
                    | (exfalso; first | omega | exact h79 trivial)
                    | (refine ⟨(fun _ => by first | exact Or.inl rfl | exact Or.inr rfl), ?_⟩
                       try show _ ∧ _
                       try dsimp only [bl_pv]
                       first
                       | exact Or.inr ⟨k, p, a', rfl, rfl, rfl⟩
                       | (have hq := p3; exact Or.inr ⟨k, p, a', by simp only [pbd, p2, p3], rfl, rfl⟩)
                       | exact Or.inr ⟨k, p, a', by simp only [pbd, p2], rfl, rfl⟩
                       | (refine Or.inl ⟨(up1 (up1 (up1 S.1 0 (nI v)) 1 (nI v2)) 2 (nI v3), S.2), e3, bl_up2 (bl_up2 (bl_up2 I (a + 1) 0 (nI v)) (a + 1) 1 (nI v2)) (a + 1) 2 (nI v3), by simp only [pbd, p2, p3], rfl, ?_, fun x x1 x2 => ?_, ?_, ?_⟩
                          · rw [cl0, cl1, cl2, tpI_up (by omega), tpI_up (by omega), tpI_up (by omega)]
                          · rw [bl_up2_ne x1, bl_up2_ne x1, bl_up2_ne x1]
                          · intro k hk
                            show _ = (if k = 2 then nI v3 else if k = 1 then nI v2 else if k = 0 then nI v else S.1 k)
                            by_cases e2 : k = 2
                            · subst e2; rw [bl_up2_at, if_pos rfl]
                            · rw [bl_up2_nk e2, if_neg e2]
                              by_cases e1 : k = 1
                              · subst e1; rw [bl_up2_at, if_pos rfl]
                              · rw [bl_up2_nk e1, if_neg e1]
                                by_cases e0 : k = 0
                                · subst e0; rw [bl_up2_at, if_pos rfl]
                                · rw [bl_up2_nk e0, if_neg e0]; exact hC.1 k hk
                          · intro k hk; rw [bl_up2_ne (by omega), bl_up2_ne (by omega), bl_up2_ne (by omega)]; exact hC.2 k hk))
                · refine bl_go oX8_readSlab 80 [] rfl ?_
                  refine ⟨fun h79 => ?_, fun h79 => ?_⟩
                  · try simp (disch := omega) only [zI_n, zI_o, zI_lit, zI_neg, zI_add, zI_sub, zI_mul, zI_lt, zI_le, zI_eq, zI_clamp, zI_in, zI_div, zI_rem, lg_lt0, lg_gt0, lg_eq0, lg_le0, lg_ge0, Int.toNat_natCast, ge_iff_le, gt_iff_lt, List.length_cons, List.length_nil, bl_up2_at, bl_up2_nk, bl_up2_nx] at h79
                    first
                    | (exfalso; first | omega | exact h79 trivial)
                    | (refine ⟨ka, _, bl_vs ra_0, kav, (by first | exact (by rw [nav]; exact vp_in_nI (by omega) (by omega)) | ((try dsimp only [bl_pv]); show vp_in _ (N _); rw [nav]; simp (disch := omega) only [zI_n, zI_o, zI_lit, zI_neg, zI_add, zI_sub, zI_mul, zI_lt, zI_le, zI_eq, zI_clamp, zI_in, zI_div, zI_rem, lg_lt0, lg_gt0, lg_eq0, lg_le0, lg_ge0, Int.toNat_natCast, ge_iff_le, gt_iff_lt, List.length_cons, List.length_nil, bl_up2_at, bl_up2_nk, bl_up2_nx] <;> omega)), ka, _, bl_vs ra_0, kav, (by first | exact (by rw [nav]; exact vp_in_nI (by omega) (by omega)) | ((try dsimp only [bl_pv]); show vp_in _ (N _); rw [nav]; simp (disch := omega) only [zI_n, zI_o, zI_lit, zI_neg, zI_add, zI_sub, zI_mul, zI_lt, zI_le, zI_eq, zI_clamp, zI_in, zI_div, zI_rem, lg_lt0, lg_gt0, lg_eq0, lg_le0, lg_ge0, Int.toNat_natCast, ge_iff_le, gt_iff_lt, List.length_cons, List.length_nil, bl_up2_at, bl_up2_nk, bl_up2_nx] <;> omega)), ka, _, bl_vs ra_0, kav, (by first | exact (by rw [nav]; exact vp_in_nI (by omega) (by omega)) | ((try dsimp only [bl_pv]); show vp_in _ (N _); rw [nav]; simp (disch := omega) only [zI_n, zI_o, zI_lit, zI_neg, zI_add, zI_sub, zI_mul, zI_lt, zI_le, zI_eq, zI_clamp, zI_in, zI_div, zI_rem, lg_lt0, lg_gt0, lg_eq0, lg_le0, lg_ge0, Int.toNat_natCast, ge_iff_le, gt_iff_lt, List.length_cons, List.length_nil, bl_up2_at, bl_up2_nk, bl_up2_nx] <;> omega)), (fun _ => by first | exact Or.inl rfl | exact Or.inr rfl), ?_⟩
                       try show _ ∧ _
                       try dsimp only [bl_pv]
                       first
                       | exact Or.inr ⟨k, p, a', rfl, rfl, rfl⟩
                       | (have hq := p3; exact Or.inr ⟨k, p, a', by simp only [pbd, p2, p3], rfl, rfl⟩)
                       | exact Or.inr ⟨k, p, a', by simp only [pbd, p2], rfl, rfl⟩
                       | (refine Or.inl ⟨(up1 (up1 (up1 S.1 0 (nI v)) 1 (nI v2)) 2 (nI v3), S.2), e3, bl_up2 (bl_up2 (bl_up2 I (a + 1) 0 (nI v)) (a + 1) 1 (nI v2)) (a + 1) 2 (nI v3), by simp only [pbd, p2, p3], rfl, ?_, fun x x1 x2 => ?_, ?_, ?_⟩
                          · rw [cl0, cl1, cl2, tpI_up (by omega), tpI_up (by omega), tpI_up (by omega)]
                          · rw [bl_up2_ne x1, bl_up2_ne x1, bl_up2_ne x1]
                          · intro k hk
                            show _ = (if k = 2 then nI v3 else if k = 1 then nI v2 else if k = 0 then nI v else S.1 k)
                            by_cases e2 : k = 2
                            · subst e2; rw [bl_up2_at, if_pos rfl]
                            · rw [bl_up2_nk e2, if_neg e2]
                              by_cases e1 : k = 1
                              · subst e1; rw [bl_up2_at, if_pos rfl]
                              · rw [bl_up2_nk e1, if_neg e1]
                                by_cases e0 : k = 0
                                · subst e0; rw [bl_up2_at, if_pos rfl]
                                · rw [bl_up2_nk e0, if_neg e0]; exact hC.1 k hk
                          · intro k hk; rw [bl_up2_ne (by omega), bl_up2_ne (by omega), bl_up2_ne (by omega)]; exact hC.2 k hk))
                  · try simp (disch := omega) only [zI_n, zI_o, zI_lit, zI_neg, zI_add, zI_sub, zI_mul, zI_lt, zI_le, zI_eq, zI_clamp, zI_in, zI_div, zI_rem, lg_lt0, lg_gt0, lg_eq0, lg_le0, lg_ge0, Int.toNat_natCast, ge_iff_le, gt_iff_lt, List.length_cons, List.length_nil, bl_up2_at, bl_up2_nk, bl_up2_nx] at h79
                    first
                    | (exfalso; first | omega | exact h79 trivial)
                    | (refine ⟨(fun _ => by first | exact Or.inl rfl | exact Or.inr rfl), ?_⟩
                       try show _ ∧ _
                       try dsimp only [bl_pv]
                       first
                       | exact Or.inr ⟨k, p, a', rfl, rfl, rfl⟩
                       | (have hq := p3; exact Or.inr ⟨k, p, a', by simp only [pbd, p2, p3], rfl, rfl⟩)
                       | exact Or.inr ⟨k, p, a', by simp only [pbd, p2], rfl, rfl⟩
                       | (refine Or.inl ⟨(up1 (up1 (up1 S.1 0 (nI v)) 1 (nI v2)) 2 (nI v3), S.2), e3, bl_up2 (bl_up2 (bl_up2 I (a + 1) 0 (nI v)) (a + 1) 1 (nI v2)) (a + 1) 2 (nI v3), by simp only [pbd, p2, p3], rfl, ?_, fun x x1 x2 => ?_, ?_, ?_⟩
                          · rw [cl0, cl1, cl2, tpI_up (by omega), tpI_up (by omega), tpI_up (by omega)]
                          · rw [bl_up2_ne x1, bl_up2_ne x1, bl_up2_ne x1]
                          · intro k hk
                            show _ = (if k = 2 then nI v3 else if k = 1 then nI v2 else if k = 0 then nI v else S.1 k)
                            by_cases e2 : k = 2
                            · subst e2; rw [bl_up2_at, if_pos rfl]
                            · rw [bl_up2_nk e2, if_neg e2]
                              by_cases e1 : k = 1
                              · subst e1; rw [bl_up2_at, if_pos rfl]
                              · rw [bl_up2_nk e1, if_neg e1]
                                by_cases e0 : k = 0
                                · subst e0; rw [bl_up2_at, if_pos rfl]
                                · rw [bl_up2_nk e0, if_neg e0]; exact hC.1 k hk
                          · intro k hk; rw [bl_up2_ne (by omega), bl_up2_ne (by omega), bl_up2_ne (by omega)]; exact hC.2 k hk)))
           · try simp (disch := omega) only [zI_n, zI_o, zI_lit, zI_neg, zI_add, zI_sub, zI_mul, zI_lt, zI_le, zI_eq, zI_clamp, zI_in, zI_div, zI_rem, lg_lt0, lg_gt0, lg_eq0, lg_le0, lg_ge0, Int.toNat_natCast, ge_iff_le, gt_iff_lt, List.length_cons, List.length_nil, bl_up2_at, bl_up2_nk, bl_up2_nx] at h39
             first
             | (exfalso; first | omega | exact h39 trivial)
             | (refine ⟨(fun _ => by first | exact Or.inl rfl | exact Or.inr rfl), ?_⟩
                try show _ ∧ _
                try dsimp only [bl_pv]
                first
                | exact Or.inr ⟨k, p, a', rfl, rfl, rfl⟩
                | (have hq := p3; exact Or.inr ⟨k, p, a', by simp only [pbd, p2, p3], rfl, rfl⟩)
                | exact Or.inr ⟨k, p, a', by simp only [pbd, p2], rfl, rfl⟩
                | (refine Or.inl ⟨(up1 (up1 (up1 S.1 0 (nI v)) 1 (nI v2)) 2 (nI v3), S.2), e3, bl_up2 (bl_up2 (bl_up2 I (a + 1) 0 (nI v)) (a + 1) 1 (nI v2)) (a + 1) 2 (nI v3), by simp only [pbd, p2, p3], rfl, ?_, fun x x1 x2 => ?_, ?_, ?_⟩
                   · rw [cl0, cl1, cl2, tpI_up (by omega), tpI_up (by omega), tpI_up (by omega)]
                   · rw [bl_up2_ne x1, bl_up2_ne x1, bl_up2_ne x1]
                   · intro k hk
                     show _ = (if k = 2 then nI v3 else if k = 1 then nI v2 else if k = 0 then nI v else S.1 k)
                     by_cases e2 : k = 2
                     · subst e2; rw [bl_up2_at, if_pos rfl]
                     · rw [bl_up2_nk e2, if_neg e2]
                       by_cases e1 : k = 1
                       · subst e1; rw [bl_up2_at, if_pos rfl]
                       · rw [bl_up2_nk e1, if_neg e1]
                         by_cases e0 : k = 0
                         · subst e0; rw [bl_up2_at, if_pos rfl]
                         · rw [bl_up2_nk e0, if_neg e0]; exact hC.1 k hk
                   · intro k hk; rw [bl_up2_ne (by omega), bl_up2_ne (by omega), bl_up2_ne (by omega)]; exact hC.2 k hk)))
    · try simp (disch := omega) only [zI_n, zI_o, zI_lit, zI_neg, zI_add, zI_sub, zI_mul, zI_lt, zI_le, zI_eq, zI_clamp, zI_in, zI_div, zI_rem, lg_lt0, lg_gt0, lg_eq0, lg_le0, lg_ge0, Int.toNat_natCast, ge_iff_le, gt_iff_lt, List.length_cons, List.length_nil, bl_up2_at, bl_up2_nk, bl_up2_nx] at h17
      first
      | (exfalso; first | omega | exact h17 trivial)
      | (refine ⟨(fun _ => by first | exact Or.inl rfl | exact Or.inr rfl), ?_⟩
         try show _ ∧ _
         try dsimp only [bl_pv]
         first
         | exact Or.inr ⟨k, p, a', rfl, rfl, rfl⟩
         | (have hq := p3; exact Or.inr ⟨k, p, a', by simp only [pbd, p2, p3], rfl, rfl⟩)
         | exact Or.inr ⟨k, p, a', by simp only [pbd, p2], rfl, rfl⟩
         | (refine Or.inl ⟨(up1 (up1 (up1 S.1 0 (nI v)) 1 (nI v2)) 2 (nI v3), S.2), e3, bl_up2 (bl_up2 (bl_up2 I (a + 1) 0 (nI v)) (a + 1) 1 (nI v2)) (a + 1) 2 (nI v3), by simp only [pbd, p2, p3], rfl, ?_, fun x x1 x2 => ?_, ?_, ?_⟩
            · rw [cl0, cl1, cl2, tpI_up (by omega), tpI_up (by omega), tpI_up (by omega)]
            · rw [bl_up2_ne x1, bl_up2_ne x1, bl_up2_ne x1]
            · intro k hk
              show _ = (if k = 2 then nI v3 else if k = 1 then nI v2 else if k = 0 then nI v else S.1 k)
              by_cases e2 : k = 2
              · subst e2; rw [bl_up2_at, if_pos rfl]
              · rw [bl_up2_nk e2, if_neg e2]
                by_cases e1 : k = 1
                · subst e1; rw [bl_up2_at, if_pos rfl]
                · rw [bl_up2_nk e1, if_neg e1]
                  by_cases e0 : k = 0
                  · subst e0; rw [bl_up2_at, if_pos rfl]
                  · rw [bl_up2_nk e0, if_neg e0]; exact hC.1 k hk
            · intro k hk; rw [bl_up2_ne (by omega), bl_up2_ne (by omega), bl_up2_ne (by omega)]; exact hC.2 k hk))
theorem c_Tape_readClause {c : Nat} {x : Int32} (ht : tpS R K N t) (ha : kiS R K N a) (hat : a + 3 < t ∨ t + 1 < a) (ku1 : K u1 = 101) (ku2 : K u2 = 102) (hC : kC I a S) (hn : n ≤ 400) (hi : i ≤ n) (hx : x = nI c) (hc : c ≤ 9 ∧ c ≠ 1 ∧ c ≠ 2) : bl_MC G l (d + 3) mX8_readClause [.ref t, .int x, .ref a] (tpI I t h fk fp (nI n) (nI i) wa, J, R, K, N) (0, 0) (fun o σ' => (∃ S' j I', pcl (I (t + 1)) n c S i = .inl (S', j) ∧ o = .inl (some (.int 1)) ∧ σ' = (tpI I' t h fk fp (nI n) (nI j) wa, J, R, K, N) ∧ (∀ x, x ≠ a + 1 → x ≠ a + 2 → I' x = I x) ∧ kC I' a S') ∨ (∃ k p a', pcl (I (t + 1)) n c S i = .inr (k, p) ∧ o = .inl (some (.int 0)) ∧ σ' = (tpI I t h (nI k) (nI p) (nI n) a' wa, J, R, K, N))) := by
  have kt := ht.2.1
  have ha' := ha
  obtain ⟨-, ka, ra_0, ra_1, -, ⟨kav, nav⟩, ⟨kaq, naq⟩, -⟩ := ha
  subst hx
  have ec : (nI c).toNatClampNeg = c := nI_clamp (by omega)
  have e9 : c ≠ 0 → c ≠ 9 → pcl (I (t + 1)) n c S i = pbd (pnum (I (t + 1)) n (cLo c) (cHi c) i) fun a => .inl ((up1 S.1 c (nI a.1), S.2), a.2) := fun h0 h9 => by
    unfold pcl; rw [if_neg h0, if_neg h9]
  have eL : ∀ c : Nat, c < 9 → ([2, 2, 0, 1, 0, 0, 0, 0, 0] : List Int32).getD c 0 = nI (cLo c) ∧ ([12, 12, 3, 9999, 40, 40, 40, 99, 23] : List Int32).getD c 0 = nI (cHi c) ∧ cLo c ≤ cHi c ∧ cHi c ≤ 9999 := by decide +kernel
  refine bl_MC_intro (by decide +kernel) rfl (Nat.le_of_ble_eq_true rfl) ?_
  refine bl_go oX8_readClause 80 [] rfl ?_
  refine ⟨fun h1 => ?_, fun h1 => ?_⟩
  · try simp (disch := omega) only [zI_n, zI_o, zI_lit, zI_neg, zI_add, zI_sub, zI_mul, zI_lt, zI_le, zI_eq, zI_clamp, zI_in, zI_div, zI_rem, lg_lt0, lg_gt0, lg_eq0, lg_le0, lg_ge0, Int.toNat_natCast, ge_iff_le, gt_iff_lt, List.length_cons, List.length_nil, bl_up2_at, bl_up2_nk, bl_up2_nx] at h1
    first
    | (exfalso; first | omega | exact h1 trivial)
    | (refine ⟨fun h13 => ?_, fun h13 => ?_⟩
       · try simp (disch := omega) only [zI_n, zI_o, zI_lit, zI_neg, zI_add, zI_sub, zI_mul, zI_lt, zI_le, zI_eq, zI_clamp, zI_in, zI_div, zI_rem, lg_lt0, lg_gt0, lg_eq0, lg_le0, lg_ge0, Int.toNat_natCast, ge_iff_le, gt_iff_lt, List.length_cons, List.length_nil, bl_up2_at, bl_up2_nk, bl_up2_nx] at h13
         first
         | (exfalso; first | omega | exact h13 trivial)
         | (refine ⟨u1, ku1, Or.inr (Or.inl ⟨1, _, rfl, ku1, (by show vp_in _ 9; simp (disch := omega) only [zI_n, zI_o, zI_lit, zI_neg, zI_add, zI_sub, zI_mul, zI_lt, zI_le, zI_eq, zI_clamp, zI_in, zI_div, zI_rem, lg_lt0, lg_gt0, lg_eq0, lg_le0, lg_ge0, Int.toNat_natCast, ge_iff_le, gt_iff_lt, List.length_cons, List.length_nil, bl_up2_at, bl_up2_nk, bl_up2_nx] <;> omega), u2, ku2, Or.inr (Or.inl ⟨2, _, rfl, ku2, (by show vp_in _ 9; simp (disch := omega) only [zI_n, zI_o, zI_lit, zI_neg, zI_add, zI_sub, zI_mul, zI_lt, zI_le, zI_eq, zI_clamp, zI_in, zI_div, zI_rem, lg_lt0, lg_gt0, lg_eq0, lg_le0, lg_ge0, Int.toNat_natCast, ge_iff_le, gt_iff_lt, List.length_cons, List.length_nil, bl_up2_at, bl_up2_nk, bl_up2_nx] <;> omega), rfl, rfl, kt, (Nat.le_of_ble_eq_true rfl), (0, 0), Nat.le_of_ble_eq_true rfl, Nat.le_of_ble_eq_true rfl, bl_MC_mono (c_Tape_readNumber (d := d + 1) ht hn hi (lo := cLo c) (hi := cHi c) (by rw [ec]; exact (eL c (by omega)).1) (by rw [ec]; exact (eL c (by omega)).2.1) (eL c (by omega)).2.2.1 (eL c (by omega)).2.2.2) (fun o33 σ33 q33 => ?_)⟩)⟩)⟩
            rcases q33 with ⟨v, e, p1, rfl, rfl⟩ | ⟨k, p, a', p1, rfl, rfl⟩
            · rw [e9 (by omega) (by omega), p1]
              have hv := pnum_le hi p1
              have hv3 := (eL c (by omega)).2.2.2
              refine bl_go oX8_readClause 80 [] rfl ?_
              refine ⟨fun h39 => ?_, fun h39 => ?_⟩
              · try simp (disch := omega) only [zI_n, zI_o, zI_lit, zI_neg, zI_add, zI_sub, zI_mul, zI_lt, zI_le, zI_eq, zI_clamp, zI_in, zI_div, zI_rem, lg_lt0, lg_gt0, lg_eq0, lg_le0, lg_ge0, Int.toNat_natCast, ge_iff_le, gt_iff_lt, List.length_cons, List.length_nil, bl_up2_at, bl_up2_nk, bl_up2_nx] at h39
                first
                | (exfalso; first | omega | exact h39 trivial)
                | (refine ⟨ka, _, bl_vs ra_0, kav, (by first | exact (by rw [nav]; exact vp_in_nI (by omega) (by omega)) | ((try dsimp only [bl_pv]); show vp_in _ (N _); rw [nav]; simp (disch := omega) only [zI_n, zI_o, zI_lit, zI_neg, zI_add, zI_sub, zI_mul, zI_lt, zI_le, zI_eq, zI_clamp, zI_in, zI_div, zI_rem, lg_lt0, lg_gt0, lg_eq0, lg_le0, lg_ge0, Int.toNat_natCast, ge_iff_le, gt_iff_lt, List.length_cons, List.length_nil, bl_up2_at, bl_up2_nk, bl_up2_nx] <;> omega)), (fun _ => by first | exact Or.inl rfl | exact Or.inr rfl), ?_⟩
                   try show _ ∧ _
                   try dsimp only [bl_pv]
                   first
                   | exact Or.inr ⟨k, p, a', rfl, rfl, rfl⟩
                   | (refine Or.inl ⟨(up1 S.1 c (nI v), S.2), e, bl_up2 I (a + 1) c (nI v), rfl, rfl, ?_, fun x x1 x2 => bl_up2_ne x1, ?_, ?_⟩
                      · rw [ec, tpI_up (by omega)]
                      · intro k hk
                        show _ = (if k = c then nI v else S.1 k)
                        by_cases e : k = c
                        · subst e; rw [bl_up2_at, if_pos rfl]
                        · rw [bl_up2_nk e, if_neg e]; exact hC.1 k hk
                      · intro k hk; rw [bl_up2_ne (by omega)]; exact hC.2 k hk))
              · try simp (disch := omega) only [zI_n, zI_o, zI_lit, zI_neg, zI_add, zI_sub, zI_mul, zI_lt, zI_le, zI_eq, zI_clamp, zI_in, zI_div, zI_rem, lg_lt0, lg_gt0, lg_eq0, lg_le0, lg_ge0, Int.toNat_natCast, ge_iff_le, gt_iff_lt, List.length_cons, List.length_nil, bl_up2_at, bl_up2_nk, bl_up2_nx] at h39
                first
                | (exfalso; first | omega | exact h39 trivial)
                | (refine ⟨(fun _ => by first | exact Or.inl rfl | exact Or.inr rfl), ?_⟩
                   try show _ ∧ _
                   try dsimp only [bl_pv]
                   first
                   | exact Or.inr ⟨k, p, a', rfl, rfl, rfl⟩
                   | (refine Or.inl ⟨(up1 S.1 c (nI v), S.2), e, bl_up2 I (a + 1) c (nI v), rfl, rfl, ?_, fun x x1 x2 => bl_up2_ne x1, ?_, ?_⟩
                      · rw [ec, tpI_up (by omega)]
                      · intro k hk
                        show _ = (if k = c then nI v else S.1 k)
                        by_cases e : k = c
                        · subst e; rw [bl_up2_at, if_pos rfl]
                        · rw [bl_up2_nk e, if_neg e]; exact hC.1 k hk
                      · intro k hk; rw [bl_up2_ne (by omega)]; exact hC.2 k hk))
            · rw [e9 (by omega) (by omega), p1]
              refine bl_go oX8_readClause 80 [] rfl ?_
              refine ⟨fun h39 => ?_, fun h39 => ?_⟩
              · try simp (disch := omega) only [zI_n, zI_o, zI_lit, zI_neg, zI_add, zI_sub, zI_mul, zI_lt, zI_le, zI_eq, zI_clamp, zI_in, zI_div, zI_rem, lg_lt0, lg_gt0, lg_eq0, lg_le0, lg_ge0, Int.toNat_natCast, ge_iff_le, gt_iff_lt, List.length_cons, List.length_nil, bl_up2_at, bl_up2_nk, bl_up2_nx] at h39
                first
                | (exfalso; first | omega | exact h39 trivial)
                | (refine ⟨ka, _, bl_vs ra_0, kav, (by first | exact (by rw [nav]; exact vp_in_nI (by omega) (by omega)) | ((try dsimp only [bl_pv]); show vp_in _ (N _); rw [nav]; simp (disch := omega) only [zI_n, zI_o, zI_lit, zI_neg, zI_add, zI_sub, zI_mul, zI_lt, zI_le, zI_eq, zI_clamp, zI_in, zI_div, zI_rem, lg_lt0, lg_gt0, lg_eq0, lg_le0, lg_ge0, Int.toNat_natCast, ge_iff_le, gt_iff_lt, List.length_cons, List.length_nil, bl_up2_at, bl_up2_nk, bl_up2_nx] <;> omega)), (fun _ => by first | exact Or.inl rfl | exact Or.inr rfl), ?_⟩
                   try show _ ∧ _
                   try dsimp only [bl_pv]
                   first
                   | exact Or.inr ⟨k, p, a', rfl, rfl, rfl⟩
                   | (refine Or.inl ⟨(up1 S.1 c (nI v), S.2), e, bl_up2 I (a + 1) c (nI v), rfl, rfl, ?_, fun x x1 x2 => bl_up2_ne x1, ?_, ?_⟩
                      · rw [ec, tpI_up (by omega)]
                      · intro k hk
                        show _ = (if k = c then nI v else S.1 k)
                        by_cases e : k = c
                        · subst e; rw [bl_up2_at, if_pos rfl]
                        · rw [bl_up2_nk e, if_neg e]; exact hC.1 k hk
                      · intro k hk; rw [bl_up2_ne (by omega)]; exact hC.2 k hk))
              · try simp (disch := omega) only [zI_n, zI_o, zI_lit, zI_neg, zI_add, zI_sub, zI_mul, zI_lt, zI_le, zI_eq, zI_clamp, zI_in, zI_div, zI_rem, lg_lt0, lg_gt0, lg_eq0, lg_le0, lg_ge0, Int.toNat_natCast, ge_iff_le, gt_iff_lt, List.length_cons, List.length_nil, bl_up2_at, bl_up2_nk, bl_up2_nx] at h39
                first
                | (exfalso; first | omega | exact h39 trivial)
                | (refine ⟨(fun _ => by first | exact Or.inl rfl | exact Or.inr rfl), ?_⟩
                   try show _ ∧ _
                   try dsimp only [bl_pv]
                   first
                   | exact Or.inr ⟨k, p, a', rfl, rfl, rfl⟩
                   | (refine Or.inl ⟨(up1 S.1 c (nI v), S.2), e, bl_up2 I (a + 1) c (nI v), rfl, rfl, ?_, fun x x1 x2 => bl_up2_ne x1, ?_, ?_⟩
                      · rw [ec, tpI_up (by omega)]
                      · intro k hk
                        show _ = (if k = c then nI v else S.1 k)
                        by_cases e : k = c
                        · subst e; rw [bl_up2_at, if_pos rfl]
                        · rw [bl_up2_nk e, if_neg e]; exact hC.1 k hk
                      · intro k hk; rw [bl_up2_ne (by omega)]; exact hC.2 k hk)))
       · try simp (disch := omega) only [zI_n, zI_o, zI_lit, zI_neg, zI_add, zI_sub, zI_mul, zI_lt, zI_le, zI_eq, zI_clamp, zI_in, zI_div, zI_rem, lg_lt0, lg_gt0, lg_eq0, lg_le0, lg_ge0, Int.toNat_natCast, ge_iff_le, gt_iff_lt, List.length_cons, List.length_nil, bl_up2_at, bl_up2_nk, bl_up2_nx] at h13
         first
         | (exfalso; first | omega | exact h13 trivial)
         | (refine ⟨rfl, rfl, kt, (Nat.le_of_ble_eq_true rfl), (0, 0), Nat.le_of_ble_eq_true rfl, Nat.le_of_ble_eq_true rfl, bl_MC_mono (c_Tape_readRoom (d := d) ht ha' hat hC hn hi) (fun o18 σ18 q18 => ?_)⟩
            try dsimp only [bl_pv] at q18
            have ez : c = 9 := by omega
            subst ez
            have hz : ∃ z, o18 = .inl (some (.int z)) ∧ (z = 0 ∨ z = 1) := by
              rcases q18 with ⟨_, _, _, _, r, _⟩ | ⟨_, _, _, _, r, _⟩
              · exact ⟨1, r, Or.inr rfl⟩
              · exact ⟨0, r, Or.inl rfl⟩
            obtain ⟨z, rfl, hz⟩ := hz
            refine bl_go oX8_readClause 80 [] rfl ?_
            refine ⟨(by exact fun _ => hz), ?_⟩
            try show _ ∧ _
            try dsimp only [bl_pv]
            exact q18))
  · try simp (disch := omega) only [zI_n, zI_o, zI_lit, zI_neg, zI_add, zI_sub, zI_mul, zI_lt, zI_le, zI_eq, zI_clamp, zI_in, zI_div, zI_rem, lg_lt0, lg_gt0, lg_eq0, lg_le0, lg_ge0, Int.toNat_natCast, ge_iff_le, gt_iff_lt, List.length_cons, List.length_nil, bl_up2_at, bl_up2_nk, bl_up2_nx] at h1
    first
    | (exfalso; first | omega | exact h1 trivial)
    | (refine ⟨rfl, rfl, kt, (Nat.le_of_ble_eq_true rfl), (0, 0), Nat.le_of_ble_eq_true rfl, Nat.le_of_ble_eq_true rfl, bl_MC_mono (c_Tape_readSlab (d := d) ht ha' hat ku1 ku2 hC hn hi) (fun o6 σ6 q6 => ?_)⟩
       try dsimp only [bl_pv] at q6
       have ez : c = 0 := by omega
       subst ez
       have hz : ∃ z, o6 = .inl (some (.int z)) ∧ (z = 0 ∨ z = 1) := by
         rcases q6 with ⟨_, _, _, _, r, _⟩ | ⟨_, _, _, _, r, _⟩
         · exact ⟨1, r, Or.inr rfl⟩
         · exact ⟨0, r, Or.inl rfl⟩
       obtain ⟨z, rfl, hz⟩ := hz
       refine bl_go oX8_readClause 80 [] rfl ?_
       refine ⟨(by exact fun _ => hz), ?_⟩
       try show _ ∧ _
       try dsimp only [bl_pv]
       exact q6)
end TAPE3
