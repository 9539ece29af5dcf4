/-! ===== Model: wrong, begin, latest, images, count ===== -/
theorem fst1_none {p : Nat → Bool} : ∀ n, n ≤ 1000 → (fst1 p n = zI (-1) ↔ ∀ k, k < n → p k = false)
  | 0, _ => ⟨fun _ k hk => absurd hk (by omega), fun _ => rfl⟩
  | n + 1, hn => by
    have ih := fst1_none (p := p) n (by omega)
    show (if p n = true ∧ fst1 p n = zI (-1) then nI n else fst1 p n) = zI (-1) ↔ _
    by_cases h : p n = true ∧ fst1 p n = zI (-1)
    · rw [if_pos h]
      refine ⟨fun e => absurd e (by rw [zI_n, zI_eq (by omega) (by omega) (by omega) (by omega)]; omega), fun q => ?_⟩
      have := q n (by omega)
      rw [h.1] at this; exact absurd this (by decide)
    · rw [if_neg h, ih]
      refine ⟨fun q k hk => ?_, fun q k hk => q k (by omega)⟩
      by_cases e : k = n
      · subst e
        cases hp : p k
        · rfl
        · exact absurd ⟨hp, ih.mpr q⟩ h
      · exact q k (by omega)
section MODEL25
variable {G : bl_G} {l : Launch} {d m : Nat} {I : Nat → Nat → Int32} {J : Nat → Nat → Int64} {R : Nat → Nat → Option Nat} {K N : Nat → Nat} {A : aS} {x y w : Int32}
def wrE (A : aS) (x w : Int32) : Nat := if rb A.2.2.1 x then (if wb 2 w then 0 else 2) else 1
noncomputable def wrV (A : aS) (r : Nat) (w : Int32) : Int32 := if w = 0 then fst1 (fwB A.1 A.2.1 (A.2.2.2.1 r) A.2.2.2.2) (aD A r) else if w = 1 then fst1 (fwR A.1 A.2.1 (A.2.2.2.1 r) A.2.2.2.2) (aD A r) else if aD A r < (A.2.2.2.1 r).1 then nI (aD A r) else zI (-1)
theorem c_Model_wrong (hm : mdS R K N m) (hK : mdK I m A) : bl_MC G l (d + 6) mX11_wrong [.ref m, .int x, .int w] (I, J, R, K, N) (0, 0) (fun o σ' => ∃ I' J' v, σ' = (I', J', R, K, N) ∧ gtG I I' J J' m ∧ I' m 0 = nI (wrE A x w) ∧ o = .inl (some (.int v)) ∧ (wrE A x w = 0 → v = wrV A (rn x) w)) := by
  have km := hm.2.1
  have hK0 : mdK (bl_up2 I m 0 0) m A := hK.G (J := J) (J' := J) gtG.up
  have hc := hK0.2.2.1.1
  have hc4 := hK.2.2.1.2.1
  by_cases hz : rb A.2.2.1 x = true
  · have hz' := rb_t.mp hz
    obtain ⟨r, hr, rfl, er⟩ := rb_n (by omega) hz
    by_cases hw : 0 ≤ w ∧ w ≤ 2
    · have hE : wrE A (nI r) w = 0 := by unfold wrE; rw [if_pos hz, if_pos (wb_t hw)]
      obtain ⟨v, hv, rfl⟩ := i32_nat (b := 2) (by omega) hw.1 hw.2
      refine bl_MC_intro (by decide +kernel) rfl (Nat.le_of_ble_eq_true rfl) ?_
      refine bl_go oX11_wrong 80 [] rfl ?_
      refine ⟨km, Or.inr (Or.inr ⟨rfl, rfl, _, rfl⟩), (fun h => by cases h), rfl, rfl, km, (Nat.le_of_ble_eq_true rfl), (0, 0), Nat.le_of_ble_eq_true rfl, Nat.le_of_ble_eq_true rfl, bl_MC_mono (c_Model_isRT (d := d + 4) km hc hz') (fun o8 σ8 q8 => ?_)⟩
      try dsimp only [bl_pv] at q8
      obtain ⟨rfl, rfl⟩ := q8
      refine bl_go oX11_wrong 80 [] rfl ?_
      refine ⟨fun h11 => ?_, fun h11 => ?_⟩
      · try simp (disch := omega) only [bl_pv, cl0, cl1, cl2, cl3, cl4, cl5, cl6, cl7, cl8, cl9, bl_up2_at, bl_up2_nk, bl_up2_nx] at h11
        first
        | (exfalso; first | omega | exact h11 trivial)
        | (refine ⟨rfl, rfl, km, (Nat.le_of_ble_eq_true rfl), (0, 0), Nat.le_of_ble_eq_true rfl, Nat.le_of_ble_eq_true rfl, bl_MC_mono (c_Model_badF (d := d + 5) km bl_up2_at) (fun o20 σ20 q20 => ?_)⟩
           try dsimp only [bl_pv] at q20
           obtain ⟨rfl, rfl⟩ := q20
           refine bl_go oX11_wrong 80 [] rfl ?_
           refine ⟨fun h23 => ?_, fun h23 => ?_⟩
           · try simp (disch := omega) only [bl_pv, cl0, cl1, cl2, cl3, cl4, cl5, cl6, cl7, cl8, cl9, bl_up2_at, bl_up2_nk, bl_up2_nx] at h23
             (first | exact absurd rfl h23 | exact absurd trivial h23 | exact absurd h23 (by decide))
           · try simp (disch := omega) only [bl_pv, cl0, cl1, cl2, cl3, cl4, cl5, cl6, cl7, cl8, cl9, bl_up2_at, bl_up2_nk, bl_up2_nx] at h23
             first
             | (exfalso; first | omega | exact h23 trivial)
             | (refine ⟨rfl, (Nat.le_of_ble_eq_true rfl), (0, 0), Nat.le_of_ble_eq_true rfl, Nat.le_of_ble_eq_true rfl, bl_MC_mono (c_Model_inT (d := d + 5) hw) (fun o30 σ30 q30 => ?_)⟩
                try dsimp only [bl_pv] at q30
                obtain ⟨rfl, rfl⟩ := q30
                refine bl_go oX11_wrong 80 [] rfl ?_
                refine ⟨fun h33 => ?_, fun h33 => ?_⟩
                · try simp (disch := omega) only [bl_pv, cl0, cl1, cl2, cl3, cl4, cl5, cl6, cl7, cl8, cl9, bl_up2_at, bl_up2_nk, bl_up2_nx] at h33
                  first
                  | (exfalso; first | omega | exact h33 trivial)
                  | (refine ⟨rfl, rfl, km, (Nat.le_of_ble_eq_true rfl), (0, 0), Nat.le_of_ble_eq_true rfl, Nat.le_of_ble_eq_true rfl, bl_MC_mono (c_Model_badF (d := d + 5) km bl_up2_at) (fun o42 σ42 q42 => ?_)⟩
                     try dsimp only [bl_pv] at q42
                     obtain ⟨rfl, rfl⟩ := q42
                     refine bl_go oX11_wrong 80 [] rfl ?_
                     refine ⟨fun h45 => ?_, fun h45 => ?_⟩
                     · try simp (disch := omega) only [bl_pv, cl0, cl1, cl2, cl3, cl4, cl5, cl6, cl7, cl8, cl9, bl_up2_at, bl_up2_nk, bl_up2_nx] at h45
                       first
                       | (exfalso; first | omega | exact h45 trivial)
                       | (refine ⟨rfl, rfl, km, (Nat.le_of_ble_eq_true rfl), (0, 0), Nat.le_of_ble_eq_true rfl, Nat.le_of_ble_eq_true rfl, bl_MC_mono (c_Model_doneOf (d := d) (r := r) hm hK0 hr rfl) (fun o52 σ52 q52 => ?_)⟩
                          try dsimp only [bl_pv] at q52
                          obtain ⟨rfl, I1, J1, rfl, f1, f2, f3⟩ := q52
                          refine bl_go oX11_wrong 80 [] rfl ?_
                          refine ⟨rfl, fun h57 => ?_, fun h57 => ?_⟩
                          · try simp (disch := omega) only [zI_n, zI_o, zI_lit, zI_neg, zI_add, zI_sub, zI_mul, zI_lt, zI_le, zI_eq, zI_clamp, zI_in, zI_div, zI_rem, lg_lt0, lg_gt0, lg_eq0, lg_le0, lg_ge0, Int.toNat_natCast, ge_iff_le, gt_iff_lt, List.length_cons, List.length_nil, bl_up2_at, bl_up2_nk, bl_up2_nx] at h57
                            first
                            | (exfalso; first | omega | exact h57 trivial)
                            | (refine ⟨fun h69 => ?_, fun h69 => ?_⟩
                               · try simp (disch := omega) only [zI_n, zI_o, zI_lit, zI_neg, zI_add, zI_sub, zI_mul, zI_lt, zI_le, zI_eq, zI_clamp, zI_in, zI_div, zI_rem, lg_lt0, lg_gt0, lg_eq0, lg_le0, lg_ge0, Int.toNat_natCast, ge_iff_le, gt_iff_lt, List.length_cons, List.length_nil, bl_up2_at, bl_up2_nk, bl_up2_nx] at h69
                                 first
                                 | (exfalso; first | omega | exact h69 trivial)
                                 | (refine ⟨km, (fun h => by cases h), ?_⟩
                                    try show _ ∧ _
                                    try dsimp only [bl_pv]
                                    refine ⟨I1, J1, _, rfl, gtG.trans gtG.up f1.G, ?_, rfl, fun _ => ?_⟩
                                    · rw [hE, f1.2.1 0 (by omega)]; exact bl_up2_at
                                    · unfold wrV
                                      rw [show rn (nI r) = r from er]
                                      first
                                      | (have hq : v = 0 := by omega
                                         subst hq; rw [if_pos (show nI 0 = 0 from rfl)]; exact f2.2.2.1)
                                      | (have hq : v = 1 := by omega
                                         subst hq; rw [if_neg (by decide), if_pos (show nI 1 = 1 from rfl)]; exact f2.2.2.2.1)
                                      | (have hq : v = 2 := by omega
                                         subst hq; rw [if_neg (by decide), if_neg (by decide)]; exact f3))
                               · try simp (disch := omega) only [zI_n, zI_o, zI_lit, zI_neg, zI_add, zI_sub, zI_mul, zI_lt, zI_le, zI_eq, zI_clamp, zI_in, zI_div, zI_rem, lg_lt0, lg_gt0, lg_eq0, lg_le0, lg_ge0, Int.toNat_natCast, ge_iff_le, gt_iff_lt, List.length_cons, List.length_nil, bl_up2_at, bl_up2_nk, bl_up2_nx] at h69
                                 first
                                 | (exfalso; first | omega | exact h69 trivial)
                                 | (refine ⟨km, (fun h => by cases h), ?_⟩
                                    try show _ ∧ _
                                    try dsimp only [bl_pv]
                                    refine ⟨I1, J1, _, rfl, gtG.trans gtG.up f1.G, ?_, rfl, fun _ => ?_⟩
                                    · rw [hE, f1.2.1 0 (by omega)]; exact bl_up2_at
                                    · unfold wrV
                                      rw [show rn (nI r) = r from er]
                                      first
                                      | (have hq : v = 0 := by omega
                                         subst hq; rw [if_pos (show nI 0 = 0 from rfl)]; exact f2.2.2.1)
                                      | (have hq : v = 1 := by omega
                                         subst hq; rw [if_neg (by decide), if_pos (show nI 1 = 1 from rfl)]; exact f2.2.2.2.1)
                                      | (have hq : v = 2 := by omega
                                         subst hq; rw [if_neg (by decide), if_neg (by decide)]; exact f3)))
                          · try simp (disch := omega) only [zI_n, zI_o, zI_lit, zI_neg, zI_add, zI_sub, zI_mul, zI_lt, zI_le, zI_eq, zI_clamp, zI_in, zI_div, zI_rem, lg_lt0, lg_gt0, lg_eq0, lg_le0, lg_ge0, Int.toNat_natCast, ge_iff_le, gt_iff_lt, List.length_cons, List.length_nil, bl_up2_at, bl_up2_nk, bl_up2_nx] at h57
                            first
                            | (exfalso; first | omega | exact h57 trivial)
                            | (refine ⟨km, (fun h => by cases h), ?_⟩
                               try show _ ∧ _
                               try dsimp only [bl_pv]
                               refine ⟨I1, J1, _, rfl, gtG.trans gtG.up f1.G, ?_, rfl, fun _ => ?_⟩
                               · rw [hE, f1.2.1 0 (by omega)]; exact bl_up2_at
                               · unfold wrV
                                 rw [show rn (nI r) = r from er]
                                 first
                                 | (have hq : v = 0 := by omega
                                    subst hq; rw [if_pos (show nI 0 = 0 from rfl)]; exact f2.2.2.1)
                                 | (have hq : v = 1 := by omega
                                    subst hq; rw [if_neg (by decide), if_pos (show nI 1 = 1 from rfl)]; exact f2.2.2.2.1)
                                 | (have hq : v = 2 := by omega
                                    subst hq; rw [if_neg (by decide), if_neg (by decide)]; exact f3)))
                     · try simp (disch := omega) only [bl_pv, cl0, cl1, cl2, cl3, cl4, cl5, cl6, cl7, cl8, cl9, bl_up2_at, bl_up2_nk, bl_up2_nx] at h45
                       (first | exact absurd rfl h45 | exact absurd trivial h45 | exact absurd h45 (by decide)))
                · try simp (disch := omega) only [bl_pv, cl0, cl1, cl2, cl3, cl4, cl5, cl6, cl7, cl8, cl9, bl_up2_at, bl_up2_nk, bl_up2_nx] at h33
                  (first | exact absurd rfl h33 | exact absurd trivial h33 | exact absurd h33 (by decide))))
      · try simp (disch := omega) only [bl_pv, cl0, cl1, cl2, cl3, cl4, cl5, cl6, cl7, cl8, cl9, bl_up2_at, bl_up2_nk, bl_up2_nx] at h11
        (first | exact absurd rfl h11 | exact absurd trivial h11 | exact absurd h11 (by decide))
    · have hE : wrE A (nI r) w = 2 := by unfold wrE; rw [if_pos hz, if_neg (wb_f hw)]
      refine bl_MC_intro (by decide +kernel) rfl (Nat.le_of_ble_eq_true rfl) ?_
      refine bl_go oX11_wrong 80 [50] rfl ?_
      refine ⟨km, Or.inr (Or.inr ⟨rfl, rfl, _, rfl⟩), (fun h => by cases h), rfl, rfl, km, (Nat.le_of_ble_eq_true rfl), (0, 0), Nat.le_of_ble_eq_true rfl, Nat.le_of_ble_eq_true rfl, bl_MC_mono (c_Model_isRT (d := d + 4) km hc hz') (fun o8 σ8 q8 => ?_)⟩
      try dsimp only [bl_pv] at q8
      obtain ⟨rfl, rfl⟩ := q8
      refine bl_go oX11_wrong 80 [50] rfl ?_
      refine ⟨fun h11 => ?_, fun h11 => ?_⟩
      · try simp (disch := omega) only [bl_pv, cl0, cl1, cl2, cl3, cl4, cl5, cl6, cl7, cl8, cl9, bl_up2_at, bl_up2_nk, bl_up2_nx] at h11
        first
        | (exfalso; first | omega | exact h11 trivial)
        | (refine ⟨rfl, rfl, km, (Nat.le_of_ble_eq_true rfl), (0, 0), Nat.le_of_ble_eq_true rfl, Nat.le_of_ble_eq_true rfl, bl_MC_mono (c_Model_badF (d := d + 5) km bl_up2_at) (fun o20 σ20 q20 => ?_)⟩
           try dsimp only [bl_pv] at q20
           obtain ⟨rfl, rfl⟩ := q20
           refine bl_go oX11_wrong 80 [50] rfl ?_
           refine ⟨fun h23 => ?_, fun h23 => ?_⟩
           · try simp (disch := omega) only [bl_pv, cl0, cl1, cl2, cl3, cl4, cl5, cl6, cl7, cl8, cl9, bl_up2_at, bl_up2_nk, bl_up2_nx] at h23
             (first | exact absurd rfl h23 | exact absurd trivial h23 | exact absurd h23 (by decide))
           · try simp (disch := omega) only [bl_pv, cl0, cl1, cl2, cl3, cl4, cl5, cl6, cl7, cl8, cl9, bl_up2_at, bl_up2_nk, bl_up2_nx] at h23
             first
             | (exfalso; first | omega | exact h23 trivial)
             | (refine ⟨rfl, (Nat.le_of_ble_eq_true rfl), (0, 0), Nat.le_of_ble_eq_true rfl, Nat.le_of_ble_eq_true rfl, bl_MC_mono (c_Model_inF (d := d + 5) hw) (fun o30 σ30 q30 => ?_)⟩
                try dsimp only [bl_pv] at q30
                obtain ⟨rfl, rfl⟩ := q30
                refine bl_go oX11_wrong 80 [50] rfl ?_
                refine ⟨fun h33 => ?_, fun h33 => ?_⟩
                · try simp (disch := omega) only [bl_pv, cl0, cl1, cl2, cl3, cl4, cl5, cl6, cl7, cl8, cl9, bl_up2_at, bl_up2_nk, bl_up2_nx] at h33
                  (first | exact absurd rfl h33 | exact absurd trivial h33 | exact absurd h33 (by decide))
                · try simp (disch := omega) only [bl_pv, cl0, cl1, cl2, cl3, cl4, cl5, cl6, cl7, cl8, cl9, bl_up2_at, bl_up2_nk, bl_up2_nx] at h33
                  first
                  | (exfalso; first | omega | exact h33 trivial)
                  | (refine ⟨rfl, rfl, km, (Nat.le_of_ble_eq_true rfl), (0, 0), Nat.le_of_ble_eq_true rfl, Nat.le_of_ble_eq_true rfl, bl_MC_mono (c_Model_badT (d := d + 5) km bl_up2_at (by decide) (by decide)) (fun o42 σ42 q42 => ?_)⟩
                     try dsimp only [bl_pv] at q42
                     obtain ⟨rfl, rfl⟩ := q42
                     refine bl_go oX11_wrong 80 [50] rfl ?_
                     refine ⟨fun h45 => ?_, fun h45 => ?_⟩
                     · try simp (disch := omega) only [bl_pv, cl0, cl1, cl2, cl3, cl4, cl5, cl6, cl7, cl8, cl9, bl_up2_at, bl_up2_nk, bl_up2_nx] at h45
                       first
                       | (exfalso; first | omega | exact h45 trivial)
                       | (try dsimp only [bl_pv]
                          (first | exact absurd rfl h45 | exact absurd trivial h45 | exact absurd h45 (by decide)))
                     · try simp (disch := omega) only [bl_pv, cl0, cl1, cl2, cl3, cl4, cl5, cl6, cl7, cl8, cl9, bl_up2_at, bl_up2_nk, bl_up2_nx] at h45
                       first
                       | (exfalso; first | omega | exact h45 trivial)
                       | (refine ⟨(fun h => by cases h), ?_⟩
                          try show _ ∧ _
                          try dsimp only [bl_pv]
                          refine ⟨_, J, _, rfl, gtG.trans gtG.up gtG.up, ?_, rfl, fun h => ?_⟩
                          · rw [hE]; exact bl_up2_at
                          · rw [hE] at h; exact absurd h (by decide)))))
      · try simp (disch := omega) only [bl_pv, cl0, cl1, cl2, cl3, cl4, cl5, cl6, cl7, cl8, cl9, bl_up2_at, bl_up2_nk, bl_up2_nx] at h11
        (first | exact absurd rfl h11 | exact absurd trivial h11 | exact absurd h11 (by decide))
  · have hE : wrE A x w = 1 := by unfold wrE; rw [if_neg hz]
    refine bl_MC_intro (by decide +kernel) rfl (Nat.le_of_ble_eq_true rfl) ?_
    refine bl_go oX11_wrong 80 [26] rfl ?_
    refine ⟨km, Or.inr (Or.inr ⟨rfl, rfl, _, rfl⟩), (fun h => by cases h), rfl, rfl, km, (Nat.le_of_ble_eq_true rfl), (0, 0), Nat.le_of_ble_eq_true rfl, Nat.le_of_ble_eq_true rfl, bl_MC_mono (c_Model_isRF (d := d + 4) km hc (fun h => hz (rb_t.mpr h))) (fun o8 σ8 q8 => ?_)⟩
    try dsimp only [bl_pv] at q8
    obtain ⟨rfl, rfl⟩ := q8
    refine bl_go oX11_wrong 80 [26] rfl ?_
    refine ⟨fun h11 => ?_, fun h11 => ?_⟩
    · try simp (disch := omega) only [bl_pv, cl0, cl1, cl2, cl3, cl4, cl5, cl6, cl7, cl8, cl9, bl_up2_at, bl_up2_nk, bl_up2_nx] at h11
      (first | exact absurd rfl h11 | exact absurd trivial h11 | exact absurd h11 (by decide))
    · try simp (disch := omega) only [bl_pv, cl0, cl1, cl2, cl3, cl4, cl5, cl6, cl7, cl8, cl9, bl_up2_at, bl_up2_nk, bl_up2_nx] at h11
      first
      | (exfalso; first | omega | exact h11 trivial)
      | (refine ⟨rfl, rfl, km, (Nat.le_of_ble_eq_true rfl), (0, 0), Nat.le_of_ble_eq_true rfl, Nat.le_of_ble_eq_true rfl, bl_MC_mono (c_Model_badT (d := d + 5) km bl_up2_at (by decide) (by decide)) (fun o20 σ20 q20 => ?_)⟩
         try dsimp only [bl_pv] at q20
         obtain ⟨rfl, rfl⟩ := q20
         refine bl_go oX11_wrong 80 [26] rfl ?_
         refine ⟨fun h23 => ?_, fun h23 => ?_⟩
         · try simp (disch := omega) only [bl_pv, cl0, cl1, cl2, cl3, cl4, cl5, cl6, cl7, cl8, cl9, bl_up2_at, bl_up2_nk, bl_up2_nx] at h23
           first
           | (exfalso; first | omega | exact h23 trivial)
           | (refine ⟨(fun h => by cases h), ?_⟩
              try show _ ∧ _
              try dsimp only [bl_pv]
              refine ⟨_, J, _, rfl, gtG.trans gtG.up gtG.up, ?_, rfl, fun h => ?_⟩
              · rw [hE]; exact bl_up2_at
              · rw [hE] at h; exact absurd h (by decide))
         · try simp (disch := omega) only [bl_pv, cl0, cl1, cl2, cl3, cl4, cl5, cl6, cl7, cl8, cl9, bl_up2_at, bl_up2_nk, bl_up2_nx] at h23
           first
           | (exfalso; first | omega | exact h23 trivial)
           | (try dsimp only [bl_pv]
              (first | exact absurd rfl h23 | exact absurd trivial h23 | exact absurd h23 (by decide))))
def bgE (x : Int32) : Nat := if wb 287 x then 0 else 1
theorem c_Model_begin (km : K m = 12) : bl_MC G l (d + 1) mX11_begin [.ref m, .int x] (I, J, R, K, N) (0, 0) (fun o σ' => ∃ I' v, σ' = (I', J, R, K, N) ∧ (∀ y, y ≠ m → I' y = I y) ∧ (∀ j, j ≠ 0 → j ≠ 14 → I' m j = I m j) ∧ I' m 0 = nI (bgE x) ∧ I' m 14 = (if bgE x = 0 then x else I m 14) ∧ o = .inl (some (.int v)) ∧ (bgE x = 0 → v = I m 14)) := by
  by_cases hw : 0 ≤ x ∧ x ≤ 287
  · have hE : bgE x = 0 := by unfold bgE; rw [if_pos (wb_t hw)]
    refine bl_MC_intro (by decide +kernel) rfl (Nat.le_of_ble_eq_true rfl) ?_
    refine bl_go oX11_begin 80 [] rfl ?_
    refine ⟨km, Or.inr (Or.inr ⟨rfl, rfl, _, rfl⟩), (fun h => by cases h), rfl, (Nat.le_of_ble_eq_true rfl), (0, 0), Nat.le_of_ble_eq_true rfl, Nat.le_of_ble_eq_true rfl, bl_MC_mono (c_Model_inT (d := d) hw) (fun o11 σ11 q11 => ?_)⟩
    try dsimp only [bl_pv] at q11
    obtain ⟨rfl, rfl⟩ := q11
    refine bl_go oX11_begin 80 [] rfl ?_
    refine ⟨fun h14 => ?_, fun h14 => ?_⟩
    · try simp (disch := omega) only [bl_pv, cl0, cl1, cl2, cl3, cl4, cl5, cl6, cl7, cl8, cl9, bl_up2_at, bl_up2_nk, bl_up2_nx] at h14
      first
      | (exfalso; first | omega | exact h14 trivial)
      | (refine ⟨rfl, rfl, km, (Nat.le_of_ble_eq_true rfl), (0, 0), Nat.le_of_ble_eq_true rfl, Nat.le_of_ble_eq_true rfl, bl_MC_mono (c_Model_badF (d := d) km bl_up2_at) (fun o23 σ23 q23 => ?_)⟩
         try dsimp only [bl_pv] at q23
         obtain ⟨rfl, rfl⟩ := q23
         refine bl_go oX11_begin 80 [] rfl ?_
         refine ⟨fun h26 => ?_, fun h26 => ?_⟩
         · try simp (disch := omega) only [bl_pv, cl0, cl1, cl2, cl3, cl4, cl5, cl6, cl7, cl8, cl9, bl_up2_at, bl_up2_nk, bl_up2_nx] at h26
           first
           | (exfalso; first | omega | exact h26 trivial)
           | (refine ⟨km, km, Or.inr (Or.inr ⟨rfl, rfl, _, rfl⟩), (fun h => by cases h), (fun h => by cases h), ?_⟩
              try show _ ∧ _
              try dsimp only [bl_pv]
              refine ⟨_, _, rfl, fun y hy => ?_, fun j j0 j1 => ?_, ?_, ?_, rfl, fun _ => ?_⟩
              · rw [bl_up2_ne hy, bl_up2_ne hy]
              · rw [bl_up2_nk j1, bl_up2_nk j0]
              · rw [bl_up2_nk (by omega), bl_up2_at, hE]; rfl
              · rw [bl_up2_at, if_pos hE]
              · rw [bl_up2_nk (by omega)])
         · try simp (disch := omega) only [bl_pv, cl0, cl1, cl2, cl3, cl4, cl5, cl6, cl7, cl8, cl9, bl_up2_at, bl_up2_nk, bl_up2_nx] at h26
           (first | exact absurd rfl h26 | exact absurd trivial h26 | exact absurd h26 (by decide)))
    · try simp (disch := omega) only [bl_pv, cl0, cl1, cl2, cl3, cl4, cl5, cl6, cl7, cl8, cl9, bl_up2_at, bl_up2_nk, bl_up2_nx] at h14
      (first | exact absurd rfl h14 | exact absurd trivial h14 | exact absurd h14 (by decide))
  · have hE : bgE x = 1 := by unfold bgE; rw [if_neg (wb_f hw)]
    refine bl_MC_intro (by decide +kernel) rfl (Nat.le_of_ble_eq_true rfl) ?_
    refine bl_go oX11_begin 80 [31] rfl ?_
    refine ⟨km, Or.inr (Or.inr ⟨rfl, rfl, _, rfl⟩), (fun h => by cases h), rfl, (Nat.le_of_ble_eq_true rfl), (0, 0), Nat.le_of_ble_eq_true rfl, Nat.le_of_ble_eq_true rfl, bl_MC_mono (c_Model_inF (d := d) hw) (fun o11 σ11 q11 => ?_)⟩
    try dsimp only [bl_pv] at q11
    obtain ⟨rfl, rfl⟩ := q11
    refine bl_go oX11_begin 80 [31] rfl ?_
    refine ⟨fun h14 => ?_, fun h14 => ?_⟩
    · try simp (disch := omega) only [bl_pv, cl0, cl1, cl2, cl3, cl4, cl5, cl6, cl7, cl8, cl9, bl_up2_at, bl_up2_nk, bl_up2_nx] at h14
      (first | exact absurd rfl h14 | exact absurd trivial h14 | exact absurd h14 (by decide))
    · try simp (disch := omega) only [bl_pv, cl0, cl1, cl2, cl3, cl4, cl5, cl6, cl7, cl8, cl9, bl_up2_at, bl_up2_nk, bl_up2_nx] at h14
      first
      | (exfalso; first | omega | exact h14 trivial)
      | (refine ⟨rfl, rfl, km, (Nat.le_of_ble_eq_true rfl), (0, 0), Nat.le_of_ble_eq_true rfl, Nat.le_of_ble_eq_true rfl, bl_MC_mono (c_Model_badT (d := d) km bl_up2_at (by decide) (by decide)) (fun o23 σ23 q23 => ?_)⟩
         try dsimp only [bl_pv] at q23
         obtain ⟨rfl, rfl⟩ := q23
         refine bl_go oX11_begin 80 [31] rfl ?_
         refine ⟨fun h26 => ?_, fun h26 => ?_⟩
         · try simp (disch := omega) only [bl_pv, cl0, cl1, cl2, cl3, cl4, cl5, cl6, cl7, cl8, cl9, bl_up2_at, bl_up2_nk, bl_up2_nx] at h26
           first
           | (exfalso; first | omega | exact h26 trivial)
           | (try dsimp only [bl_pv]
              (first | exact absurd rfl h26 | exact absurd trivial h26 | exact absurd h26 (by decide)))
         · try simp (disch := omega) only [bl_pv, cl0, cl1, cl2, cl3, cl4, cl5, cl6, cl7, cl8, cl9, bl_up2_at, bl_up2_nk, bl_up2_nx] at h26
           first
           | (exfalso; first | omega | exact h26 trivial)
           | (refine ⟨(fun h => by cases h), ?_⟩
              try show _ ∧ _
              try dsimp only [bl_pv]
              refine ⟨_, _, rfl, fun y hy => ?_, fun j j0 j1 => ?_, ?_, ?_, rfl, fun h => ?_⟩
              · rw [bl_up2_ne hy, bl_up2_ne hy]
              · rw [bl_up2_nk j0, bl_up2_nk j0]
              · rw [bl_up2_at, hE]; rfl
              · rw [bl_up2_nk (by omega), bl_up2_nk (by omega), if_neg (by rw [hE]; decide)]
              · rw [hE] at h; exact absurd h (by decide)))
def ltE (A : aS) (x : Int32) : Nat := if rb A.2.2.1 x then 0 else 1
def ltP (A : aS) (r : Nat) (v : Int32) : Prop := (aD A r < (A.2.2.2.1 r).1 ∧ v = zI (-1)) ∨ (¬ aD A r < (A.2.2.2.1 r).1 ∧ isLatest A.1 A.2.1 (A.2.2.2.1 r) v)
theorem ltP_eq {r : Nat} {v v' : Int32} (h : ltP A r v) (h' : ltP A r v') : v = v' := by
  rcases h with ⟨a, b⟩ | ⟨a, b⟩
  · rcases h' with ⟨c, e⟩ | ⟨c, e⟩
    · rw [b, e]
    · exact absurd a c
  · rcases h' with ⟨c, e⟩ | ⟨c, e⟩
    · exact absurd c a
    · exact isLatest_eq b e
theorem c_Model_latest (hm : mdS R K N m) (hK : mdK I m A) : bl_MC G l (d + 6) mX11_latest [.ref m, .int x] (I, J, R, K, N) (0, 0) (fun o σ' => ∃ I' J' v, σ' = (I', J', R, K, N) ∧ gtG I I' J J' m ∧ I' m 0 = nI (ltE A x) ∧ o = .inl (some (.int v)) ∧ (ltE A x = 0 → ltP A (rn x) v)) := by
  have km := hm.2.1
  have hK0 : mdK (bl_up2 I m 0 0) m A := hK.G (J := J) (J' := J) gtG.up
  have hc := hK0.2.2.1.1
  have hc4 := hK.2.2.1.2.1
  by_cases hz : rb A.2.2.1 x = true
  · have hz' := rb_t.mp hz
    obtain ⟨r, hr, rfl, er⟩ := rb_n (by omega) hz
    have hE : ltE A (nI r) = 0 := by unfold ltE; rw [if_pos hz]
    have hle := aD_le hK hr
    have er' : rn (nI r) = r := er
    refine bl_MC_intro (by decide +kernel) rfl (Nat.le_of_ble_eq_true rfl) ?_
    have L32 : ∀ j : Nat, j ≤ 288 → ∀ z I1 J1, z = zI ((j : Int) - 1) → gtG I I1 J J1 m → I1 m 0 = 0 → (aD A r < (A.2.2.2.1 r).1 ∨ ∀ w, j ≤ w → w ≤ 287 → ¬ stWell A.1 A.2.1 (A.2.2.2.1 r) w) → bl_WP G l (d + 6) mX11_latest 32 [(2, .int z), (0, .ref m), (1, .int (nI r))] [] (I1, J1, R, K, N) (0, 0) (fun o σ' => ∃ I' J' v, σ' = (I', J', R, K, N) ∧ gtG I I' J J' m ∧ I' m 0 = nI (ltE A (nI r)) ∧ o = .inl (some (.int v)) ∧ (ltE A (nI r) = 0 → ltP A (rn (nI r)) v)) := by
      intro j
      induction j with
      | zero =>
        intro hj z I1 J1 hz f1 f2 f3; subst hz
        refine bl_go oX11_latest 80 [32] rfl ?_
        refine ⟨fun h33 => ?_, fun h33 => ?_⟩
        · try simp (disch := omega) only [zI_n, zI_o, zI_lit, zI_neg, zI_add, zI_sub, zI_mul, zI_lt, zI_le, zI_eq, zI_clamp, zI_in, zI_div, zI_rem, lg_lt0, lg_gt0, lg_eq0, lg_le0, lg_ge0, Int.toNat_natCast, ge_iff_le, gt_iff_lt, List.length_cons, List.length_nil, bl_up2_at, bl_up2_nk, bl_up2_nx] at h33
          refine ⟨(fun h => by cases h), ?_⟩
          try show _ ∧ _
          try dsimp only [bl_pv]
          refine ⟨I1, J1, _, rfl, f1, by rw [hE]; exact f2, rfl, fun _ => ?_⟩
          rw [er']
          by_cases hd : aD A r < (A.2.2.2.1 r).1
          · exact Or.inl ⟨hd, rfl⟩
          · exact Or.inr ⟨hd, Or.inr ⟨rfl, fun w hw => (f3.resolve_left hd) w (by omega) hw⟩⟩
        · try simp (disch := omega) only [zI_n, zI_o, zI_lit, zI_neg, zI_add, zI_sub, zI_mul, zI_lt, zI_le, zI_eq, zI_clamp, zI_in, zI_div, zI_rem, lg_lt0, lg_gt0, lg_eq0, lg_le0, lg_ge0, Int.toNat_natCast, ge_iff_le, gt_iff_lt, List.length_cons, List.length_nil, bl_up2_at, bl_up2_nk, bl_up2_nx] at h33
          exfalso; omega
      | succ u ih =>
        intro hj z I1 J1 hz f1 f2 f3
        have hz' : z = nI u := by rw [hz, zI_n]; congr 1; omega
        subst hz'
        have hK1 := hK.G f1
        refine bl_go oX11_latest 80 [32] rfl ?_
        refine ⟨fun h33 => ?_, fun h33 => ?_⟩
        · try simp (disch := omega) only [zI_n, zI_o, zI_lit, zI_neg, zI_add, zI_sub, zI_mul, zI_lt, zI_le, zI_eq, zI_clamp, zI_in, zI_div, zI_rem, lg_lt0, lg_gt0, lg_eq0, lg_le0, lg_ge0, Int.toNat_natCast, ge_iff_le, gt_iff_lt, List.length_cons, List.length_nil, bl_up2_at, bl_up2_nk, bl_up2_nx] at h33
          exfalso; omega
        · try simp (disch := omega) only [zI_n, zI_o, zI_lit, zI_neg, zI_add, zI_sub, zI_mul, zI_lt, zI_le, zI_eq, zI_clamp, zI_in, zI_div, zI_rem, lg_lt0, lg_gt0, lg_eq0, lg_le0, lg_ge0, Int.toNat_natCast, ge_iff_le, gt_iff_lt, List.length_cons, List.length_nil, bl_up2_at, bl_up2_nk, bl_up2_nx] at h33
          refine ⟨rfl, rfl, km, (Nat.le_of_ble_eq_true rfl), (0, 0), Nat.le_of_ble_eq_true rfl, Nat.le_of_ble_eq_true rfl, bl_MC_mono (c_Model_goesThrough (d := d + 1) (r := r) (s := 20) (u0 := u) (tf := A.1) (dg := A.2.1) (rc := A.2.2.2.1 r) hm hK1.1 hK1.2.1 (by omega) (hK1.2.2.1.2.2 r hr) (dnf_is _ _) (by omega) (by omega) rfl rfl rfl) (fun o41 σ41 q41 => ?_)⟩
          try dsimp only [bl_pv] at q41
          obtain ⟨rfl, I2, J2, rfl, g1, g2, g3⟩ := q41
          have e : min (dnf (sl_first (A.1 0) (A.1 1) (A.1 2)) (A.2.2.2.1 r)) 20 = aD A r := by show min (aD A r) 20 = aD A r; omega
          rw [e] at g2
          have g3' : I2 m 24 = if aD A r < (A.2.2.2.1 r).1 then nI (aD A r) else zI (-1) := by
            rw [g3]
            show (if aD A r < _ ∧ aD A r < 20 then nI (aD A r) else _) = _
            by_cases h : aD A r < (A.2.2.2.1 r).1
            · rw [if_pos h, if_pos ⟨h, by omega⟩]
            · rw [if_neg h, if_neg (fun q => h q.1)]
          have k25 := g2.2.2.1
          have k26 := g2.2.2.2.1
          have f1' := f1.trans g1.G
          have f2' : I2 m 0 = 0 := (g1.2.1 0 (by omega)).trans f2
          refine bl_go oX11_latest 80 [32] rfl ?_
          refine ⟨km, fun h49 => ?_, fun h49 => ?_⟩
          · try simp (disch := omega) only [bl_pv, cl0, cl1, cl2, cl3, cl4, cl5, cl6, cl7, cl8, cl9, bl_up2_at, bl_up2_nk, bl_up2_nx] at h49
            try dsimp only [bl_pv]
            refine ih (by omega) _ _ _ (nI_m1 u) f1' f2' ?_
            by_cases hd : aD A r < (A.2.2.2.1 r).1
            · exact Or.inl hd
            · have hDe : aD A r = (A.2.2.2.1 r).1 := by omega
              refine Or.inr (fun w hw1 hw2 => ?_)
              by_cases ew : w = u
              · subst ew
                rw [hDe] at k25 k26
                first
                | (have hq := h65
                   rw [g3', if_neg hd] at hq; exact absurd rfl hq)
                | (have hq := h57
                   rw [k26] at hq
                   exact fun hs => hq ((fst1_none _ (by omega)).mpr (fun k hk => (hs k hk).2)))
                | (have hq := h49
                   rw [k25] at hq
                   exact fun hs => hq ((fst1_none _ (by omega)).mpr (fun k hk => (hs k hk).1)))
              · exact (f3.resolve_left hd) w (by omega) hw2
          · try simp (disch := omega) only [bl_pv, cl0, cl1, cl2, cl3, cl4, cl5, cl6, cl7, cl8, cl9, bl_up2_at, bl_up2_nk, bl_up2_nx] at h49
            refine ⟨km, fun h57 => ?_, fun h57 => ?_⟩
            · try simp (disch := omega) only [bl_pv, cl0, cl1, cl2, cl3, cl4, cl5, cl6, cl7, cl8, cl9, bl_up2_at, bl_up2_nk, bl_up2_nx] at h57
              try dsimp only [bl_pv]
              refine ih (by omega) _ _ _ (nI_m1 u) f1' f2' ?_
              by_cases hd : aD A r < (A.2.2.2.1 r).1
              · exact Or.inl hd
              · have hDe : aD A r = (A.2.2.2.1 r).1 := by omega
                refine Or.inr (fun w hw1 hw2 => ?_)
                by_cases ew : w = u
                · subst ew
                  rw [hDe] at k25 k26
                  first
                  | (have hq := h65
                     rw [g3', if_neg hd] at hq; exact absurd rfl hq)
                  | (have hq := h57
                     rw [k26] at hq
                     exact fun hs => hq ((fst1_none _ (by omega)).mpr (fun k hk => (hs k hk).2)))
                  | (have hq := h49
                     rw [k25] at hq
                     exact fun hs => hq ((fst1_none _ (by omega)).mpr (fun k hk => (hs k hk).1)))
                · exact (f3.resolve_left hd) w (by omega) hw2
            · try simp (disch := omega) only [bl_pv, cl0, cl1, cl2, cl3, cl4, cl5, cl6, cl7, cl8, cl9, bl_up2_at, bl_up2_nk, bl_up2_nx] at h57
              refine ⟨km, fun h65 => ?_, fun h65 => ?_⟩
              · try simp (disch := omega) only [bl_pv, cl0, cl1, cl2, cl3, cl4, cl5, cl6, cl7, cl8, cl9, bl_up2_at, bl_up2_nk, bl_up2_nx] at h65
                try dsimp only [bl_pv]
                refine ih (by omega) _ _ _ (nI_m1 u) f1' f2' ?_
                by_cases hd : aD A r < (A.2.2.2.1 r).1
                · exact Or.inl hd
                · have hDe : aD A r = (A.2.2.2.1 r).1 := by omega
                  refine Or.inr (fun w hw1 hw2 => ?_)
                  by_cases ew : w = u
                  · subst ew
                    rw [hDe] at k25 k26
                    first
                    | (have hq := h65
                       rw [g3', if_neg hd] at hq; exact absurd rfl hq)
                    | (have hq := h57
                       rw [k26] at hq
                       exact fun hs => hq ((fst1_none _ (by omega)).mpr (fun k hk => (hs k hk).2)))
                    | (have hq := h49
                       rw [k25] at hq
                       exact fun hs => hq ((fst1_none _ (by omega)).mpr (fun k hk => (hs k hk).1)))
                  · exact (f3.resolve_left hd) w (by omega) hw2
              · try simp (disch := omega) only [bl_pv, cl0, cl1, cl2, cl3, cl4, cl5, cl6, cl7, cl8, cl9, bl_up2_at, bl_up2_nk, bl_up2_nx] at h65
                refine ⟨(fun h => by cases h), ?_⟩
                try show _ ∧ _
                try dsimp only [bl_pv]
                refine ⟨I2, J2, _, rfl, f1', by rw [hE]; exact f2', rfl, fun _ => ?_⟩
                rw [er']
                have hd : ¬ aD A r < (A.2.2.2.1 r).1 := fun h => by
                  have hq := h65
                  rw [g3', if_pos h, zI_n] at hq
                  have hq' : zI ((aD A r : Nat) : Int) = zI (-1) := hq
                  rw [zI_eq (by omega) (by omega) (by omega) (by omega)] at hq'
                  omega
                have hDe : aD A r = (A.2.2.2.1 r).1 := by omega
                rw [hDe] at k25 k26
                refine Or.inr ⟨hd, Or.inl ⟨u, by omega, rfl, fun k hk => ⟨?_, ?_⟩, fun w hw1 hw2 => (f3.resolve_left hd) w (by omega) hw2⟩⟩
                · have hq := h49
                  rw [k25] at hq
                  exact (fst1_none _ (by omega)).mp hq k hk
                · have hq := h57
                  rw [k26] at hq
                  exact (fst1_none _ (by omega)).mp hq k hk
    refine bl_go oX11_latest 80 [32] rfl ?_
    refine ⟨km, Or.inr (Or.inr ⟨rfl, rfl, _, rfl⟩), (fun h => by cases h), rfl, rfl, km, (Nat.le_of_ble_eq_true rfl), (0, 0), Nat.le_of_ble_eq_true rfl, Nat.le_of_ble_eq_true rfl, bl_MC_mono (c_Model_isRT (d := d + 4) km hc hz') (fun o8 σ8 q8 => ?_)⟩
    try dsimp only [bl_pv] at q8
    obtain ⟨rfl, rfl⟩ := q8
    refine bl_go oX11_latest 80 [32] rfl ?_
    refine ⟨fun h11 => ?_, fun h11 => ?_⟩
    · try simp (disch := omega) only [bl_pv, cl0, cl1, cl2, cl3, cl4, cl5, cl6, cl7, cl8, cl9, bl_up2_at, bl_up2_nk, bl_up2_nx] at h11
      first
      | (exfalso; first | omega | exact h11 trivial)
      | (refine ⟨rfl, rfl, km, (Nat.le_of_ble_eq_true rfl), (0, 0), Nat.le_of_ble_eq_true rfl, Nat.le_of_ble_eq_true rfl, bl_MC_mono (c_Model_badF (d := d + 5) km bl_up2_at) (fun o20 σ20 q20 => ?_)⟩
         try dsimp only [bl_pv] at q20
         obtain ⟨rfl, rfl⟩ := q20
         refine bl_go oX11_latest 80 [32] rfl ?_
         refine ⟨fun h23 => ?_, fun h23 => ?_⟩
         · try simp (disch := omega) only [bl_pv, cl0, cl1, cl2, cl3, cl4, cl5, cl6, cl7, cl8, cl9, bl_up2_at, bl_up2_nk, bl_up2_nx] at h23
           first
           | (exfalso; first | omega | exact h23 trivial)
           | (try dsimp only [bl_pv]
              exact L32 288 (by omega) _ _ _ rfl gtG.up bl_up2_at (Or.inr (fun w h1 h2 => absurd h1 (by omega))))
         · try simp (disch := omega) only [bl_pv, cl0, cl1, cl2, cl3, cl4, cl5, cl6, cl7, cl8, cl9, bl_up2_at, bl_up2_nk, bl_up2_nx] at h23
           (first | exact absurd rfl h23 | exact absurd trivial h23 | exact absurd h23 (by decide)))
    · try simp (disch := omega) only [bl_pv, cl0, cl1, cl2, cl3, cl4, cl5, cl6, cl7, cl8, cl9, bl_up2_at, bl_up2_nk, bl_up2_nx] at h11
      (first | exact absurd rfl h11 | exact absurd trivial h11 | exact absurd h11 (by decide))
  · have hE : ltE A x = 1 := by unfold ltE; rw [if_neg hz]
    refine bl_MC_intro (by decide +kernel) rfl (Nat.le_of_ble_eq_true rfl) ?_
    refine bl_go oX11_latest 80 [28] rfl ?_
    refine ⟨km, Or.inr (Or.inr ⟨rfl, rfl, _, rfl⟩), (fun h => by cases h), rfl, rfl, km, (Nat.le_of_ble_eq_true rfl), (0, 0), Nat.le_of_ble_eq_true rfl, Nat.le_of_ble_eq_true rfl, bl_MC_mono (c_Model_isRF (d := d + 4) km hc (fun h => hz (rb_t.mpr h))) (fun o8 σ8 q8 => ?_)⟩
    try dsimp only [bl_pv] at q8
    obtain ⟨rfl, rfl⟩ := q8
    refine bl_go oX11_latest 80 [28] rfl ?_
    refine ⟨fun h11 => ?_, fun h11 => ?_⟩
    · try simp (disch := omega) only [bl_pv, cl0, cl1, cl2, cl3, cl4, cl5, cl6, cl7, cl8, cl9, bl_up2_at, bl_up2_nk, bl_up2_nx] at h11
      (first | exact absurd rfl h11 | exact absurd trivial h11 | exact absurd h11 (by decide))
    · try simp (disch := omega) only [bl_pv, cl0, cl1, cl2, cl3, cl4, cl5, cl6, cl7, cl8, cl9, bl_up2_at, bl_up2_nk, bl_up2_nx] at h11
      first
      | (exfalso; first | omega | exact h11 trivial)
      | (refine ⟨rfl, rfl, km, (Nat.le_of_ble_eq_true rfl), (0, 0), Nat.le_of_ble_eq_true rfl, Nat.le_of_ble_eq_true rfl, bl_MC_mono (c_Model_badT (d := d + 5) km bl_up2_at (by decide) (by decide)) (fun o20 σ20 q20 => ?_)⟩
         try dsimp only [bl_pv] at q20
         obtain ⟨rfl, rfl⟩ := q20
         refine bl_go oX11_latest 80 [28] rfl ?_
         refine ⟨fun h23 => ?_, fun h23 => ?_⟩
         · try simp (disch := omega) only [bl_pv, cl0, cl1, cl2, cl3, cl4, cl5, cl6, cl7, cl8, cl9, bl_up2_at, bl_up2_nk, bl_up2_nx] at h23
           first
           | (exfalso; first | omega | exact h23 trivial)
           | (try dsimp only [bl_pv]
              (first | exact absurd rfl h23 | exact absurd trivial h23 | exact absurd h23 (by decide)))
         · try simp (disch := omega) only [bl_pv, cl0, cl1, cl2, cl3, cl4, cl5, cl6, cl7, cl8, cl9, bl_up2_at, bl_up2_nk, bl_up2_nx] at h23
           first
           | (exfalso; first | omega | exact h23 trivial)
           | (refine ⟨(fun h => by cases h), ?_⟩
              try show _ ∧ _
              try dsimp only [bl_pv]
              refine ⟨_, J, _, rfl, gtG.trans gtG.up gtG.up, ?_, rfl, fun h => ?_⟩
              · rw [hE]; exact bl_up2_at
              · rw [hE] at h; exact absurd h (by decide)))
theorem c_Model_thrown (km : K m = 12) : bl_MC G l d mX11_thrown [.ref m] (I, J, R, K, N) (0, 0) (fun o σ' => o = .inl (some (.int (I m 0))) ∧ σ' = (I, J, R, K, N)) := by
  refine bl_MC_intro (by decide +kernel) rfl (Nat.le_of_ble_eq_true rfl) ?_
  refine bl_go oX11_thrown 80 [] rfl ?_
  refine ⟨km, (fun h => by cases h), ?_⟩
  try show _ ∧ _
  try dsimp only [bl_pv]
  exact ⟨rfl, rfl⟩
theorem c_Model_count (km : K m = 12) : bl_MC G l d mX11_count [.ref m, .int x] (I, J, R, K, N) (0, 0) (fun o σ' => o = .inl (some (.int (if x = 0 then I m 15 else if x = 1 then I m 1 else zI (-1)))) ∧ σ' = (bl_up2 I m 0 0, J, R, K, N)) := by
  refine bl_MC_intro (by decide +kernel) rfl (Nat.le_of_ble_eq_true rfl) ?_
  refine bl_go oX11_count 80 [] rfl ?_
  refine ⟨km, Or.inr (Or.inr ⟨rfl, rfl, _, rfl⟩), (fun h => by cases h), fun h6 => ?_, fun h6 => ?_⟩
  · try simp (disch := omega) only [bl_pv, cl0, cl1, cl2, cl3, cl4, cl5, cl6, cl7, cl8, cl9, bl_up2_at, bl_up2_nk, bl_up2_nx] at h6
    refine ⟨fun h18 => ?_, fun h18 => ?_⟩
    · try simp (disch := omega) only [bl_pv, cl0, cl1, cl2, cl3, cl4, cl5, cl6, cl7, cl8, cl9, bl_up2_at, bl_up2_nk, bl_up2_nx] at h18
      refine ⟨(fun h => by cases h), ?_⟩
      try show _ ∧ _
      try dsimp only [bl_pv]
      first
      | (have hq := h18; rw [if_neg h6, if_neg hq]; exact ⟨rfl, rfl⟩)
      | (have hq := h18; rw [if_neg h6, if_pos hq, bl_up2_nk (by omega)]; exact ⟨rfl, rfl⟩)
      | (rw [if_pos h6, bl_up2_nk (by omega)]; exact ⟨rfl, rfl⟩)
    · try simp (disch := omega) only [bl_pv, cl0, cl1, cl2, cl3, cl4, cl5, cl6, cl7, cl8, cl9, bl_up2_at, bl_up2_nk, bl_up2_nx] at h18
      refine ⟨km, (fun h => by cases h), ?_⟩
      try show _ ∧ _
      try dsimp only [bl_pv]
      first
      | (have hq := h18; rw [if_neg h6, if_neg hq]; exact ⟨rfl, rfl⟩)
      | (have hq := h18; rw [if_neg h6, if_pos hq, bl_up2_nk (by omega)]; exact ⟨rfl, rfl⟩)
      | (rw [if_pos h6, bl_up2_nk (by omega)]; exact ⟨rfl, rfl⟩)
  · try simp (disch := omega) only [bl_pv, cl0, cl1, cl2, cl3, cl4, cl5, cl6, cl7, cl8, cl9, bl_up2_at, bl_up2_nk, bl_up2_nx] at h6
    refine ⟨km, (fun h => by cases h), ?_⟩
    try show _ ∧ _
    try dsimp only [bl_pv]
    first
    | (have hq := h18; rw [if_neg h6, if_neg hq]; exact ⟨rfl, rfl⟩)
    | (have hq := h18; rw [if_neg h6, if_pos hq, bl_up2_nk (by omega)]; exact ⟨rfl, rfl⟩)
    | (rw [if_pos h6, bl_up2_nk (by omega)]; exact ⟨rfl, rfl⟩)
theorem c_Model_image {k : Nat} (hm : mdS R K N m) (hk : I m 15 = nI k) (hk3 : k ≤ 3) : bl_MC G l d mX11_image [.ref m] (I, J, R, K, N) (0, 0) (fun o σ' => (k = 3 ∧ o = .inl (some (.int (zI (-1)))) ∧ σ' = (bl_up2 I m 0 0, J, R, K, N)) ∨ (k < 3 ∧ o = .inl (some (.int (nI (k + 1)))) ∧ ∃ I', σ' = (I', J, R, K, N) ∧ (∀ y, y ≠ m → y ≠ m + 110 + k → I' y = I y) ∧ (∀ j, j ≠ 0 → j ≠ 15 → I' m j = I m j) ∧ I' m 0 = 0 ∧ I' m 15 = nI (k + 1) ∧ I' (m + 110 + k) 0 = I m 13 ∧ I' (m + 110 + k) 1 = I m 14)) := by
  have km := hm.2.1
  obtain ⟨rm_19, km19, nm19⟩ := hm.f19
  by_cases hk' : k = 3
  · subst hk'
    have e15 : bl_up2 I m 0 0 m 15 = nI 3 := (bl_up2_nk (by omega)).trans hk
    refine bl_MC_intro (by decide +kernel) rfl (Nat.le_of_ble_eq_true rfl) ?_
    refine bl_go oX11_image 80 [15] rfl ?_
    refine ⟨km, Or.inr (Or.inr ⟨rfl, rfl, _, rfl⟩), (fun h => by cases h), km, fun h10 => ?_, fun h10 => ?_⟩
    · try simp (disch := omega) only [bl_pv, cl0, cl1, cl2, cl3, cl4, cl5, cl6, cl7, cl8, cl9, bl_up2_at, bl_up2_nk, bl_up2_nx] at h10
      first
      | (exfalso; first | omega | exact h10 trivial)
      | (try dsimp only [bl_pv]
         exact absurd hk h10)
    · try simp (disch := omega) only [bl_pv, cl0, cl1, cl2, cl3, cl4, cl5, cl6, cl7, cl8, cl9, bl_up2_at, bl_up2_nk, bl_up2_nx] at h10
      first
      | (exfalso; first | omega | exact h10 trivial)
      | (refine ⟨(fun h => by cases h), ?_⟩
         try show _ ∧ _
         try dsimp only [bl_pv]
         exact Or.inl ⟨rfl, rfl, rfl⟩)
  · obtain ⟨rms, kms, nms⟩ := hm.g19 k (by omega)
    have e15 : bl_up2 I m 0 0 m 15 = nI k := (bl_up2_nk (by omega)).trans hk
    have ek : (nI k).toNatClampNeg = k := nI_clamp (by omega)
    have e15' : bl_up2 (bl_up2 I m 0 0) (m + 110 + k) 0 (bl_up2 I m 0 0 m 13) m 15 = nI k := (bl_up2_nx (by omega)).trans e15
    refine bl_MC_intro (by decide +kernel) rfl (Nat.le_of_ble_eq_true rfl) ?_
    refine bl_go oX11_image 80 [] rfl ?_
    refine ⟨km, Or.inr (Or.inr ⟨rfl, rfl, _, rfl⟩), (fun h => by cases h), km, fun h10 => ?_, fun h10 => ?_⟩
    · try simp (disch := omega) only [bl_pv, cl0, cl1, cl2, cl3, cl4, cl5, cl6, cl7, cl8, cl9, bl_up2_at, bl_up2_nk, bl_up2_nx] at h10
      first
      | (exfalso; first | omega | exact h10 trivial)
      | (refine ⟨km, _, bl_vs rm_19, km, bl_ka km19, (by (try dsimp only [bl_pv]); rw [nm19, e15]; exact vp_in_nI (by omega) (by omega)), _, bl_vs (by dsimp only [bl_pv]; rw [e15, ek]; exact rms), km, kms, (by first | exact (by rw [nms]; exact vp_in_nI (by omega) (by omega)) | ((try dsimp only [bl_pv]); show vp_in _ (N _); rw [nms]; simp (disch := omega) only [zI_n, zI_o, zI_lit, zI_neg, zI_add, zI_sub, zI_mul, zI_lt, zI_le, zI_eq, zI_clamp, zI_in, zI_div, zI_rem, lg_lt0, lg_gt0, lg_eq0, lg_le0, lg_ge0, Int.toNat_natCast, ge_iff_le, gt_iff_lt, List.length_cons, List.length_nil, bl_up2_at, bl_up2_nk, bl_up2_nx] <;> omega)), km, _, bl_vs rm_19, km, bl_ka km19, (by (try dsimp only [bl_pv]); rw [nm19, cl0, e15']; exact vp_in_nI (by omega) (by omega)), _, bl_vs (by dsimp only [bl_pv]; rw [cl0, e15', ek]; exact rms), km, kms, (by first | exact (by rw [nms]; exact vp_in_nI (by omega) (by omega)) | ((try dsimp only [bl_pv]); show vp_in _ (N _); rw [nms]; simp (disch := omega) only [zI_n, zI_o, zI_lit, zI_neg, zI_add, zI_sub, zI_mul, zI_lt, zI_le, zI_eq, zI_clamp, zI_in, zI_div, zI_rem, lg_lt0, lg_gt0, lg_eq0, lg_le0, lg_ge0, Int.toNat_natCast, ge_iff_le, gt_iff_lt, List.length_cons, List.length_nil, bl_up2_at, bl_up2_nk, bl_up2_nx] <;> omega)), rfl, km, km, Or.inr (Or.inr ⟨rfl, rfl, _, rfl⟩), (fun h => by cases h), km, (fun h => by cases h), ?_⟩
         try show _ ∧ _
         try dsimp only [bl_pv]
         refine Or.inr ⟨by omega, ?_, _, rfl, fun y y0 y1 => ?_, fun j j0 j1 => ?_, ?_, ?_, ?_, ?_⟩
         · simp (disch := omega) only [bl_up2_at, bl_up2_nk, bl_up2_nx]; rw [hk, nI_1]
         · simp (disch := omega) only [bl_up2_ne]
         · simp (disch := omega) only [bl_up2_nk, bl_up2_nx]
         · simp (disch := omega) only [bl_up2_at, bl_up2_nk, bl_up2_nx]
         · simp (disch := omega) only [bl_up2_at, bl_up2_nk, bl_up2_nx]; rw [hk, nI_1]
         · simp (disch := omega) only [bl_up2_at, bl_up2_nk, bl_up2_nx, cl0, cl1]
         · simp (disch := omega) only [bl_up2_at, bl_up2_nk, bl_up2_nx, cl0, cl1])
    · try simp (disch := omega) only [bl_pv, cl0, cl1, cl2, cl3, cl4, cl5, cl6, cl7, cl8, cl9, bl_up2_at, bl_up2_nk, bl_up2_nx] at h10
      exact absurd (hk.symm.trans h10) (fun h => hk' ((nI_eqk (b := 3) (by omega) (by omega)).mp h))
theorem c_Model_restore {k : Nat} (hm : mdS R K N m) (hk : I m 15 = nI k) (hk3 : k ≤ 3) : bl_MC G l d mX11_restore [.ref m] (I, J, R, K, N) (0, 0) (fun o σ' => (k = 0 ∧ o = .inl (some (.int (zI (-1)))) ∧ σ' = (bl_up2 I m 0 0, J, R, K, N)) ∨ (∃ i, k = i + 1 ∧ o = .inl (some (.int (nI i))) ∧ ∃ I', σ' = (I', J, R, K, N) ∧ (∀ y, y ≠ m → I' y = I y) ∧ (∀ j, j ≠ 0 → j ≠ 13 → j ≠ 14 → j ≠ 15 → I' m j = I m j) ∧ I' m 0 = 0 ∧ I' m 15 = nI i ∧ I' m 13 = I (m + 110 + i) 0 ∧ I' m 14 = I (m + 110 + i) 1)) := by
  have km := hm.2.1
  obtain ⟨rm_19, km19, nm19⟩ := hm.f19
  have e15 : bl_up2 I m 0 0 m 15 = nI k := (bl_up2_nk (by omega)).trans hk
  by_cases hk' : k = 0
  · subst hk'
    refine bl_MC_intro (by decide +kernel) rfl (Nat.le_of_ble_eq_true rfl) ?_
    refine bl_go oX11_restore 80 [14] rfl ?_
    refine ⟨km, Or.inr (Or.inr ⟨rfl, rfl, _, rfl⟩), (fun h => by cases h), km, fun h9 => ?_, fun h9 => ?_⟩
    · try simp (disch := omega) only [bl_pv, cl0, cl1, cl2, cl3, cl4, cl5, cl6, cl7, cl8, cl9, bl_up2_at, bl_up2_nk, bl_up2_nx] at h9
      first
      | (exfalso; first | omega | exact h9 trivial)
      | (try dsimp only [bl_pv]
         exact absurd hk h9)
    · try simp (disch := omega) only [bl_pv, cl0, cl1, cl2, cl3, cl4, cl5, cl6, cl7, cl8, cl9, bl_up2_at, bl_up2_nk, bl_up2_nx] at h9
      first
      | (exfalso; first | omega | exact h9 trivial)
      | (refine ⟨(fun h => by cases h), ?_⟩
         try show _ ∧ _
         try dsimp only [bl_pv]
         exact Or.inl ⟨rfl, rfl, rfl⟩)
  · obtain ⟨i, rfl⟩ : ∃ i, k = i + 1 := ⟨k - 1, by omega⟩
    obtain ⟨rms, kms, nms⟩ := hm.g19 i (by omega)
    have ei : (nI i).toNatClampNeg = i := nI_clamp (by omega)
    have e1 : bl_up2 I m 0 0 m 15 - 1 = nI i := by rw [e15, show (1 : Int32) = nI 1 from rfl, nI_subs (by omega)]; rfl
    refine bl_MC_intro (by decide +kernel) rfl (Nat.le_of_ble_eq_true rfl) ?_
    refine bl_go oX11_restore 80 [] rfl ?_
    refine ⟨km, Or.inr (Or.inr ⟨rfl, rfl, _, rfl⟩), (fun h => by cases h), km, fun h9 => ?_, fun h9 => ?_⟩
    · try simp (disch := omega) only [bl_pv, cl0, cl1, cl2, cl3, cl4, cl5, cl6, cl7, cl8, cl9, bl_up2_at, bl_up2_nk, bl_up2_nx] at h9
      first
      | (exfalso; first | omega | exact h9 trivial)
      | (refine ⟨rfl, km, km, Or.inr (Or.inr ⟨rfl, rfl, _, rfl⟩), (fun h => by cases h), km, _, bl_vs rm_19, km, bl_ka km19, (by (try dsimp only [bl_pv]); simp (disch := omega) only [bl_up2_at, bl_up2_nk]; rw [nm19, hk, show (1 : Int32) = nI 1 from rfl, nI_subs (by omega)]; exact vp_in_nI (by omega) (by omega)), _, bl_vs (by dsimp only [bl_pv]; simp (disch := omega) only [bl_up2_at, bl_up2_nk]; rw [hk, show (1 : Int32) = nI 1 from rfl, nI_subs (by omega)]; exact ((congrArg (R (m + 19)) ei).trans rms)), Or.inl ⟨kms, (by first | exact (by rw [nms]; exact vp_in_nI (by omega) (by omega)) | ((try dsimp only [bl_pv]); show vp_in _ (N _); rw [nms]; simp (disch := omega) only [zI_n, zI_o, zI_lit, zI_neg, zI_add, zI_sub, zI_mul, zI_lt, zI_le, zI_eq, zI_clamp, zI_in, zI_div, zI_rem, lg_lt0, lg_gt0, lg_eq0, lg_le0, lg_ge0, Int.toNat_natCast, ge_iff_le, gt_iff_lt, List.length_cons, List.length_nil, bl_up2_at, bl_up2_nk, bl_up2_nx] <;> omega)), km, Or.inr (Or.inr ⟨rfl, rfl, _, rfl⟩), (fun h => by cases h), km, _, bl_vs rm_19, km, bl_ka km19, (by (try dsimp only [bl_pv]); simp (disch := omega) only [bl_up2_at, bl_up2_nk]; rw [nm19, hk, show (1 : Int32) = nI 1 from rfl, nI_subs (by omega)]; exact vp_in_nI (by omega) (by omega)), _, bl_vs (by dsimp only [bl_pv]; simp (disch := omega) only [bl_up2_at, bl_up2_nk]; rw [hk, show (1 : Int32) = nI 1 from rfl, nI_subs (by omega)]; exact ((congrArg (R (m + 19)) ei).trans rms)), Or.inl ⟨kms, (by first | exact (by rw [nms]; exact vp_in_nI (by omega) (by omega)) | ((try dsimp only [bl_pv]); show vp_in _ (N _); rw [nms]; simp (disch := omega) only [zI_n, zI_o, zI_lit, zI_neg, zI_add, zI_sub, zI_mul, zI_lt, zI_le, zI_eq, zI_clamp, zI_in, zI_div, zI_rem, lg_lt0, lg_gt0, lg_eq0, lg_le0, lg_ge0, Int.toNat_natCast, ge_iff_le, gt_iff_lt, List.length_cons, List.length_nil, bl_up2_at, bl_up2_nk, bl_up2_nx] <;> omega)), km, Or.inr (Or.inr ⟨rfl, rfl, _, rfl⟩), (fun h => by cases h), km, (fun h => by cases h), ?_⟩⟩⟩
         try show _ ∧ _
         try dsimp only [bl_pv]
         refine Or.inr ⟨i, rfl, ?_, _, rfl, fun y y0 => ?_, fun j j0 j1 j2 j3 => ?_, ?_, ?_, ?_, ?_⟩
         · simp (disch := omega) only [bl_up2_at, bl_up2_nk, bl_up2_nx]; rw [← e1]; simp (disch := omega) only [bl_up2_nk]
         · simp (disch := omega) only [bl_up2_ne]
         · simp (disch := omega) only [bl_up2_nk, bl_up2_nx]
         · simp (disch := omega) only [bl_up2_at, bl_up2_nk, bl_up2_nx]
         · simp (disch := omega) only [bl_up2_at, bl_up2_nk, bl_up2_nx]; rw [← e1]; simp (disch := omega) only [bl_up2_nk]
         · simp (disch := omega) only [bl_up2_at, bl_up2_nk, bl_up2_nx, cl0, cl1]
         · simp (disch := omega) only [bl_up2_at, bl_up2_nk, bl_up2_nx, cl0, cl1])
    · try simp (disch := omega) only [bl_pv, cl0, cl1, cl2, cl3, cl4, cl5, cl6, cl7, cl8, cl9, bl_up2_at, bl_up2_nk, bl_up2_nx] at h9
      exact absurd (hk.symm.trans h9) (fun h => hk' ((nI_eqk (b := 0) (by omega) (by omega)).mp h))
end MODEL25
