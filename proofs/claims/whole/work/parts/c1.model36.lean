/-! ===== Model: wayOf, soonest, fewest ===== -/
def inb (lo hi x : Int32) : Bool := decide (lo ≤ x ∧ x ≤ hi)
theorem inb_t {lo hi x : Int32} (h : lo ≤ x ∧ x ≤ hi) : inb lo hi x = true := decide_eq_true h
theorem inb_f {lo hi x : Int32} (h : ¬ (lo ≤ x ∧ x ≤ hi)) : ¬ inb lo hi x = true := fun q => h (of_decide_eq_true q)
theorem in_1024 {x : Int32} (h : 1 ≤ x ∧ x ≤ 1024) : ∃ n, 1 ≤ n ∧ n ≤ 1024 ∧ x = nI n ∧ rn x = n := by
  have a0 : (1 : Int) ≤ x.toInt := Int32.le_iff_toInt_le.mp h.1
  obtain ⟨k, hk, e⟩ := i32_nat (b := 1024) (by omega) (Int32.le_iff_toInt_le.mpr (by show (0 : Int) ≤ _; omega)) h.2
  subst e
  rw [nI_toInt (by omega)] at a0
  exact ⟨k, by omega, hk, rfl, nI_clamp (by omega)⟩
def swE (x w : Int32) : Nat := if inb 1 1024 x && wb 1 w then 0 else 1
def swP (P : pP) (n : Nat) (w v : Int32) : Prop := (made n ∧ ∃ U, Ws P 0 P.1 (pm n) U ∧ (∀ u', Ws P 0 P.1 (pm n) u' → U ≤ u') ∧ v = if w = 0 then nI U else nI (pm n)) ∨ ((¬ made n ∨ ∀ u', ¬ Ws P 0 P.1 (pm n) u') ∧ v = zI (-1))
theorem swP_eq {P : pP} {n : Nat} {w v v' : Int32} (h : swP P n w v) (h' : swP P n w v') : v = v' := by
  rcases h with ⟨a, U, b, e, f⟩ | ⟨a, b⟩
  · rcases h' with ⟨a', U', b', e', f'⟩ | ⟨a', b'⟩
    · have : U = U' := Nat.le_antisymm (e U' b') (e' U b)
      rw [f, f', this]
    · rcases a' with a' | a'
      · exact absurd a a'
      · exact absurd b (a' U)
  · rcases h' with ⟨a', U', b', e', f'⟩ | ⟨a', b'⟩
    · rcases a with a | a
      · exact absurd a' a
      · exact absurd b' (a U')
    · rw [b, b']
section MODEL36
variable {G : bl_G} {l : Launch} {d m : Nat} {I : Nat → Nat → Int32} {J : Nat → Nat → Int64} {R : Nat → Nat → Option Nat} {K N : Nat → Nat} {tf g : Nat → Nat} {dg : Nat → Int32} {u0 : Nat} {c : Bool} {x w : Int32}
noncomputable def wyN (P : pP) (c : Bool) (n : Nat) : Nat := if mdb n then bfv P c 0 P.1 n else 1000000
def wzF (I I' : Nat → Nat → Int32) (m : Nat) : Prop := (∀ y, y ≠ m → y ≠ m + 44 → (y < m + 1000 ∨ m + 49763 ≤ y) → I' y = I y) ∧ ∀ j, j ≠ 0 → (j < 45 ∨ 50 < j) → I' m j = I m j
theorem wzF.trans {I I1 I2 : Nat → Nat → Int32} {m : Nat} (h : wzF I I1 m) (h2 : wzF I1 I2 m) : wzF I I2 m := ⟨fun x a b e => (h2.1 x a b e).trans (h.1 x a b e), fun j a b => (h2.2 j a b).trans (h.2 j a b)⟩
theorem wzF.up {v : Int32} : wzF I (bl_up2 I m 0 v) m := ⟨fun y y1 _ _ => bl_up2_ne y1, fun j j1 _ => bl_up2_nk j1⟩
theorem wyF.z {I I1 : Nat → Nat → Int32} (h : wyF I I1 m) : wzF I I1 m := ⟨fun y y1 _ y3 => h.1 y y1 y3, fun j _ hj => h.2 j (by omega)⟩
theorem c_Model_wayOf {n : Nat} {x1 x2 : Int32} (hm : mdS R K N m) (hC : kgC I m tf g dg u0) (h1 : 1 ≤ n) (h2 : n ≤ 1024) (hx1 : x1 = nI n) (hx2 : x2 = bI c) : bl_MC G l (d + 25) mX11_wayOf [.ref m, .int x1, .int x2] (I, J, R, K, N) (0, 0) (fun o σ' => o = .inl (some (.int (nI (wyN (pPk tf g u0) c n)))) ∧ ∃ I', σ' = (I', J, R, K, N) ∧ wzF I I' m ∧ I' m 0 = I m 0 ∧ (made n → wyI I' m tf g dg u0 c n)) := by
  have km := hm.2.1
  obtain ⟨rm_10, km10, nm10⟩ := hm.f10
  subst hx1 hx2
  by_cases hmd : made n
  · have hb : mdb n = true := mdb_t.mpr hmd
    refine bl_MC_intro (by decide +kernel) rfl (Nat.le_of_ble_eq_true rfl) ?_
    refine bl_go oX11_wayOf 80 [] rfl ?_
    refine ⟨rfl, (Nat.le_of_ble_eq_true rfl), (0, 0), Nat.le_of_ble_eq_true rfl, Nat.le_of_ble_eq_true rfl, bl_MC_mono (c_Model_isMade (d := d + 24) (n := n) rfl h1 h2) (fun o1 σ1 q1 => ?_)⟩
    try dsimp only [bl_pv] at q1
    obtain ⟨rfl, rfl⟩ := q1
    rw [hb]
    refine bl_go oX11_wayOf 80 [] rfl ?_
    refine ⟨fun h4 => ?_, fun h4 => ?_⟩
    · try simp (disch := omega) only [bl_pv, cl0, cl1, cl2, cl3, cl4, cl5, cl6, cl7, cl8, cl9, bl_up2_at, bl_up2_nk, bl_up2_nx] at h4
      first
      | (exfalso; first | omega | exact h4 trivial)
      | (refine ⟨rfl, rfl, km, (Nat.le_of_ble_eq_true rfl), (0, 0), Nat.le_of_ble_eq_true rfl, Nat.le_of_ble_eq_true rfl, bl_MC_mono (c_Model_layWays (d := d + 24) (n := n) (c := c) hm h1 h2 hmd rfl rfl) (fun o14 σ14 q14 => ?_)⟩
         try dsimp only [bl_pv] at q14
         obtain ⟨rfl, I1, rfl, f1, f2, f3, f4, f5⟩ := q14
         have hC1 : kgC I1 m tf g dg u0 := hC.same (f1 _ (by omega) (by omega) (by omega)) (f1 _ (by omega) (by omega) (by omega)) (f2 14 (by omega) (by omega))
         have e4 := hC1.1.1 4 (by omega)
         have ho4 := hC1.2.2.1.1
         refine bl_go oX11_wayOf 80 [] rfl ?_
         refine ⟨km, _, bl_vs rm_10, Or.inl ⟨km10, (by first | exact (by rw [nm10]; exact vp_in_nI (by omega) (by omega)) | ((try dsimp only [bl_pv]); show vp_in _ (N _); rw [nm10]; simp (disch := omega) only [zI_n, zI_o, zI_lit, zI_neg, zI_add, zI_sub, zI_mul, zI_lt, zI_le, zI_eq, zI_clamp, zI_in, zI_div, zI_rem, lg_lt0, lg_gt0, lg_eq0, lg_le0, lg_ge0, Int.toNat_natCast, ge_iff_le, gt_iff_lt, List.length_cons, List.length_nil, bl_up2_at, bl_up2_nk, bl_up2_nx] <;> omega)), fun h29 => ?_, fun h29 => ?_⟩⟩
         · try simp (disch := omega) only [bl_pv, cl0, cl1, cl2, cl3, cl4, cl5, cl6, cl7, cl8, cl9, bl_up2_at, bl_up2_nk, bl_up2_nx] at h29
           first
           | (exfalso; first | omega | exact h29 trivial)
           | (refine ⟨km, _, bl_vs rm_10, Or.inl ⟨km10, (by first | exact (by rw [nm10]; exact vp_in_nI (by omega) (by omega)) | ((try dsimp only [bl_pv]); show vp_in _ (N _); rw [nm10]; simp (disch := omega) only [zI_n, zI_o, zI_lit, zI_neg, zI_add, zI_sub, zI_mul, zI_lt, zI_le, zI_eq, zI_clamp, zI_in, zI_div, zI_rem, lg_lt0, lg_gt0, lg_eq0, lg_le0, lg_ge0, Int.toNat_natCast, ge_iff_le, gt_iff_lt, List.length_cons, List.length_nil, bl_up2_at, bl_up2_nk, bl_up2_nx] <;> omega)), rfl, rfl, km, (Nat.le_of_ble_eq_true rfl), (0, 0), Nat.le_of_ble_eq_true rfl, Nat.le_of_ble_eq_true rfl, bl_MC_mono (c_Model_bestFrom (d := d) (n0 := n) (c := c) hm 11 n h1 (by omega) h2 hmd (Nat.mod_self n) 0 (10 * tf 4) I1 _ _ _ (by omega) (by omega) ⟨hC1, f3, f4, fun u w k hu hw hk => Or.inl (f5 u w k hu hw hk)⟩ rfl (by dsimp only; rw [cl4, e4, tenI]) rfl) (fun o50 σ50 q50 => ?_)⟩⟩
              try dsimp only [bl_pv] at q50
              obtain ⟨rfl, I2, rfl, g1, g2⟩ := q50
              refine bl_go oX11_wayOf 80 [] rfl ?_
              refine ⟨(fun h => by cases h), ?_⟩
              try show _ ∧ _
              try dsimp only [bl_pv]
              refine ⟨?_, I2, rfl, ⟨fun y y1 y2 y3 => (g1.1 y y1 y3).trans (f1 y y1 y2 y3), fun j j1 j2 => (g1.2 j (by omega)).trans (f2 j (by omega) (by omega))⟩, (g1.2 0 (by omega)).trans (f2 0 (by omega) (by omega)), fun _ => g2⟩
              unfold wyN; rw [if_pos hb]; rfl)
         · try simp (disch := omega) only [bl_pv, cl0, cl1, cl2, cl3, cl4, cl5, cl6, cl7, cl8, cl9, bl_up2_at, bl_up2_nk, bl_up2_nx] at h29
           rw [e4, tenI, show (403 : Int32) = nI 403 from rfl, nI_ltk (by omega) (by omega)] at h29; exact absurd (show 10 * tf 4 < 403 by omega) h29)
    · try simp (disch := omega) only [bl_pv, cl0, cl1, cl2, cl3, cl4, cl5, cl6, cl7, cl8, cl9, bl_up2_at, bl_up2_nk, bl_up2_nx] at h4
      (first | exact absurd rfl h4 | exact absurd trivial h4 | exact absurd h4 (by decide))
  · have hb : ¬ mdb n = true := fun h => hmd (mdb_t.mp h)
    have hb' : mdb n = false := by cases h : mdb n; rfl; exact absurd h hb
    refine bl_MC_intro (by decide +kernel) rfl (Nat.le_of_ble_eq_true rfl) ?_
    refine bl_go oX11_wayOf 80 [11] rfl ?_
    refine ⟨rfl, (Nat.le_of_ble_eq_true rfl), (0, 0), Nat.le_of_ble_eq_true rfl, Nat.le_of_ble_eq_true rfl, bl_MC_mono (c_Model_isMade (d := d + 24) (n := n) rfl h1 h2) (fun o1 σ1 q1 => ?_)⟩
    try dsimp only [bl_pv] at q1
    obtain ⟨rfl, rfl⟩ := q1
    rw [hb']
    refine bl_go oX11_wayOf 80 [11] rfl ?_
    refine ⟨fun h4 => ?_, fun h4 => ?_⟩
    · try simp (disch := omega) only [bl_pv, cl0, cl1, cl2, cl3, cl4, cl5, cl6, cl7, cl8, cl9, bl_up2_at, bl_up2_nk, bl_up2_nx] at h4
      first
      | (exfalso; first | omega | exact h4 trivial)
      | (try dsimp only [bl_pv]
         (first | exact absurd rfl h4 | exact absurd trivial h4 | exact absurd h4 (by decide)))
    · try simp (disch := omega) only [bl_pv, cl0, cl1, cl2, cl3, cl4, cl5, cl6, cl7, cl8, cl9, bl_up2_at, bl_up2_nk, bl_up2_nx] at h4
      first
      | (exfalso; first | omega | exact h4 trivial)
      | (refine ⟨(fun h => by cases h), ?_⟩
         try show _ ∧ _
         try dsimp only [bl_pv]
         refine ⟨?_, I, rfl, ⟨fun _ _ _ _ => rfl, fun _ _ _ => rfl⟩, rfl, fun h => absurd h hmd⟩
         unfold wyN; rw [if_neg hb]; rfl)
theorem kgC.up {v : Int32} (h : kgC I m tf g dg u0) : kgC (bl_up2 I m 0 v) m tf g dg u0 := h.same (bl_up2_ne (by omega)) (bl_up2_ne (by omega)) (bl_up2_nk (by omega))
/-- what a price tells -/
theorem wyN_sw (hO : kiO tf g) {n : Nat} (h1 : 1 ≤ n) (h2 : n ≤ 1024) : (wyN (pPk tf g u0) c n = 1000000 ∧ (¬ made n ∨ ∀ u', ¬ Ws (pPk tf g u0) 0 (pPk tf g u0).1 (pm n) u')) ∨ (made n ∧ pm n ≤ 6 ∧ ∃ U, U ≤ 120 ∧ Ws (pPk tf g u0) 0 (pPk tf g u0).1 (pm n) U ∧ (∀ u', Ws (pPk tf g u0) 0 (pPk tf g u0).1 (pm n) u' → U ≤ u') ∧ wyN (pPk tf g u0) c n = csT c (pm n) U + 1) := by
  have hP := pPk_ok (u0 := u0) hO
  unfold wyN
  by_cases hmd : made n
  · rw [if_pos (mdb_t.mpr hmd)]
    have hpn := made_pm h1 h2 hmd
    rcases bfv_is (pPk tf g u0) c 0 (pPk tf g u0).1 n with ⟨a, e⟩ | ⟨U, a, b, e⟩
    · exact Or.inl ⟨e, Or.inr a⟩
    · have := Ws_b hP hP.1 (by omega) a
      exact Or.inr ⟨hmd, hpn.1, U, this.2, a, b, e⟩
  · rw [if_neg (fun h => hmd (mdb_t.mp h))]
    exact Or.inl ⟨rfl, Or.inl hmd⟩

theorem c_Model_soonest (hm : mdS R K N m) (hC : kgC I m tf g dg u0) : bl_MC G l (d + 26) mX11_soonest [.ref m, .int x, .int w] (I, J, R, K, N) (0, 0) (fun o σ' => ∃ I' v, σ' = (I', J, R, K, N) ∧ wzF I I' m ∧ I' m 0 = nI (swE x w) ∧ o = .inl (some (.int v)) ∧ (swE x w = 0 → swP (pPk tf g u0) (rn x) w v)) := by
  have km := hm.2.1
  have hC0 : kgC (bl_up2 I m 0 0) m tf g dg u0 := hC.up
  by_cases hx : 1 ≤ x ∧ x ≤ 1024
  · by_cases hw : 0 ≤ w ∧ w ≤ 1
    · have hE : swE x w = 0 := by unfold swE; rw [inb_t hx, wb_t hw]; rfl
      obtain ⟨n, n1, n2, rfl, en⟩ := in_1024 hx
      obtain ⟨v, hv, rfl⟩ := i32_nat (b := 1) (by omega) hw.1 hw.2
      have hsw := wyN_sw (u0 := u0) (c := false) hC.2.2.1 n1 n2
      have hwb : wyN (pPk tf g u0) false n ≤ 1000000 := by
        rcases hsw with ⟨e, -⟩ | ⟨-, p6, U, hU, -, -, e⟩
        · omega
        · rw [e]; show 1000 * U + pm n + 1 ≤ _; omega
      generalize hWN : wyN (pPk tf g u0) false n = WN at *
      refine bl_MC_intro (by decide +kernel) rfl (Nat.le_of_ble_eq_true rfl) ?_
      refine bl_go oX11_soonest 80 [] rfl ?_
      refine ⟨km, Or.inr (Or.inr ⟨rfl, rfl, _, rfl⟩), (fun h => by cases h), rfl, (Nat.le_of_ble_eq_true rfl), (0, 0), Nat.le_of_ble_eq_true rfl, Nat.le_of_ble_eq_true rfl, bl_MC_mono (c_Model_inT (d := d + 25) hx) (fun o11 σ11 q11 => ?_)⟩
      try dsimp only [bl_pv] at q11
      obtain ⟨rfl, rfl⟩ := q11
      refine bl_go oX11_soonest 80 [] rfl ?_
      refine ⟨fun h14 => ?_, fun h14 => ?_⟩
      · try simp (disch := omega) only [bl_pv, cl0, cl1, cl2, cl3, cl4, cl5, cl6, cl7, cl8, cl9, bl_up2_at, bl_up2_nk, bl_up2_nx] at h14
        (first | exact absurd rfl h14 | exact absurd trivial h14 | exact absurd h14 (by decide))
      · try simp (disch := omega) only [bl_pv, cl0, cl1, cl2, cl3, cl4, cl5, cl6, cl7, cl8, cl9, bl_up2_at, bl_up2_nk, bl_up2_nx] at h14
        first
        | (exfalso; first | omega | exact h14 trivial)
        | (refine ⟨rfl, (Nat.le_of_ble_eq_true rfl), (0, 0), Nat.le_of_ble_eq_true rfl, Nat.le_of_ble_eq_true rfl, bl_MC_mono (c_Model_inT (d := d + 25) hw) (fun o20 σ20 q20 => ?_)⟩
           try dsimp only [bl_pv] at q20
           obtain ⟨rfl, rfl⟩ := q20
           refine bl_go oX11_soonest 80 [] rfl ?_
           refine ⟨fun h23 => ?_, fun h23 => ?_⟩
           · try simp (disch := omega) only [bl_pv, cl0, cl1, cl2, cl3, cl4, cl5, cl6, cl7, cl8, cl9, bl_up2_at, bl_up2_nk, bl_up2_nx] at h23
             first
             | (exfalso; first | omega | exact h23 trivial)
             | (refine ⟨rfl, rfl, km, (Nat.le_of_ble_eq_true rfl), (0, 0), Nat.le_of_ble_eq_true rfl, Nat.le_of_ble_eq_true rfl, bl_MC_mono (c_Model_badF (d := d + 25) km bl_up2_at) (fun o32 σ32 q32 => ?_)⟩
                try dsimp only [bl_pv] at q32
                obtain ⟨rfl, rfl⟩ := q32
                refine bl_go oX11_soonest 80 [] rfl ?_
                refine ⟨fun h35 => ?_, fun h35 => ?_⟩
                · try simp (disch := omega) only [bl_pv, cl0, cl1, cl2, cl3, cl4, cl5, cl6, cl7, cl8, cl9, bl_up2_at, bl_up2_nk, bl_up2_nx] at h35
                  first
                  | (exfalso; first | omega | exact h35 trivial)
                  | (refine ⟨rfl, rfl, km, (Nat.le_of_ble_eq_true rfl), (0, 0), Nat.le_of_ble_eq_true rfl, Nat.le_of_ble_eq_true rfl, bl_MC_mono (c_Model_wayOf (d := d) (n := n) (c := false) hm hC0 n1 n2 rfl rfl) (fun o43 σ43 q43 => ?_)⟩
                     try dsimp only [bl_pv] at q43
                     obtain ⟨rfl, I1, rfl, f1, f2, f3⟩ := q43
                     rw [hWN]
                     refine bl_go oX11_soonest 80 [] rfl ?_
                     refine ⟨fun h51 => ?_, fun h51 => ?_⟩
                     · try simp (disch := omega) only [zI_n, zI_o, zI_lit, zI_neg, zI_add, zI_sub, zI_mul, zI_lt, zI_le, zI_eq, zI_clamp, zI_in, zI_div, zI_rem, lg_lt0, lg_gt0, lg_eq0, lg_le0, lg_ge0, Int.toNat_natCast, ge_iff_le, gt_iff_lt, List.length_cons, List.length_nil, bl_up2_at, bl_up2_nk, bl_up2_nx] at h51
                       first
                       | (exfalso; first | omega | exact h51 trivial)
                       | (refine ⟨fun h59 => ?_, fun h59 => ?_⟩
                          · try simp (disch := omega) only [zI_n, zI_o, zI_lit, zI_neg, zI_add, zI_sub, zI_mul, zI_lt, zI_le, zI_eq, zI_clamp, zI_in, zI_div, zI_rem, lg_lt0, lg_gt0, lg_eq0, lg_le0, lg_ge0, Int.toNat_natCast, ge_iff_le, gt_iff_lt, List.length_cons, List.length_nil, bl_up2_at, bl_up2_nk, bl_up2_nx] at h59
                            first
                            | (exfalso; first | omega | exact h59 trivial)
                            | (refine ⟨(by first | decide | (simp (disch := omega) only [zI_n, zI_o, zI_lit, zI_neg, zI_add, zI_sub, zI_mul, zI_lt, zI_le, zI_eq, zI_clamp, zI_in, zI_div, zI_rem, lg_lt0, lg_gt0, lg_eq0, lg_le0, lg_ge0, Int.toNat_natCast, ge_iff_le, gt_iff_lt, List.length_cons, List.length_nil, bl_up2_at, bl_up2_nk, bl_up2_nx] <;> omega)), (fun h => by cases h), ?_⟩
                               try show _ ∧ _
                               try dsimp only [bl_pv]
                               refine ⟨I1, _, rfl, wzF.up.trans f1, ?_, rfl, fun _ => ?_⟩
                               · rw [hE, f2]; exact bl_up2_at
                               · rw [show rn (nI n) = n from en]
                                 have eq1 : nI WN - 1 = zI ((WN : Int) - 1) := by rw [zI_n, show (1 : Int32) = zI 1 from rfl, zI_sub]
                                 rcases hsw with ⟨e, hno⟩ | ⟨hmd, p6, U, hU, a, b, e⟩
                                 · first
                                   | exact Or.inr ⟨hno, rfl⟩
                                   | (exfalso; omega)
                                 · first
                                   | (exfalso; rw [e] at *; have e' : csT false (pm n) U = 1000 * U + pm n := rfl
                                      omega)
                                   | (refine Or.inl ⟨hmd, U, a, b, ?_⟩
                                      have e' : WN = 1000 * U + pm n + 1 := e
                                      first
                                      | (have hq : v = 0 := by omega
                                         subst hq
                                         rw [if_pos (show nI 0 = 0 from rfl), zI_n]
                                         simp (disch := omega) only [zI_n, zI_o, zI_lit, zI_neg, zI_add, zI_sub, zI_mul, zI_lt, zI_le, zI_eq, zI_clamp, zI_in, zI_div, zI_rem, lg_lt0, lg_gt0, lg_eq0, lg_le0, lg_ge0, Int.toNat_natCast, ge_iff_le, gt_iff_lt, List.length_cons, List.length_nil, bl_up2_at, bl_up2_nk, bl_up2_nx]
                                         omega)
                                      | (have hq : v = 1 := by omega
                                         subst hq
                                         rw [if_neg (by decide), zI_n]
                                         simp (disch := omega) only [zI_n, zI_o, zI_lit, zI_neg, zI_add, zI_sub, zI_mul, zI_lt, zI_le, zI_eq, zI_clamp, zI_in, zI_div, zI_rem, lg_lt0, lg_gt0, lg_eq0, lg_le0, lg_ge0, Int.toNat_natCast, ge_iff_le, gt_iff_lt, List.length_cons, List.length_nil, bl_up2_at, bl_up2_nk, bl_up2_nx]
                                         omega)))
                          · try simp (disch := omega) only [zI_n, zI_o, zI_lit, zI_neg, zI_add, zI_sub, zI_mul, zI_lt, zI_le, zI_eq, zI_clamp, zI_in, zI_div, zI_rem, lg_lt0, lg_gt0, lg_eq0, lg_le0, lg_ge0, Int.toNat_natCast, ge_iff_le, gt_iff_lt, List.length_cons, List.length_nil, bl_up2_at, bl_up2_nk, bl_up2_nx] at h59
                            first
                            | (exfalso; first | omega | exact h59 trivial)
                            | (refine ⟨(by first | decide | (simp (disch := omega) only [zI_n, zI_o, zI_lit, zI_neg, zI_add, zI_sub, zI_mul, zI_lt, zI_le, zI_eq, zI_clamp, zI_in, zI_div, zI_rem, lg_lt0, lg_gt0, lg_eq0, lg_le0, lg_ge0, Int.toNat_natCast, ge_iff_le, gt_iff_lt, List.length_cons, List.length_nil, bl_up2_at, bl_up2_nk, bl_up2_nx] <;> omega)), (fun h => by cases h), ?_⟩
                               try show _ ∧ _
                               try dsimp only [bl_pv]
                               refine ⟨I1, _, rfl, wzF.up.trans f1, ?_, rfl, fun _ => ?_⟩
                               · rw [hE, f2]; exact bl_up2_at
                               · rw [show rn (nI n) = n from en]
                                 have eq1 : nI WN - 1 = zI ((WN : Int) - 1) := by rw [zI_n, show (1 : Int32) = zI 1 from rfl, zI_sub]
                                 rcases hsw with ⟨e, hno⟩ | ⟨hmd, p6, U, hU, a, b, e⟩
                                 · first
                                   | exact Or.inr ⟨hno, rfl⟩
                                   | (exfalso; omega)
                                 · first
                                   | (exfalso; rw [e] at *; have e' : csT false (pm n) U = 1000 * U + pm n := rfl
                                      omega)
                                   | (refine Or.inl ⟨hmd, U, a, b, ?_⟩
                                      have e' : WN = 1000 * U + pm n + 1 := e
                                      first
                                      | (have hq : v = 0 := by omega
                                         subst hq
                                         rw [if_pos (show nI 0 = 0 from rfl), zI_n]
                                         simp (disch := omega) only [zI_n, zI_o, zI_lit, zI_neg, zI_add, zI_sub, zI_mul, zI_lt, zI_le, zI_eq, zI_clamp, zI_in, zI_div, zI_rem, lg_lt0, lg_gt0, lg_eq0, lg_le0, lg_ge0, Int.toNat_natCast, ge_iff_le, gt_iff_lt, List.length_cons, List.length_nil, bl_up2_at, bl_up2_nk, bl_up2_nx]
                                         omega)
                                      | (have hq : v = 1 := by omega
                                         subst hq
                                         rw [if_neg (by decide), zI_n]
                                         simp (disch := omega) only [zI_n, zI_o, zI_lit, zI_neg, zI_add, zI_sub, zI_mul, zI_lt, zI_le, zI_eq, zI_clamp, zI_in, zI_div, zI_rem, lg_lt0, lg_gt0, lg_eq0, lg_le0, lg_ge0, Int.toNat_natCast, ge_iff_le, gt_iff_lt, List.length_cons, List.length_nil, bl_up2_at, bl_up2_nk, bl_up2_nx]
                                         omega))))
                     · try simp (disch := omega) only [zI_n, zI_o, zI_lit, zI_neg, zI_add, zI_sub, zI_mul, zI_lt, zI_le, zI_eq, zI_clamp, zI_in, zI_div, zI_rem, lg_lt0, lg_gt0, lg_eq0, lg_le0, lg_ge0, Int.toNat_natCast, ge_iff_le, gt_iff_lt, List.length_cons, List.length_nil, bl_up2_at, bl_up2_nk, bl_up2_nx] at h51
                       first
                       | (exfalso; first | omega | exact h51 trivial)
                       | (refine ⟨(fun h => by cases h), ?_⟩
                          try show _ ∧ _
                          try dsimp only [bl_pv]
                          refine ⟨I1, _, rfl, wzF.up.trans f1, ?_, rfl, fun _ => ?_⟩
                          · rw [hE, f2]; exact bl_up2_at
                          · rw [show rn (nI n) = n from en]
                            have eq1 : nI WN - 1 = zI ((WN : Int) - 1) := by rw [zI_n, show (1 : Int32) = zI 1 from rfl, zI_sub]
                            rcases hsw with ⟨e, hno⟩ | ⟨hmd, p6, U, hU, a, b, e⟩
                            · first
                              | exact Or.inr ⟨hno, rfl⟩
                              | (exfalso; omega)
                            · first
                              | (exfalso; rw [e] at *; have e' : csT false (pm n) U = 1000 * U + pm n := rfl
                                 omega)
                              | (refine Or.inl ⟨hmd, U, a, b, ?_⟩
                                 have e' : WN = 1000 * U + pm n + 1 := e
                                 first
                                 | (have hq : v = 0 := by omega
                                    subst hq
                                    rw [if_pos (show nI 0 = 0 from rfl), zI_n]
                                    simp (disch := omega) only [zI_n, zI_o, zI_lit, zI_neg, zI_add, zI_sub, zI_mul, zI_lt, zI_le, zI_eq, zI_clamp, zI_in, zI_div, zI_rem, lg_lt0, lg_gt0, lg_eq0, lg_le0, lg_ge0, Int.toNat_natCast, ge_iff_le, gt_iff_lt, List.length_cons, List.length_nil, bl_up2_at, bl_up2_nk, bl_up2_nx]
                                    omega)
                                 | (have hq : v = 1 := by omega
                                    subst hq
                                    rw [if_neg (by decide), zI_n]
                                    simp (disch := omega) only [zI_n, zI_o, zI_lit, zI_neg, zI_add, zI_sub, zI_mul, zI_lt, zI_le, zI_eq, zI_clamp, zI_in, zI_div, zI_rem, lg_lt0, lg_gt0, lg_eq0, lg_le0, lg_ge0, Int.toNat_natCast, ge_iff_le, gt_iff_lt, List.length_cons, List.length_nil, bl_up2_at, bl_up2_nk, bl_up2_nx]
                                    omega))))
                · try simp (disch := omega) only [bl_pv, cl0, cl1, cl2, cl3, cl4, cl5, cl6, cl7, cl8, cl9, bl_up2_at, bl_up2_nk, bl_up2_nx] at h35
                  (first | exact absurd rfl h35 | exact absurd trivial h35 | exact absurd h35 (by decide)))
           · try simp (disch := omega) only [bl_pv, cl0, cl1, cl2, cl3, cl4, cl5, cl6, cl7, cl8, cl9, bl_up2_at, bl_up2_nk, bl_up2_nx] at h23
             (first | exact absurd rfl h23 | exact absurd trivial h23 | exact absurd h23 (by decide)))
    · have hE : swE x w = 1 := by unfold swE; rw [inb_t hx, if_neg (by rw [Bool.true_and]; exact wb_f hw)]
      refine bl_MC_intro (by decide +kernel) rfl (Nat.le_of_ble_eq_true rfl) ?_
      refine bl_go oX11_soonest 80 [40] rfl ?_
      refine ⟨km, Or.inr (Or.inr ⟨rfl, rfl, _, rfl⟩), (fun h => by cases h), rfl, (Nat.le_of_ble_eq_true rfl), (0, 0), Nat.le_of_ble_eq_true rfl, Nat.le_of_ble_eq_true rfl, bl_MC_mono (c_Model_inT (d := d + 25) hx) (fun o11 σ11 q11 => ?_)⟩
      try dsimp only [bl_pv] at q11
      obtain ⟨rfl, rfl⟩ := q11
      refine bl_go oX11_soonest 80 [40] rfl ?_
      refine ⟨fun h14 => ?_, fun h14 => ?_⟩
      · try simp (disch := omega) only [bl_pv, cl0, cl1, cl2, cl3, cl4, cl5, cl6, cl7, cl8, cl9, bl_up2_at, bl_up2_nk, bl_up2_nx] at h14
        (first | exact absurd rfl h14 | exact absurd trivial h14 | exact absurd h14 (by decide))
      · try simp (disch := omega) only [bl_pv, cl0, cl1, cl2, cl3, cl4, cl5, cl6, cl7, cl8, cl9, bl_up2_at, bl_up2_nk, bl_up2_nx] at h14
        first
        | (exfalso; first | omega | exact h14 trivial)
        | (refine ⟨rfl, (Nat.le_of_ble_eq_true rfl), (0, 0), Nat.le_of_ble_eq_true rfl, Nat.le_of_ble_eq_true rfl, bl_MC_mono (c_Model_inF (d := d + 25) hw) (fun o20 σ20 q20 => ?_)⟩
           try dsimp only [bl_pv] at q20
           obtain ⟨rfl, rfl⟩ := q20
           refine bl_go oX11_soonest 80 [40] rfl ?_
           refine ⟨fun h23 => ?_, fun h23 => ?_⟩
           · try simp (disch := omega) only [bl_pv, cl0, cl1, cl2, cl3, cl4, cl5, cl6, cl7, cl8, cl9, bl_up2_at, bl_up2_nk, bl_up2_nx] at h23
             (first | exact absurd rfl h23 | exact absurd trivial h23 | exact absurd h23 (by decide))
           · try simp (disch := omega) only [bl_pv, cl0, cl1, cl2, cl3, cl4, cl5, cl6, cl7, cl8, cl9, bl_up2_at, bl_up2_nk, bl_up2_nx] at h23
             first
             | (exfalso; first | omega | exact h23 trivial)
             | (refine ⟨rfl, rfl, km, (Nat.le_of_ble_eq_true rfl), (0, 0), Nat.le_of_ble_eq_true rfl, Nat.le_of_ble_eq_true rfl, bl_MC_mono (c_Model_badT (d := d + 25) km bl_up2_at (by decide) (by decide)) (fun o32 σ32 q32 => ?_)⟩
                try dsimp only [bl_pv] at q32
                obtain ⟨rfl, rfl⟩ := q32
                refine bl_go oX11_soonest 80 [40] rfl ?_
                refine ⟨fun h35 => ?_, fun h35 => ?_⟩
                · try simp (disch := omega) only [bl_pv, cl0, cl1, cl2, cl3, cl4, cl5, cl6, cl7, cl8, cl9, bl_up2_at, bl_up2_nk, bl_up2_nx] at h35
                  first
                  | (exfalso; first | omega | exact h35 trivial)
                  | (try dsimp only [bl_pv]
                     (first | exact absurd rfl h35 | exact absurd trivial h35 | exact absurd h35 (by decide)))
                · try simp (disch := omega) only [bl_pv, cl0, cl1, cl2, cl3, cl4, cl5, cl6, cl7, cl8, cl9, bl_up2_at, bl_up2_nk, bl_up2_nx] at h35
                  first
                  | (exfalso; first | omega | exact h35 trivial)
                  | (refine ⟨(fun h => by cases h), ?_⟩
                     try show _ ∧ _
                     try dsimp only [bl_pv]
                     refine ⟨_, _, rfl, wzF.up.trans wzF.up, ?_, rfl, fun h => ?_⟩
                     · rw [hE]; exact bl_up2_at
                     · rw [hE] at h; exact absurd h (by decide))))
  · have hE : swE x w = 1 := by
      unfold swE
      rw [if_neg (fun h => ?_)]
      rw [Bool.and_eq_true] at h
      exact inb_f hx h.1
    refine bl_MC_intro (by decide +kernel) rfl (Nat.le_of_ble_eq_true rfl) ?_
    refine bl_go oX11_soonest 80 [40] rfl ?_
    refine ⟨km, Or.inr (Or.inr ⟨rfl, rfl, _, rfl⟩), (fun h => by cases h), rfl, (Nat.le_of_ble_eq_true rfl), (0, 0), Nat.le_of_ble_eq_true rfl, Nat.le_of_ble_eq_true rfl, bl_MC_mono (c_Model_inF (d := d + 25) hx) (fun o11 σ11 q11 => ?_)⟩
    try dsimp only [bl_pv] at q11
    obtain ⟨rfl, rfl⟩ := q11
    refine bl_go oX11_soonest 80 [40] rfl ?_
    refine ⟨fun h14 => ?_, fun h14 => ?_⟩
    · try simp (disch := omega) only [bl_pv, cl0, cl1, cl2, cl3, cl4, cl5, cl6, cl7, cl8, cl9, bl_up2_at, bl_up2_nk, bl_up2_nx] at h14
      first
      | (exfalso; first | omega | exact h14 trivial)
      | (refine ⟨rfl, rfl, km, (Nat.le_of_ble_eq_true rfl), (0, 0), Nat.le_of_ble_eq_true rfl, Nat.le_of_ble_eq_true rfl, bl_MC_mono (c_Model_badT (d := d + 25) km bl_up2_at (by decide) (by decide)) (fun o32 σ32 q32 => ?_)⟩
         try dsimp only [bl_pv] at q32
         obtain ⟨rfl, rfl⟩ := q32
         refine bl_go oX11_soonest 80 [40] rfl ?_
         refine ⟨fun h35 => ?_, fun h35 => ?_⟩
         · try simp (disch := omega) only [bl_pv, cl0, cl1, cl2, cl3, cl4, cl5, cl6, cl7, cl8, cl9, bl_up2_at, bl_up2_nk, bl_up2_nx] at h35
           first
           | (exfalso; first | omega | exact h35 trivial)
           | (try dsimp only [bl_pv]
              (first | exact absurd rfl h35 | exact absurd trivial h35 | exact absurd h35 (by decide)))
         · try simp (disch := omega) only [bl_pv, cl0, cl1, cl2, cl3, cl4, cl5, cl6, cl7, cl8, cl9, bl_up2_at, bl_up2_nk, bl_up2_nx] at h35
           first
           | (exfalso; first | omega | exact h35 trivial)
           | (refine ⟨(fun h => by cases h), ?_⟩
              try show _ ∧ _
              try dsimp only [bl_pv]
              refine ⟨_, _, rfl, wzF.up.trans wzF.up, ?_, rfl, fun h => ?_⟩
              · rw [hE]; exact bl_up2_at
              · rw [hE] at h; exact absurd h (by decide)))
    · try simp (disch := omega) only [bl_pv, cl0, cl1, cl2, cl3, cl4, cl5, cl6, cl7, cl8, cl9, bl_up2_at, bl_up2_nk, bl_up2_nx] at h14
      (first | exact absurd rfl h14 | exact absurd trivial h14 | exact absurd h14 (by decide))

theorem c_Model_fewest (hm : mdS R K N m) (hC : kgC I m tf g dg u0) : bl_MC G l (d + 26) mX11_fewest [.ref m, .int x, .int w] (I, J, R, K, N) (0, 0) (fun o σ' => ∃ I' v, σ' = (I', J, R, K, N) ∧ wzF I I' m ∧ I' m 0 = nI (swE x w) ∧ o = .inl (some (.int v)) ∧ (swE x w = 0 → swP (pPk tf g u0) (rn x) w v)) := by
  have km := hm.2.1
  have hC0 : kgC (bl_up2 I m 0 0) m tf g dg u0 := hC.up
  by_cases hx : 1 ≤ x ∧ x ≤ 1024
  · by_cases hw : 0 ≤ w ∧ w ≤ 1
    · have hE : swE x w = 0 := by unfold swE; rw [inb_t hx, wb_t hw]; rfl
      obtain ⟨n, n1, n2, rfl, en⟩ := in_1024 hx
      obtain ⟨v, hv, rfl⟩ := i32_nat (b := 1) (by omega) hw.1 hw.2
      have hsw := wyN_sw (u0 := u0) (c := true) hC.2.2.1 n1 n2
      have hwb : wyN (pPk tf g u0) true n ≤ 1000000 := by
        rcases hsw with ⟨e, -⟩ | ⟨-, p6, U, hU, -, -, e⟩
        · omega
        · rw [e]; show 1000 * pm n + U + 1 ≤ _; omega
      generalize hWN : wyN (pPk tf g u0) true n = WN at *
      refine bl_MC_intro (by decide +kernel) rfl (Nat.le_of_ble_eq_true rfl) ?_
      refine bl_go oX11_fewest 80 [] rfl ?_
      refine ⟨km, Or.inr (Or.inr ⟨rfl, rfl, _, rfl⟩), (fun h => by cases h), rfl, (Nat.le_of_ble_eq_true rfl), (0, 0), Nat.le_of_ble_eq_true rfl, Nat.le_of_ble_eq_true rfl, bl_MC_mono (c_Model_inT (d := d + 25) hx) (fun o11 σ11 q11 => ?_)⟩
      try dsimp only [bl_pv] at q11
      obtain ⟨rfl, rfl⟩ := q11
      refine bl_go oX11_fewest 80 [] rfl ?_
      refine ⟨fun h14 => ?_, fun h14 => ?_⟩
      · try simp (disch := omega) only [bl_pv, cl0, cl1, cl2, cl3, cl4, cl5, cl6, cl7, cl8, cl9, bl_up2_at, bl_up2_nk, bl_up2_nx] at h14
        (first | exact absurd rfl h14 | exact absurd trivial h14 | exact absurd h14 (by decide))
      · try simp (disch := omega) only [bl_pv, cl0, cl1, cl2, cl3, cl4, cl5, cl6, cl7, cl8, cl9, bl_up2_at, bl_up2_nk, bl_up2_nx] at h14
        first
        | (exfalso; first | omega | exact h14 trivial)
        | (refine ⟨rfl, (Nat.le_of_ble_eq_true rfl), (0, 0), Nat.le_of_ble_eq_true rfl, Nat.le_of_ble_eq_true rfl, bl_MC_mono (c_Model_inT (d := d + 25) hw) (fun o20 σ20 q20 => ?_)⟩
           try dsimp only [bl_pv] at q20
           obtain ⟨rfl, rfl⟩ := q20
           refine bl_go oX11_fewest 80 [] rfl ?_
           refine ⟨fun h23 => ?_, fun h23 => ?_⟩
           · try simp (disch := omega) only [bl_pv, cl0, cl1, cl2, cl3, cl4, cl5, cl6, cl7, cl8, cl9, bl_up2_at, bl_up2_nk, bl_up2_nx] at h23
             first
             | (exfalso; first | omega | exact h23 trivial)
             | (refine ⟨rfl, rfl, km, (Nat.le_of_ble_eq_true rfl), (0, 0), Nat.le_of_ble_eq_true rfl, Nat.le_of_ble_eq_true rfl, bl_MC_mono (c_Model_badF (d := d + 25) km bl_up2_at) (fun o32 σ32 q32 => ?_)⟩
                try dsimp only [bl_pv] at q32
                obtain ⟨rfl, rfl⟩ := q32
                refine bl_go oX11_fewest 80 [] rfl ?_
                refine ⟨fun h35 => ?_, fun h35 => ?_⟩
                · try simp (disch := omega) only [bl_pv, cl0, cl1, cl2, cl3, cl4, cl5, cl6, cl7, cl8, cl9, bl_up2_at, bl_up2_nk, bl_up2_nx] at h35
                  first
                  | (exfalso; first | omega | exact h35 trivial)
                  | (refine ⟨rfl, rfl, km, (Nat.le_of_ble_eq_true rfl), (0, 0), Nat.le_of_ble_eq_true rfl, Nat.le_of_ble_eq_true rfl, bl_MC_mono (c_Model_wayOf (d := d) (n := n) (c := true) hm hC0 n1 n2 rfl rfl) (fun o43 σ43 q43 => ?_)⟩
                     try dsimp only [bl_pv] at q43
                     obtain ⟨rfl, I1, rfl, f1, f2, f3⟩ := q43
                     rw [hWN]
                     refine bl_go oX11_fewest 80 [] rfl ?_
                     refine ⟨fun h51 => ?_, fun h51 => ?_⟩
                     · try simp (disch := omega) only [zI_n, zI_o, zI_lit, zI_neg, zI_add, zI_sub, zI_mul, zI_lt, zI_le, zI_eq, zI_clamp, zI_in, zI_div, zI_rem, lg_lt0, lg_gt0, lg_eq0, lg_le0, lg_ge0, Int.toNat_natCast, ge_iff_le, gt_iff_lt, List.length_cons, List.length_nil, bl_up2_at, bl_up2_nk, bl_up2_nx] at h51
                       first
                       | (exfalso; first | omega | exact h51 trivial)
                       | (refine ⟨fun h60 => ?_, fun h60 => ?_⟩
                          · try simp (disch := omega) only [zI_n, zI_o, zI_lit, zI_neg, zI_add, zI_sub, zI_mul, zI_lt, zI_le, zI_eq, zI_clamp, zI_in, zI_div, zI_rem, lg_lt0, lg_gt0, lg_eq0, lg_le0, lg_ge0, Int.toNat_natCast, ge_iff_le, gt_iff_lt, List.length_cons, List.length_nil, bl_up2_at, bl_up2_nk, bl_up2_nx] at h60
                            first
                            | (exfalso; first | omega | exact h60 trivial)
                            | (refine ⟨(by first | decide | (simp (disch := omega) only [zI_n, zI_o, zI_lit, zI_neg, zI_add, zI_sub, zI_mul, zI_lt, zI_le, zI_eq, zI_clamp, zI_in, zI_div, zI_rem, lg_lt0, lg_gt0, lg_eq0, lg_le0, lg_ge0, Int.toNat_natCast, ge_iff_le, gt_iff_lt, List.length_cons, List.length_nil, bl_up2_at, bl_up2_nk, bl_up2_nx] <;> omega)), (fun h => by cases h), ?_⟩
                               try show _ ∧ _
                               try dsimp only [bl_pv]
                               refine ⟨I1, _, rfl, wzF.up.trans f1, ?_, rfl, fun _ => ?_⟩
                               · rw [hE, f2]; exact bl_up2_at
                               · rw [show rn (nI n) = n from en]
                                 have eq1 : nI WN - 1 = zI ((WN : Int) - 1) := by rw [zI_n, show (1 : Int32) = zI 1 from rfl, zI_sub]
                                 rcases hsw with ⟨e, hno⟩ | ⟨hmd, p6, U, hU, a, b, e⟩
                                 · first
                                   | exact Or.inr ⟨hno, rfl⟩
                                   | (exfalso; omega)
                                 · first
                                   | (exfalso; rw [e] at *; have e' : csT true (pm n) U = 1000 * pm n + U := rfl
                                      omega)
                                   | (refine Or.inl ⟨hmd, U, a, b, ?_⟩
                                      have e' : WN = 1000 * pm n + U + 1 := e
                                      first
                                      | (have hq : v = 0 := by omega
                                         subst hq
                                         rw [if_pos (show nI 0 = 0 from rfl), zI_n]
                                         simp (disch := omega) only [zI_n, zI_o, zI_lit, zI_neg, zI_add, zI_sub, zI_mul, zI_lt, zI_le, zI_eq, zI_clamp, zI_in, zI_div, zI_rem, lg_lt0, lg_gt0, lg_eq0, lg_le0, lg_ge0, Int.toNat_natCast, ge_iff_le, gt_iff_lt, List.length_cons, List.length_nil, bl_up2_at, bl_up2_nk, bl_up2_nx]
                                         omega)
                                      | (have hq : v = 1 := by omega
                                         subst hq
                                         rw [if_neg (by decide), zI_n]
                                         simp (disch := omega) only [zI_n, zI_o, zI_lit, zI_neg, zI_add, zI_sub, zI_mul, zI_lt, zI_le, zI_eq, zI_clamp, zI_in, zI_div, zI_rem, lg_lt0, lg_gt0, lg_eq0, lg_le0, lg_ge0, Int.toNat_natCast, ge_iff_le, gt_iff_lt, List.length_cons, List.length_nil, bl_up2_at, bl_up2_nk, bl_up2_nx]
                                         omega)))
                          · try simp (disch := omega) only [zI_n, zI_o, zI_lit, zI_neg, zI_add, zI_sub, zI_mul, zI_lt, zI_le, zI_eq, zI_clamp, zI_in, zI_div, zI_rem, lg_lt0, lg_gt0, lg_eq0, lg_le0, lg_ge0, Int.toNat_natCast, ge_iff_le, gt_iff_lt, List.length_cons, List.length_nil, bl_up2_at, bl_up2_nk, bl_up2_nx] at h60
                            first
                            | (exfalso; first | omega | exact h60 trivial)
                            | (refine ⟨(by first | decide | (simp (disch := omega) only [zI_n, zI_o, zI_lit, zI_neg, zI_add, zI_sub, zI_mul, zI_lt, zI_le, zI_eq, zI_clamp, zI_in, zI_div, zI_rem, lg_lt0, lg_gt0, lg_eq0, lg_le0, lg_ge0, Int.toNat_natCast, ge_iff_le, gt_iff_lt, List.length_cons, List.length_nil, bl_up2_at, bl_up2_nk, bl_up2_nx] <;> omega)), (fun h => by cases h), ?_⟩
                               try show _ ∧ _
                               try dsimp only [bl_pv]
                               refine ⟨I1, _, rfl, wzF.up.trans f1, ?_, rfl, fun _ => ?_⟩
                               · rw [hE, f2]; exact bl_up2_at
                               · rw [show rn (nI n) = n from en]
                                 have eq1 : nI WN - 1 = zI ((WN : Int) - 1) := by rw [zI_n, show (1 : Int32) = zI 1 from rfl, zI_sub]
                                 rcases hsw with ⟨e, hno⟩ | ⟨hmd, p6, U, hU, a, b, e⟩
                                 · first
                                   | exact Or.inr ⟨hno, rfl⟩
                                   | (exfalso; omega)
                                 · first
                                   | (exfalso; rw [e] at *; have e' : csT true (pm n) U = 1000 * pm n + U := rfl
                                      omega)
                                   | (refine Or.inl ⟨hmd, U, a, b, ?_⟩
                                      have e' : WN = 1000 * pm n + U + 1 := e
                                      first
                                      | (have hq : v = 0 := by omega
                                         subst hq
                                         rw [if_pos (show nI 0 = 0 from rfl), zI_n]
                                         simp (disch := omega) only [zI_n, zI_o, zI_lit, zI_neg, zI_add, zI_sub, zI_mul, zI_lt, zI_le, zI_eq, zI_clamp, zI_in, zI_div, zI_rem, lg_lt0, lg_gt0, lg_eq0, lg_le0, lg_ge0, Int.toNat_natCast, ge_iff_le, gt_iff_lt, List.length_cons, List.length_nil, bl_up2_at, bl_up2_nk, bl_up2_nx]
                                         omega)
                                      | (have hq : v = 1 := by omega
                                         subst hq
                                         rw [if_neg (by decide), zI_n]
                                         simp (disch := omega) only [zI_n, zI_o, zI_lit, zI_neg, zI_add, zI_sub, zI_mul, zI_lt, zI_le, zI_eq, zI_clamp, zI_in, zI_div, zI_rem, lg_lt0, lg_gt0, lg_eq0, lg_le0, lg_ge0, Int.toNat_natCast, ge_iff_le, gt_iff_lt, List.length_cons, List.length_nil, bl_up2_at, bl_up2_nk, bl_up2_nx]
                                         omega))))
                     · try simp (disch := omega) only [zI_n, zI_o, zI_lit, zI_neg, zI_add, zI_sub, zI_mul, zI_lt, zI_le, zI_eq, zI_clamp, zI_in, zI_div, zI_rem, lg_lt0, lg_gt0, lg_eq0, lg_le0, lg_ge0, Int.toNat_natCast, ge_iff_le, gt_iff_lt, List.length_cons, List.length_nil, bl_up2_at, bl_up2_nk, bl_up2_nx] at h51
                       first
                       | (exfalso; first | omega | exact h51 trivial)
                       | (refine ⟨(fun h => by cases h), ?_⟩
                          try show _ ∧ _
                          try dsimp only [bl_pv]
                          refine ⟨I1, _, rfl, wzF.up.trans f1, ?_, rfl, fun _ => ?_⟩
                          · rw [hE, f2]; exact bl_up2_at
                          · rw [show rn (nI n) = n from en]
                            have eq1 : nI WN - 1 = zI ((WN : Int) - 1) := by rw [zI_n, show (1 : Int32) = zI 1 from rfl, zI_sub]
                            rcases hsw with ⟨e, hno⟩ | ⟨hmd, p6, U, hU, a, b, e⟩
                            · first
                              | exact Or.inr ⟨hno, rfl⟩
                              | (exfalso; omega)
                            · first
                              | (exfalso; rw [e] at *; have e' : csT true (pm n) U = 1000 * pm n + U := rfl
                                 omega)
                              | (refine Or.inl ⟨hmd, U, a, b, ?_⟩
                                 have e' : WN = 1000 * pm n + U + 1 := e
                                 first
                                 | (have hq : v = 0 := by omega
                                    subst hq
                                    rw [if_pos (show nI 0 = 0 from rfl), zI_n]
                                    simp (disch := omega) only [zI_n, zI_o, zI_lit, zI_neg, zI_add, zI_sub, zI_mul, zI_lt, zI_le, zI_eq, zI_clamp, zI_in, zI_div, zI_rem, lg_lt0, lg_gt0, lg_eq0, lg_le0, lg_ge0, Int.toNat_natCast, ge_iff_le, gt_iff_lt, List.length_cons, List.length_nil, bl_up2_at, bl_up2_nk, bl_up2_nx]
                                    omega)
                                 | (have hq : v = 1 := by omega
                                    subst hq
                                    rw [if_neg (by decide), zI_n]
                                    simp (disch := omega) only [zI_n, zI_o, zI_lit, zI_neg, zI_add, zI_sub, zI_mul, zI_lt, zI_le, zI_eq, zI_clamp, zI_in, zI_div, zI_rem, lg_lt0, lg_gt0, lg_eq0, lg_le0, lg_ge0, Int.toNat_natCast, ge_iff_le, gt_iff_lt, List.length_cons, List.length_nil, bl_up2_at, bl_up2_nk, bl_up2_nx]
                                    omega))))
                · try simp (disch := omega) only [bl_pv, cl0, cl1, cl2, cl3, cl4, cl5, cl6, cl7, cl8, cl9, bl_up2_at, bl_up2_nk, bl_up2_nx] at h35
                  (first | exact absurd rfl h35 | exact absurd trivial h35 | exact absurd h35 (by decide)))
           · try simp (disch := omega) only [bl_pv, cl0, cl1, cl2, cl3, cl4, cl5, cl6, cl7, cl8, cl9, bl_up2_at, bl_up2_nk, bl_up2_nx] at h23
             (first | exact absurd rfl h23 | exact absurd trivial h23 | exact absurd h23 (by decide)))
    · have hE : swE x w = 1 := by unfold swE; rw [inb_t hx, if_neg (by rw [Bool.true_and]; exact wb_f hw)]
      refine bl_MC_intro (by decide +kernel) rfl (Nat.le_of_ble_eq_true rfl) ?_
      refine bl_go oX11_fewest 80 [40] rfl ?_
      refine ⟨km, Or.inr (Or.inr ⟨rfl, rfl, _, rfl⟩), (fun h => by cases h), rfl, (Nat.le_of_ble_eq_true rfl), (0, 0), Nat.le_of_ble_eq_true rfl, Nat.le_of_ble_eq_true rfl, bl_MC_mono (c_Model_inT (d := d + 25) hx) (fun o11 σ11 q11 => ?_)⟩
      try dsimp only [bl_pv] at q11
      obtain ⟨rfl, rfl⟩ := q11
      refine bl_go oX11_fewest 80 [40] rfl ?_
      refine ⟨fun h14 => ?_, fun h14 => ?_⟩
      · try simp (disch := omega) only [bl_pv, cl0, cl1, cl2, cl3, cl4, cl5, cl6, cl7, cl8, cl9, bl_up2_at, bl_up2_nk, bl_up2_nx] at h14
        (first | exact absurd rfl h14 | exact absurd trivial h14 | exact absurd h14 (by decide))
      · try simp (disch := omega) only [bl_pv, cl0, cl1, cl2, cl3, cl4, cl5, cl6, cl7, cl8, cl9, bl_up2_at, bl_up2_nk, bl_up2_nx] at h14
        first
        | (exfalso; first | omega | exact h14 trivial)
        | (refine ⟨rfl, (Nat.le_of_ble_eq_true rfl), (0, 0), Nat.le_of_ble_eq_true rfl, Nat.le_of_ble_eq_true rfl, bl_MC_mono (c_Model_inF (d := d + 25) hw) (fun o20 σ20 q20 => ?_)⟩
           try dsimp only [bl_pv] at q20
           obtain ⟨rfl, rfl⟩ := q20
           refine bl_go oX11_fewest 80 [40] rfl ?_
           refine ⟨fun h23 => ?_, fun h23 => ?_⟩
           · try simp (disch := omega) only [bl_pv, cl0, cl1, cl2, cl3, cl4, cl5, cl6, cl7, cl8, cl9, bl_up2_at, bl_up2_nk, bl_up2_nx] at h23
             (first | exact absurd rfl h23 | exact absurd trivial h23 | exact absurd h23 (by decide))
           · try simp (disch := omega) only [bl_pv, cl0, cl1, cl2, cl3, cl4, cl5, cl6, cl7, cl8, cl9, bl_up2_at, bl_up2_nk, bl_up2_nx] at h23
             first
             | (exfalso; first | omega | exact h23 trivial)
             | (refine ⟨rfl, rfl, km, (Nat.le_of_ble_eq_true rfl), (0, 0), Nat.le_of_ble_eq_true rfl, Nat.le_of_ble_eq_true rfl, bl_MC_mono (c_Model_badT (d := d + 25) km bl_up2_at (by decide) (by decide)) (fun o32 σ32 q32 => ?_)⟩
                try dsimp only [bl_pv] at q32
                obtain ⟨rfl, rfl⟩ := q32
                refine bl_go oX11_fewest 80 [40] rfl ?_
                refine ⟨fun h35 => ?_, fun h35 => ?_⟩
                · try simp (disch := omega) only [bl_pv, cl0, cl1, cl2, cl3, cl4, cl5, cl6, cl7, cl8, cl9, bl_up2_at, bl_up2_nk, bl_up2_nx] at h35
                  first
                  | (exfalso; first | omega | exact h35 trivial)
                  | (try dsimp only [bl_pv]
                     (first | exact absurd rfl h35 | exact absurd trivial h35 | exact absurd h35 (by decide)))
                · try simp (disch := omega) only [bl_pv, cl0, cl1, cl2, cl3, cl4, cl5, cl6, cl7, cl8, cl9, bl_up2_at, bl_up2_nk, bl_up2_nx] at h35
                  first
                  | (exfalso; first | omega | exact h35 trivial)
                  | (refine ⟨(fun h => by cases h), ?_⟩
                     try show _ ∧ _
                     try dsimp only [bl_pv]
                     refine ⟨_, _, rfl, wzF.up.trans wzF.up, ?_, rfl, fun h => ?_⟩
                     · rw [hE]; exact bl_up2_at
                     · rw [hE] at h; exact absurd h (by decide))))
  · have hE : swE x w = 1 := by
      unfold swE
      rw [if_neg (fun h => ?_)]
      rw [Bool.and_eq_true] at h
      exact inb_f hx h.1
    refine bl_MC_intro (by decide +kernel) rfl (Nat.le_of_ble_eq_true rfl) ?_
    refine bl_go oX11_fewest 80 [40] rfl ?_
    refine ⟨km, Or.inr (Or.inr ⟨rfl, rfl, _, rfl⟩), (fun h => by cases h), rfl, (Nat.le_of_ble_eq_true rfl), (0, 0), Nat.le_of_ble_eq_true rfl, Nat.le_of_ble_eq_true rfl, bl_MC_mono (c_Model_inF (d := d + 25) hx) (fun o11 σ11 q11 => ?_)⟩
    try dsimp only [bl_pv] at q11
    obtain ⟨rfl, rfl⟩ := q11
    refine bl_go oX11_fewest 80 [40] rfl ?_
    refine ⟨fun h14 => ?_, fun h14 => ?_⟩
    · try simp (disch := omega) only [bl_pv, cl0, cl1, cl2, cl3, cl4, cl5, cl6, cl7, cl8, cl9, bl_up2_at, bl_up2_nk, bl_up2_nx] at h14
      first
      | (exfalso; first | omega | exact h14 trivial)
      | (refine ⟨rfl, rfl, km, (Nat.le_of_ble_eq_true rfl), (0, 0), Nat.le_of_ble_eq_true rfl, Nat.le_of_ble_eq_true rfl, bl_MC_mono (c_Model_badT (d := d + 25) km bl_up2_at (by decide) (by decide)) (fun o32 σ32 q32 => ?_)⟩
         try dsimp only [bl_pv] at q32
         obtain ⟨rfl, rfl⟩ := q32
         refine bl_go oX11_fewest 80 [40] rfl ?_
         refine ⟨fun h35 => ?_, fun h35 => ?_⟩
         · try simp (disch := omega) only [bl_pv, cl0, cl1, cl2, cl3, cl4, cl5, cl6, cl7, cl8, cl9, bl_up2_at, bl_up2_nk, bl_up2_nx] at h35
           first
           | (exfalso; first | omega | exact h35 trivial)
           | (try dsimp only [bl_pv]
              (first | exact absurd rfl h35 | exact absurd trivial h35 | exact absurd h35 (by decide)))
         · try simp (disch := omega) only [bl_pv, cl0, cl1, cl2, cl3, cl4, cl5, cl6, cl7, cl8, cl9, bl_up2_at, bl_up2_nk, bl_up2_nx] at h35
           first
           | (exfalso; first | omega | exact h35 trivial)
           | (refine ⟨(fun h => by cases h), ?_⟩
              try show _ ∧ _
              try dsimp only [bl_pv]
              refine ⟨_, _, rfl, wzF.up.trans wzF.up, ?_, rfl, fun h => ?_⟩
              · rw [hE]; exact bl_up2_at
              · rw [hE] at h; exact absurd h (by decide)))
    · try simp (disch := omega) only [bl_pv, cl0, cl1, cl2, cl3, cl4, cl5, cl6, cl7, cl8, cl9, bl_up2_at, bl_up2_nk, bl_up2_nx] at h14
      (first | exact absurd rfl h14 | exact absurd trivial h14 | exact absurd h14 (by decide))

end MODEL36
