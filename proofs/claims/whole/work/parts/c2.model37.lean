/-! ===== Model: pass ===== -/
def bstF (P : pP) (u w p U c : Nat) : Prop := (∃ w', Wy P u w p U w' c) ∧ ∀ U' w' c', Wy P u w p U' w' c' → U < U' ∨ (U = U' ∧ c ≤ c')
theorem bstF_ex {P : pP} {u w p U : Nat} (h : Ws P u w p U) (hl : ∀ u', Ws P u w p u' → U ≤ u') : ∃ c, bstF P u w p U c := by
  obtain ⟨w', c, h⟩ := h
  obtain ⟨c0, ⟨w0, h0⟩, hc⟩ := least_ex (p := fun c => ∃ w', Wy P u w p U w' c) c ⟨w', h⟩
  refine ⟨c0, ⟨w0, h0⟩, fun U' w' c' h' => ?_⟩
  have h1 := hl U' ⟨w', c', h'⟩
  by_cases e : U = U'
  · subst e; exact Or.inr ⟨rfl, hc c' ⟨w', h'⟩⟩
  · exact Or.inl (by omega)
theorem bstF.ws {P : pP} {u w p U c : Nat} (h : bstF P u w p U c) : Ws P u w p U ∧ ∀ u', Ws P u w p u' → U ≤ u' := by
  obtain ⟨⟨w', h1⟩, h2⟩ := h
  refine ⟨⟨w', c, h1⟩, ?_⟩
  rintro u' ⟨w2, c2, h3⟩
  have := h2 u' w2 c2 h3; omega
theorem bstF_front {P : pP} (hP : pPok P) {u w p U c : Nat} (hw : w ≤ 400) (h : bstF P u w (p + 1) U c) : c / 25 ^ p < 25 ∧ ∃ u1 w1, stp P (c / 25 ^ p) u w = some (u1, w1) ∧ bstF P u1 w1 p U (c % 25 ^ p) ∧ ∀ x' u1' w1', x' < 25 → stp P x' u w = some (u1', w1') → Ws P u1' w1' p U → c / 25 ^ p ≤ x' := by
  obtain ⟨⟨w', h1⟩, h2⟩ := h
  obtain ⟨x, u1, w1, c1, hx, hs, hW, hc⟩ := Wy_front.mp h1
  have s1 := (stp_le hP hx hs).1
  have hc1 := (Wy_le hP s1 hW).2.2.1
  have hp : 0 < 25 ^ p := Nat.pow_pos (by omega)
  have e1 : c / 25 ^ p = x := by rw [hc, Nat.mul_comm, Nat.mul_add_div hp, Nat.div_eq_of_lt hc1, Nat.add_zero]
  have e2 : c % 25 ^ p = c1 := by rw [hc, Nat.mul_comm, Nat.mul_add_mod, Nat.mod_eq_of_lt hc1]
  rw [e1, e2]
  refine ⟨hx, u1, w1, hs, ⟨⟨w', hW⟩, fun U' w2 c' h' => ?_⟩, fun x' u1' w1' hx' hs' hWs => ?_⟩
  · have := h2 U' w2 (x * 25 ^ p + c') (Wy_front.mpr ⟨x, u1, w1, c', hx, hs, h', rfl⟩)
    omega
  · obtain ⟨w2, c2, h3⟩ := hWs
    have s2 := (stp_le hP hx' hs').1
    have hc2 := (Wy_le hP s2 h3).2.2.1
    have h4 := h2 U w2 (x' * 25 ^ p + c2) (Wy_front.mpr ⟨x', u1', w1', c2, hx', hs', h3, rfl⟩)
    by_cases e : x ≤ x'
    · exact e
    · have h5 : (x' + 1) * 25 ^ p ≤ x * 25 ^ p := Nat.mul_le_mul_right _ (by omega)
      rw [Nat.succ_mul] at h5
      omega
def psE' (x : Int32) : Nat := if inb 1 1024 x then 0 else 1
def psP (P : pP) (n : Nat) (i v : Int32) : Prop := (made n ∧ ∃ U c, bstF P 0 P.1 (pm n) U c ∧ ((∃ k, k < pm n ∧ i = nI k ∧ v = nI (10 * (c / 25 ^ (pm n - 1 - k) % 25) + fac n k)) ∨ ((∀ k, k < pm n → i ≠ nI k) ∧ v = zI (-1)))) ∨ ((¬ made n ∨ ∀ u', ¬ Ws P 0 P.1 (pm n) u') ∧ v = zI (-1))
theorem bstF_eq {P : pP} {u w p U c U' c' : Nat} (h : bstF P u w p U c) (h' : bstF P u w p U' c') : U = U' ∧ c = c' := by
  obtain ⟨⟨w1, a⟩, b⟩ := h
  obtain ⟨⟨w2, a'⟩, b'⟩ := h'
  have := b _ _ _ a'; have := b' _ _ _ a
  omega
theorem psP_eq {P : pP} {n : Nat} {i v v' : Int32} (hn : pm n ≤ 6) (h : psP P n i v) (h' : psP P n i v') : v = v' := by
  rcases h with ⟨a, U, c, b, e⟩ | ⟨a, b⟩
  · rcases h' with ⟨a', U', c', b', e'⟩ | ⟨a', b'⟩
    · obtain ⟨rfl, rfl⟩ := bstF_eq b b'
      rcases e with ⟨k, k1, k2, k3⟩ | ⟨k1, k2⟩
      · rcases e' with ⟨k', k1', k2', k3'⟩ | ⟨k1', k2'⟩
        · have : k = k' := (nI_eqk (by omega) (by omega)).mp (k2.symm.trans k2')
          rw [k3, k3', this]
        · exact absurd k2 (k1' k k1)
      · rcases e' with ⟨k', k1', k2', k3'⟩ | ⟨k1', k2'⟩
        · exact absurd k2' (k1 k' k1')
        · rw [k2, k2']
    · rcases a' with a' | a'
      · exact absurd a a'
      · exact absurd b.ws.1 (a' U)
  · rcases h' with ⟨a', U', c', b', e'⟩ | ⟨a', b'⟩
    · rcases a with a | a
      · exact absurd a' a
      · exact absurd b'.ws.1 (a U')
    · rw [b, b']
section MODEL37
variable {G : bl_G} {l : Launch} {d m : Nat} {I : Nat → Nat → Int32} {J : Nat → Nat → Int64} {R : Nat → Nat → Option Nat} {K N : Nat → Nat} {tf g : Nat → Nat} {dg : Nat → Int32} {u0 : Nat} {x y : Int32}
theorem c_Model_ps67 {n : Nat} (hm : mdS R K N m) (hO : kiO tf g) (n1 : 1 ≤ n) (n2 : n ≤ 1024) (hmd0 : made n) {U0 c0 : Nat} (hb0 : bstF (pPk tf g u0) 0 (pPk tf g u0).1 (pm n) U0 c0) : ∀ k n', pm n' + k = pm n → 1 ≤ n' → n' ≤ 1024 → made n' → n % n' = 0 → (∀ j, j + k < 7 → fac n' j = fac n (k + j)) → (∀ j, j < k → y ≠ nI j) → ∀ u w I1, u ≤ 120 → w ≤ 400 → bstF (pPk tf g u0) u w (pm n') U0 (c0 % 25 ^ pm n') → wzF I I1 m → I1 m 0 = 0 → wyI I1 m tf g dg u0 false n → ∀ z7 z6 z5 z4 z3, z7 = nI k → z6 = nI n' → z5 = nI w → z4 = nI u → z3 = nI (bfv (pPk tf g u0) false u w n') → bl_WP G l (d + 26) mX11_pass 67 [(7, .int z7), (6, .int z6), (5, .int z5), (4, .int z4), (3, .int z3), (0, .ref m), (2, .int y)] [] (I1, J, R, K, N) (0, 0) (fun o σ' => ∃ I' v, σ' = (I', J, R, K, N) ∧ wzF I I' m ∧ I' m 0 = 0 ∧ o = .inl (some (.int v)) ∧ psP (pPk tf g u0) n y v) := by
  have km := hm.2.1
  have hP := pPk_ok (u0 := u0) hO
  have hp6 := made_pm n1 n2 hmd0
  have main : ∀ p n' k, pm n' = p → pm n' + k = pm n → 1 ≤ n' → n' ≤ 1024 → made n' → n % n' = 0 → (∀ j, j + k < 7 → fac n' j = fac n (k + j)) → (∀ j, j < k → y ≠ nI j) → ∀ u w I1, u ≤ 120 → w ≤ 400 → bstF (pPk tf g u0) u w (pm n') U0 (c0 % 25 ^ pm n') → wzF I I1 m → I1 m 0 = 0 → wyI I1 m tf g dg u0 false n → ∀ z7 z6 z5 z4 z3, z7 = nI k → z6 = nI n' → z5 = nI w → z4 = nI u → z3 = nI (bfv (pPk tf g u0) false u w n') → bl_WP G l (d + 26) mX11_pass 67 [(7, .int z7), (6, .int z6), (5, .int z5), (4, .int z4), (3, .int z3), (0, .ref m), (2, .int y)] [] (I1, J, R, K, N) (0, 0) (fun o σ' => ∃ I' v, σ' = (I', J, R, K, N) ∧ wzF I I' m ∧ I' m 0 = 0 ∧ o = .inl (some (.int v)) ∧ psP (pPk tf g u0) n y v) := by
    intro p
    induction p with
    | zero =>
      intro n' k hp hk m1 m2 hmd hdv hfc hnk u w I1 hu hw hb f1 f2 f3 z7 z6 z5 z4 z3 e7 e6 e5 e4 e3
      have hn1 : n' = 1 := by
        have := made_pm m1 m2 hmd
        by_cases e : n' = 1
        · exact e
        · have := this.2 e; omega
      subst e7 e6 e5 e4 e3
      refine bl_go oX11_pass 80 [67, 79] rfl ?_
      refine ⟨fun h70 => ?_, fun h70 => ?_⟩
      · try simp (disch := omega) only [zI_n, zI_o, zI_lit, zI_neg, zI_add, zI_sub, zI_mul, zI_lt, zI_le, zI_eq, zI_clamp, zI_in, zI_div, zI_rem, lg_lt0, lg_gt0, lg_eq0, lg_le0, lg_ge0, Int.toNat_natCast, ge_iff_le, gt_iff_lt, List.length_cons, List.length_nil, bl_up2_at, bl_up2_nk, bl_up2_nx] at h70
        refine ⟨(fun h => by cases h), ?_⟩
        try show _ ∧ _
        try dsimp only [bl_pv]
        refine ⟨I1, _, rfl, f1, f2, rfl, Or.inl ⟨hmd0, U0, c0, hb0, Or.inr ⟨fun j hj => hnk j (by omega), rfl⟩⟩⟩
      · try simp (disch := omega) only [zI_n, zI_o, zI_lit, zI_neg, zI_add, zI_sub, zI_mul, zI_lt, zI_le, zI_eq, zI_clamp, zI_in, zI_div, zI_rem, lg_lt0, lg_gt0, lg_eq0, lg_le0, lg_ge0, Int.toNat_natCast, ge_iff_le, gt_iff_lt, List.length_cons, List.length_nil, bl_up2_at, bl_up2_nk, bl_up2_nx] at h70
        exfalso; first | omega | exact h70 trivial
    | succ p ih =>
      intro n' k hp hk m1 m2 hmd hdv hfc hnk u w I1 hu hw hb f1 f2 f3 z7 z6 z5 z4 z3 e7 e6 e5 e4 e3
      have hn1 : n' ≠ 1 := fun e => by rw [e, pm_1] at hp; omega
      rw [hp] at hb
      obtain ⟨hx25, u1, w1, hst, hb1, hleast⟩ := bstF_front hP hw hb
      obtain ⟨fc1, fc2, fc3, fc4, fc5⟩ := fac_ck (show 2 ≤ n' by omega) m2 hmd
      obtain ⟨s1, s2, s3, s4⟩ := stp_le hP hx25 hst
      have hws := hb.ws
      have hvv : bfv (pPk tf g u0) false u w n' = csT false (pm n') (U0 - u) + 1 := by
        rcases bfv_is (pPk tf g u0) false u w n' with ⟨a, -⟩ | ⟨U, a, b, e⟩
        · rw [hp] at a; exact absurd hws.1 (a U0)
        · rw [hp] at a b
          have : U = U0 := Nat.le_antisymm (b U0 hws.1) (hws.2 U a)
          rw [e, this]
      have hpq : pm (n' / fac n' 0) = p := by omega
      have hgood : byV (pPk tf g u0) false (bfv (pPk tf g u0) false) u w n' (c0 % 25 ^ (p + 1) / 25 ^ p) (fac n' 0) = bfv (pPk tf g u0) false u w n' := by
        rw [hvv]
        refine (byV_eq hP hw hu m1 m2 hmd hn1 hx25 fc1 (by rw [hp]; exact hws.1) (by rw [hp]; exact hws.2)).mpr ⟨fc2, fc3, u1, w1, hst, ?_⟩
        rw [hpq]; exact hb1.ws.1
      have hbad : ∀ x' f', x' < 25 → 2 ≤ f' ∧ f' < 5 → byV (pPk tf g u0) false (bfv (pPk tf g u0) false) u w n' x' f' = bfv (pPk tf g u0) false u w n' → c0 % 25 ^ (p + 1) / 25 ^ p ≤ x' ∧ fac n' 0 ≤ f' := by
        intro x' f' hx' hf' he
        rw [hvv] at he
        obtain ⟨a1, a2, u1', w1', a3, a4⟩ := (byV_eq hP hw hu m1 m2 hmd hn1 hx' hf' (by rw [hp]; exact hws.1) (by rw [hp]; exact hws.2)).mp he
        have hpf : pm (n' / f') = p := by omega
        rw [hpf] at a4
        refine ⟨hleast x' u1' w1' hx' a3 a4, ?_⟩
        by_cases e : fac n' 0 ≤ f'
        · exact e
        · exact absurd ⟨a1, a2⟩ (fc4 f' hf'.1 hf'.2 (by omega))
      obtain ⟨X, hX⟩ : ∃ X, X = c0 % 25 ^ (p + 1) / 25 ^ p := ⟨_, rfl⟩
      obtain ⟨F, hF⟩ : ∃ F, F = fac n' 0 := ⟨_, rfl⟩
      rw [← hX] at hx25 hst hgood hbad
      rw [← hF] at fc1 fc2 fc3 fc5 hgood hbad hpq
      have hVb := bfv_b (c := false) (n := n') hP hw hu (by omega)
      have hbyb : ∀ x' f', x' < 25 → 2 ≤ f' ∧ f' < 5 → byV (pPk tf g u0) false (bfv (pPk tf g u0) false) u w n' x' f' ≤ 1300000 := by
        intro x' f' hx' hf'
        unfold byV
        by_cases hd : n' % f' = 0
        · rw [if_neg (fun h => h hd)]
          obtain ⟨q1, q2, q3, q4⟩ := made_div m1 m2 hmd hf' hd
          have hpd := made_pm q3 (by omega) q1
          split
          · omega
          · rename_i u2 w2 hs
            obtain ⟨r1, r2, r3, r4⟩ := stp_le hP hx' hs
            have hb2 := bfv_b (c := false) (n := n' / f') hP r1 r4 (by omega)
            split
            · omega
            · split <;> omega
        · rw [if_pos hd]; omega
      have hrest : bfv (pPk tf g u0) false u w n' = bfv (pPk tf g u0) false u1 w1 (n' / F) + (1000 * (u1 - u) + 1) ∧ bfv (pPk tf g u0) false u1 w1 (n' / F) ≠ 1000000 := by
        have h0 := hgood
        unfold byV at h0
        rw [if_neg (fun h => h fc2), hst] at h0
        have h0' : (if bfv (pPk tf g u0) false u1 w1 (n' / F) = 1000000 then 1000000 else bfv (pPk tf g u0) false u1 w1 (n' / F) + (if false = true then 1000 + (u1 - u) else 1000 * (u1 - u) + 1)) = bfv (pPk tf g u0) false u w n' := h0
        by_cases hz : bfv (pPk tf g u0) false u1 w1 (n' / F) = 1000000
        · rw [if_pos hz] at h0'
          have hUb := Ws_b hP hw hu hws.1
          have : csT false (pm n') (U0 - u) = 1000 * (U0 - u) + pm n' := rfl
          omega
        · rw [if_neg hz, if_neg (by decide)] at h0'
          exact ⟨h0'.symm, hz⟩
      obtain ⟨d1, d2, d3, d4⟩ := made_div m1 m2 hmd fc1 fc2
      have hih : ∀ f', 2 ≤ f' ∧ f' < 5 → n' % f' = 0 → ∀ u1 w1 I x1 x2 x3, u1 ≤ 120 → w1 ≤ 400 → wyI I m tf g dg u0 false n → x1 = nI u1 → x2 = nI w1 → x3 = nI (n' / f') → bl_MC G l (d + 22 + 2) mX11_bestFrom [.ref m, .int x1, .int x2, .int x3] (I, J, R, K, N) (0, 0) (fun o σ' => o = .inl (some (.int (nI (bfv (pPk tf g u0) false u1 w1 (n' / f'))))) ∧ ∃ I', σ' = (I', J, R, K, N) ∧ wyF I I' m ∧ wyI I' m tf g dg u0 false n) := by
        intro f' hf' hd u1 w1 I x1 x2 x3 a1 a2 a3 a4 a5 a6
        obtain ⟨q1, q2, q3, q4⟩ := made_div m1 m2 hmd hf' hd
        have h3 : n' / f' ∣ n' := Nat.div_dvd_of_dvd (Nat.dvd_of_mod_eq_zero hd)
        exact c_Model_bestFrom (d := d) (n0 := n) (c := false) hm 11 (n' / f') q3 (by omega) (by omega) q1 (Nat.mod_eq_zero_of_dvd (Nat.dvd_trans h3 (Nat.dvd_of_mod_eq_zero hdv))) u1 w1 I x1 x2 x3 a1 a2 a3 a4 a5 a6
      generalize hV : bfv (pPk tf g u0) false u w n' = V at *
      subst e7 e6 e5 e4 e3
      have eF : nI n' / nI F = nI (n' / F) := nI_div (by omega) (by omega)
      have hF0 : ¬ nI F = 0 := fun h => absurd ((nI_eqk (b := 0) (by omega) (by omega)).mp h) (by omega)
      have hgv : wtN X ≤ 12 := by unfold wtN; split <;> omega
      have L79 : ∀ j, j ≤ 3 * X + (F - 2) → ∀ z8 z9 I2, z8 = nI (j / 3) → z9 = nI (2 + j % 3) → wzF I I2 m → I2 m 0 = 0 → wyI I2 m tf g dg u0 false n → bl_WP G l (d + 26) mX11_pass 79 [(9, .int z9), (8, .int z8), (7, .int (nI k)), (6, .int (nI n')), (5, .int (nI w)), (4, .int (nI u)), (3, .int (nI V)), (0, .ref m), (2, .int y)] [] (I2, J, R, K, N) (0, 0) (fun o σ' => ∃ I' v, σ' = (I', J, R, K, N) ∧ wzF I I' m ∧ I' m 0 = 0 ∧ o = .inl (some (.int v)) ∧ psP (pPk tf g u0) n y v) := by
        refine bl_for (3 * X + (F - 2)) ?_ (fun j hj ihj => ?_)
        · intro z8 z9 I2 h8 h9 g1 g2 g3
          have e8 : (3 * X + (F - 2)) / 3 = X := by omega
          have e9 : 2 + (3 * X + (F - 2)) % 3 = F := by omega
          rw [e8] at h8
          rw [e9] at h9
          subst h8 h9
          refine bl_go oX11_pass 80 [67, 79] rfl ?_
          refine ⟨rfl, rfl, km, (Nat.le_of_ble_eq_true rfl), (0, 0), Nat.le_of_ble_eq_true rfl, Nat.le_of_ble_eq_true rfl, bl_MC_mono (c_Model_byPass (d := d + 22) (n0 := n) (n := n') (x := X) (f := F) (u := u) (w := w) (c := false) hm g3 hu hw ⟨m1, m2⟩ hmd hx25 fc1 rfl rfl rfl rfl rfl (hih F fc1)) (fun o90 σ90 q90 => ?_)⟩
          try dsimp only [bl_pv] at q90
          obtain ⟨rfl, I3, rfl, k1, k2⟩ := q90
          rw [hgood]
          have g1' := g1.trans k1.z
          have g2' : I3 m 0 = 0 := (k1.2 0 (by omega)).trans g2
          refine bl_go oX11_pass 80 [67, 79] rfl ?_
          refine ⟨fun h94 => ?_, fun h94 => ?_⟩
          · try simp (disch := omega) only [bl_pv, cl0, cl1, cl2, cl3, cl4, cl5, cl6, cl7, cl8, cl9, bl_up2_at, bl_up2_nk, bl_up2_nx] at h94
            first
            | (exfalso; first | omega | exact h94 trivial)
            | (refine ⟨fun h135 => ?_, fun h135 => ?_⟩
               · try simp (disch := omega) only [bl_pv, cl0, cl1, cl2, cl3, cl4, cl5, cl6, cl7, cl8, cl9, bl_up2_at, bl_up2_nk, bl_up2_nx] at h135
                 refine ⟨rfl, rfl, km, (Nat.le_of_ble_eq_true rfl), (0, 0), Nat.le_of_ble_eq_true rfl, Nat.le_of_ble_eq_true rfl, bl_MC_mono (c_Model_waits (d := d + 23) (u := u) (w := w) (x := X) hm k2.1 rfl rfl rfl hu hw hx25) (fun o154 σ154 q154 => ?_)⟩
                 try dsimp only [bl_pv] at q154
                 obtain ⟨rfl, I4, rfl, a1, a2, a3⟩ := q154
                 have hst2 : stp (pPk tf g u0) X u w = match wts (pPk tf g u0) (decide (X ≤ 12)) u w (wtN X) with
                     | none => none
                     | some y => match pss (pPk tf g u0) (u + wtN X) y with
                       | none => none
                       | some z => some (u + wtN X + 3, z) := rfl
                 rw [hst] at hst2
                 obtain ⟨y', ey', a4, a5⟩ := a3.resolve_left (fun h => by rw [h.1] at hst2; cases hst2)
                 rw [ey'] at hst2
                 have hy' := wts_le hP hw ey'
                 have hI4 := k2.mm a1 (fun j hj => a2 j (by omega) (by omega))
                 refine bl_go oX11_pass 80 [67, 79] rfl ?_
                 refine ⟨rfl, rfl, km, (Nat.le_of_ble_eq_true rfl), (0, 0), Nat.le_of_ble_eq_true rfl, Nat.le_of_ble_eq_true rfl, bl_MC_mono (c_Model_passes (d := d + 23) (u := u + wtN X) (y := y') hm hI4.1 a4 a5 (by omega) hy') (fun o158 σ158 q158 => ?_)⟩
                 try dsimp only [bl_pv] at q158
                 obtain ⟨I5, rfl, b1, b2, b3⟩ := q158
                 have hst3 : some (u1, w1) = (match pss (pPk tf g u0) (u + wtN X) y' with | none => none | some z => some (u + wtN X + 3, z)) := hst2
                 obtain ⟨z', ez', b4, b5, b6⟩ := b3.resolve_left (fun h => by rw [h.1] at hst3; cases hst3)
                 rw [ez'] at hst3
                 injection hst3 with hst4
                 injection hst4 with hu1 hw1
                 subst b4
                 have hI5 := hI4.mm b1 (fun j hj => b2 j (by omega) (by omega))
                 refine bl_go oX11_pass 80 [67, 79] rfl ?_
                 refine ⟨rfl, km, km, km, (by exact hF0), ?_⟩
                 refine bl_lv [0, 1, 2, 3, 4, 7, 8] rfl ?_
                 try dsimp only [bl_pv]
                 refine ih (n' / F) (k + 1) hpq (by omega) d3 (by omega) d1 ?_ (fun j hj => ?_) (fun j hj => ?_) u1 w1 I5 s4 s1 ?_ ?_ ?_ hI5 _ _ _ _ _ (nI_1 _) eF ?_ ?_ ?_
                 · have h3 : n' / F ∣ n' := Nat.div_dvd_of_dvd (Nat.dvd_of_mod_eq_zero fc2)
                   exact Nat.mod_eq_zero_of_dvd (Nat.dvd_trans h3 (Nat.dvd_of_mod_eq_zero hdv))
                 · rw [hF, ← hF, fc5 j (by omega), hfc (j + 1) (by omega)]; congr 1; omega
                 · by_cases ej : j = k
                   · subst ej; exact fun e => h135 e.symm
                   · exact hnk j (by omega)
                 · rw [hpq]
                   have e13 : c0 % 25 ^ (p + 1) % 25 ^ p = c0 % 25 ^ p := Nat.mod_mod_of_dvd _ (Nat.pow_dvd_pow 25 (by omega))
                   rw [e13] at hb1; exact hb1
                 · refine g1'.trans ⟨fun q q1 q2 q3 => (b1 q q1).trans (a1 q q1), fun j j1 j2 => (b2 j (by omega) (by omega)).trans (a2 j (by omega) (by omega))⟩
                 · rw [b2 0 (by omega) (by omega), a2 0 (by omega) (by omega)]; exact g2'
                 · rw [b5, hw1]
                 · rw [b6, hu1]
                 · rw [b6, ← hu1, nI_subs (by omega), show (1000 : Int32) * nI (u1 - u) = nI (1000 * (u1 - u)) from (Int32.ofNat_mul 1000 _).symm, nI_1, nI_subs (by omega)]
                   congr 1; omega
               · try simp (disch := omega) only [bl_pv, cl0, cl1, cl2, cl3, cl4, cl5, cl6, cl7, cl8, cl9, bl_up2_at, bl_up2_nk, bl_up2_nx] at h135
                 refine ⟨(fun h => by cases h), ?_⟩
                 try show _ ∧ _
                 try dsimp only [bl_pv]
                 have ek : y = nI k := h135.symm
                 refine ⟨I3, _, rfl, g1', g2', rfl, Or.inl ⟨hmd0, U0, c0, hb0, Or.inl ⟨k, by omega, ek, ?_⟩⟩⟩
                 rw [tenI]
                 have e10 : pm n - 1 - k = p := by omega
                 have e11 : c0 / 25 ^ p % 25 = X := by rw [hX, Nat.pow_succ, Nat.mod_mul_right_div_self]
                 have e12 : fac n k = F := by rw [hF]; exact (hfc 0 (by omega)).symm
                 rw [e10, e11, e12]; exact (Int32.ofNat_add _ _).symm)
          · try simp (disch := omega) only [bl_pv, cl0, cl1, cl2, cl3, cl4, cl5, cl6, cl7, cl8, cl9, bl_up2_at, bl_up2_nk, bl_up2_nx] at h94
            (first | exact absurd rfl h94 | exact absurd trivial h94 | exact absurd h94 (by decide))
        · intro z8 z9 I2 h8 h9 g1 g2 g3; subst h8 h9
          have hj25 : j / 3 < 25 := by omega
          have hjf : 2 ≤ 2 + j % 3 ∧ 2 + j % 3 < 5 := by omega
          have hbb := hbyb (j / 3) (2 + j % 3) hj25 hjf
          have hne : byV (pPk tf g u0) false (bfv (pPk tf g u0) false) u w n' (j / 3) (2 + j % 3) ≠ V := fun e => by
            have := hbad (j / 3) (2 + j % 3) hj25 hjf e
            omega
          generalize hBV : byV (pPk tf g u0) false (bfv (pPk tf g u0) false) u w n' (j / 3) (2 + j % 3) = BV at *
          by_cases h4 : j % 3 = 2
          · rw [h4]
            refine bl_go oX11_pass 80 [67, 79] rfl ?_
            refine ⟨rfl, rfl, km, (Nat.le_of_ble_eq_true rfl), (0, 0), Nat.le_of_ble_eq_true rfl, Nat.le_of_ble_eq_true rfl, bl_MC_mono (c_Model_byPass (d := d + 22) (n0 := n) (n := n') (x := j / 3) (f := 2 + j % 3) (u := u) (w := w) (c := false) hm g3 hu hw ⟨m1, m2⟩ hmd hj25 hjf rfl rfl rfl rfl (by rw [h4]) (hih (2 + j % 3) hjf)) (fun o90 σ90 q90 => ?_)⟩
            try dsimp only [bl_pv] at q90
            obtain ⟨rfl, I3, rfl, k1, k2⟩ := q90
            rw [hBV]
            refine bl_go oX11_pass 80 [67, 79] rfl ?_
            refine ⟨fun h94 => ?_, fun h94 => ?_⟩
            · try simp (disch := omega) only [bl_pv, cl0, cl1, cl2, cl3, cl4, cl5, cl6, cl7, cl8, cl9, bl_up2_at, bl_up2_nk, bl_up2_nx] at h94
              exact absurd ((nI_eqk (by omega) (by omega)).mp h94) hne
            · try simp (disch := omega) only [bl_pv, cl0, cl1, cl2, cl3, cl4, cl5, cl6, cl7, cl8, cl9, bl_up2_at, bl_up2_nk, bl_up2_nx] at h94
              first
              | (exfalso; first | omega | exact h94 trivial)
              | (refine ⟨fun h100 => ?_, fun h100 => ?_⟩
                 · try simp (disch := omega) only [bl_pv, cl0, cl1, cl2, cl3, cl4, cl5, cl6, cl7, cl8, cl9, bl_up2_at, bl_up2_nk, bl_up2_nx] at h100
                   (first | exact absurd rfl h100 | exact absurd trivial h100 | exact absurd h100 (by decide))
                 · try simp (disch := omega) only [bl_pv, cl0, cl1, cl2, cl3, cl4, cl5, cl6, cl7, cl8, cl9, bl_up2_at, bl_up2_nk, bl_up2_nx] at h100
                   first
                   | (exfalso; first | omega | exact h100 trivial)
                   | (refine ⟨fun h118 => ?_, fun h118 => ?_⟩
                      · try simp (disch := omega) only [bl_pv, cl0, cl1, cl2, cl3, cl4, cl5, cl6, cl7, cl8, cl9, bl_up2_at, bl_up2_nk, bl_up2_nx] at h118
                        (first | exact absurd rfl h118 | exact absurd trivial h118 | exact absurd h118 (by decide))
                      · try simp (disch := omega) only [bl_pv, cl0, cl1, cl2, cl3, cl4, cl5, cl6, cl7, cl8, cl9, bl_up2_at, bl_up2_nk, bl_up2_nx] at h118
                        first
                        | (exfalso; first | omega | exact h118 trivial)
                        | (refine bl_lv [1, 0, 2, 3, 4, 5, 6, 7, 8] rfl ?_
                           try dsimp only [bl_pv]
                           refine ihj _ _ _ ?_ ?_ (g1.trans k1.z) ((k1.2 0 (by omega)).trans g2) k2
                           · rw [nI_1]; congr 1; omega
                           · rw [show 2 + (j + 1) % 3 = 2 by omega]; rfl)))
          · skip
            refine bl_go oX11_pass 80 [67, 79] rfl ?_
            refine ⟨rfl, rfl, km, (Nat.le_of_ble_eq_true rfl), (0, 0), Nat.le_of_ble_eq_true rfl, Nat.le_of_ble_eq_true rfl, bl_MC_mono (c_Model_byPass (d := d + 22) (n0 := n) (n := n') (x := j / 3) (f := 2 + j % 3) (u := u) (w := w) (c := false) hm g3 hu hw ⟨m1, m2⟩ hmd hj25 hjf rfl rfl rfl rfl rfl (hih (2 + j % 3) hjf)) (fun o90 σ90 q90 => ?_)⟩
            try dsimp only [bl_pv] at q90
            obtain ⟨rfl, I3, rfl, k1, k2⟩ := q90
            rw [hBV]
            refine bl_go oX11_pass 80 [67, 79] rfl ?_
            refine ⟨fun h94 => ?_, fun h94 => ?_⟩
            · try simp (disch := omega) only [bl_pv, cl0, cl1, cl2, cl3, cl4, cl5, cl6, cl7, cl8, cl9, bl_up2_at, bl_up2_nk, bl_up2_nx] at h94
              exact absurd ((nI_eqk (by omega) (by omega)).mp h94) hne
            · try simp (disch := omega) only [bl_pv, cl0, cl1, cl2, cl3, cl4, cl5, cl6, cl7, cl8, cl9, bl_up2_at, bl_up2_nk, bl_up2_nx] at h94
              first
              | (exfalso; first | omega | exact h94 trivial)
              | (refine ⟨fun h100 => ?_, fun h100 => ?_⟩
                 · try simp (disch := omega) only [bl_pv, cl0, cl1, cl2, cl3, cl4, cl5, cl6, cl7, cl8, cl9, bl_up2_at, bl_up2_nk, bl_up2_nx] at h100
                   first
                   | (exfalso; first | omega | exact h100 trivial)
                   | (refine ⟨fun h118 => ?_, fun h118 => ?_⟩
                      · try simp (disch := omega) only [bl_pv, cl0, cl1, cl2, cl3, cl4, cl5, cl6, cl7, cl8, cl9, bl_up2_at, bl_up2_nk, bl_up2_nx] at h118
                        first
                        | (exfalso; first | omega | exact h118 trivial)
                        | (refine bl_lv [1, 0, 2, 3, 4, 5, 6, 7, 8] rfl ?_
                           try dsimp only [bl_pv]
                           refine ihj _ _ _ ?_ ?_ (g1.trans k1.z) ((k1.2 0 (by omega)).trans g2) k2
                           · rw [show (j + 1) / 3 = j / 3 by omega]; exact Int32.add_zero _
                           · rw [nI_1]; congr 1; omega)
                      · try simp (disch := omega) only [bl_pv, cl0, cl1, cl2, cl3, cl4, cl5, cl6, cl7, cl8, cl9, bl_up2_at, bl_up2_nk, bl_up2_nx] at h118
                        rw [nI_1] at h118; exact absurd ((nI_eqk (b := 2) (by omega) (by omega)).mp h118) (by omega))
                 · try simp (disch := omega) only [bl_pv, cl0, cl1, cl2, cl3, cl4, cl5, cl6, cl7, cl8, cl9, bl_up2_at, bl_up2_nk, bl_up2_nx] at h100
                   exact absurd ((nI_eqk (b := 4) (by omega) (by omega)).mp h100) (by omega))
      refine bl_go oX11_pass 80 [67, 79] rfl ?_
      refine ⟨fun h70 => ?_, fun h70 => ?_⟩
      · try simp (disch := omega) only [zI_n, zI_o, zI_lit, zI_neg, zI_add, zI_sub, zI_mul, zI_lt, zI_le, zI_eq, zI_clamp, zI_in, zI_div, zI_rem, lg_lt0, lg_gt0, lg_eq0, lg_le0, lg_ge0, Int.toNat_natCast, ge_iff_le, gt_iff_lt, List.length_cons, List.length_nil, bl_up2_at, bl_up2_nk, bl_up2_nx] at h70
        exfalso; first | omega | exact h70 trivial
      · try simp (disch := omega) only [zI_n, zI_o, zI_lit, zI_neg, zI_add, zI_sub, zI_mul, zI_lt, zI_le, zI_eq, zI_clamp, zI_in, zI_div, zI_rem, lg_lt0, lg_gt0, lg_eq0, lg_le0, lg_ge0, Int.toNat_natCast, ge_iff_le, gt_iff_lt, List.length_cons, List.length_nil, bl_up2_at, bl_up2_nk, bl_up2_nx] at h70
        try dsimp only [bl_pv]
        exact L79 0 (by omega) _ _ I1 rfl rfl f1 f2 f3
  intro k n' hk m1 m2 hmd hdv hfc hnk u w I1 hu hw hb f1 f2 f3 z7 z6 z5 z4 z3 e7 e6 e5 e4 e3
  exact main (pm n') n' k rfl hk m1 m2 hmd hdv hfc hnk u w I1 hu hw hb f1 f2 f3 z7 z6 z5 z4 z3 e7 e6 e5 e4 e3
theorem c_Model_pass (hm : mdS R K N m) (hC : kgC I m tf g dg u0) : bl_MC G l (d + 26) mX11_pass [.ref m, .int x, .int y] (I, J, R, K, N) (0, 0) (fun o σ' => ∃ I' v, σ' = (I', J, R, K, N) ∧ wzF I I' m ∧ I' m 0 = nI (psE' x) ∧ o = .inl (some (.int v)) ∧ (psE' x = 0 → psP (pPk tf g u0) (rn x) y v)) := by
  have km := hm.2.1
  obtain ⟨rm_10, km10, nm10⟩ := hm.f10
  have hC0 : kgC (bl_up2 I m 0 0) m tf g dg u0 := hC.up
  by_cases hx : 1 ≤ x ∧ x ≤ 1024
  · have hE : psE' x = 0 := by unfold psE'; rw [if_pos (inb_t hx)]
    obtain ⟨n, n1, n2, rfl, en⟩ := in_1024 hx
    have hP := pPk_ok (u0 := u0) hC.2.2.1
    rcases wyN_sw (u0 := u0) (c := false) hC.2.2.1 n1 n2 with ⟨e, hno⟩ | ⟨hmd, p6, U, hU, a, b, e⟩
    · skip
      refine bl_MC_intro (by decide +kernel) rfl (Nat.le_of_ble_eq_true rfl) ?_
      refine bl_go oX11_pass 80 [64] rfl ?_
      refine ⟨km, Or.inr (Or.inr ⟨rfl, rfl, _, rfl⟩), (fun h => by cases h), rfl, (Nat.le_of_ble_eq_true rfl), (0, 0), Nat.le_of_ble_eq_true rfl, Nat.le_of_ble_eq_true rfl, bl_MC_mono (c_Model_inT (d := d + 25) hx) (fun o11 σ11 q11 => ?_)⟩
      try dsimp only [bl_pv] at q11
      obtain ⟨rfl, rfl⟩ := q11
      refine bl_go oX11_pass 80 [64] rfl ?_
      refine ⟨fun h14 => ?_, fun h14 => ?_⟩
      · try simp (disch := omega) only [bl_pv, cl0, cl1, cl2, cl3, cl4, cl5, cl6, cl7, cl8, cl9, bl_up2_at, bl_up2_nk, bl_up2_nx] at h14
        first
        | (exfalso; first | omega | exact h14 trivial)
        | (refine ⟨rfl, rfl, km, (Nat.le_of_ble_eq_true rfl), (0, 0), Nat.le_of_ble_eq_true rfl, Nat.le_of_ble_eq_true rfl, bl_MC_mono (c_Model_badF (d := d + 25) km bl_up2_at) (fun o23 σ23 q23 => ?_)⟩
           try dsimp only [bl_pv] at q23
           obtain ⟨rfl, rfl⟩ := q23
           refine bl_go oX11_pass 80 [64] rfl ?_
           refine ⟨fun h26 => ?_, fun h26 => ?_⟩
           · try simp (disch := omega) only [bl_pv, cl0, cl1, cl2, cl3, cl4, cl5, cl6, cl7, cl8, cl9, bl_up2_at, bl_up2_nk, bl_up2_nx] at h26
             first
             | (exfalso; first | omega | exact h26 trivial)
             | (refine ⟨rfl, rfl, km, (Nat.le_of_ble_eq_true rfl), (0, 0), Nat.le_of_ble_eq_true rfl, Nat.le_of_ble_eq_true rfl, bl_MC_mono (c_Model_wayOf (d := d) (n := n) (c := false) hm hC0 n1 n2 rfl rfl) (fun o34 σ34 q34 => ?_)⟩
                try dsimp only [bl_pv] at q34
                obtain ⟨rfl, I1, rfl, f1, f2, f3⟩ := q34
                rw [e]
                refine bl_go oX11_pass 80 [64] rfl ?_
                refine ⟨km, _, bl_vs rm_10, Or.inl ⟨km10, (by first | exact (by rw [nm10]; exact vp_in_nI (by omega) (by omega)) | ((try dsimp only [bl_pv]); show vp_in _ (N _); rw [nm10]; simp (disch := omega) only [zI_n, zI_o, zI_lit, zI_neg, zI_add, zI_sub, zI_mul, zI_lt, zI_le, zI_eq, zI_clamp, zI_in, zI_div, zI_rem, lg_lt0, lg_gt0, lg_eq0, lg_le0, lg_ge0, Int.toNat_natCast, ge_iff_le, gt_iff_lt, List.length_cons, List.length_nil, bl_up2_at, bl_up2_nk, bl_up2_nx] <;> omega)), fun h59 => ?_, fun h59 => ?_⟩⟩
                · try simp (disch := omega) only [bl_pv, cl0, cl1, cl2, cl3, cl4, cl5, cl6, cl7, cl8, cl9, bl_up2_at, bl_up2_nk, bl_up2_nx] at h59
                  first
                  | (exfalso; first | omega | exact h59 trivial)
                  | (refine bl_lv [4, 5, 6] rfl ?_
                     try dsimp only [bl_pv]
                     (first | exact absurd rfl h59 | exact absurd trivial h59 | exact absurd h59 (by decide)))
                · try simp (disch := omega) only [bl_pv, cl0, cl1, cl2, cl3, cl4, cl5, cl6, cl7, cl8, cl9, bl_up2_at, bl_up2_nk, bl_up2_nx] at h59
                  first
                  | (exfalso; first | omega | exact h59 trivial)
                  | (refine ⟨(fun h => by cases h), ?_⟩
                     try show _ ∧ _
                     try dsimp only [bl_pv]
                     refine ⟨I1, _, rfl, wzF.up.trans f1, ?_, rfl, fun _ => ?_⟩
                     · rw [hE, f2]; exact bl_up2_at
                     · rw [show rn (nI n) = n from en]; exact Or.inr ⟨hno, rfl⟩))
           · try simp (disch := omega) only [bl_pv, cl0, cl1, cl2, cl3, cl4, cl5, cl6, cl7, cl8, cl9, bl_up2_at, bl_up2_nk, bl_up2_nx] at h26
             (first | exact absurd rfl h26 | exact absurd trivial h26 | exact absurd h26 (by decide)))
      · try simp (disch := omega) only [bl_pv, cl0, cl1, cl2, cl3, cl4, cl5, cl6, cl7, cl8, cl9, bl_up2_at, bl_up2_nk, bl_up2_nx] at h14
        (first | exact absurd rfl h14 | exact absurd trivial h14 | exact absurd h14 (by decide))
    · obtain ⟨c0, hb0⟩ := bstF_ex a b
      have hbfv : bfv (pPk tf g u0) false 0 (pPk tf g u0).1 n = csT false (pm n) U + 1 := by
        rw [← e]; unfold wyN; rw [if_pos (mdb_t.mpr hmd)]
      have hcb : c0 < 25 ^ pm n := by
        obtain ⟨⟨w', hw'⟩, -⟩ := hb0
        exact (Wy_le hP hP.1 hw').2.2.1
      have hcs : csT false (pm n) U = 1000 * U + pm n := rfl
      refine bl_MC_intro (by decide +kernel) rfl (Nat.le_of_ble_eq_true rfl) ?_
      refine bl_go oX11_pass 80 [67] rfl ?_
      refine ⟨km, Or.inr (Or.inr ⟨rfl, rfl, _, rfl⟩), (fun h => by cases h), rfl, (Nat.le_of_ble_eq_true rfl), (0, 0), Nat.le_of_ble_eq_true rfl, Nat.le_of_ble_eq_true rfl, bl_MC_mono (c_Model_inT (d := d + 25) hx) (fun o11 σ11 q11 => ?_)⟩
      try dsimp only [bl_pv] at q11
      obtain ⟨rfl, rfl⟩ := q11
      refine bl_go oX11_pass 80 [67] rfl ?_
      refine ⟨fun h14 => ?_, fun h14 => ?_⟩
      · try simp (disch := omega) only [bl_pv, cl0, cl1, cl2, cl3, cl4, cl5, cl6, cl7, cl8, cl9, bl_up2_at, bl_up2_nk, bl_up2_nx] at h14
        first
        | (exfalso; first | omega | exact h14 trivial)
        | (refine ⟨rfl, rfl, km, (Nat.le_of_ble_eq_true rfl), (0, 0), Nat.le_of_ble_eq_true rfl, Nat.le_of_ble_eq_true rfl, bl_MC_mono (c_Model_badF (d := d + 25) km bl_up2_at) (fun o23 σ23 q23 => ?_)⟩
           try dsimp only [bl_pv] at q23
           obtain ⟨rfl, rfl⟩ := q23
           refine bl_go oX11_pass 80 [67] rfl ?_
           refine ⟨fun h26 => ?_, fun h26 => ?_⟩
           · try simp (disch := omega) only [bl_pv, cl0, cl1, cl2, cl3, cl4, cl5, cl6, cl7, cl8, cl9, bl_up2_at, bl_up2_nk, bl_up2_nx] at h26
             first
             | (exfalso; first | omega | exact h26 trivial)
             | (refine ⟨rfl, rfl, km, (Nat.le_of_ble_eq_true rfl), (0, 0), Nat.le_of_ble_eq_true rfl, Nat.le_of_ble_eq_true rfl, bl_MC_mono (c_Model_wayOf (d := d) (n := n) (c := false) hm hC0 n1 n2 rfl rfl) (fun o34 σ34 q34 => ?_)⟩
                try dsimp only [bl_pv] at q34
                obtain ⟨rfl, I1, rfl, f1, f2, f3⟩ := q34
                rw [e]
                have f3' := f3 hmd
                have e4 := f3'.1.1.1 4 (by omega)
                refine bl_go oX11_pass 80 [67] rfl ?_
                refine ⟨km, _, bl_vs rm_10, Or.inl ⟨km10, (by first | exact (by rw [nm10]; exact vp_in_nI (by omega) (by omega)) | ((try dsimp only [bl_pv]); show vp_in _ (N _); rw [nm10]; simp (disch := omega) only [zI_n, zI_o, zI_lit, zI_neg, zI_add, zI_sub, zI_mul, zI_lt, zI_le, zI_eq, zI_clamp, zI_in, zI_div, zI_rem, lg_lt0, lg_gt0, lg_eq0, lg_le0, lg_ge0, Int.toNat_natCast, ge_iff_le, gt_iff_lt, List.length_cons, List.length_nil, bl_up2_at, bl_up2_nk, bl_up2_nx] <;> omega)), fun h59 => ?_, fun h59 => ?_⟩⟩
                · try simp (disch := omega) only [bl_pv, cl0, cl1, cl2, cl3, cl4, cl5, cl6, cl7, cl8, cl9, bl_up2_at, bl_up2_nk, bl_up2_nx] at h59
                  first
                  | (exfalso; first | omega | exact h59 trivial)
                  | (refine bl_lv [0, 1, 2, 3, 4, 5, 7] rfl ?_
                     try dsimp only [bl_pv]
                     refine bl_WP_mono (c_Model_ps67 (I := I) (d := d) hm hC.2.2.1 n1 n2 hmd hb0 0 n rfl n1 n2 hmd (Nat.mod_self n) (fun j _ => by rw [Nat.zero_add]) (fun j hj => absurd hj (by omega)) 0 (10 * tf 4) I1 (by omega) hP.1 (by rw [Nat.mod_eq_of_lt hcb]; exact hb0) (wzF.up.trans f1) (f2.trans bl_up2_at) f3' _ _ _ _ _ rfl rfl (by rw [cl4, e4, tenI]) rfl (by show _ = nI (bfv (pPk tf g u0) false 0 (pPk tf g u0).1 n); rw [hbfv])) (fun o σ' q => ?_)
                     obtain ⟨I2, v, rfl, q1, q2, rfl, q3⟩ := q
                     exact ⟨I2, v, rfl, q1, by rw [hE]; exact q2, rfl, fun _ => by rw [show rn (nI n) = n from en]; exact q3⟩)
                · try simp (disch := omega) only [bl_pv, cl0, cl1, cl2, cl3, cl4, cl5, cl6, cl7, cl8, cl9, bl_up2_at, bl_up2_nk, bl_up2_nx] at h59
                  exact absurd ((nI_eqk (b := 1000000) (by omega) (by omega)).mp h59) (by omega))
           · try simp (disch := omega) only [bl_pv, cl0, cl1, cl2, cl3, cl4, cl5, cl6, cl7, cl8, cl9, bl_up2_at, bl_up2_nk, bl_up2_nx] at h26
             (first | exact absurd rfl h26 | exact absurd trivial h26 | exact absurd h26 (by decide)))
      · try simp (disch := omega) only [bl_pv, cl0, cl1, cl2, cl3, cl4, cl5, cl6, cl7, cl8, cl9, bl_up2_at, bl_up2_nk, bl_up2_nx] at h14
        (first | exact absurd rfl h14 | exact absurd trivial h14 | exact absurd h14 (by decide))
  · have hE : psE' x = 1 := by unfold psE'; rw [if_neg (inb_f hx)]
    refine bl_MC_intro (by decide +kernel) rfl (Nat.le_of_ble_eq_true rfl) ?_
    refine bl_go oX11_pass 80 [31] rfl ?_
    refine ⟨km, Or.inr (Or.inr ⟨rfl, rfl, _, rfl⟩), (fun h => by cases h), rfl, (Nat.le_of_ble_eq_true rfl), (0, 0), Nat.le_of_ble_eq_true rfl, Nat.le_of_ble_eq_true rfl, bl_MC_mono (c_Model_inF (d := d + 25) hx) (fun o11 σ11 q11 => ?_)⟩
    try dsimp only [bl_pv] at q11
    obtain ⟨rfl, rfl⟩ := q11
    refine bl_go oX11_pass 80 [31] rfl ?_
    refine ⟨fun h14 => ?_, fun h14 => ?_⟩
    · try simp (disch := omega) only [bl_pv, cl0, cl1, cl2, cl3, cl4, cl5, cl6, cl7, cl8, cl9, bl_up2_at, bl_up2_nk, bl_up2_nx] at h14
      (first | exact absurd rfl h14 | exact absurd trivial h14 | exact absurd h14 (by decide))
    · try simp (disch := omega) only [bl_pv, cl0, cl1, cl2, cl3, cl4, cl5, cl6, cl7, cl8, cl9, bl_up2_at, bl_up2_nk, bl_up2_nx] at h14
      first
      | (exfalso; first | omega | exact h14 trivial)
      | (refine ⟨rfl, rfl, km, (Nat.le_of_ble_eq_true rfl), (0, 0), Nat.le_of_ble_eq_true rfl, Nat.le_of_ble_eq_true rfl, bl_MC_mono (c_Model_badT (d := d + 25) km bl_up2_at (by decide) (by decide)) (fun o23 σ23 q23 => ?_)⟩
         try dsimp only [bl_pv] at q23
         obtain ⟨rfl, rfl⟩ := q23
         refine bl_go oX11_pass 80 [31] rfl ?_
         refine ⟨fun h26 => ?_, fun h26 => ?_⟩
         · try simp (disch := omega) only [bl_pv, cl0, cl1, cl2, cl3, cl4, cl5, cl6, cl7, cl8, cl9, bl_up2_at, bl_up2_nk, bl_up2_nx] at h26
           first
           | (exfalso; first | omega | exact h26 trivial)
           | (try dsimp only [bl_pv]
              (first | exact absurd rfl h26 | exact absurd trivial h26 | exact absurd h26 (by decide)))
         · try simp (disch := omega) only [bl_pv, cl0, cl1, cl2, cl3, cl4, cl5, cl6, cl7, cl8, cl9, bl_up2_at, bl_up2_nk, bl_up2_nx] at h26
           first
           | (exfalso; first | omega | exact h26 trivial)
           | (refine ⟨(fun h => by cases h), ?_⟩
              try show _ ∧ _
              try dsimp only [bl_pv]
              refine ⟨_, _, rfl, wzF.up.trans wzF.up, ?_, rfl, fun h => ?_⟩
              · rw [hE]; exact bl_up2_at
              · rw [hE] at h; exact absurd h (by decide)))
end MODEL37
