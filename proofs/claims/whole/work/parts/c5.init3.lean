/-! ===== constructors: Tape, Kitchen ===== -/
abbrev tpX (s : bl_Mem) (t : Nat) : Prop := tpS s.2.2.1 s.2.2.2.1 s.2.2.2.2 t
abbrev kiX (s : bl_Mem) (a : Nat) : Prop := kiS s.2.2.1 s.2.2.2.1 s.2.2.2.2 a
abbrev bnX (s : bl_Mem) (q : Nat) : Prop := bnS s.2.2.1 s.2.2.2.1 s.2.2.2.2 q
abbrev psX (s : bl_Mem) (q : Nat) : Prop := psS s.2.2.1 s.2.2.2.1 s.2.2.2.2 q
abbrev rcX (s : bl_Mem) (q : Nat) : Prop := rcS s.2.2.1 s.2.2.2.1 s.2.2.2.2 q
section INIT3
variable {G : bl_G} {l : Launch} {d : Nat} {s : bl_Mem} {o t : Nat}
theorem c_Tape_init (ht : t < 900) (ho : s.2.2.2.1 t = 9) (hf : s.2.2.2.1 (t + 1) = 0) : bl_MC G l d mX8_init [.ref t] s (1, 400) (fun r s' => r = .inl none ∧ eqF s s' (fun y => y = t ∨ y = t + 1) ∧ tpX s' t ∧ s'.1 t 3 = zI (-1) ∧ (∀ j, j ≠ 3 → s'.1 t j = s.1 t j) ∧ ∀ j, s'.1 (t + 1) j = 0) := by
  refine bl_MC_intro (by decide +kernel) rfl (Nat.le_of_ble_eq_true rfl) ?_
  have E13 : ∀ s1, inF s s1 t [(0, t + 1, 20, 400)] → bl_WP G l d mX8_init 13 [(0, .ref t)] [] s1 (0, 0) (fun r s' => r = .inl none ∧ eqF s s' (fun y => y = t ∨ y = t + 1) ∧ tpX s' t ∧ s'.1 t 3 = zI (-1) ∧ (∀ j, j ≠ 3 → s'.1 t j = s.1 t j) ∧ ∀ j, s'.1 (t + 1) j = 0) := by
    intro s1 h
    have ko : s1.2.2.2.1 t = 9 := ((h.1 t (by simp)).2.2.1).trans ho
    obtain ⟨a1, a2, a3, a4, -⟩ := h.2.2.2 (0, t + 1, 20, 400) (by simp)
    refine bl_go oX8_init 80 [] rfl ?_
    refine ⟨ko, Or.inr (Or.inr ⟨rfl, rfl, _, rfl⟩), (fun h => by cases h), rfl, ?_, ⟨ht, ko, a1, a2, a3⟩, ?_, fun j hj => ?_, fun j => ?_⟩
    · exact (eqF_inF h (Or.inl rfl) (by intro q hq; simp at hq; subst hq; exact Or.inr rfl)).trans (eqF_pv.mono (fun y hy => Or.inl hy))
    · show bl_up2 s1.1 t 3 _ t 3 = _; rw [bl_up2_at]; rfl
    · show bl_up2 s1.1 t 3 _ t j = _; rw [bl_up2_nk hj, (h.1 t (by simp)).1]
    · show bl_up2 s1.1 t 3 _ (t + 1) j = _; rw [bl_up2_nx (by omega)]; exact a4 j
  have E4 : bl_WP G l d mX8_init 4 [(0, .ref t)] [] s (1, 400) (fun r s' => r = .inl none ∧ eqF s s' (fun y => y = t ∨ y = t + 1) ∧ tpX s' t ∧ s'.1 t 3 = zI (-1) ∧ (∀ j, j ≠ 3 → s'.1 t j = s.1 t j) ∧ ∀ j, s'.1 (t + 1) j = 0) := by
    refine bl_go oX8_init 80 [13] rfl ?_
    refine ⟨t + 1, hf, (by decide), (by decide +kernel), (by decide), (by decide +kernel), (bl_mk_Kne (by omega)).trans ho, Or.inl ⟨rfl, Or.inl ⟨_, rfl⟩⟩, (fun h => by cases h), ?_⟩
    exact bl_WP_bud (b' := (0, 0)) (by decide) (by decide +kernel) (E13 _ (inF_step inF_0 (by decide +kernel) (by simp) (by simp) (by omega) (by simp)))
  refine bl_go oX8_init 80 [4] rfl ?_
  refine ⟨(Nat.le_of_ble_eq_true rfl), ?_⟩
  exact E4
theorem c_Kitchen_init (hoo : o < 900) (ho : s.2.2.2.1 o = 3) (ku0 : s.2.2.2.1 940 = 100) (hf : s.2.2.2.1 (o + 1) = 0 ∧ s.2.2.2.1 (o + 2) = 0 ∧ s.2.2.2.1 (o + 3) = 0) : bl_MC G l (d + 1) mX2_init [.ref o] s (3, 57) (fun r s' => r = .inl none ∧ eqF s s' (fun y => o ≤ y ∧ y ≤ o + 3) ∧ kiX s' o ∧ (∀ k, k < 9 → s'.1 (o + 1) k = km_un k) ∧ ∀ h, h < 24 → s'.1 (o + 3) h = rm_deg (fun _ => zI (-1)) h) := by
  refine bl_MC_intro (by decide +kernel) rfl (Nat.le_of_ble_eq_true rfl) ?_
  obtain ⟨g0, g1, g2⟩ := hf
  have E30 : ∀ s1, inF s s1 o [(2, o + 3, 20, 24), (1, o + 2, 20, 24), (0, o + 1, 20, 9)] → bl_WP G l (d + 1) mX2_init 30 [(0, .ref o)] [] s1 (0, 0) (fun r s' => r = .inl none ∧ eqF s s' (fun y => o ≤ y ∧ y ≤ o + 3) ∧ kiX s' o ∧ (∀ k, k < 9 → s'.1 (o + 1) k = km_un k) ∧ ∀ h, h < 24 → s'.1 (o + 3) h = rm_deg (fun _ => zI (-1)) h) := by
    intro s1 h
    have ko : s1.2.2.2.1 o = 3 := ((h.1 o (by simp)).2.2.1).trans ho
    have hE := eqF_inF h (p := fun y => o ≤ y ∧ y ≤ o + 3) (by omega) (by intro q hq; simp at hq; rcases hq with rfl | rfl | rfl <;> simp)
    have k940 : s1.2.2.2.1 940 = 100 := ((hE 940 (by omega)).2.2.2.1).trans ku0
    obtain ⟨a1, a2, a3, -⟩ := h.2.2.2 (2, o + 3, 20, 24) (by simp)
    obtain ⟨b1, b2, b3, -⟩ := h.2.2.2 (1, o + 2, 20, 24) (by simp)
    obtain ⟨c1, c2, c3, -⟩ := h.2.2.2 (0, o + 1, 20, 9) (by simp)
    obtain ⟨I1, J1, R1, K1, N1⟩ := s1
    dsimp only at a1 a2 a3 b1 b2 b3 c1 c2 c3 ko k940
    refine bl_go oX2_init 80 [30] rfl ?_
    refine ⟨rfl, rfl, ko, (Nat.le_of_ble_eq_true rfl), (0, 0), Nat.le_of_ble_eq_true rfl, Nat.le_of_ble_eq_true rfl, bl_MC_mono (c_Kitchen_clear (d := d) (u0 := 940) ko c1 c2 c3 b1 b2 b3 k940) (fun o31 σ31 q31 => ?_)⟩
    try dsimp only [bl_pv] at q31
    obtain ⟨rfl, rfl⟩ := q31
    refine bl_go oX2_init 80 [30] rfl ?_
    refine ⟨rfl, rfl, ko, (Nat.le_of_ble_eq_true rfl), (0, 0), Nat.le_of_ble_eq_true rfl, Nat.le_of_ble_eq_true rfl, bl_MC_mono (c_Kitchen_settleRoom (d := d) ko b1 b2 b3 a1 a2 a3 (by omega)) (fun o35 σ35 q35 => ?_)⟩
    try dsimp only [bl_pv] at q35
    obtain ⟨rfl, rfl⟩ := q35
    refine bl_go oX2_init 80 [30] rfl ?_
    try show _ ∧ _
    try dsimp only [bl_pv]
    refine ⟨rfl, fun y hy => ?_, ⟨hoo, ko, c1, b1, a1, ⟨c2, c3⟩, ⟨b2, b3⟩, ⟨a2, a3⟩⟩, fun k hk => ?_, fun j hj => ?_⟩
    · obtain ⟨z1, z2, z3, z4, z5⟩ := hE y hy
      have hy' : ¬ (o ≤ y ∧ y ≤ o + 3) := hy
      refine ⟨?_, z2, z3, z4, z5⟩
      dsimp only
      rw [bl_fill_ne (by omega), bl_fill_ne (by omega), bl_fill_ne (by omega)]; exact z1
    · rw [bl_fill_ne (by omega), bl_fill_ne (by omega), bl_fill_at hk]
    · rw [bl_fill_at hj]
      exact rm_deg_congr (fun k hk => bl_fill_at hk) hj
  have E22 : ∀ s1, inF s s1 o [(1, o + 2, 20, 24), (0, o + 1, 20, 9)] → bl_WP G l (d + 1) mX2_init 22 [(0, .ref o)] [] s1 (1, 24) (fun r s' => r = .inl none ∧ eqF s s' (fun y => o ≤ y ∧ y ≤ o + 3) ∧ kiX s' o ∧ (∀ k, k < 9 → s'.1 (o + 1) k = km_un k) ∧ ∀ h, h < 24 → s'.1 (o + 3) h = rm_deg (fun _ => zI (-1)) h) := by
    intro s1 h
    have ko : s1.2.2.2.1 o = 3 := ((h.1 o (by simp)).2.2.1).trans ho
    have kf : s1.2.2.2.1 (o + 3) = 0 := ((h.1 (o + 3) (by simp)).2.2.1).trans g2
    refine bl_go oX2_init 80 [30] rfl ?_
    refine ⟨o + 3, kf, (by decide), (by decide +kernel), (by decide), (by decide +kernel), (bl_mk_Kne (by omega)).trans ko, Or.inl ⟨rfl, Or.inl ⟨_, rfl⟩⟩, (fun h => by cases h), ?_⟩
    exact bl_WP_bud (b' := (0, 0)) (by decide) (by decide +kernel) (E30 _ (inF_step h (by decide +kernel) (by simp) (by simp) (by omega) (by simp)))
  have E14 : ∀ s1, inF s s1 o [(0, o + 1, 20, 9)] → bl_WP G l (d + 1) mX2_init 14 [(0, .ref o)] [] s1 (2, 48) (fun r s' => r = .inl none ∧ eqF s s' (fun y => o ≤ y ∧ y ≤ o + 3) ∧ kiX s' o ∧ (∀ k, k < 9 → s'.1 (o + 1) k = km_un k) ∧ ∀ h, h < 24 → s'.1 (o + 3) h = rm_deg (fun _ => zI (-1)) h) := by
    intro s1 h
    have ko : s1.2.2.2.1 o = 3 := ((h.1 o (by simp)).2.2.1).trans ho
    have kf : s1.2.2.2.1 (o + 2) = 0 := ((h.1 (o + 2) (by simp)).2.2.1).trans g1
    refine bl_go oX2_init 80 [22] rfl ?_
    refine ⟨o + 2, kf, (by decide), (by decide +kernel), (by decide), (by decide +kernel), (bl_mk_Kne (by omega)).trans ko, Or.inl ⟨rfl, Or.inl ⟨_, rfl⟩⟩, (fun h => by cases h), ?_⟩
    exact bl_WP_bud (b' := (1, 24)) (by decide) (by decide +kernel) (E22 _ (inF_step h (by decide +kernel) (by simp) (by simp) (by omega) (by simp)))
  have E4 : bl_WP G l (d + 1) mX2_init 4 [(0, .ref o)] [] s (3, 57) (fun r s' => r = .inl none ∧ eqF s s' (fun y => o ≤ y ∧ y ≤ o + 3) ∧ kiX s' o ∧ (∀ k, k < 9 → s'.1 (o + 1) k = km_un k) ∧ ∀ h, h < 24 → s'.1 (o + 3) h = rm_deg (fun _ => zI (-1)) h) := by
    refine bl_go oX2_init 80 [14] rfl ?_
    refine ⟨940, ku0, Or.inr (Or.inl ⟨0, _, rfl, ku0, o + 1, g0, (by decide +kernel), (by decide +kernel), (by decide), (by decide +kernel), (bl_mk_Kne (by omega)).trans ho, Or.inl ⟨rfl, Or.inl ⟨_, rfl⟩⟩, (fun h => by cases h), ?_⟩)⟩
    exact bl_WP_bud (b' := (2, 48)) (by decide) (by decide +kernel) (E14 _ (inF_step inF_0 (by decide +kernel) (by simp) (by simp) (by omega) (by simp)))
  refine bl_go oX2_init 80 [4] rfl ?_
  refine ⟨(Nat.le_of_ble_eq_true rfl), ?_⟩
  exact E4
end INIT3
