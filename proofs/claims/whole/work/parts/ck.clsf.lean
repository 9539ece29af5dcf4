/-! ===== ButterLeaves: its constructor ===== -/
def bIn (s s1 : bl_Mem) (lim : Nat) (L : List (Nat × Nat)) (Ps : List (Nat × (bl_Mem → Prop))) : Prop :=
  eqF s s1 (fun y => 100 ≤ y ∧ y < lim) ∧ s1.2.2.2.1 100 = 11 ∧ s1.1 100 = s.1 100 ∧ (∀ j, (∀ p ∈ L, j ≠ p.1) → s1.2.2.1 100 j = s.2.2.1 100 j) ∧ (∀ p ∈ L, s1.2.2.1 100 p.1 = some p.2) ∧ ∀ q ∈ Ps, q.1 ≤ lim ∧ ∃ s0, q.2 s0 ∧ eqF s0 s1 (fun y => y = 100 ∨ q.1 ≤ y)
theorem bIn.step {s s1 s2 : bl_Mem} {lim lim' j a : Nat} {L : List (Nat × Nat)} {Ps : List (Nat × (bl_Mem → Prop))} {P : bl_Mem → Prop} (h : bIn s s1 lim L Ps) (hF : eqF s1 s2 (fun y => lim ≤ y ∧ y < lim')) (hP : P s2) (h1 : 101 ≤ lim) (h2 : lim ≤ lim') (hj : ∀ p ∈ L, p.1 ≠ j) : bIn s (bl_pv s2 100 j (.ref a)) lim' ((j, a) :: L) ((lim', P) :: Ps) := by
  obtain ⟨a1, a2, a3, a4, a5, a6⟩ := h
  have hpv := @eqF_pv s2 100 j (.ref a)
  have h100 := hF 100 (by omega)
  refine ⟨?_, ?_, ?_, fun k hk => ?_, fun p hp => ?_, fun q hq => ?_⟩
  · exact (a1.mono (fun y hy => by omega)).trans ((hF.mono (fun y hy => by omega)).trans (hpv.mono (fun y hy => by omega)))
  · rw [pv_K, h100.2.2.2.1]; exact a2
  · show s2.1 100 = _; rw [h100.1]; exact a3
  · show bl_up2 s2.2.2.1 100 j (some a) 100 k = _
    rw [bl_up2_nk (hk (j, a) List.mem_cons_self), h100.2.2.1]
    exact a4 k (fun p hp => hk p (List.mem_cons_of_mem _ hp))
  · show bl_up2 s2.2.2.1 100 j (some a) 100 p.1 = _
    rcases List.mem_cons.mp hp with e | e
    · subst e; rw [bl_up2_at]
    · rw [bl_up2_nk (hj p e), h100.2.2.1]; exact a5 p e
  · rcases List.mem_cons.mp hq with e | e
    · subst e; exact ⟨Nat.le_refl _, s2, hP, hpv.mono (fun y hy => Or.inl hy)⟩
    · obtain ⟨c1, s0, c2, c3⟩ := a6 q e
      exact ⟨by omega, s0, c2, c3.trans ((hF.mono (fun y hy => Or.inr (by omega))).trans (hpv.mono (fun y hy => Or.inl hy)))⟩
def bP0 (s : bl_Mem) : Prop := tpX s 110 ∧ s.1 110 3 = zI (-1) ∧ s.1 110 1 = 0 ∧ ∀ j, s.1 111 j = 0
def bPr (x k : Nat) (s : bl_Mem) : Prop := s.2.2.2.1 x = k ∧ s.2.2.2.2 x = 4 ∧ ∀ j, s.2.2.1 x j = none
def bPi (x : Nat) (s : bl_Mem) : Prop := s.2.2.2.1 x = 20 ∧ s.2.2.2.2 x = 3
def bPb (s : bl_Mem) : Prop := s.2.2.2.1 130 = 2
def bPn (s : bl_Mem) : Prop := bnX s 150 ∧ s.1 150 18 = 0
def bPk (s : bl_Mem) : Prop := kiX s 180 ∧ (∀ k, k < 9 → s.1 181 k = km_un k) ∧ ∀ h, h < 24 → s.1 183 h = rm_deg (fun _ => zI (-1)) h
def bPs (s : bl_Mem) : Prop := kiX s 190
noncomputable def g0K : Nat → Nat := Classical.choose kOk_0.all
theorem g0K_all : kAll (km_un, fun _ => zI (-1)) km_tf g0K := Classical.choose_spec kOk_0.all
/-- the state at first -/
noncomputable def cS0 : cS := ((km_tf, fun h => nI (g0K h), 0, fun _ => sq0, 72), g0K, 0, fun _ => 0, zI (-1), 0, fun _ => (0, 0))
theorem bl_mk_Neq {s : bl_Mem} {a kd n : Nat} : (bl_mk s a kd n).2.2.2.2 a = n := by show va_up s.2.2.2.2 a n a = n; simp [va_up]
theorem bl_mk_R0 {s : bl_Mem} {a kd n j : Nat} : (bl_mk s a kd n).2.2.1 a j = none := by show bl_row0 s.2.2.1 a none a j = none; rw [bl_row0_eq]
theorem bl_mk_I0 {s : bl_Mem} {a kd n j : Nat} : (bl_mk s a kd n).1 a j = 0 := by show bl_row0 s.1 a 0 a j = 0; rw [bl_row0_eq]
section CLSF
variable {G : bl_G} {l : Launch} {d : Nat} {s : bl_Mem}
def free0 (s : bl_Mem) : Prop := (∀ y, 101 ≤ y → y < 900 → s.2.2.2.1 y = 0) ∧ ∀ y, 1000 ≤ y → y < 5000 → s.2.2.2.1 y = 0

theorem c_BL_init (ho : s.2.2.2.1 100 = 11) (hi : ∀ j, s.1 100 j = 0) (hr : ∀ j, s.2.2.1 100 j = none) (hf : free0 s) (hst : ∀ j, j < 5 → s.2.2.2.1 (940 + j) = 100 + j) (hss : ∀ j, j < 17 → s.2.2.2.1 (950 + j) = 110 + j) : bl_MC G l (d + 2) mX10_init [.ref 100] s (32, 5596) (fun r s' => r = .inl none ∧ clI s' cS0 180 ∧ cfF s s') := by
  refine bl_MC_intro (by decide +kernel) rfl (Nat.le_of_ble_eq_true rfl) ?_
  have E100 : ∀ s1, bIn s s1 194 [(9, 190), (8, 180), (7, 171), (6, 170), (5, 150), (4, 140), (3, 130), (2, 121), (1, 120), (0, 110)] [(194, bPs), (184, bPk), (172, bPi 171), (171, bPi 170), (163, bPn), (144, unX), (131, bPb), (122, bPr 121 23), (121, bPr 120 22), (112, bP0)] → bl_WP G l (d + 2) mX10_init 100 [(0, .ref 100)] [] s1 (0, 0) (fun r s' => r = .inl none ∧ clI s' cS0 180 ∧ cfF s s') := by
    intro s1 h
    obtain ⟨a1, a2, a3, a4, a5, a6⟩ := h
    obtain ⟨-, t0, ⟨p0, p1, p2, p3⟩, e0⟩ := a6 (112, bP0) (by simp)
    obtain ⟨-, t1, ⟨r0, r1, r2⟩, e1⟩ := a6 (121, bPr 120 22) (by simp)
    obtain ⟨-, t2, ⟨n0, n1, n2⟩, e2⟩ := a6 (122, bPr 121 23) (by simp)
    obtain ⟨-, t3, b0, e3⟩ := a6 (131, bPb) (by simp)
    obtain ⟨-, t4, u0, e4⟩ := a6 (144, unX) (by simp)
    obtain ⟨-, t5, ⟨o0, o1⟩, e5⟩ := a6 (163, bPn) (by simp)
    obtain ⟨-, t6, ⟨i0, i1⟩, e6⟩ := a6 (171, bPi 170) (by simp)
    obtain ⟨-, t7, ⟨j0, j1⟩, e7⟩ := a6 (172, bPi 171) (by simp)
    obtain ⟨-, t8, ⟨k0, k1, k2⟩, e8⟩ := a6 (184, bPk) (by simp)
    obtain ⟨-, t9, q0, e9⟩ := a6 (194, bPs) (by simp)
    have hki : kiX s1 180 := kiX.eq k0 e8 (by omega) (by omega) (by omega) (by omega)
    have hfr : ∀ y, 194 ≤ y → y < 900 → s1.2.2.2.1 y = 0 := fun y y1 y2 => ((a1 y (by omega)).2.2.2.1).trans (hf.1 y (by omega) y2)
    have hfr2 : ∀ y, 1000 ≤ y → y < 5000 → s1.2.2.2.1 y = 0 := fun y y1 y2 => ((a1 y (by omega)).2.2.2.1).trans (hf.2 y y1 y2)
    have hv : ∀ k, k < 9 → s1.1 181 k = km_un k := fun k hk => by rw [(e8 181 (by omega)).1]; exact k1 k hk
    have hgr : ∀ i, i < 24 → s1.1 183 i = rm_deg (fun _ => zI (-1)) i := fun i hi => by rw [(e8 183 (by omega)).1]; exact k2 i hi
    have rx_8 := a5 (8, 180) (by simp)
    have kx := a2
    have kxh := hki.2.1
    have rxh_0 := hki.2.2.1
    obtain ⟨kxhv, nxhv⟩ := hki.2.2.2.2.2.1
    have rj : ∀ p ∈ [(9, 190), (8, 180), (7, 171), (6, 170), (5, 150), (4, 140), (3, 130), (2, 121), (1, 120), (0, 110)], s1.2.2.1 100 p.1 = some p.2 := a5
    have hSt : clS s1 := by
      refine ⟨⟨a2, ⟨a5 (0, 110) (by simp), a5 (1, 120) (by simp), a5 (2, 121) (by simp), a5 (3, 130) (by simp), a5 (4, 140) (by simp), a5 (5, 150) (by simp), a5 (6, 170) (by simp), a5 (7, 171) (by simp)⟩, ⟨((e1 120 (by omega)).2.2.2.1).trans r0, ((e1 120 (by omega)).2.2.2.2).trans r1⟩, ⟨((e2 121 (by omega)).2.2.2.1).trans n0, ((e2 121 (by omega)).2.2.2.2).trans n1⟩, ((e3 130 (by omega)).2.2.2.1).trans b0, ⟨((e6 170 (by omega)).2.2.2.1).trans i0, ((e6 170 (by omega)).2.2.2.2).trans i1⟩, ⟨((e7 171 (by omega)).2.2.2.1).trans j0, ((e7 171 (by omega)).2.2.2.2).trans j1⟩⟩, ?_, ?_, ?_, hki, kiX.eq q0 e9 (by omega) (by omega) (by omega) (by omega), fun j hj => ((a1 _ (by omega)).2.2.2.1).trans (hst j hj), fun j hj => ((a1 _ (by omega)).2.2.2.1).trans (hss j hj)⟩
      · unfold tpX tpS at p0 ⊢
        rw [(e0 110 (by omega)).2.2.2.1, (e0 110 (by omega)).2.2.1, (e0 (110 + 1) (by omega)).2.2.2.1, (e0 (110 + 1) (by omega)).2.2.2.2]; exact p0
      · unfold unX at u0 ⊢
        rw [(e4 140 (by omega)).2.2.2.1, (e4 140 (by omega)).2.2.1, (e4 141 (by omega)).2.2.2.1, (e4 141 (by omega)).2.2.2.2, (e4 142 (by omega)).2.2.2.1, (e4 142 (by omega)).2.2.2.2, (e4 143 (by omega)).2.2.2.1, (e4 143 (by omega)).2.2.2.2]; exact u0
      · have hK' : ∀ y, 150 ≤ y → y ≤ 162 → s1.2.2.2.1 y = t5.2.2.2.1 y := fun y y1 y2 => (e5 y (by omega)).2.2.2.1
        have hR' : ∀ y, 150 ≤ y → y ≤ 162 → s1.2.2.1 y = t5.2.2.1 y := fun y y1 y2 => (e5 y (by omega)).2.2.1
        have hN' : ∀ y, 150 ≤ y → y ≤ 162 → s1.2.2.2.2 y = t5.2.2.2.2 y := fun y y1 y2 => (e5 y (by omega)).2.2.2.2
        unfold bnX bnS at o0 ⊢
        simp (disch := omega) only [hK', hR', hN']; exact o0
    have hfin : ∀ v : Int32, v = 72 → clI (bl_pv s1 100 13 (.int v)) cS0 180 := by
      rintro v rfl
      have hI0 : ∀ j, j ≠ 13 → bl_up2 s1.1 100 13 72 100 j = 0 := fun j hj => by rw [bl_up2_nk hj, a3]; exact hi j
      refine ⟨hSt, ⟨Or.inl rfl, rx_8, a5 (9, 190) (by simp)⟩, fun r hr => Or.inr ⟨?_, ?_, fun y hy => ?_⟩, Or.inl ⟨?_, fun y y1 y2 => hfr y (by omega) (by omega)⟩, ⟨?_, ?_, ?_⟩, ⟨fun k hk => ?_, fun i hi => ?_⟩, ⟨?_, ?_, ?_, fun i hi => absurd hi (Nat.not_lt_zero _)⟩, fun r hr => absurd hr (Nat.not_lt_zero _), Or.inl ?_, fun hw => ?_⟩
      · show s1.2.2.1 120 r = none; rw [(e1 120 (by omega)).2.2.1]; exact r2 r
      · show s1.2.2.1 121 r = none; rw [(e2 121 (by omega)).2.2.1]; exact n2 r
      · rcases hy with q | q
        · exact hfr y (by omega) (by omega)
        · have q1 := rnN_rng q hr
          by_cases e : y < 900
          · exact hfr y (by omega) e
          · exact hfr2 y (by omega) (by omega)
      · show s1.2.2.1 100 10 = none; rw [a4 10 (by simp)]; exact hr 10
      · show bl_up2 s1.1 100 13 72 110 1 = 0; rw [bl_up2_nx (by omega), (e0 110 (by omega)).1]; exact p2
      · show bl_up2 s1.1 100 13 72 110 3 = zI (-1); rw [bl_up2_nx (by omega), (e0 110 (by omega)).1]; exact p1
      · show bl_up2 s1.1 100 13 72 111 = _; rw [bl_up2_ne (by omega), (e0 111 (by omega)).1]; funext j; exact p3 j
      · show bl_up2 s1.1 100 13 72 181 k = _; rw [bl_up2_nx (by omega), hv k hk]; exact g0K_all.1 k hk
      · show bl_up2 s1.1 100 13 72 183 i = _; rw [bl_up2_nx (by omega), hgr i hi]; exact g0K_all.2.2.2.2 i hi
      · show bl_up2 s1.1 100 13 72 100 11 = 0; exact hI0 11 (by omega)
      · show bl_up2 s1.1 100 13 72 100 12 = 0; exact hI0 12 (by omega)
      · show bl_up2 s1.1 100 13 72 100 13 = nI 72; rw [bl_up2_at]; rfl
      · show bl_up2 s1.1 100 13 72 150 18 = 0; rw [bl_up2_nx (by omega), (e5 150 (by omega)).1]; exact o1
      · have hw' : s1.2.2.1 100 10 = some 200 := hw
        rw [a4 10 (by simp), hr 10] at hw'; cases hw'
    have hcf : ∀ v : Int32, cfF s (bl_pv s1 100 13 (.int v)) := fun v y y1 y2 => by
      obtain ⟨c1, c2, c3, c4, c5⟩ := a1 y (by omega)
      exact ⟨(show bl_up2 s1.1 100 13 v y = s.1 y by rw [bl_up2_ne (by omega)]; exact c1), c2, c3, c4, c5⟩
    have hvv : 12 * s1.1 181 8 = 72 := by rw [hv 8 (by omega)]; decide
    obtain ⟨I1, J1, R1, K1, N1⟩ := s1
    dsimp only at rx_8 kx kxh rxh_0 kxhv nxhv hvv
    refine bl_go oX10_init 80 [100] rfl ?_
    refine ⟨kx, _, bl_vs rx_8, rfl, rfl, kxh, (Nat.le_of_ble_eq_true rfl), (0, 0), Nat.le_of_ble_eq_true rfl, Nat.le_of_ble_eq_true rfl, bl_MC_mono (c_Kitchen_firstUnit (d := d + 1) kxh rxh_0 kxhv nxhv) (fun o105 σ105 q105 => ?_)⟩
    try dsimp only [bl_pv] at q105
    obtain ⟨rfl, rfl⟩ := q105
    refine bl_go oX10_init 80 [100] rfl ?_
    refine ⟨kx, Or.inr (Or.inr ⟨rfl, rfl, _, rfl⟩), (fun h => by cases h), ?_⟩
    try show _ ∧ _
    try dsimp only [bl_pv]
    exact ⟨rfl, hfin _ hvv, hcf _⟩
  have E89 : ∀ s1, bIn s s1 184 [(8, 180), (7, 171), (6, 170), (5, 150), (4, 140), (3, 130), (2, 121), (1, 120), (0, 110)] [(184, bPk), (172, bPi 171), (171, bPi 170), (163, bPn), (144, unX), (131, bPb), (122, bPr 121 23), (121, bPr 120 22), (112, bP0)] → bl_WP G l (d + 2) mX10_init 89 [(0, .ref 100)] [] s1 (4, 60) (fun r s' => r = .inl none ∧ clI s' cS0 180 ∧ cfF s s') := by
    intro s1 h
    have kf : ∀ y, 184 ≤ y → y < 900 → s1.2.2.2.1 y = 0 := fun y y1 y2 => ((h.1 y (by omega)).2.2.2.1).trans (hf.1 y (by omega) y2)
    have k940 : s1.2.2.2.1 940 = 100 := ((h.1 940 (by omega)).2.2.2.1).trans (hst 0 (by omega))
    refine bl_go oX10_init 80 [100] rfl ?_
    refine ⟨190, kf _ (by omega) (by omega), (by decide), (by decide +kernel), rfl, (Nat.le_of_ble_eq_true rfl), (3, 57), _, (by decide), (by decide +kernel), bl_MC_ini (c_Kitchen_init (d := d) (o := 190) (by omega) bl_mk_Keq ((bl_mk_Kne (by omega)).trans k940) ⟨(bl_mk_Kne (by omega)).trans (kf _ (by omega) (by omega)), (bl_mk_Kne (by omega)).trans (kf _ (by omega) (by omega)), (bl_mk_Kne (by omega)).trans (kf _ (by omega) (by omega))⟩), fun s2 q2 => ?_⟩
    have hF2 : eqF s1 s2 (fun y => 184 ≤ y ∧ y < 194) := (eqF_mk.mono (fun y hy => by omega)).trans (q2.1.mono (fun y hy => by omega))
    have hP : bPs s2 := q2.2.1
    refine ⟨((hF2 100 (by omega)).2.2.2.1).trans h.2.1, Or.inl ⟨rfl, Or.inl ⟨_, rfl⟩⟩, (fun h => by cases h), ?_⟩
    exact bl_WP_bud (b' := (0, 0)) (by decide) (by decide +kernel) (E100 _ (h.step (lim' := 194) hF2 hP (by omega) (by omega) (by simp)))
  have E78 : ∀ s1, bIn s s1 172 [(7, 171), (6, 170), (5, 150), (4, 140), (3, 130), (2, 121), (1, 120), (0, 110)] [(172, bPi 171), (171, bPi 170), (163, bPn), (144, unX), (131, bPb), (122, bPr 121 23), (121, bPr 120 22), (112, bP0)] → bl_WP G l (d + 2) mX10_init 78 [(0, .ref 100)] [] s1 (8, 120) (fun r s' => r = .inl none ∧ clI s' cS0 180 ∧ cfF s s') := by
    intro s1 h
    have kf : ∀ y, 172 ≤ y → y < 900 → s1.2.2.2.1 y = 0 := fun y y1 y2 => ((h.1 y (by omega)).2.2.2.1).trans (hf.1 y (by omega) y2)
    have k940 : s1.2.2.2.1 940 = 100 := ((h.1 940 (by omega)).2.2.2.1).trans (hst 0 (by omega))
    refine bl_go oX10_init 80 [89] rfl ?_
    refine ⟨180, kf _ (by omega) (by omega), (by decide), (by decide +kernel), rfl, (Nat.le_of_ble_eq_true rfl), (3, 57), _, (by decide), (by decide +kernel), bl_MC_ini (c_Kitchen_init (d := d) (o := 180) (by omega) bl_mk_Keq ((bl_mk_Kne (by omega)).trans k940) ⟨(bl_mk_Kne (by omega)).trans (kf _ (by omega) (by omega)), (bl_mk_Kne (by omega)).trans (kf _ (by omega) (by omega)), (bl_mk_Kne (by omega)).trans (kf _ (by omega) (by omega))⟩), fun s2 q2 => ?_⟩
    have hF2 : eqF s1 s2 (fun y => 172 ≤ y ∧ y < 184) := (eqF_mk.mono (fun y hy => by omega)).trans (q2.1.mono (fun y hy => by omega))
    have hP : bPk s2 := ⟨q2.2.1, q2.2.2.1, q2.2.2.2⟩
    refine ⟨((hF2 100 (by omega)).2.2.2.1).trans h.2.1, Or.inl ⟨rfl, Or.inl ⟨_, rfl⟩⟩, (fun h => by cases h), ?_⟩
    exact bl_WP_bud (b' := (4, 60)) (by decide) (by decide +kernel) (E89 _ (h.step (lim' := 184) hF2 hP (by omega) (by omega) (by simp)))
  have E71 : ∀ s1, bIn s s1 171 [(6, 170), (5, 150), (4, 140), (3, 130), (2, 121), (1, 120), (0, 110)] [(171, bPi 170), (163, bPn), (144, unX), (131, bPb), (122, bPr 121 23), (121, bPr 120 22), (112, bP0)] → bl_WP G l (d + 2) mX10_init 71 [(0, .ref 100)] [] s1 (9, 123) (fun r s' => r = .inl none ∧ clI s' cS0 180 ∧ cfF s s') := by
    intro s1 h
    have kf : ∀ y, 171 ≤ y → y < 900 → s1.2.2.2.1 y = 0 := fun y y1 y2 => ((h.1 y (by omega)).2.2.2.1).trans (hf.1 y (by omega) y2)
    have k940 : s1.2.2.2.1 940 = 100 := ((h.1 940 (by omega)).2.2.2.1).trans (hst 0 (by omega))
    refine bl_go oX10_init 80 [78] rfl ?_
    refine ⟨171, kf _ (by omega) (by omega), (by decide), (by decide +kernel), (by decide), (by decide +kernel), (bl_mk_Kne (by omega)).trans h.2.1, Or.inl ⟨rfl, Or.inl ⟨_, rfl⟩⟩, (fun h => by cases h), ?_⟩
    exact bl_WP_bud (b' := (8, 120)) (by decide) (by decide +kernel) (E78 _ (h.step (lim' := 172) (eqF_mk.mono (fun y hy => by omega)) ⟨bl_mk_Keq, bl_mk_Neq⟩ (by omega) (by omega) (by simp)))
  have E64 : ∀ s1, bIn s s1 163 [(5, 150), (4, 140), (3, 130), (2, 121), (1, 120), (0, 110)] [(163, bPn), (144, unX), (131, bPb), (122, bPr 121 23), (121, bPr 120 22), (112, bP0)] → bl_WP G l (d + 2) mX10_init 64 [(0, .ref 100)] [] s1 (10, 126) (fun r s' => r = .inl none ∧ clI s' cS0 180 ∧ cfF s s') := by
    intro s1 h
    have kf : ∀ y, 163 ≤ y → y < 900 → s1.2.2.2.1 y = 0 := fun y y1 y2 => ((h.1 y (by omega)).2.2.2.1).trans (hf.1 y (by omega) y2)
    have k940 : s1.2.2.2.1 940 = 100 := ((h.1 940 (by omega)).2.2.2.1).trans (hst 0 (by omega))
    refine bl_go oX10_init 80 [71] rfl ?_
    refine ⟨170, kf _ (by omega) (by omega), (by decide), (by decide +kernel), (by decide), (by decide +kernel), (bl_mk_Kne (by omega)).trans h.2.1, Or.inl ⟨rfl, Or.inl ⟨_, rfl⟩⟩, (fun h => by cases h), ?_⟩
    exact bl_WP_bud (b' := (9, 123)) (by decide) (by decide +kernel) (E71 _ (h.step (lim' := 171) (eqF_mk.mono (fun y hy => by omega)) ⟨bl_mk_Keq, bl_mk_Neq⟩ (by omega) (by omega) (by simp)))
  have E53 : ∀ s1, bIn s s1 144 [(4, 140), (3, 130), (2, 121), (1, 120), (0, 110)] [(144, unX), (131, bPb), (122, bPr 121 23), (121, bPr 120 22), (112, bP0)] → bl_WP G l (d + 2) mX10_init 53 [(0, .ref 100)] [] s1 (23, 2773) (fun r s' => r = .inl none ∧ clI s' cS0 180 ∧ cfF s s') := by
    intro s1 h
    have kf : ∀ y, 144 ≤ y → y < 900 → s1.2.2.2.1 y = 0 := fun y y1 y2 => ((h.1 y (by omega)).2.2.2.1).trans (hf.1 y (by omega) y2)
    have k940 : s1.2.2.2.1 940 = 100 := ((h.1 940 (by omega)).2.2.2.1).trans (hst 0 (by omega))
    refine bl_go oX10_init 80 [64] rfl ?_
    refine ⟨150, kf _ (by omega) (by omega), (by decide), (by decide +kernel), rfl, (Nat.le_of_ble_eq_true rfl), (12, 2628), _, (by decide), (by decide +kernel), bl_MC_ini (c_Bench_init (d := d + 1) (o := 150) bl_mk_Keq ⟨(bl_mk_Kne (by omega)).trans (kf _ (by omega) (by omega)), (bl_mk_Kne (by omega)).trans (kf _ (by omega) (by omega)), (bl_mk_Kne (by omega)).trans (kf _ (by omega) (by omega)), (bl_mk_Kne (by omega)).trans (kf _ (by omega) (by omega)), (bl_mk_Kne (by omega)).trans (kf _ (by omega) (by omega)), (bl_mk_Kne (by omega)).trans (kf _ (by omega) (by omega)), (bl_mk_Kne (by omega)).trans (kf _ (by omega) (by omega)), (bl_mk_Kne (by omega)).trans (kf _ (by omega) (by omega)), (bl_mk_Kne (by omega)).trans (kf _ (by omega) (by omega)), (bl_mk_Kne (by omega)).trans (kf _ (by omega) (by omega)), (bl_mk_Kne (by omega)).trans (kf _ (by omega) (by omega)), (bl_mk_Kne (by omega)).trans (kf _ (by omega) (by omega))⟩), fun s2 q2 => ?_⟩
    have hF2 : eqF s1 s2 (fun y => 144 ≤ y ∧ y < 163) := (eqF_mk.mono (fun y hy => by omega)).trans (eqF_inF q2 (by omega) (by intro p hp; simp at hp; rcases hp with rfl | rfl | rfl | rfl | rfl | rfl | rfl | rfl | rfl | rfl | rfl | rfl <;> simp))
    have hP : bPn s2 := by
      obtain ⟨x11, y11, z11, -⟩ := q2.2.2.2 (11, 150 + 12, 20, 12) (by simp)
      obtain ⟨x10, y10, z10, -⟩ := q2.2.2.2 (10, 150 + 11, 20, 12) (by simp)
      obtain ⟨x9, y9, z9, -⟩ := q2.2.2.2 (9, 150 + 10, 20, 256) (by simp)
      obtain ⟨x8, y8, z8, -⟩ := q2.2.2.2 (8, 150 + 9, 20, 2048) (by simp)
      obtain ⟨x7, y7, z7, -⟩ := q2.2.2.2 (7, 150 + 8, 20, 12) (by simp)
      obtain ⟨x6, y6, z6, -⟩ := q2.2.2.2 (6, 150 + 7, 20, 12) (by simp)
      obtain ⟨x5, y5, z5, -⟩ := q2.2.2.2 (5, 150 + 6, 20, 4) (by simp)
      obtain ⟨x4, y4, z4, -⟩ := q2.2.2.2 (4, 150 + 5, 20, 4) (by simp)
      obtain ⟨x3, y3, z3, -⟩ := q2.2.2.2 (3, 150 + 4, 20, 4) (by simp)
      obtain ⟨x2, y2, z2, -⟩ := q2.2.2.2 (2, 150 + 3, 20, 88) (by simp)
      obtain ⟨x1, y1, z1, -⟩ := q2.2.2.2 (1, 150 + 2, 20, 88) (by simp)
      obtain ⟨x0, y0, z0, -⟩ := q2.2.2.2 (0, 150 + 1, 20, 88) (by simp)
      refine ⟨⟨by omega, ((q2.1 150 (by simp)).2.2.1).trans bl_mk_Keq, ⟨x0, x1, x2, x3, x4, x5, x6, x7, x8, x9, x10, x11⟩, ⟨y0, y1, y2, y3, y4, y5, y6, y7, y8, y9, y10, y11⟩, ⟨z0, z1, z2, z3, z4, z5, z6, z7, z8, z9, z10, z11⟩⟩, ?_⟩
      rw [(q2.1 150 (by simp)).1]; exact bl_mk_I0
    refine ⟨((hF2 100 (by omega)).2.2.2.1).trans h.2.1, Or.inl ⟨rfl, Or.inl ⟨_, rfl⟩⟩, (fun h => by cases h), ?_⟩
    exact bl_WP_bud (b' := (10, 126)) (by decide) (by decide +kernel) (E64 _ (h.step (lim' := 163) hF2 hP (by omega) (by omega) (by simp)))
  have E42 : ∀ s1, bIn s s1 131 [(3, 130), (2, 121), (1, 120), (0, 110)] [(131, bPb), (122, bPr 121 23), (121, bPr 120 22), (112, bP0)] → bl_WP G l (d + 2) mX10_init 42 [(0, .ref 100)] [] s1 (27, 5176) (fun r s' => r = .inl none ∧ clI s' cS0 180 ∧ cfF s s') := by
    intro s1 h
    have kf : ∀ y, 131 ≤ y → y < 900 → s1.2.2.2.1 y = 0 := fun y y1 y2 => ((h.1 y (by omega)).2.2.2.1).trans (hf.1 y (by omega) y2)
    have k940 : s1.2.2.2.1 940 = 100 := ((h.1 940 (by omega)).2.2.2.1).trans (hst 0 (by omega))
    refine bl_go oX10_init 80 [53] rfl ?_
    refine ⟨140, kf _ (by omega) (by omega), (by decide), (by decide +kernel), rfl, (Nat.le_of_ble_eq_true rfl), (3, 2400), _, (by decide), (by decide +kernel), bl_MC_ini (c_Unlike_init (d := d + 1) (o := 140) bl_mk_Keq ⟨(bl_mk_Kne (by omega)).trans (kf _ (by omega) (by omega)), (bl_mk_Kne (by omega)).trans (kf _ (by omega) (by omega)), (bl_mk_Kne (by omega)).trans (kf _ (by omega) (by omega))⟩), fun s2 q2 => ?_⟩
    have hF2 : eqF s1 s2 (fun y => 131 ≤ y ∧ y < 144) := (eqF_mk.mono (fun y hy => by omega)).trans (eqF_inF q2 (by omega) (by intro p hp; simp at hp; rcases hp with rfl | rfl | rfl <;> simp))
    have hP : unX s2 := by
      obtain ⟨c1, c2, c3, -⟩ := q2.2.2.2 (2, 140 + 3, 21, 2304) (by simp)
      obtain ⟨d1, d2, d3, -⟩ := q2.2.2.2 (1, 140 + 2, 21, 48) (by simp)
      obtain ⟨e1, e2, e3, -⟩ := q2.2.2.2 (0, 140 + 1, 21, 48) (by simp)
      exact ⟨((q2.1 140 (by simp)).2.2.1).trans bl_mk_Keq, ⟨e1, d1, c1⟩, ⟨e2, e3⟩, ⟨d2, d3⟩, ⟨c2, c3⟩⟩
    refine ⟨((hF2 100 (by omega)).2.2.2.1).trans h.2.1, Or.inl ⟨rfl, Or.inl ⟨_, rfl⟩⟩, (fun h => by cases h), ?_⟩
    exact bl_WP_bud (b' := (23, 2773)) (by decide) (by decide +kernel) (E53 _ (h.step (lim' := 144) hF2 hP (by omega) (by omega) (by simp)))
  have E31 : ∀ s1, bIn s s1 122 [(2, 121), (1, 120), (0, 110)] [(122, bPr 121 23), (121, bPr 120 22), (112, bP0)] → bl_WP G l (d + 2) mX10_init 31 [(0, .ref 100)] [] s1 (28, 5181) (fun r s' => r = .inl none ∧ clI s' cS0 180 ∧ cfF s s') := by
    intro s1 h
    have kf : ∀ y, 122 ≤ y → y < 900 → s1.2.2.2.1 y = 0 := fun y y1 y2 => ((h.1 y (by omega)).2.2.2.1).trans (hf.1 y (by omega) y2)
    have k940 : s1.2.2.2.1 940 = 100 := ((h.1 940 (by omega)).2.2.2.1).trans (hst 0 (by omega))
    refine bl_go oX10_init 80 [42] rfl ?_
    refine ⟨130, kf _ (by omega) (by omega), (by decide), (by decide +kernel), rfl, (Nat.le_of_ble_eq_true rfl), (0, 0), _, (by decide), (by decide +kernel), bl_MC_ini (c_Butter_init (d := d + 1) (o := 130) bl_mk_Keq), fun s2 q2 => ?_⟩
    have hF2 : eqF s1 s2 (fun y => 122 ≤ y ∧ y < 131) := by rw [q2]; exact eqF_mk.mono (fun y hy => by omega)
    have hP : bPb s2 := by rw [q2]; exact bl_mk_Keq
    refine ⟨((hF2 100 (by omega)).2.2.2.1).trans h.2.1, Or.inl ⟨rfl, Or.inl ⟨_, rfl⟩⟩, (fun h => by cases h), ?_⟩
    exact bl_WP_bud (b' := (27, 5176)) (by decide) (by decide +kernel) (E42 _ (h.step (lim' := 131) hF2 hP (by omega) (by omega) (by simp)))
  have E23 : ∀ s1, bIn s s1 121 [(1, 120), (0, 110)] [(121, bPr 120 22), (112, bP0)] → bl_WP G l (d + 2) mX10_init 23 [(0, .ref 100)] [] s1 (29, 5185) (fun r s' => r = .inl none ∧ clI s' cS0 180 ∧ cfF s s') := by
    intro s1 h
    have kf : ∀ y, 121 ≤ y → y < 900 → s1.2.2.2.1 y = 0 := fun y y1 y2 => ((h.1 y (by omega)).2.2.2.1).trans (hf.1 y (by omega) y2)
    have k940 : s1.2.2.2.1 940 = 100 := ((h.1 940 (by omega)).2.2.2.1).trans (hst 0 (by omega))
    refine bl_go oX10_init 80 [31] rfl ?_
    refine ⟨121, kf _ (by omega) (by omega), (by decide), (by decide +kernel), (by decide), (by decide +kernel), (bl_mk_Kne (by omega)).trans h.2.1, Or.inl ⟨rfl, Or.inl ⟨_, rfl⟩⟩, (fun h => by cases h), ?_⟩
    exact bl_WP_bud (b' := (28, 5181)) (by decide) (by decide +kernel) (E31 _ (h.step (lim' := 122) (eqF_mk.mono (fun y hy => by omega)) ⟨bl_mk_Keq, bl_mk_Neq, fun j => bl_mk_R0⟩ (by omega) (by omega) (by simp)))
  have E15 : ∀ s1, bIn s s1 112 [(0, 110)] [(112, bP0)] → bl_WP G l (d + 2) mX10_init 15 [(0, .ref 100)] [] s1 (30, 5189) (fun r s' => r = .inl none ∧ clI s' cS0 180 ∧ cfF s s') := by
    intro s1 h
    have kf : ∀ y, 112 ≤ y → y < 900 → s1.2.2.2.1 y = 0 := fun y y1 y2 => ((h.1 y (by omega)).2.2.2.1).trans (hf.1 y (by omega) y2)
    have k940 : s1.2.2.2.1 940 = 100 := ((h.1 940 (by omega)).2.2.2.1).trans (hst 0 (by omega))
    refine bl_go oX10_init 80 [23] rfl ?_
    refine ⟨120, kf _ (by omega) (by omega), (by decide), (by decide +kernel), (by decide), (by decide +kernel), (bl_mk_Kne (by omega)).trans h.2.1, Or.inl ⟨rfl, Or.inl ⟨_, rfl⟩⟩, (fun h => by cases h), ?_⟩
    exact bl_WP_bud (b' := (29, 5185)) (by decide) (by decide +kernel) (E23 _ (h.step (lim' := 121) (eqF_mk.mono (fun y hy => by omega)) ⟨bl_mk_Keq, bl_mk_Neq, fun j => bl_mk_R0⟩ (by omega) (by omega) (by simp)))
  have E4 : ∀ s1, bIn s s1 101 [] [] → bl_WP G l (d + 2) mX10_init 4 [(0, .ref 100)] [] s1 (32, 5596) (fun r s' => r = .inl none ∧ clI s' cS0 180 ∧ cfF s s') := by
    intro s1 h
    have kf : ∀ y, 101 ≤ y → y < 900 → s1.2.2.2.1 y = 0 := fun y y1 y2 => ((h.1 y (by omega)).2.2.2.1).trans (hf.1 y (by omega) y2)
    have k940 : s1.2.2.2.1 940 = 100 := ((h.1 940 (by omega)).2.2.2.1).trans (hst 0 (by omega))
    refine bl_go oX10_init 80 [15] rfl ?_
    refine ⟨110, kf _ (by omega) (by omega), (by decide), (by decide +kernel), rfl, (Nat.le_of_ble_eq_true rfl), (1, 400), _, (by decide), (by decide +kernel), bl_MC_ini (c_Tape_init (d := d + 1) (t := 110) (by omega) bl_mk_Keq ((bl_mk_Kne (by omega)).trans (kf _ (by omega) (by omega)))), fun s2 q2 => ?_⟩
    have hF2 : eqF s1 s2 (fun y => 101 ≤ y ∧ y < 112) := (eqF_mk.mono (fun y hy => by omega)).trans (q2.1.mono (fun y hy => by omega))
    have hP : bP0 s2 := ⟨q2.2.1, q2.2.2.1, (q2.2.2.2.1 1 (by omega)).trans (bl_mk_I0), q2.2.2.2.2⟩
    refine ⟨((hF2 100 (by omega)).2.2.2.1).trans h.2.1, Or.inl ⟨rfl, Or.inl ⟨_, rfl⟩⟩, (fun h => by cases h), ?_⟩
    exact bl_WP_bud (b' := (30, 5189)) (by decide) (by decide +kernel) (E15 _ (h.step (lim' := 112) hF2 hP (by omega) (by omega) (by simp)))
  refine bl_go oX10_init 80 [4] rfl ?_
  refine ⟨(Nat.le_of_ble_eq_true rfl), ?_⟩
  exact E4 s ⟨fun _ _ => ⟨rfl, rfl, rfl, rfl, rfl⟩, ho, rfl, fun _ _ => rfl, fun p hp => absurd hp List.not_mem_nil, fun q hq => absurd hq List.not_mem_nil⟩
end CLSF
