/-! ===== constructors: rows made one by one ===== -/
theorem bl_WP_bud {G : bl_G} {l : Launch} {d : Nat} {M : bl_MR} {pc : Nat} {lv : List (Nat × Value)} {st : List Value} {σ : bl_Mem} {b b' : Nat × Nat} {Q : bl_Out → bl_Mem → Prop} (h1 : b'.1 ≤ b.1) (h2 : b'.2 ≤ b.2) (h : bl_WP G l d M pc lv st σ b' Q) : bl_WP G l d M pc lv st σ b Q := by
  intro p e R s m args below meth c H locs cells slots mc ms φ φ0 K0 ls S hl hv hs
  refine h p e R s m args below meth c H locs cells slots mc ms φ φ0 K0 ls ?_ hl hv hs
  obtain ⟨a1, a2, a3, a4, a5, a6, a7, a8⟩ := S
  exact ⟨a1, a2, a3, a4, a5, a6, by omega, by omega⟩
/-- field, name, kind, length -/
abbrev inL : Type := List (Nat × Nat × Nat × Nat)
def eqF (s s' : bl_Mem) (p : Nat → Prop) : Prop := ∀ y, ¬ p y → s'.1 y = s.1 y ∧ s'.2.1 y = s.2.1 y ∧ s'.2.2.1 y = s.2.2.1 y ∧ s'.2.2.2.1 y = s.2.2.2.1 y ∧ s'.2.2.2.2 y = s.2.2.2.2 y
theorem eqF.trans {s s1 s2 : bl_Mem} {p : Nat → Prop} (h : eqF s s1 p) (h2 : eqF s1 s2 p) : eqF s s2 p := fun y hy => by
  obtain ⟨a, b, c, d, e⟩ := h y hy
  obtain ⟨a', b', c', d', e'⟩ := h2 y hy
  exact ⟨a'.trans a, b'.trans b, c'.trans c, d'.trans d, e'.trans e⟩
theorem eqF.refl {s : bl_Mem} {p : Nat → Prop} : eqF s s p := fun _ _ => ⟨rfl, rfl, rfl, rfl, rfl⟩
theorem eqF.mono {s s1 : bl_Mem} {p p' : Nat → Prop} (h : eqF s s1 p) (hp : ∀ y, p y → p' y) : eqF s s1 p' := fun y hy => h y (fun q => hy (hp y q))
theorem eqF_mk {s : bl_Mem} {a kd n : Nat} : eqF s (bl_mk s a kd n) (fun y => y = a) := fun y hy => by
  refine ⟨bl_row0_ne hy, bl_row0_ne hy, bl_row0_ne hy, ?_, ?_⟩
  · show va_up s.2.2.2.1 a kd y = _; simp [va_up, hy]
  · show va_up s.2.2.2.2 a n y = _; simp [va_up, hy]
def inF (s s' : bl_Mem) (o : Nat) (L : inL) : Prop :=
  (∀ y, (∀ q ∈ L, y ≠ q.2.1) → s'.1 y = s.1 y ∧ s'.2.1 y = s.2.1 y ∧ s'.2.2.2.1 y = s.2.2.2.1 y ∧ s'.2.2.2.2 y = s.2.2.2.2 y) ∧
  (∀ y, y ≠ o → (∀ q ∈ L, y ≠ q.2.1) → s'.2.2.1 y = s.2.2.1 y) ∧
  (∀ k, (∀ q ∈ L, k ≠ q.1) → s'.2.2.1 o k = s.2.2.1 o k) ∧
  ∀ q ∈ L, s'.2.2.1 o q.1 = some q.2.1 ∧ s'.2.2.2.1 q.2.1 = q.2.2.1 ∧ s'.2.2.2.2 q.2.1 = q.2.2.2 ∧ (∀ j, s'.1 q.2.1 j = 0) ∧ (∀ j, s'.2.1 q.2.1 j = 0) ∧ ∀ j, s'.2.2.1 q.2.1 j = none
theorem inF_0 {s : bl_Mem} {o : Nat} : inF s s o [] := ⟨fun _ _ => ⟨rfl, rfl, rfl, rfl⟩, fun _ _ _ => rfl, fun _ _ => rfl, fun _ h => absurd h List.not_mem_nil⟩
theorem inF_step {s s' : bl_Mem} {o k a kd n n' : Nat} {L : inL} (h : inF s s' o L) (hn : n' = n) (hk : ∀ q ∈ L, k ≠ q.1) (ha : ∀ q ∈ L, a ≠ q.2.1) (hao : a ≠ o) (ho : ∀ q ∈ L, o ≠ q.2.1) : inF s (bl_pv (bl_mk s' a kd n') o k (.ref a)) o ((k, a, kd, n) :: L) := by
  subst hn
  obtain ⟨h1, h2, h3, h4⟩ := h
  have hF := @eqF_mk s' a kd n'
  refine ⟨fun y hy => ?_, fun y yo hy => ?_, fun j hj => ?_, fun q hq => ?_⟩
  · have ya : y ≠ a := hy (k, a, kd, n') List.mem_cons_self
    obtain ⟨b1, b2, b3, b4, b5⟩ := hF y ya
    obtain ⟨c1, c2, c3, c4⟩ := h1 y (fun q hq => hy q (List.mem_cons_of_mem _ hq))
    exact ⟨b1.trans c1, b2.trans c2, b4.trans c3, b5.trans c4⟩
  · have ya : y ≠ a := hy (k, a, kd, n') List.mem_cons_self
    obtain ⟨b1, b2, b3, b4, b5⟩ := hF y ya
    show bl_up2 (bl_mk s' a kd n').2.2.1 o k (some a) y = _
    rw [bl_up2_ne yo, b3]
    exact h2 y yo (fun q hq => hy q (List.mem_cons_of_mem _ hq))
  · have jk : j ≠ k := hj (k, a, kd, n') List.mem_cons_self
    obtain ⟨b1, b2, b3, b4, b5⟩ := hF o (Ne.symm hao)
    show bl_up2 (bl_mk s' a kd n').2.2.1 o k (some a) o j = _
    rw [bl_up2_nk jk, b3]
    exact h3 j (fun q hq => hj q (List.mem_cons_of_mem _ hq))
  · rcases List.mem_cons.mp hq with e | e
    · subst e
      refine ⟨?_, ?_, ?_, fun j => ?_, fun j => ?_, fun j => ?_⟩
      · show bl_up2 (bl_mk s' a kd n').2.2.1 o k (some a) o k = _; rw [bl_up2_at]
      · exact bl_mk_Keq
      · show va_up s'.2.2.2.2 a n' a = _; simp [va_up]
      · show bl_row0 s'.1 a 0 a j = 0; rw [bl_row0_eq]
      · show bl_row0 s'.2.1 a 0 a j = 0; rw [bl_row0_eq]
      · show bl_up2 (bl_mk s' a kd n').2.2.1 o k (some a) a j = _
        rw [bl_up2_nx hao]; show bl_row0 s'.2.2.1 a none a j = none; rw [bl_row0_eq]
    · obtain ⟨c1, c2, c3, c4, c5, c6⟩ := h4 q e
      have qa : q.2.1 ≠ a := Ne.symm (ha q e)
      have qo : q.2.1 ≠ o := Ne.symm (ho q e)
      obtain ⟨b1, b2, b3, b4, b5⟩ := hF q.2.1 qa
      obtain ⟨e1, e2, e3, e4, e5⟩ := hF o (Ne.symm hao)
      refine ⟨?_, b4.trans c2, b5.trans c3, fun j => ?_, fun j => ?_, fun j => ?_⟩
      · show bl_up2 (bl_mk s' a kd n').2.2.1 o k (some a) o q.1 = _
        rw [bl_up2_nk (Ne.symm (hk q e)), e3]; exact c1
      · show (bl_mk s' a kd n').1 q.2.1 j = 0; rw [b1]; exact c4 j
      · show (bl_mk s' a kd n').2.1 q.2.1 j = 0; rw [b2]; exact c5 j
      · show bl_up2 (bl_mk s' a kd n').2.2.1 o k (some a) q.2.1 j = none
        rw [bl_up2_nx qo, b3]; exact c6 j
section INIT
variable {G : bl_G} {l : Launch} {d : Nat} {s : bl_Mem} {o : Nat}

theorem c_Recipe_init (ho : s.2.2.2.1 o = 5) (hf : s.2.2.2.1 (o + 1) = 0 ∧ s.2.2.2.1 (o + 2) = 0) : bl_MC G l d mX4_init [.ref o] s (2, 40) (fun r s' => r = .inl none ∧ inF s s' o [(1, o + 2, 20, 20), (0, o + 1, 20, 20)]) := by
  refine bl_MC_intro (by decide +kernel) rfl (Nat.le_of_ble_eq_true rfl) ?_
  obtain ⟨g0, g1⟩ := hf
  have E20 : ∀ s1, inF s s1 o [(1, o + 2, 20, 20), (0, o + 1, 20, 20)] → bl_WP G l d mX4_init 20 [(0, .ref o)] [] s1 (0, 0) (fun r s' => r = .inl none ∧ inF s s' o [(1, o + 2, 20, 20), (0, o + 1, 20, 20)]) := by
    intro s1 h
    refine bl_go oX4_init 80 [] rfl ?_
    exact ⟨rfl, h⟩
  have E12 : ∀ s1, inF s s1 o [(0, o + 1, 20, 20)] → bl_WP G l d mX4_init 12 [(0, .ref o)] [] s1 (1, 20) (fun r s' => r = .inl none ∧ inF s s' o [(1, o + 2, 20, 20), (0, o + 1, 20, 20)]) := by
    intro s1 h
    have ko : s1.2.2.2.1 o = 5 := ((h.1 o (by simp)).2.2.1).trans ho
    have kf : s1.2.2.2.1 (o + 2) = 0 := ((h.1 (o + 2) (by simp)).2.2.1).trans g1
    refine bl_go oX4_init 80 [4, 12, 20] rfl ?_
    refine ⟨o + 2, kf, (by decide), (by decide +kernel), (by decide), (by decide +kernel), (bl_mk_Kne (by omega)).trans ko, Or.inl ⟨rfl, Or.inl ⟨_, rfl⟩⟩, (fun h => by cases h), ?_⟩
    exact bl_WP_bud (b' := (0, 0)) (by decide) (by decide +kernel) (E20 _ (inF_step h (by decide +kernel) (by simp) (by simp) (by omega) (by simp)))
  have E4 : ∀ s1, inF s s1 o [] → bl_WP G l d mX4_init 4 [(0, .ref o)] [] s1 (2, 40) (fun r s' => r = .inl none ∧ inF s s' o [(1, o + 2, 20, 20), (0, o + 1, 20, 20)]) := by
    intro s1 h
    have ko : s1.2.2.2.1 o = 5 := ((h.1 o (by simp)).2.2.1).trans ho
    have kf : s1.2.2.2.1 (o + 1) = 0 := ((h.1 (o + 1) (by simp)).2.2.1).trans g0
    refine bl_go oX4_init 80 [4, 12, 20] rfl ?_
    refine ⟨o + 1, kf, (by decide), (by decide +kernel), (by decide), (by decide +kernel), (bl_mk_Kne (by omega)).trans ko, Or.inl ⟨rfl, Or.inl ⟨_, rfl⟩⟩, (fun h => by cases h), ?_⟩
    exact bl_WP_bud (b' := (1, 20)) (by decide) (by decide +kernel) (E12 _ (inF_step h (by decide +kernel) (by simp) (by simp) (by omega) (by simp)))
  refine bl_go oX4_init 80 [4, 12, 20] rfl ?_
  refine ⟨(Nat.le_of_ble_eq_true rfl), ?_⟩
  exact E4 s inF_0
theorem c_Side_init (ho : s.2.2.2.1 o = 7) (hf : s.2.2.2.1 (o + 1000) = 0 ∧ s.2.2.2.1 (o + 2000) = 0) : bl_MC G l d mX6_init [.ref o] s (2, 96) (fun r s' => r = .inl none ∧ inF s s' o [(1, o + 2000, 21, 48), (0, o + 1000, 21, 48)]) := by
  refine bl_MC_intro (by decide +kernel) rfl (Nat.le_of_ble_eq_true rfl) ?_
  obtain ⟨g0, g1⟩ := hf
  have E20 : ∀ s1, inF s s1 o [(1, o + 2000, 21, 48), (0, o + 1000, 21, 48)] → bl_WP G l d mX6_init 20 [(0, .ref o)] [] s1 (0, 0) (fun r s' => r = .inl none ∧ inF s s' o [(1, o + 2000, 21, 48), (0, o + 1000, 21, 48)]) := by
    intro s1 h
    refine bl_go oX6_init 80 [] rfl ?_
    exact ⟨rfl, h⟩
  have E12 : ∀ s1, inF s s1 o [(0, o + 1000, 21, 48)] → bl_WP G l d mX6_init 12 [(0, .ref o)] [] s1 (1, 48) (fun r s' => r = .inl none ∧ inF s s' o [(1, o + 2000, 21, 48), (0, o + 1000, 21, 48)]) := by
    intro s1 h
    have ko : s1.2.2.2.1 o = 7 := ((h.1 o (by simp)).2.2.1).trans ho
    have kf : s1.2.2.2.1 (o + 2000) = 0 := ((h.1 (o + 2000) (by simp)).2.2.1).trans g1
    refine bl_go oX6_init 80 [4, 12, 20] rfl ?_
    refine ⟨o + 2000, kf, (by decide), (by decide +kernel), (by decide), (by decide +kernel), (bl_mk_Kne (by omega)).trans ko, Or.inl ⟨rfl, Or.inl ⟨_, rfl⟩⟩, (fun h => by cases h), ?_⟩
    exact bl_WP_bud (b' := (0, 0)) (by decide) (by decide +kernel) (E20 _ (inF_step h (by decide +kernel) (by simp) (by simp) (by omega) (by simp)))
  have E4 : ∀ s1, inF s s1 o [] → bl_WP G l d mX6_init 4 [(0, .ref o)] [] s1 (2, 96) (fun r s' => r = .inl none ∧ inF s s' o [(1, o + 2000, 21, 48), (0, o + 1000, 21, 48)]) := by
    intro s1 h
    have ko : s1.2.2.2.1 o = 7 := ((h.1 o (by simp)).2.2.1).trans ho
    have kf : s1.2.2.2.1 (o + 1000) = 0 := ((h.1 (o + 1000) (by simp)).2.2.1).trans g0
    refine bl_go oX6_init 80 [4, 12, 20] rfl ?_
    refine ⟨o + 1000, kf, (by decide), (by decide +kernel), (by decide), (by decide +kernel), (bl_mk_Kne (by omega)).trans ko, Or.inl ⟨rfl, Or.inl ⟨_, rfl⟩⟩, (fun h => by cases h), ?_⟩
    exact bl_WP_bud (b' := (1, 48)) (by decide) (by decide +kernel) (E12 _ (inF_step h (by decide +kernel) (by simp) (by simp) (by omega) (by simp)))
  refine bl_go oX6_init 80 [4, 12, 20] rfl ?_
  refine ⟨(Nat.le_of_ble_eq_true rfl), ?_⟩
  exact E4 s inF_0
theorem c_Unlike_init (ho : s.2.2.2.1 o = 10) (hf : s.2.2.2.1 (o + 1) = 0 ∧ s.2.2.2.1 (o + 2) = 0 ∧ s.2.2.2.1 (o + 3) = 0) : bl_MC G l d mX9_init [.ref o] s (3, 2400) (fun r s' => r = .inl none ∧ inF s s' o [(2, o + 3, 21, 2304), (1, o + 2, 21, 48), (0, o + 1, 21, 48)]) := by
  refine bl_MC_intro (by decide +kernel) rfl (Nat.le_of_ble_eq_true rfl) ?_
  obtain ⟨g0, g1, g2⟩ := hf
  have E29 : ∀ s1, inF s s1 o [(2, o + 3, 21, 2304), (1, o + 2, 21, 48), (0, o + 1, 21, 48)] → bl_WP G l d mX9_init 29 [(0, .ref o)] [] s1 (0, 0) (fun r s' => r = .inl none ∧ inF s s' o [(2, o + 3, 21, 2304), (1, o + 2, 21, 48), (0, o + 1, 21, 48)]) := by
    intro s1 h
    refine bl_go oX9_init 80 [] rfl ?_
    exact ⟨rfl, h⟩
  have E20 : ∀ s1, inF s s1 o [(1, o + 2, 21, 48), (0, o + 1, 21, 48)] → bl_WP G l d mX9_init 20 [(0, .ref o)] [] s1 (1, 2304) (fun r s' => r = .inl none ∧ inF s s' o [(2, o + 3, 21, 2304), (1, o + 2, 21, 48), (0, o + 1, 21, 48)]) := by
    intro s1 h
    have ko : s1.2.2.2.1 o = 10 := ((h.1 o (by simp)).2.2.1).trans ho
    have kf : s1.2.2.2.1 (o + 3) = 0 := ((h.1 (o + 3) (by simp)).2.2.1).trans g2
    refine bl_go oX9_init 80 [4, 12, 20, 29] rfl ?_
    refine ⟨o + 3, kf, (by decide), (by decide +kernel), (by decide), (by decide +kernel), (bl_mk_Kne (by omega)).trans ko, Or.inl ⟨rfl, Or.inl ⟨_, rfl⟩⟩, (fun h => by cases h), ?_⟩
    exact bl_WP_bud (b' := (0, 0)) (by decide) (by decide +kernel) (E29 _ (inF_step h (by decide +kernel) (by simp) (by simp) (by omega) (by simp)))
  have E12 : ∀ s1, inF s s1 o [(0, o + 1, 21, 48)] → bl_WP G l d mX9_init 12 [(0, .ref o)] [] s1 (2, 2352) (fun r s' => r = .inl none ∧ inF s s' o [(2, o + 3, 21, 2304), (1, o + 2, 21, 48), (0, o + 1, 21, 48)]) := by
    intro s1 h
    have ko : s1.2.2.2.1 o = 10 := ((h.1 o (by simp)).2.2.1).trans ho
    have kf : s1.2.2.2.1 (o + 2) = 0 := ((h.1 (o + 2) (by simp)).2.2.1).trans g1
    refine bl_go oX9_init 80 [4, 12, 20, 29] rfl ?_
    refine ⟨o + 2, kf, (by decide), (by decide +kernel), (by decide), (by decide +kernel), (bl_mk_Kne (by omega)).trans ko, Or.inl ⟨rfl, Or.inl ⟨_, rfl⟩⟩, (fun h => by cases h), ?_⟩
    exact bl_WP_bud (b' := (1, 2304)) (by decide) (by decide +kernel) (E20 _ (inF_step h (by decide +kernel) (by simp) (by simp) (by omega) (by simp)))
  have E4 : ∀ s1, inF s s1 o [] → bl_WP G l d mX9_init 4 [(0, .ref o)] [] s1 (3, 2400) (fun r s' => r = .inl none ∧ inF s s' o [(2, o + 3, 21, 2304), (1, o + 2, 21, 48), (0, o + 1, 21, 48)]) := by
    intro s1 h
    have ko : s1.2.2.2.1 o = 10 := ((h.1 o (by simp)).2.2.1).trans ho
    have kf : s1.2.2.2.1 (o + 1) = 0 := ((h.1 (o + 1) (by simp)).2.2.1).trans g0
    refine bl_go oX9_init 80 [4, 12, 20, 29] rfl ?_
    refine ⟨o + 1, kf, (by decide), (by decide +kernel), (by decide), (by decide +kernel), (bl_mk_Kne (by omega)).trans ko, Or.inl ⟨rfl, Or.inl ⟨_, rfl⟩⟩, (fun h => by cases h), ?_⟩
    exact bl_WP_bud (b' := (2, 2352)) (by decide) (by decide +kernel) (E12 _ (inF_step h (by decide +kernel) (by simp) (by simp) (by omega) (by simp)))
  refine bl_go oX9_init 80 [4, 12, 20, 29] rfl ?_
  refine ⟨(Nat.le_of_ble_eq_true rfl), ?_⟩
  exact E4 s inF_0
theorem c_Bench_init (ho : s.2.2.2.1 o = 1) (hf : s.2.2.2.1 (o + 1) = 0 ∧ s.2.2.2.1 (o + 2) = 0 ∧ s.2.2.2.1 (o + 3) = 0 ∧ s.2.2.2.1 (o + 4) = 0 ∧ s.2.2.2.1 (o + 5) = 0 ∧ s.2.2.2.1 (o + 6) = 0 ∧ s.2.2.2.1 (o + 7) = 0 ∧ s.2.2.2.1 (o + 8) = 0 ∧ s.2.2.2.1 (o + 9) = 0 ∧ s.2.2.2.1 (o + 10) = 0 ∧ s.2.2.2.1 (o + 11) = 0 ∧ s.2.2.2.1 (o + 12) = 0) : bl_MC G l d mX0_init [.ref o] s (12, 2628) (fun r s' => r = .inl none ∧ inF s s' o [(11, o + 12, 20, 12), (10, o + 11, 20, 12), (9, o + 10, 20, 256), (8, o + 9, 20, 2048), (7, o + 8, 20, 12), (6, o + 7, 20, 12), (5, o + 6, 20, 4), (4, o + 5, 20, 4), (3, o + 4, 20, 4), (2, o + 3, 20, 88), (1, o + 2, 20, 88), (0, o + 1, 20, 88)]) := by
  refine bl_MC_intro (by decide +kernel) rfl (Nat.le_of_ble_eq_true rfl) ?_
  obtain ⟨g0, g1, g2, g3, g4, g5, g6, g7, g8, g9, g10, g11⟩ := hf
  have E99 : ∀ s1, inF s s1 o [(11, o + 12, 20, 12), (10, o + 11, 20, 12), (9, o + 10, 20, 256), (8, o + 9, 20, 2048), (7, o + 8, 20, 12), (6, o + 7, 20, 12), (5, o + 6, 20, 4), (4, o + 5, 20, 4), (3, o + 4, 20, 4), (2, o + 3, 20, 88), (1, o + 2, 20, 88), (0, o + 1, 20, 88)] → bl_WP G l d mX0_init 99 [(0, .ref o)] [] s1 (0, 0) (fun r s' => r = .inl none ∧ inF s s' o [(11, o + 12, 20, 12), (10, o + 11, 20, 12), (9, o + 10, 20, 256), (8, o + 9, 20, 2048), (7, o + 8, 20, 12), (6, o + 7, 20, 12), (5, o + 6, 20, 4), (4, o + 5, 20, 4), (3, o + 4, 20, 4), (2, o + 3, 20, 88), (1, o + 2, 20, 88), (0, o + 1, 20, 88)]) := by
    intro s1 h
    refine bl_go oX0_init 80 [] rfl ?_
    exact ⟨rfl, h⟩
  have E91 : ∀ s1, inF s s1 o [(10, o + 11, 20, 12), (9, o + 10, 20, 256), (8, o + 9, 20, 2048), (7, o + 8, 20, 12), (6, o + 7, 20, 12), (5, o + 6, 20, 4), (4, o + 5, 20, 4), (3, o + 4, 20, 4), (2, o + 3, 20, 88), (1, o + 2, 20, 88), (0, o + 1, 20, 88)] → bl_WP G l d mX0_init 91 [(0, .ref o)] [] s1 (1, 12) (fun r s' => r = .inl none ∧ inF s s' o [(11, o + 12, 20, 12), (10, o + 11, 20, 12), (9, o + 10, 20, 256), (8, o + 9, 20, 2048), (7, o + 8, 20, 12), (6, o + 7, 20, 12), (5, o + 6, 20, 4), (4, o + 5, 20, 4), (3, o + 4, 20, 4), (2, o + 3, 20, 88), (1, o + 2, 20, 88), (0, o + 1, 20, 88)]) := by
    intro s1 h
    have ko : s1.2.2.2.1 o = 1 := ((h.1 o (by simp)).2.2.1).trans ho
    have kf : s1.2.2.2.1 (o + 12) = 0 := ((h.1 (o + 12) (by simp)).2.2.1).trans g11
    refine bl_go oX0_init 80 [4, 12, 20, 28, 35, 42, 49, 57, 65, 74, 83, 91, 99] rfl ?_
    refine ⟨o + 12, kf, (by decide), (by decide +kernel), (by decide), (by decide +kernel), (bl_mk_Kne (by omega)).trans ko, Or.inl ⟨rfl, Or.inl ⟨_, rfl⟩⟩, (fun h => by cases h), ?_⟩
    exact bl_WP_bud (b' := (0, 0)) (by decide) (by decide +kernel) (E99 _ (inF_step h (by decide +kernel) (by simp) (by simp) (by omega) (by simp)))
  have E83 : ∀ s1, inF s s1 o [(9, o + 10, 20, 256), (8, o + 9, 20, 2048), (7, o + 8, 20, 12), (6, o + 7, 20, 12), (5, o + 6, 20, 4), (4, o + 5, 20, 4), (3, o + 4, 20, 4), (2, o + 3, 20, 88), (1, o + 2, 20, 88), (0, o + 1, 20, 88)] → bl_WP G l d mX0_init 83 [(0, .ref o)] [] s1 (2, 24) (fun r s' => r = .inl none ∧ inF s s' o [(11, o + 12, 20, 12), (10, o + 11, 20, 12), (9, o + 10, 20, 256), (8, o + 9, 20, 2048), (7, o + 8, 20, 12), (6, o + 7, 20, 12), (5, o + 6, 20, 4), (4, o + 5, 20, 4), (3, o + 4, 20, 4), (2, o + 3, 20, 88), (1, o + 2, 20, 88), (0, o + 1, 20, 88)]) := by
    intro s1 h
    have ko : s1.2.2.2.1 o = 1 := ((h.1 o (by simp)).2.2.1).trans ho
    have kf : s1.2.2.2.1 (o + 11) = 0 := ((h.1 (o + 11) (by simp)).2.2.1).trans g10
    refine bl_go oX0_init 80 [4, 12, 20, 28, 35, 42, 49, 57, 65, 74, 83, 91, 99] rfl ?_
    refine ⟨o + 11, kf, (by decide), (by decide +kernel), (by decide), (by decide +kernel), (bl_mk_Kne (by omega)).trans ko, Or.inl ⟨rfl, Or.inl ⟨_, rfl⟩⟩, (fun h => by cases h), ?_⟩
    exact bl_WP_bud (b' := (1, 12)) (by decide) (by decide +kernel) (E91 _ (inF_step h (by decide +kernel) (by simp) (by simp) (by omega) (by simp)))
  have E74 : ∀ s1, inF s s1 o [(8, o + 9, 20, 2048), (7, o + 8, 20, 12), (6, o + 7, 20, 12), (5, o + 6, 20, 4), (4, o + 5, 20, 4), (3, o + 4, 20, 4), (2, o + 3, 20, 88), (1, o + 2, 20, 88), (0, o + 1, 20, 88)] → bl_WP G l d mX0_init 74 [(0, .ref o)] [] s1 (3, 280) (fun r s' => r = .inl none ∧ inF s s' o [(11, o + 12, 20, 12), (10, o + 11, 20, 12), (9, o + 10, 20, 256), (8, o + 9, 20, 2048), (7, o + 8, 20, 12), (6, o + 7, 20, 12), (5, o + 6, 20, 4), (4, o + 5, 20, 4), (3, o + 4, 20, 4), (2, o + 3, 20, 88), (1, o + 2, 20, 88), (0, o + 1, 20, 88)]) := by
    intro s1 h
    have ko : s1.2.2.2.1 o = 1 := ((h.1 o (by simp)).2.2.1).trans ho
    have kf : s1.2.2.2.1 (o + 10) = 0 := ((h.1 (o + 10) (by simp)).2.2.1).trans g9
    refine bl_go oX0_init 80 [4, 12, 20, 28, 35, 42, 49, 57, 65, 74, 83, 91, 99] rfl ?_
    refine ⟨o + 10, kf, (by decide), (by decide +kernel), (by decide), (by decide +kernel), (bl_mk_Kne (by omega)).trans ko, Or.inl ⟨rfl, Or.inl ⟨_, rfl⟩⟩, (fun h => by cases h), ?_⟩
    exact bl_WP_bud (b' := (2, 24)) (by decide) (by decide +kernel) (E83 _ (inF_step h (by decide +kernel) (by simp) (by simp) (by omega) (by simp)))
  have E65 : ∀ s1, inF s s1 o [(7, o + 8, 20, 12), (6, o + 7, 20, 12), (5, o + 6, 20, 4), (4, o + 5, 20, 4), (3, o + 4, 20, 4), (2, o + 3, 20, 88), (1, o + 2, 20, 88), (0, o + 1, 20, 88)] → bl_WP G l d mX0_init 65 [(0, .ref o)] [] s1 (4, 2328) (fun r s' => r = .inl none ∧ inF s s' o [(11, o + 12, 20, 12), (10, o + 11, 20, 12), (9, o + 10, 20, 256), (8, o + 9, 20, 2048), (7, o + 8, 20, 12), (6, o + 7, 20, 12), (5, o + 6, 20, 4), (4, o + 5, 20, 4), (3, o + 4, 20, 4), (2, o + 3, 20, 88), (1, o + 2, 20, 88), (0, o + 1, 20, 88)]) := by
    intro s1 h
    have ko : s1.2.2.2.1 o = 1 := ((h.1 o (by simp)).2.2.1).trans ho
    have kf : s1.2.2.2.1 (o + 9) = 0 := ((h.1 (o + 9) (by simp)).2.2.1).trans g8
    refine bl_go oX0_init 80 [4, 12, 20, 28, 35, 42, 49, 57, 65, 74, 83, 91, 99] rfl ?_
    refine ⟨o + 9, kf, (by decide), (by decide +kernel), (by decide), (by decide +kernel), (bl_mk_Kne (by omega)).trans ko, Or.inl ⟨rfl, Or.inl ⟨_, rfl⟩⟩, (fun h => by cases h), ?_⟩
    exact bl_WP_bud (b' := (3, 280)) (by decide) (by decide +kernel) (E74 _ (inF_step h (by decide +kernel) (by simp) (by simp) (by omega) (by simp)))
  have E57 : ∀ s1, inF s s1 o [(6, o + 7, 20, 12), (5, o + 6, 20, 4), (4, o + 5, 20, 4), (3, o + 4, 20, 4), (2, o + 3, 20, 88), (1, o + 2, 20, 88), (0, o + 1, 20, 88)] → bl_WP G l d mX0_init 57 [(0, .ref o)] [] s1 (5, 2340) (fun r s' => r = .inl none ∧ inF s s' o [(11, o + 12, 20, 12), (10, o + 11, 20, 12), (9, o + 10, 20, 256), (8, o + 9, 20, 2048), (7, o + 8, 20, 12), (6, o + 7, 20, 12), (5, o + 6, 20, 4), (4, o + 5, 20, 4), (3, o + 4, 20, 4), (2, o + 3, 20, 88), (1, o + 2, 20, 88), (0, o + 1, 20, 88)]) := by
    intro s1 h
    have ko : s1.2.2.2.1 o = 1 := ((h.1 o (by simp)).2.2.1).trans ho
    have kf : s1.2.2.2.1 (o + 8) = 0 := ((h.1 (o + 8) (by simp)).2.2.1).trans g7
    refine bl_go oX0_init 80 [4, 12, 20, 28, 35, 42, 49, 57, 65, 74, 83, 91, 99] rfl ?_
    refine ⟨o + 8, kf, (by decide), (by decide +kernel), (by decide), (by decide +kernel), (bl_mk_Kne (by omega)).trans ko, Or.inl ⟨rfl, Or.inl ⟨_, rfl⟩⟩, (fun h => by cases h), ?_⟩
    exact bl_WP_bud (b' := (4, 2328)) (by decide) (by decide +kernel) (E65 _ (inF_step h (by decide +kernel) (by simp) (by simp) (by omega) (by simp)))
  have E49 : ∀ s1, inF s s1 o [(5, o + 6, 20, 4), (4, o + 5, 20, 4), (3, o + 4, 20, 4), (2, o + 3, 20, 88), (1, o + 2, 20, 88), (0, o + 1, 20, 88)] → bl_WP G l d mX0_init 49 [(0, .ref o)] [] s1 (6, 2352) (fun r s' => r = .inl none ∧ inF s s' o [(11, o + 12, 20, 12), (10, o + 11, 20, 12), (9, o + 10, 20, 256), (8, o + 9, 20, 2048), (7, o + 8, 20, 12), (6, o + 7, 20, 12), (5, o + 6, 20, 4), (4, o + 5, 20, 4), (3, o + 4, 20, 4), (2, o + 3, 20, 88), (1, o + 2, 20, 88), (0, o + 1, 20, 88)]) := by
    intro s1 h
    have ko : s1.2.2.2.1 o = 1 := ((h.1 o (by simp)).2.2.1).trans ho
    have kf : s1.2.2.2.1 (o + 7) = 0 := ((h.1 (o + 7) (by simp)).2.2.1).trans g6
    refine bl_go oX0_init 80 [4, 12, 20, 28, 35, 42, 49, 57, 65, 74, 83, 91, 99] rfl ?_
    refine ⟨o + 7, kf, (by decide), (by decide +kernel), (by decide), (by decide +kernel), (bl_mk_Kne (by omega)).trans ko, Or.inl ⟨rfl, Or.inl ⟨_, rfl⟩⟩, (fun h => by cases h), ?_⟩
    exact bl_WP_bud (b' := (5, 2340)) (by decide) (by decide +kernel) (E57 _ (inF_step h (by decide +kernel) (by simp) (by simp) (by omega) (by simp)))
  have E42 : ∀ s1, inF s s1 o [(4, o + 5, 20, 4), (3, o + 4, 20, 4), (2, o + 3, 20, 88), (1, o + 2, 20, 88), (0, o + 1, 20, 88)] → bl_WP G l d mX0_init 42 [(0, .ref o)] [] s1 (7, 2356) (fun r s' => r = .inl none ∧ inF s s' o [(11, o + 12, 20, 12), (10, o + 11, 20, 12), (9, o + 10, 20, 256), (8, o + 9, 20, 2048), (7, o + 8, 20, 12), (6, o + 7, 20, 12), (5, o + 6, 20, 4), (4, o + 5, 20, 4), (3, o + 4, 20, 4), (2, o + 3, 20, 88), (1, o + 2, 20, 88), (0, o + 1, 20, 88)]) := by
    intro s1 h
    have ko : s1.2.2.2.1 o = 1 := ((h.1 o (by simp)).2.2.1).trans ho
    have kf : s1.2.2.2.1 (o + 6) = 0 := ((h.1 (o + 6) (by simp)).2.2.1).trans g5
    refine bl_go oX0_init 80 [4, 12, 20, 28, 35, 42, 49, 57, 65, 74, 83, 91, 99] rfl ?_
    refine ⟨o + 6, kf, (by decide), (by decide +kernel), (by decide), (by decide +kernel), (bl_mk_Kne (by omega)).trans ko, Or.inl ⟨rfl, Or.inl ⟨_, rfl⟩⟩, (fun h => by cases h), ?_⟩
    exact bl_WP_bud (b' := (6, 2352)) (by decide) (by decide +kernel) (E49 _ (inF_step h (by decide +kernel) (by simp) (by simp) (by omega) (by simp)))
  have E35 : ∀ s1, inF s s1 o [(3, o + 4, 20, 4), (2, o + 3, 20, 88), (1, o + 2, 20, 88), (0, o + 1, 20, 88)] → bl_WP G l d mX0_init 35 [(0, .ref o)] [] s1 (8, 2360) (fun r s' => r = .inl none ∧ inF s s' o [(11, o + 12, 20, 12), (10, o + 11, 20, 12), (9, o + 10, 20, 256), (8, o + 9, 20, 2048), (7, o + 8, 20, 12), (6, o + 7, 20, 12), (5, o + 6, 20, 4), (4, o + 5, 20, 4), (3, o + 4, 20, 4), (2, o + 3, 20, 88), (1, o + 2, 20, 88), (0, o + 1, 20, 88)]) := by
    intro s1 h
    have ko : s1.2.2.2.1 o = 1 := ((h.1 o (by simp)).2.2.1).trans ho
    have kf : s1.2.2.2.1 (o + 5) = 0 := ((h.1 (o + 5) (by simp)).2.2.1).trans g4
    refine bl_go oX0_init 80 [4, 12, 20, 28, 35, 42, 49, 57, 65, 74, 83, 91, 99] rfl ?_
    refine ⟨o + 5, kf, (by decide), (by decide +kernel), (by decide), (by decide +kernel), (bl_mk_Kne (by omega)).trans ko, Or.inl ⟨rfl, Or.inl ⟨_, rfl⟩⟩, (fun h => by cases h), ?_⟩
    exact bl_WP_bud (b' := (7, 2356)) (by decide) (by decide +kernel) (E42 _ (inF_step h (by decide +kernel) (by simp) (by simp) (by omega) (by simp)))
  have E28 : ∀ s1, inF s s1 o [(2, o + 3, 20, 88), (1, o + 2, 20, 88), (0, o + 1, 20, 88)] → bl_WP G l d mX0_init 28 [(0, .ref o)] [] s1 (9, 2364) (fun r s' => r = .inl none ∧ inF s s' o [(11, o + 12, 20, 12), (10, o + 11, 20, 12), (9, o + 10, 20, 256), (8, o + 9, 20, 2048), (7, o + 8, 20, 12), (6, o + 7, 20, 12), (5, o + 6, 20, 4), (4, o + 5, 20, 4), (3, o + 4, 20, 4), (2, o + 3, 20, 88), (1, o + 2, 20, 88), (0, o + 1, 20, 88)]) := by
    intro s1 h
    have ko : s1.2.2.2.1 o = 1 := ((h.1 o (by simp)).2.2.1).trans ho
    have kf : s1.2.2.2.1 (o + 4) = 0 := ((h.1 (o + 4) (by simp)).2.2.1).trans g3
    refine bl_go oX0_init 80 [4, 12, 20, 28, 35, 42, 49, 57, 65, 74, 83, 91, 99] rfl ?_
    refine ⟨o + 4, kf, (by decide), (by decide +kernel), (by decide), (by decide +kernel), (bl_mk_Kne (by omega)).trans ko, Or.inl ⟨rfl, Or.inl ⟨_, rfl⟩⟩, (fun h => by cases h), ?_⟩
    exact bl_WP_bud (b' := (8, 2360)) (by decide) (by decide +kernel) (E35 _ (inF_step h (by decide +kernel) (by simp) (by simp) (by omega) (by simp)))
  have E20 : ∀ s1, inF s s1 o [(1, o + 2, 20, 88), (0, o + 1, 20, 88)] → bl_WP G l d mX0_init 20 [(0, .ref o)] [] s1 (10, 2452) (fun r s' => r = .inl none ∧ inF s s' o [(11, o + 12, 20, 12), (10, o + 11, 20, 12), (9, o + 10, 20, 256), (8, o + 9, 20, 2048), (7, o + 8, 20, 12), (6, o + 7, 20, 12), (5, o + 6, 20, 4), (4, o + 5, 20, 4), (3, o + 4, 20, 4), (2, o + 3, 20, 88), (1, o + 2, 20, 88), (0, o + 1, 20, 88)]) := by
    intro s1 h
    have ko : s1.2.2.2.1 o = 1 := ((h.1 o (by simp)).2.2.1).trans ho
    have kf : s1.2.2.2.1 (o + 3) = 0 := ((h.1 (o + 3) (by simp)).2.2.1).trans g2
    refine bl_go oX0_init 80 [4, 12, 20, 28, 35, 42, 49, 57, 65, 74, 83, 91, 99] rfl ?_
    refine ⟨o + 3, kf, (by decide), (by decide +kernel), (by decide), (by decide +kernel), (bl_mk_Kne (by omega)).trans ko, Or.inl ⟨rfl, Or.inl ⟨_, rfl⟩⟩, (fun h => by cases h), ?_⟩
    exact bl_WP_bud (b' := (9, 2364)) (by decide) (by decide +kernel) (E28 _ (inF_step h (by decide +kernel) (by simp) (by simp) (by omega) (by simp)))
  have E12 : ∀ s1, inF s s1 o [(0, o + 1, 20, 88)] → bl_WP G l d mX0_init 12 [(0, .ref o)] [] s1 (11, 2540) (fun r s' => r = .inl none ∧ inF s s' o [(11, o + 12, 20, 12), (10, o + 11, 20, 12), (9, o + 10, 20, 256), (8, o + 9, 20, 2048), (7, o + 8, 20, 12), (6, o + 7, 20, 12), (5, o + 6, 20, 4), (4, o + 5, 20, 4), (3, o + 4, 20, 4), (2, o + 3, 20, 88), (1, o + 2, 20, 88), (0, o + 1, 20, 88)]) := by
    intro s1 h
    have ko : s1.2.2.2.1 o = 1 := ((h.1 o (by simp)).2.2.1).trans ho
    have kf : s1.2.2.2.1 (o + 2) = 0 := ((h.1 (o + 2) (by simp)).2.2.1).trans g1
    refine bl_go oX0_init 80 [4, 12, 20, 28, 35, 42, 49, 57, 65, 74, 83, 91, 99] rfl ?_
    refine ⟨o + 2, kf, (by decide), (by decide +kernel), (by decide), (by decide +kernel), (bl_mk_Kne (by omega)).trans ko, Or.inl ⟨rfl, Or.inl ⟨_, rfl⟩⟩, (fun h => by cases h), ?_⟩
    exact bl_WP_bud (b' := (10, 2452)) (by decide) (by decide +kernel) (E20 _ (inF_step h (by decide +kernel) (by simp) (by simp) (by omega) (by simp)))
  have E4 : ∀ s1, inF s s1 o [] → bl_WP G l d mX0_init 4 [(0, .ref o)] [] s1 (12, 2628) (fun r s' => r = .inl none ∧ inF s s' o [(11, o + 12, 20, 12), (10, o + 11, 20, 12), (9, o + 10, 20, 256), (8, o + 9, 20, 2048), (7, o + 8, 20, 12), (6, o + 7, 20, 12), (5, o + 6, 20, 4), (4, o + 5, 20, 4), (3, o + 4, 20, 4), (2, o + 3, 20, 88), (1, o + 2, 20, 88), (0, o + 1, 20, 88)]) := by
    intro s1 h
    have ko : s1.2.2.2.1 o = 1 := ((h.1 o (by simp)).2.2.1).trans ho
    have kf : s1.2.2.2.1 (o + 1) = 0 := ((h.1 (o + 1) (by simp)).2.2.1).trans g0
    refine bl_go oX0_init 80 [4, 12, 20, 28, 35, 42, 49, 57, 65, 74, 83, 91, 99] rfl ?_
    refine ⟨o + 1, kf, (by decide), (by decide +kernel), (by decide), (by decide +kernel), (bl_mk_Kne (by omega)).trans ko, Or.inl ⟨rfl, Or.inl ⟨_, rfl⟩⟩, (fun h => by cases h), ?_⟩
    exact bl_WP_bud (b' := (11, 2540)) (by decide) (by decide +kernel) (E12 _ (inF_step h (by decide +kernel) (by simp) (by simp) (by omega) (by simp)))
  refine bl_go oX0_init 80 [4, 12, 20, 28, 35, 42, 49, 57, 65, 74, 83, 91, 99] rfl ?_
  refine ⟨(Nat.le_of_ble_eq_true rfl), ?_⟩
  exact E4 s inF_0
theorem c_Passes_init (ho : s.2.2.2.1 o = 4) (hf : s.2.2.2.1 (o + 1) = 0 ∧ s.2.2.2.1 (o + 2) = 0 ∧ s.2.2.2.1 (o + 3) = 0 ∧ s.2.2.2.1 (o + 4) = 0 ∧ s.2.2.2.1 (o + 5) = 0 ∧ s.2.2.2.1 (o + 6) = 0) : bl_MC G l d mX3_init [.ref o] s (6, 38823) (fun r s' => r = .inl none ∧ inF s s' o [(5, o + 6, 20, 121), (4, o + 5, 20, 7), (3, o + 4, 20, 7), (2, o + 3, 20, 96), (1, o + 2, 20, 96), (0, o + 1, 20, 38496)]) := by
  refine bl_MC_intro (by decide +kernel) rfl (Nat.le_of_ble_eq_true rfl) ?_
  obtain ⟨g0, g1, g2, g3, g4, g5⟩ := hf
  have E52 : ∀ s1, inF s s1 o [(5, o + 6, 20, 121), (4, o + 5, 20, 7), (3, o + 4, 20, 7), (2, o + 3, 20, 96), (1, o + 2, 20, 96), (0, o + 1, 20, 38496)] → bl_WP G l d mX3_init 52 [(0, .ref o)] [] s1 (0, 0) (fun r s' => r = .inl none ∧ inF s s' o [(5, o + 6, 20, 121), (4, o + 5, 20, 7), (3, o + 4, 20, 7), (2, o + 3, 20, 96), (1, o + 2, 20, 96), (0, o + 1, 20, 38496)]) := by
    intro s1 h
    refine bl_go oX3_init 80 [] rfl ?_
    exact ⟨rfl, h⟩
  have E44 : ∀ s1, inF s s1 o [(4, o + 5, 20, 7), (3, o + 4, 20, 7), (2, o + 3, 20, 96), (1, o + 2, 20, 96), (0, o + 1, 20, 38496)] → bl_WP G l d mX3_init 44 [(0, .ref o)] [] s1 (1, 121) (fun r s' => r = .inl none ∧ inF s s' o [(5, o + 6, 20, 121), (4, o + 5, 20, 7), (3, o + 4, 20, 7), (2, o + 3, 20, 96), (1, o + 2, 20, 96), (0, o + 1, 20, 38496)]) := by
    intro s1 h
    have ko : s1.2.2.2.1 o = 4 := ((h.1 o (by simp)).2.2.1).trans ho
    have kf : s1.2.2.2.1 (o + 6) = 0 := ((h.1 (o + 6) (by simp)).2.2.1).trans g5
    refine bl_go oX3_init 80 [4, 12, 20, 28, 36, 44, 52] rfl ?_
    refine ⟨o + 6, kf, (by decide), (by decide +kernel), (by decide), (by decide +kernel), (bl_mk_Kne (by omega)).trans ko, Or.inl ⟨rfl, Or.inl ⟨_, rfl⟩⟩, (fun h => by cases h), ?_⟩
    exact bl_WP_bud (b' := (0, 0)) (by decide) (by decide +kernel) (E52 _ (inF_step h (by decide +kernel) (by simp) (by simp) (by omega) (by simp)))
  have E36 : ∀ s1, inF s s1 o [(3, o + 4, 20, 7), (2, o + 3, 20, 96), (1, o + 2, 20, 96), (0, o + 1, 20, 38496)] → bl_WP G l d mX3_init 36 [(0, .ref o)] [] s1 (2, 128) (fun r s' => r = .inl none ∧ inF s s' o [(5, o + 6, 20, 121), (4, o + 5, 20, 7), (3, o + 4, 20, 7), (2, o + 3, 20, 96), (1, o + 2, 20, 96), (0, o + 1, 20, 38496)]) := by
    intro s1 h
    have ko : s1.2.2.2.1 o = 4 := ((h.1 o (by simp)).2.2.1).trans ho
    have kf : s1.2.2.2.1 (o + 5) = 0 := ((h.1 (o + 5) (by simp)).2.2.1).trans g4
    refine bl_go oX3_init 80 [4, 12, 20, 28, 36, 44, 52] rfl ?_
    refine ⟨o + 5, kf, (by decide), (by decide +kernel), (by decide), (by decide +kernel), (bl_mk_Kne (by omega)).trans ko, Or.inl ⟨rfl, Or.inl ⟨_, rfl⟩⟩, (fun h => by cases h), ?_⟩
    exact bl_WP_bud (b' := (1, 121)) (by decide) (by decide +kernel) (E44 _ (inF_step h (by decide +kernel) (by simp) (by simp) (by omega) (by simp)))
  have E28 : ∀ s1, inF s s1 o [(2, o + 3, 20, 96), (1, o + 2, 20, 96), (0, o + 1, 20, 38496)] → bl_WP G l d mX3_init 28 [(0, .ref o)] [] s1 (3, 135) (fun r s' => r = .inl none ∧ inF s s' o [(5, o + 6, 20, 121), (4, o + 5, 20, 7), (3, o + 4, 20, 7), (2, o + 3, 20, 96), (1, o + 2, 20, 96), (0, o + 1, 20, 38496)]) := by
    intro s1 h
    have ko : s1.2.2.2.1 o = 4 := ((h.1 o (by simp)).2.2.1).trans ho
    have kf : s1.2.2.2.1 (o + 4) = 0 := ((h.1 (o + 4) (by simp)).2.2.1).trans g3
    refine bl_go oX3_init 80 [4, 12, 20, 28, 36, 44, 52] rfl ?_
    refine ⟨o + 4, kf, (by decide), (by decide +kernel), (by decide), (by decide +kernel), (bl_mk_Kne (by omega)).trans ko, Or.inl ⟨rfl, Or.inl ⟨_, rfl⟩⟩, (fun h => by cases h), ?_⟩
    exact bl_WP_bud (b' := (2, 128)) (by decide) (by decide +kernel) (E36 _ (inF_step h (by decide +kernel) (by simp) (by simp) (by omega) (by simp)))
  have E20 : ∀ s1, inF s s1 o [(1, o + 2, 20, 96), (0, o + 1, 20, 38496)] → bl_WP G l d mX3_init 20 [(0, .ref o)] [] s1 (4, 231) (fun r s' => r = .inl none ∧ inF s s' o [(5, o + 6, 20, 121), (4, o + 5, 20, 7), (3, o + 4, 20, 7), (2, o + 3, 20, 96), (1, o + 2, 20, 96), (0, o + 1, 20, 38496)]) := by
    intro s1 h
    have ko : s1.2.2.2.1 o = 4 := ((h.1 o (by simp)).2.2.1).trans ho
    have kf : s1.2.2.2.1 (o + 3) = 0 := ((h.1 (o + 3) (by simp)).2.2.1).trans g2
    refine bl_go oX3_init 80 [4, 12, 20, 28, 36, 44, 52] rfl ?_
    refine ⟨o + 3, kf, (by decide), (by decide +kernel), (by decide), (by decide +kernel), (bl_mk_Kne (by omega)).trans ko, Or.inl ⟨rfl, Or.inl ⟨_, rfl⟩⟩, (fun h => by cases h), ?_⟩
    exact bl_WP_bud (b' := (3, 135)) (by decide) (by decide +kernel) (E28 _ (inF_step h (by decide +kernel) (by simp) (by simp) (by omega) (by simp)))
  have E12 : ∀ s1, inF s s1 o [(0, o + 1, 20, 38496)] → bl_WP G l d mX3_init 12 [(0, .ref o)] [] s1 (5, 327) (fun r s' => r = .inl none ∧ inF s s' o [(5, o + 6, 20, 121), (4, o + 5, 20, 7), (3, o + 4, 20, 7), (2, o + 3, 20, 96), (1, o + 2, 20, 96), (0, o + 1, 20, 38496)]) := by
    intro s1 h
    have ko : s1.2.2.2.1 o = 4 := ((h.1 o (by simp)).2.2.1).trans ho
    have kf : s1.2.2.2.1 (o + 2) = 0 := ((h.1 (o + 2) (by simp)).2.2.1).trans g1
    refine bl_go oX3_init 80 [4, 12, 20, 28, 36, 44, 52] rfl ?_
    refine ⟨o + 2, kf, (by decide), (by decide +kernel), (by decide), (by decide +kernel), (bl_mk_Kne (by omega)).trans ko, Or.inl ⟨rfl, Or.inl ⟨_, rfl⟩⟩, (fun h => by cases h), ?_⟩
    exact bl_WP_bud (b' := (4, 231)) (by decide) (by decide +kernel) (E20 _ (inF_step h (by decide +kernel) (by simp) (by simp) (by omega) (by simp)))
  have E4 : ∀ s1, inF s s1 o [] → bl_WP G l d mX3_init 4 [(0, .ref o)] [] s1 (6, 38823) (fun r s' => r = .inl none ∧ inF s s' o [(5, o + 6, 20, 121), (4, o + 5, 20, 7), (3, o + 4, 20, 7), (2, o + 3, 20, 96), (1, o + 2, 20, 96), (0, o + 1, 20, 38496)]) := by
    intro s1 h
    have ko : s1.2.2.2.1 o = 4 := ((h.1 o (by simp)).2.2.1).trans ho
    have kf : s1.2.2.2.1 (o + 1) = 0 := ((h.1 (o + 1) (by simp)).2.2.1).trans g0
    refine bl_go oX3_init 80 [4, 12, 20, 28, 36, 44, 52] rfl ?_
    refine ⟨o + 1, kf, (by decide), (by decide +kernel), (by decide), (by decide +kernel), (bl_mk_Kne (by omega)).trans ko, Or.inl ⟨rfl, Or.inl ⟨_, rfl⟩⟩, (fun h => by cases h), ?_⟩
    exact bl_WP_bud (b' := (5, 327)) (by decide) (by decide +kernel) (E12 _ (inF_step h (by decide +kernel) (by simp) (by simp) (by omega) (by simp)))
  refine bl_go oX3_init 80 [4, 12, 20, 28, 36, 44, 52] rfl ?_
  refine ⟨(Nat.le_of_ble_eq_true rfl), ?_⟩
  exact E4 s inF_0
theorem c_Butter_init (ho : s.2.2.2.1 o = 2) : bl_MC G l d mX1_init [.ref o] s (0, 0) (fun r s' => r = .inl none ∧ s' = s) := by
  refine bl_MC_intro (by decide +kernel) rfl (Nat.le_of_ble_eq_true rfl) ?_
  refine bl_go oX1_init 80 [] rfl ?_
  exact ⟨(Nat.le_of_ble_eq_true rfl), rfl, rfl⟩
end INIT
