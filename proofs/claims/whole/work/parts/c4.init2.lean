/-! ===== constructors: Tape, Kitchen, Slab, Run ===== -/
theorem bl_MC_ini {G : bl_G} {l : Launch} {d : Nat} {M : bl_MR} {as : List Value} {σ : bl_Mem} {b : Nat × Nat} {Q : bl_Mem → Prop} (h : bl_MC G l d M as σ b (fun r s' => r = .inl none ∧ Q s')) : bl_MC G l d M as σ b (fun o σ1 => match o with | .inl v => v = none ∧ Q σ1 | .inr _ => False) := bl_MC_mono h (fun o s q => by obtain ⟨rfl, q⟩ := q; exact ⟨rfl, q⟩)
theorem eqF_inF {s s' : bl_Mem} {o : Nat} {L : inL} {p : Nat → Prop} (h : inF s s' o L) (ho : p o) (hp : ∀ q ∈ L, p q.2.1) : eqF s s' p := fun y hy => by
  have h1 : ∀ q ∈ L, y ≠ q.2.1 := fun q hq e => hy (e ▸ hp q hq)
  obtain ⟨a, b, c, d⟩ := h.1 y h1
  exact ⟨a, b, h.2.1 y (fun e => hy (e ▸ ho)) h1, c, d⟩
theorem eqF_pv {s : bl_Mem} {o k : Nat} {v : Value} : eqF s (bl_pv s o k v) (fun y => y = o) := fun y hy => by
  cases v with
  | int x => exact ⟨bl_up2_ne hy, rfl, rfl, rfl, rfl⟩
  | long x => exact ⟨rfl, bl_up2_ne hy, rfl, rfl, rfl⟩
  | ref x => exact ⟨rfl, rfl, bl_up2_ne hy, rfl, rfl⟩
  | null => exact ⟨rfl, rfl, bl_up2_ne hy, rfl, rfl⟩
  | _ => exact ⟨rfl, rfl, rfl, rfl, rfl⟩
theorem pv_K {s : bl_Mem} {o k : Nat} {v : Value} : (bl_pv s o k v).2.2.2.1 = s.2.2.2.1 := by cases v <;> rfl
theorem pv_N {s : bl_Mem} {o k : Nat} {v : Value} : (bl_pv s o k v).2.2.2.2 = s.2.2.2.2 := by cases v <;> rfl
abbrev sdX (s : bl_Mem) (x : Nat) : Prop := sdS s.2.2.1 s.2.2.2.1 s.2.2.2.2 x
theorem sdX_of {s s' : bl_Mem} {o : Nat} (h : inF s s' o [(1, o + 2000, 21, 48), (0, o + 1000, 21, 48)]) (ho : s.2.2.2.1 o = 7) (hr : 2000 ≤ o ∧ o < 3000) : sdX s' o := by
  obtain ⟨a1, a2, a3, -⟩ := h.2.2.2 (1, o + 2000, 21, 48) (by simp)
  obtain ⟨b1, b2, b3, -⟩ := h.2.2.2 (0, o + 1000, 21, 48) (by simp)
  exact ⟨hr, ((h.1 o (by simp)).2.2.1).trans ho, b1, a1, b2, b3, a2, a3⟩
theorem sdX.eq {s s' : bl_Mem} {x : Nat} {p : Nat → Prop} (h : sdX s x) (hF : eqF s s' p) (h0 : ¬ p x) (h1 : ¬ p (x + 1000)) (h2 : ¬ p (x + 2000)) : sdX s' x := by
  obtain ⟨a1, a2, a3, a4, a5, a6, a7, a8⟩ := h
  obtain ⟨-, -, c3, c4, -⟩ := hF x h0
  obtain ⟨-, -, -, e4, e5⟩ := hF _ h1
  obtain ⟨-, -, -, f4, f5⟩ := hF _ h2
  exact ⟨a1, c4.trans a2, by rw [c3]; exact a3, by rw [c3]; exact a4, e4.trans a5, e5.trans a6, f4.trans a7, f5.trans a8⟩
abbrev slX (s : bl_Mem) (b : Nat) : Prop := slS s.2.2.1 s.2.2.2.1 s.2.2.2.2 b
theorem slX.eq {s s' : bl_Mem} {b : Nat} {p : Nat → Prop} (h : slX s b) (hF : eqF s s' p) (h0 : ∀ y, slN b y → ¬ p y) : slX s' b := by
  obtain ⟨a1, a2, a3, a4, a5, a6⟩ := h
  unfold slN at h0
  obtain ⟨-, -, c3, c4, -⟩ := hF b (h0 b (by omega))
  exact ⟨a1, c4.trans a2, by rw [c3]; exact a3, by rw [c3]; exact a4, sdX.eq a5 hF (h0 _ (by omega)) (h0 _ (by omega)) (h0 _ (by omega)), sdX.eq a6 hF (h0 _ (by omega)) (h0 _ (by omega)) (h0 _ (by omega))⟩
section INIT2
variable {G : bl_G} {l : Launch} {d : Nat} {s : bl_Mem} {o b q β : Nat}
theorem c_Slab_init (hr : 1000 ≤ b ∧ b < 1500) (ho : s.2.2.2.1 b = 8) (hf : ∀ y, slN b y → y ≠ b → s.2.2.2.1 y = 0) : bl_MC G l (d + 1) mX7_init [.ref b] s (6, 198) (fun r s' => r = .inl none ∧ eqF s s' (slN b) ∧ slX s' b) := by
  refine bl_MC_intro (by decide +kernel) rfl (Nat.le_of_ble_eq_true rfl) ?_
  unfold slN at *
  have E26 : ∀ s1, eqF s s1 (slN b) → slX s1 b → bl_WP G l (d + 1) mX7_init 26 [(0, .ref b)] [] s1 (0, 0) (fun r s' => r = .inl none ∧ eqF s s' (slN b) ∧ slX s' b) := by
    intro s1 h1 h2
    refine bl_go oX7_init 80 [] rfl ?_
    exact ⟨rfl, h1, h2⟩
  have E15 : ∀ s1, eqF s s1 (fun y => y = b ∨ y = 2 * b ∨ y = 2 * b + 1000 ∨ y = 2 * b + 2000) → s1.2.2.2.1 b = 8 → sdX s1 (2 * b) → s1.2.2.1 b 0 = some (2 * b) → bl_WP G l (d + 1) mX7_init 15 [(0, .ref b)] [] s1 (3, 99) (fun r s' => r = .inl none ∧ eqF s s' (slN b) ∧ slX s' b) := by
    intro s1 h1 h2 h3 h4
    have f0 : s1.2.2.2.1 (2 * b + 1) = 0 := ((h1 _ (by omega)).2.2.2.1).trans (hf _ (by omega) (by omega))
    have f1 : s1.2.2.2.1 (2 * b + 1 + 1000) = 0 := ((h1 _ (by omega)).2.2.2.1).trans (hf _ (by omega) (by omega))
    have f2 : s1.2.2.2.1 (2 * b + 1 + 2000) = 0 := ((h1 _ (by omega)).2.2.2.1).trans (hf _ (by omega) (by omega))
    refine bl_go oX7_init 80 [15, 26] rfl ?_
    refine ⟨2 * b + 1, f0, (by decide), (by decide), rfl, (Nat.le_of_ble_eq_true rfl), (2, 96), _, (by decide), (by decide), bl_MC_ini (c_Side_init (d := d) (o := 2 * b + 1) bl_mk_Keq ⟨(bl_mk_Kne (by omega)).trans f1, (bl_mk_Kne (by omega)).trans f2⟩), fun s2 q2 => ?_⟩
    have hF2 : eqF s1 s2 (fun y => y = 2 * b + 1 ∨ y = 2 * b + 1001 ∨ y = 2 * b + 2001) := (eqF_mk.mono (fun y hy => Or.inl hy)).trans (eqF_inF q2 (by simp) (by intro q hq; simp at hq; rcases hq with rfl | rfl <;> simp <;> omega))
    have hs2 := sdX_of q2 bl_mk_Keq (by omega)
    have k2 : s2.2.2.2.1 b = 8 := ((hF2 b (by omega)).2.2.2.1).trans h2
    refine ⟨k2, Or.inl ⟨rfl, Or.inl ⟨_, rfl⟩⟩, (fun h => by cases h), ?_⟩
    refine bl_WP_bud (b' := (0, 0)) (by decide) (by decide) (E26 _ ?_ ?_)
    · refine (h1.mono (fun y hy => by unfold slN; omega)).trans ((hF2.mono (fun y hy => by unfold slN; omega)).trans (eqF_pv.mono (fun y hy => by unfold slN; omega)))
    · have hpv := @eqF_pv s2 b 1 (.ref (2 * b + 1))
      refine ⟨hr, by rw [pv_K]; exact k2, ?_, ?_, (h3.eq hF2 (by omega) (by omega) (by omega)).eq hpv (by omega) (by omega) (by omega), hs2.eq hpv (by omega) (by omega) (by omega)⟩
      · show bl_up2 s2.2.2.1 b 1 (some (2 * b + 1)) b 0 = _
        rw [bl_up2_nk (by omega), (hF2 b (by omega)).2.2.1]; exact h4
      · show bl_up2 s2.2.2.1 b 1 (some (2 * b + 1)) b 1 = _
        rw [bl_up2_at]
  have E4 : bl_WP G l (d + 1) mX7_init 4 [(0, .ref b)] [] s (6, 198) (fun r s' => r = .inl none ∧ eqF s s' (slN b) ∧ slX s' b) := by
    have f0 : s.2.2.2.1 (2 * b) = 0 := hf _ (by omega) (by omega)
    have f1 : s.2.2.2.1 (2 * b + 1000) = 0 := hf _ (by omega) (by omega)
    have f2 : s.2.2.2.1 (2 * b + 2000) = 0 := hf _ (by omega) (by omega)
    refine bl_go oX7_init 80 [15, 26] rfl ?_
    refine ⟨2 * b, f0, (by decide), (by decide), rfl, (Nat.le_of_ble_eq_true rfl), (2, 96), _, (by decide), (by decide), bl_MC_ini (c_Side_init (d := d) (o := 2 * b) bl_mk_Keq ⟨(bl_mk_Kne (by omega)).trans f1, (bl_mk_Kne (by omega)).trans f2⟩), fun s2 q2 => ?_⟩
    have hF2 : eqF s s2 (fun y => y = 2 * b ∨ y = 2 * b + 1000 ∨ y = 2 * b + 2000) := (eqF_mk.mono (fun y hy => Or.inl hy)).trans (eqF_inF q2 (by simp) (by intro q hq; simp at hq; rcases hq with rfl | rfl <;> simp))
    have hs2 := sdX_of q2 bl_mk_Keq (by omega)
    have k2 : s2.2.2.2.1 b = 8 := ((hF2 b (by omega)).2.2.2.1).trans ho
    refine ⟨k2, Or.inl ⟨rfl, Or.inl ⟨_, rfl⟩⟩, (fun h => by cases h), ?_⟩
    have hpv := @eqF_pv s2 b 0 (.ref (2 * b))
    refine bl_WP_bud (b' := (3, 99)) (by decide) (by decide) (E15 _ ?_ ?_ (hs2.eq hpv (by omega) (by omega) (by omega)) ?_)
    · exact (hF2.mono (fun y hy => by omega)).trans (hpv.mono (fun y hy => by omega))
    · rw [pv_K]; exact k2
    · show bl_up2 s2.2.2.1 b 0 (some (2 * b)) b 0 = _
      rw [bl_up2_at]
  refine bl_go oX7_init 80 [4, 15, 26] rfl ?_
  refine ⟨(Nat.le_of_ble_eq_true rfl), ?_⟩
  exact E4
abbrev rnX (s : bl_Mem) (q β : Nat) : Prop := rnS s.2.2.1 s.2.2.2.1 s.2.2.2.2 q β
def rnN (q β y : Nat) : Prop := y = q ∨ y = q + 1 ∨ y = q + 2 ∨ y = q + 3 ∨ ∃ k, k < 21 ∧ slN (β + k) y
theorem c_Run_init (hq : q + 3 < 900) (hβ : 1000 ≤ β ∧ β + 21 ≤ 1500) (ho : s.2.2.2.1 q = 6) (hf : ∀ y, rnN q β y → y ≠ q → s.2.2.2.1 y = 0) : bl_MC G l (d + 2) mX5_init [.ref q] s (150, 4326) (fun r s' => r = .inl none ∧ eqF s s' (rnN q β) ∧ s'.1 q = s.1 q ∧ rnX s' q β) := by
  refine bl_MC_intro (by decide +kernel) rfl (Nat.le_of_ble_eq_true rfl) ?_
  have hN : ∀ {k y : Nat}, slN k y → 1000 ≤ k → 1000 ≤ y := fun h hk => by unfold slN at h; omega
  have E31 : ∀ i, i ≤ 21 → ∀ z s1, z = nI i → eqF s s1 (rnN q β) → s1.1 q = s.1 q → s1.2.2.2.1 q = 6 → (s1.2.2.1 q 0 = some (q + 1) ∧ s1.2.2.1 q 1 = some (q + 2) ∧ s1.2.2.1 q 2 = some (q + 3)) → ((s1.2.2.2.1 (q + 1) = 24 ∧ s1.2.2.2.2 (q + 1) = 21) ∧ (s1.2.2.2.1 (q + 2) = 20 ∧ s1.2.2.2.2 (q + 2) = 21) ∧ (s1.2.2.2.1 (q + 3) = 20 ∧ s1.2.2.2.2 (q + 3) = 21)) → (∀ k, k < i → s1.2.2.1 (q + 1) k = some (β + k) ∧ slX s1 (β + k)) → (∀ k y, i ≤ k → k < 21 → slN (β + k) y → s1.2.2.2.1 y = 0) → bl_WP G l (d + 2) mX5_init 31 [(1, .int z), (0, .ref q)] [] s1 (7 * (21 - i), 203 * (21 - i)) (fun r s' => r = .inl none ∧ eqF s s' (rnN q β) ∧ s'.1 q = s.1 q ∧ rnX s' q β) := by
    refine bl_for 21 ?_ (fun i hi ih => ?_)
    · intro z s1 hz h1 h2 h3 h4 h5 h6 h7; subst hz
      refine bl_go oX5_init 80 [31] rfl ?_
      refine ⟨fun _ => ?_, fun h => absurd (show (20 : Int32) < nI 21 from by decide) h⟩
      exact ⟨rfl, h1, h2, ⟨⟨by omega, hβ.1⟩, h3, h4.1, h4.2.1, h4.2.2, h5.1, h5.2.1, h5.2.2, h6⟩⟩
    · intro z s1 hz h1 h2 h3 h4 h5 h6 h7; subst hz
      have eci : (nI i).toNatClampNeg = i := nI_clamp (by omega)
      have fr := h7 i
      have hb0 : s1.2.2.2.1 (β + i) = 0 := h7 i _ (Nat.le_refl _) hi (Or.inl rfl)
      refine bl_go oX5_init 80 [31] rfl ?_
      refine ⟨fun h => absurd h (by rw [Int32.not_lt]; exact (nI_lek (b := 20) (by omega) (by omega)).mpr (by omega)), fun _ => ?_⟩
      refine ⟨h3, _, bl_vs h4.1, β + i, hb0, (by show 1 ≤ 7 * (21 - i); omega), (by show 5 ≤ 203 * (21 - i); omega), rfl, (Nat.le_of_ble_eq_true rfl), (6, 198), _, (by show 6 ≤ 7 * (21 - i) - 1; omega), (by show 198 ≤ 203 * (21 - i) - 5; omega), bl_MC_ini (c_Slab_init (d := d) (b := β + i) (by omega) bl_mk_Keq (fun y hy hne => (bl_mk_Kne hne).trans (h7 i y (Nat.le_refl _) hi hy))), fun s2 q2 => ?_⟩
      obtain ⟨g1, g2⟩ := q2
      have hF2 : eqF s1 s2 (slN (β + i)) := (eqF_mk.mono (fun y hy => Or.inl hy)).trans g1
      have hnq : ∀ y, y < 1000 → ¬ slN (β + i) y := fun y hy h => absurd (hN h (by omega)) (by omega)
      have k1 : s2.2.2.2.1 (q + 1) = 24 := ((hF2 _ (hnq _ (by omega))).2.2.2.1).trans h5.1.1
      have n1 : s2.2.2.2.2 (q + 1) = 21 := ((hF2 _ (hnq _ (by omega))).2.2.2.2).trans h5.1.2
      refine ⟨Or.inr (Or.inr k1), ?_, ?_, ?_⟩
      · show s2.2.2.2.1 (β + i) = bl_elt (s2.2.2.2.1 (q + 1)) + 1
        rw [k1]; exact g2.2.1
      · show vp_in (nI i) (s2.2.2.2.2 (q + 1))
        rw [n1]; exact vp_in_nI hi (by omega)
      have hpv := @eqF_pv s2 (q + 1) i (.ref (β + i))
      show bl_rn G l (d + 2) mX5_init _ _ _ _ _ _ _ (bl_pv s2 (q + 1) (nI i).toNatClampNeg (.ref (β + i))) _
      rw [eci]
      refine bl_WP_bud (b' := (7 * (21 - (i + 1)), 203 * (21 - (i + 1)))) (by show _ ≤ 7 * (21 - i) - 1 - 6; omega) (by show _ ≤ 203 * (21 - i) - 5 - 198; omega) (ih _ _ (nI_1 _) ?_ ?_ ?_ ?_ ?_ (fun k hk => ?_) (fun k y hk hk2 hy => ?_))
      · exact h1.trans ((hF2.mono (fun y hy => Or.inr (Or.inr (Or.inr (Or.inr ⟨i, hi, hy⟩))))).trans (hpv.mono (fun y hy => Or.inr (Or.inl hy))))
      · show s2.1 q = s.1 q
        rw [(hF2 q (hnq _ (by omega))).1]; exact h2
      · rw [pv_K, (hF2 q (hnq _ (by omega))).2.2.2.1]; exact h3
      · show bl_up2 s2.2.2.1 (q + 1) i (some (β + i)) q 0 = _ ∧ bl_up2 s2.2.2.1 (q + 1) i (some (β + i)) q 1 = _ ∧ bl_up2 s2.2.2.1 (q + 1) i (some (β + i)) q 2 = _
        rw [bl_up2_ne (by omega), (hF2 q (hnq _ (by omega))).2.2.1]; exact h4
      · rw [pv_K, pv_N]
        exact ⟨⟨k1, n1⟩, ⟨((hF2 _ (hnq _ (by omega))).2.2.2.1).trans h5.2.1.1, ((hF2 _ (hnq _ (by omega))).2.2.2.2).trans h5.2.1.2⟩, ⟨((hF2 _ (hnq _ (by omega))).2.2.2.1).trans h5.2.2.1, ((hF2 _ (hnq _ (by omega))).2.2.2.2).trans h5.2.2.2⟩⟩
      · have hsq : ∀ y, slN (β + k) y → ¬ y = q + 1 := fun y hy e => absurd (hN hy (by omega)) (by omega)
        by_cases e : k = i
        · subst e
          refine ⟨?_, slX.eq g2 hpv hsq⟩
          show bl_up2 s2.2.2.1 (q + 1) k (some (β + k)) (q + 1) k = _
          rw [bl_up2_at]
        · obtain ⟨c1, c2⟩ := h6 k (by omega)
          refine ⟨?_, slX.eq (slX.eq c2 hF2 (fun y hy h => ?_)) hpv hsq⟩
          · show bl_up2 s2.2.2.1 (q + 1) i (some (β + i)) (q + 1) k = _
            rw [bl_up2_nk e, (hF2 _ (hnq _ (by omega))).2.2.1]; exact c1
          · unfold slN at hy h; omega
      · rw [pv_K, (hF2 y (fun h => by unfold slN at hy h; omega)).2.2.2.1]
        exact h7 k y (by omega) hk2 hy
  have E4 : bl_WP G l (d + 2) mX5_init 4 [(0, .ref q)] [] s (150, 4326) (fun r s' => r = .inl none ∧ eqF s s' (rnN q β) ∧ s'.1 q = s.1 q ∧ rnX s' q β) := by
    have f1 : s.2.2.2.1 (q + 1) = 0 := hf _ (Or.inr (Or.inl rfl)) (by omega)
    have f2 : s.2.2.2.1 (q + 2) = 0 := hf _ (Or.inr (Or.inr (Or.inl rfl))) (by omega)
    have f3 : s.2.2.2.1 (q + 3) = 0 := hf _ (Or.inr (Or.inr (Or.inr (Or.inl rfl)))) (by omega)
    have E29 : ∀ s1, inF s s1 q [(2, q + 3, 20, 21), (1, q + 2, 20, 21), (0, q + 1, 24, 21)] → bl_WP G l (d + 2) mX5_init 29 [(0, .ref q)] [] s1 (147, 4263) (fun r s' => r = .inl none ∧ eqF s s' (rnN q β) ∧ s'.1 q = s.1 q ∧ rnX s' q β) := by
      intro s1 h
      refine bl_go oX5_init 80 [31] rfl ?_
      obtain ⟨a1, a2, a3, -⟩ := h.2.2.2 (2, q + 3, 20, 21) (by simp)
      obtain ⟨b1, b2, b3, -⟩ := h.2.2.2 (1, q + 2, 20, 21) (by simp)
      obtain ⟨c1, c2, c3, -⟩ := h.2.2.2 (0, q + 1, 24, 21) (by simp)
      refine bl_WP_bud (b' := (7 * (21 - 0), 203 * (21 - 0))) (by decide) (by decide) (E31 0 (by omega) _ s1 rfl (eqF_inF h (Or.inl rfl) ?_) (h.1 q (by simp)).1 (((h.1 q (by simp)).2.2.1).trans ho) ⟨c1, b1, a1⟩ ⟨⟨c2, c3⟩, ⟨b2, b3⟩, ⟨a2, a3⟩⟩ (fun k hk => absurd hk (by omega)) (fun k y _ hk hy => ?_))
      · intro p hp; simp at hp; unfold rnN; rcases hp with rfl | rfl | rfl <;> simp
      · have hy1 := hN hy (by omega)
        rw [(h.1 y (by intro p hp; simp at hp; rcases hp with rfl | rfl | rfl <;> simp <;> omega)).2.2.1]
        exact hf y (Or.inr (Or.inr (Or.inr (Or.inr ⟨k, hk, hy⟩)))) (by omega)
    have E21 : ∀ s1, inF s s1 q [(1, q + 2, 20, 21), (0, q + 1, 24, 21)] → bl_WP G l (d + 2) mX5_init 21 [(0, .ref q)] [] s1 (148, 4284) (fun r s' => r = .inl none ∧ eqF s s' (rnN q β) ∧ s'.1 q = s.1 q ∧ rnX s' q β) := by
      intro s1 h
      have ko : s1.2.2.2.1 q = 6 := ((h.1 q (by simp)).2.2.1).trans ho
      have kf : s1.2.2.2.1 (q + 3) = 0 := ((h.1 (q + 3) (by simp)).2.2.1).trans f3
      refine bl_go oX5_init 80 [29] rfl ?_
      refine ⟨q + 3, kf, (by decide), (by decide +kernel), (by decide), (by decide +kernel), (bl_mk_Kne (by omega)).trans ko, Or.inl ⟨rfl, Or.inl ⟨_, rfl⟩⟩, (fun h => by cases h), ?_⟩
      exact bl_WP_bud (b' := (147, 4263)) (by decide) (by decide +kernel) (E29 _ (inF_step h (by decide +kernel) (by simp) (by simp) (by omega) (by simp)))
    have E13 : ∀ s1, inF s s1 q [(0, q + 1, 24, 21)] → bl_WP G l (d + 2) mX5_init 13 [(0, .ref q)] [] s1 (149, 4305) (fun r s' => r = .inl none ∧ eqF s s' (rnN q β) ∧ s'.1 q = s.1 q ∧ rnX s' q β) := by
      intro s1 h
      have ko : s1.2.2.2.1 q = 6 := ((h.1 q (by simp)).2.2.1).trans ho
      have kf : s1.2.2.2.1 (q + 2) = 0 := ((h.1 (q + 2) (by simp)).2.2.1).trans f2
      refine bl_go oX5_init 80 [21] rfl ?_
      refine ⟨q + 2, kf, (by decide), (by decide +kernel), (by decide), (by decide +kernel), (bl_mk_Kne (by omega)).trans ko, Or.inl ⟨rfl, Or.inl ⟨_, rfl⟩⟩, (fun h => by cases h), ?_⟩
      exact bl_WP_bud (b' := (148, 4284)) (by decide) (by decide +kernel) (E21 _ (inF_step h (by decide +kernel) (by simp) (by simp) (by omega) (by simp)))
    refine bl_go oX5_init 80 [13] rfl ?_
    refine ⟨q + 1, f1, (by decide), (by decide +kernel), (by decide), (by decide +kernel), (bl_mk_Kne (by omega)).trans ho, Or.inl ⟨rfl, Or.inl ⟨_, rfl⟩⟩, (fun h => by cases h), ?_⟩
    exact bl_WP_bud (b' := (149, 4305)) (by decide) (by decide +kernel) (E13 _ (inF_step inF_0 (by decide +kernel) (by simp) (by simp) (by omega) (by simp)))
  refine bl_go oX5_init 80 [4] rfl ?_
  refine ⟨(Nat.le_of_ble_eq_true rfl), ?_⟩
  exact E4
end INIT2
