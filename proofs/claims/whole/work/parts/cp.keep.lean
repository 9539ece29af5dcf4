/-! ===== the class's state, when others change ===== -/
theorem clI.out {s s' : bl_Mem} {S : cS} {h : Nat} {p : Nat → Prop} (hI : clI s S h) (hO : csO S) (hF : eqF s s' p) (hp : ∀ y, p y → (900 ≤ y ∧ y < 940) ∨ 5000 ≤ y) : clI s' S h := by
  obtain ⟨a1, a2, a3, a4, a5, a6, a7, a8, a9, a10⟩ := hI
  have hh := a2.1
  have hc4 := hO.2.2.1
  have hn : ∀ y, (y < 900 ∨ (940 ≤ y ∧ y < 5000)) → ¬ p y := fun y h1 q => by have := hp y q; omega
  have hI' : ∀ y, (y < 900 ∨ (940 ≤ y ∧ y < 5000)) → s'.1 y = s.1 y := fun y h1 => (hF y (hn y h1)).1
  have hR' : ∀ y, (y < 900 ∨ (940 ≤ y ∧ y < 5000)) → s'.2.2.1 y = s.2.2.1 y := fun y h1 => (hF y (hn y h1)).2.2.1
  have hK' : ∀ y, (y < 900 ∨ (940 ≤ y ∧ y < 5000)) → s'.2.2.2.1 y = s.2.2.2.1 y := fun y h1 => (hF y (hn y h1)).2.2.2.1
  have hN' : ∀ y, (y < 900 ∨ (940 ≤ y ∧ y < 5000)) → s'.2.2.2.2 y = s.2.2.2.2 y := fun y h1 => (hF y (hn y h1)).2.2.2.2
  have hki : ∀ a, a = 180 ∨ a = 190 → kiX s a → kiX s' a := fun a ha hk => kiX.eq hk hF (hn _ (by omega)) (hn _ (by omega)) (hn _ (by omega)) (hn _ (by omega))
  have hmk : ∀ r, r < 4 → mkR s r → mkR s' r := fun r hr ⟨b1, b2, b3, b4⟩ => by
    refine ⟨rcX.eq b1 hF (hn _ (by omega)) (hn _ (by omega)) (hn _ (by omega)), rnX.eq b2 hF (fun y hy => hn y (by have := rnN_rng hy hr; omega)), ?_, ?_⟩
    · rw [hR' 120 (by omega)]; exact b3
    · rw [hR' 121 (by omega)]; exact b4
  refine ⟨?_, ?_, fun r hr => ?_, ?_, ?_, ?_, ?_, fun r hr => ?_, ?_, fun hw => ?_⟩
  · obtain ⟨b1, b2, b3, b4, b5, b6, b7, b8⟩ := a1
    refine ⟨?_, ?_, ?_, ?_, hki 180 (by omega) b5, hki 190 (by omega) b6, fun j hj => ?_, fun j hj => ?_⟩
    · unfold clA at b1 ⊢; simp (disch := omega) only [hK', hR', hN']; exact b1
    · unfold tpX tpS at b2 ⊢; simp (disch := omega) only [hK', hR', hN']; exact b2
    · unfold unX at b3 ⊢; simp (disch := omega) only [hK', hR', hN']; exact b3
    · unfold bnX bnS at b4 ⊢; simp (disch := omega) only [hK', hR', hN']; exact b4
    · rw [hK' (940 + j) (by omega)]; exact b7 j hj
    · rw [hK' (950 + j) (by omega)]; exact b8 j hj
  · unfold clH; rw [hR' 100 (by omega)]; exact a2
  · rcases a3 r hr with b | ⟨b1, b2, b3⟩
    · exact Or.inl (hmk r hr b)
    · refine Or.inr ⟨?_, ?_, fun y hy => ?_⟩
      · rw [hR' 120 (by omega)]; exact b1
      · rw [hR' 121 (by omega)]; exact b2
      · have hy2 : y < 900 ∨ (940 ≤ y ∧ y < 5000) := by
          rcases hy with q | q
          · omega
          · have := rnN_rng q hr; omega
        rw [hK' y hy2]; exact b3 y hy
  · unfold clW at a4 ⊢; rw [hR' 100 (by omega)]
    rcases a4 with ⟨b1, b2⟩ | ⟨b1, b2⟩
    · exact Or.inl ⟨b1, fun y y1 y2 => by rw [hK' y (by omega)]; exact b2 y y1 y2⟩
    · refine Or.inr ⟨b1, ?_⟩
      unfold psX psS at b2 ⊢
      simp (disch := omega) only [hK', hR', hN']; exact b2
  · unfold clT; rw [hI' 110 (by omega), hI' 111 (by omega)]; exact a5
  · exact kiC.nm a6 (hI' _ (by omega)) (hI' _ (by omega))
  · unfold clN; rw [hI' 100 (by omega), hI' 170 (by omega), hI' 171 (by omega)]; exact a7
  · obtain ⟨c1, c2, c3⟩ := a8 r hr
    have hD := aD_20 hO r
    refine ⟨hmk r (by omega) c1, c2.nm (hI' _ (by omega)) (hI' _ (by omega)) (hI' _ (by omega)), c3.nm (fun y hy => ?_) (by omega)⟩
    have q := hF y (hn y (by have := rnN_rng hy (by omega); omega))
    exact ⟨q.1, q.2.1⟩
  · unfold clB; rw [hI' 150 (by omega)]
    rcases a9 with a | ⟨a, b⟩
    · exact Or.inl a
    · exact Or.inr ⟨a, b.nm (fun y h1 h2 => hI' y (by omega))⟩
  · rw [hR' 100 (by omega)] at hw
    exact (a10 hw).nm (fun y h1 h2 => hI' y (by omega))
/-! what the state keeps -/
theorem csO.bg {S : cS} (h : csO S) {u : Nat} (hu : u < 288) : csO (bgS S.1 S.1.2.2.1 u, S.2) := ⟨h.1, h.2.1, h.2.2.1, h.2.2.2.1, hu, h.2.2.2.2.2⟩
theorem csO.fd {S : cS} (h : csO S) {a b c d e : Int32} (ht : S.2.2.1 ≤ 380) : csO (fdS S a b c d e) := ⟨h.1, h.2.1, h.2.2.1, h.2.2.2.1, h.2.2.2.2.1, show S.2.2.1 + 20 ≤ 400 by omega, h.2.2.2.2.2.2⟩
theorem csO.im {S : cS} (h : csO S) (hk : S.2.2.2.2.2.1 < 3) : csO (imS S) := by
  obtain ⟨a1, a2, a3, a4, a5, a6, a7, a8, a9⟩ := h
  refine ⟨a1, a2, a3, a4, a5, a6, hk, fun i hi => ?_, fun i j hij hj => ?_⟩
  · have hi' : i < S.2.2.2.2.2.1 + 1 := hi
    show ((if i = S.2.2.2.2.2.1 then (S.1.2.2.1, S.1.2.2.2.2) else S.2.2.2.2.2.2 i)).1 ≤ S.1.2.2.1 ∧ ((if i = S.2.2.2.2.2.1 then (S.1.2.2.1, S.1.2.2.2.2) else S.2.2.2.2.2.2 i)).2 < 288
    by_cases e : i = S.2.2.2.2.2.1
    · rw [if_pos e]; exact ⟨Nat.le_refl _, a5⟩
    · rw [if_neg e]; exact a8 i (by omega)
  · have hj' : j < S.2.2.2.2.2.1 + 1 := hj
    show ((if i = S.2.2.2.2.2.1 then (S.1.2.2.1, S.1.2.2.2.2) else S.2.2.2.2.2.2 i)).1 ≤ ((if j = S.2.2.2.2.2.1 then (S.1.2.2.1, S.1.2.2.2.2) else S.2.2.2.2.2.2 j)).1
    by_cases e : j = S.2.2.2.2.2.1
    · rw [if_pos e]
      by_cases e' : i = S.2.2.2.2.2.1
      · rw [if_pos e']; exact Nat.le_refl _
      · rw [if_neg e']; exact (a8 i (by omega)).1
    · rw [if_neg e, if_neg (by omega)]; exact a9 i j hij (by omega)
theorem csO.re {S : cS} (h : csO S) {i : Nat} (hi : S.2.2.2.2.2.1 = i + 1) : csO (reS S i) := by
  obtain ⟨a1, a2, a3, a4, a5, a6, a7, a8, a9⟩ := h
  have h1 := a8 i (by omega)
  refine ⟨a1, a2, Nat.le_trans h1.1 a3, a4, h1.2, a6, show i ≤ 3 by omega, fun j hj => ?_, fun j k hjk hk => ?_⟩
  · have hj' : j < i := hj
    exact ⟨a9 j i (by omega) (by omega), (a8 j (by omega)).2⟩
  · have hk' : k < i := hk
    exact a9 j k hjk (by omega)
theorem csO.kt {S : cS} (h : csO S) {Sk : kst} {tf g : Nat → Nat} (hk : kAll Sk tf g) : csO (ktS S tf g) := by
  obtain ⟨a1, a2, a3, a4, a5, a6, a7, a8, a9⟩ := h
  obtain ⟨k1, k2, k3, k4, k5⟩ := hk
  exact ⟨k2, ⟨fun h hh => rfl, k3⟩, a3, a4, show 12 * tf 8 < 288 by omega, Nat.zero_le _, Nat.zero_le _, fun i hi => absurd hi (Nat.not_lt_zero _), fun i j _ hj => absurd hj (Nat.not_lt_zero _)⟩
theorem csO_0 : csO cS0 := by
  obtain ⟨k1, k2, k3, k4, k5⟩ := g0K_all
  exact ⟨k2, ⟨fun h hh => rfl, k3⟩, Nat.zero_le _, fun r => ⟨Nat.zero_le _, fun k hk => absurd hk (Nat.not_lt_zero _)⟩, show 72 < 288 by omega, Nat.zero_le _, Nat.zero_le _, fun i hi => absurd hi (Nat.not_lt_zero _), fun i j _ hj => absurd hj (Nat.not_lt_zero _)⟩
