/-! ===== the law's loop: what holds at its head ===== -/
/-- what was there stays there -/
theorem bl_MC_ext {G : bl_G} {l : Launch} {d : Nat} {M : bl_MR} {as : List Value} {σ : bl_Mem} {b : Nat × Nat} {Q : bl_Out → bl_Mem → Prop} (h : bl_MC G l d M as σ b Q) : bl_MC G l d M as σ b (fun o s' => Q o s' ∧ ∀ a, σ.2.2.2.1 a ≠ 0 → s'.2.2.2.1 a ≠ 0) := by
  intro φ hl p e ha hc hk s m args below hf happ hP hK
  obtain ⟨k, o, h1, h2, h3, hQ⟩ := h φ hl p e ha hc hk s m args below hf happ hP hK
  refine ⟨k, o, h1, h2, h3, ?_⟩
  rcases hQ with ⟨⟨⟨φ1, σ1, v1, q1, q2, q3, q6, q7⟩, q4⟩, q5⟩ | ⟨q, e1, E, ce, L, ⟨⟨φ1, σ1, q2, q3, q6⟩, q4⟩, q5⟩
  · exact Or.inl ⟨⟨⟨φ1, σ1, v1, q1, ⟨q2, fun a ha => (q6 a ha).2⟩, q3, q6, q7⟩, q4⟩, q5⟩
  · exact Or.inr ⟨q, e1, E, ce, L, ⟨⟨φ1, σ1, ⟨q2, fun a ha => (q6 a ha).2⟩, q3, q6⟩, q4⟩, q5⟩
/-- the reference's state -/
def lwM (s : bl_Mem) (S : cS) : Prop := mdS s.2.2.1 s.2.2.2.1 s.2.2.2.2 10000 ∧ mdK s.1 10000 S.1 ∧ s.1 10000 1 = nI S.2.2.1 ∧ s.1 10008 = S.2.2.2.1 ∧ s.1 10000 3 = S.2.2.2.2.1 ∧ s.1 10000 15 = nI S.2.2.2.2.2.1 ∧ S.2.2.2.2.2.1 ≤ 3 ∧ ∀ i, i < S.2.2.2.2.2.1 → s.1 (10110 + i) 0 = nI (S.2.2.2.2.2.2 i).1 ∧ s.1 (10110 + i) 1 = nI (S.2.2.2.2.2.2 i).2
def lwI (s : bl_Mem) (S : cS) (h z : Nat) : Prop := clI s S h ∧ csO S ∧ lwM s S ∧ (s.2.2.2.1 920 = 21 ∧ s.2.2.2.2 920 = 1 ∧ s.2.2.2.1 930 = 105) ∧ exF s z
/-- names that are not made yet -/
def pW (K : Nat → Nat) : Nat := if K 200 = 0 then 1 else 0
def pQ (K : Nat → Nat) (r : Nat) : Nat := if K (300 + 10 * r) = 0 then 1 else 0
def pC (K : Nat → Nat) (n : Nat) : Nat := 5 * n + 9 * pW K + 154 * (pQ K 0 + pQ K 1 + pQ K 2 + pQ K 3)
def pS (K : Nat → Nat) (n : Nat) : Nat := 30 * n + 38847 * pW K + 4379 * (pQ K 0 + pQ K 1 + pQ K 2 + pQ K 3)
theorem pW_le {K K' : Nat → Nat} (h : ∀ a, K a ≠ 0 → K' a ≠ 0) : pW K' ≤ pW K := by
  unfold pW
  by_cases e : K 200 = 0
  · rw [if_pos e]; split <;> omega
  · rw [if_neg e, if_neg (h 200 e)]; omega
theorem pQ_le {K K' : Nat → Nat} (h : ∀ a, K a ≠ 0 → K' a ≠ 0) (r : Nat) : pQ K' r ≤ pQ K r := by
  unfold pQ
  by_cases e : K (300 + 10 * r) = 0
  · rw [if_pos e]; split <;> omega
  · rw [if_neg e, if_neg (h _ e)]; omega
theorem p_le {K K' : Nat → Nat} (h : ∀ a, K a ≠ 0 → K' a ≠ 0) (n : Nat) : pC K' n + 5 ≤ pC K (n + 1) ∧ pS K' n + 30 ≤ pS K (n + 1) := by
  have h0 := pW_le h
  have h1 := pQ_le h 0
  have h2 := pQ_le h 1
  have h3 := pQ_le h 2
  have h4 := pQ_le h 3
  unfold pC pS
  omega
theorem p_leW {K K' : Nat → Nat} (h : ∀ a, K a ≠ 0 → K' a ≠ 0) (h1 : K 200 = 0) (h2 : K' 200 ≠ 0) (n : Nat) : pC K' n + 9 ≤ pC K (n + 1) ∧ pS K' n + 38847 ≤ pS K (n + 1) := by
  have h0 : pW K = 1 := if_pos h1
  have h0' : pW K' = 0 := if_neg h2
  have h1 := pQ_le h 0
  have h2 := pQ_le h 1
  have h3 := pQ_le h 2
  have h4 := pQ_le h 3
  unfold pC pS
  omega
theorem p_leQ {K K' : Nat → Nat} (h : ∀ a, K a ≠ 0 → K' a ≠ 0) {r : Nat} (hr : r < 4) (h1 : K (300 + 10 * r) = 0) (h2 : K' (300 + 10 * r) ≠ 0) (n : Nat) : pC K' n + 154 ≤ pC K (n + 1) ∧ pS K' n + 4379 ≤ pS K (n + 1) := by
  have g0 : pQ K r = 1 := if_pos h1
  have g0' : pQ K' r = 0 := if_neg h2
  have g := pW_le h
  have h1 := pQ_le h 0
  have h2 := pQ_le h 1
  have h3 := pQ_le h 2
  have h4 := pQ_le h 3
  unfold pC pS
  obtain rfl | rfl | rfl | rfl : r = 0 ∨ r = 1 ∨ r = 2 ∨ r = 3 := by omega
  · omega
  · omega
  · omega
  · omega
theorem lwM.of {s s' : bl_Mem} {S : cS} (h : lwM s S) (hI : ∀ y, 10000 ≤ y → y < 60000 → s'.1 y = s.1 y ∧ s'.2.2.1 y = s.2.2.1 y ∧ s'.2.2.2.1 y = s.2.2.2.1 y ∧ s'.2.2.2.2 y = s.2.2.2.2 y) : lwM s' S := by
  obtain ⟨a1, a2, a3, a4, a5, a6, a8, a7⟩ := h
  have h1 : ∀ y, 10000 ≤ y → y < 60000 → s'.1 y = s.1 y := fun y q1 q2 => (hI y q1 q2).1
  have hR : ∀ y, 10000 ≤ y → y < 60000 → s'.2.2.1 y = s.2.2.1 y := fun y q1 q2 => (hI y q1 q2).2.1
  have hK : ∀ y, 10000 ≤ y → y < 60000 → s'.2.2.2.1 y = s.2.2.2.1 y := fun y q1 q2 => (hI y q1 q2).2.2.1
  have hN : ∀ y, 10000 ≤ y → y < 60000 → s'.2.2.2.2 y = s.2.2.2.2 y := fun y q1 q2 => (hI y q1 q2).2.2.2
  refine ⟨?_, mdK.same a2 (fun x q1 q2 => h1 x (by omega) (by omega)) (fun r hr => h1 _ (by omega) (by omega)) (by rw [h1 10000 (by omega) (by omega)]) (by rw [h1 10000 (by omega) (by omega)]), ?_, ?_, ?_, ?_, a8, fun i hi => ?_⟩
  · have g43 := a1.g43
    have g44 := a1.g44
    have hA : ∀ {k kd n}, k < 1000 → mdA s.2.2.1 s.2.2.2.1 s.2.2.2.2 10000 k kd n → mdA s'.2.2.1 s'.2.2.2.1 s'.2.2.2.2 10000 k kd n := fun {k kd n} hk q => by
      unfold mdA at q ⊢
      rw [hR 10000 (by omega) (by omega), hK (10000 + k) (by omega) (by omega), hN (10000 + k) (by omega) (by omega)]; exact q
    have hB : ∀ {k o n j}, k < 1000 → o < 200 → n < 10 → mdB s.2.2.1 s.2.2.2.1 s.2.2.2.2 10000 k o n j → mdB s'.2.2.1 s'.2.2.2.1 s'.2.2.2.2 10000 k o n j := fun {k o n j} hk ho hn q => by
      unfold mdB at q ⊢
      intro i hi
      rw [hR (10000 + k) (by omega) (by omega), hK (10000 + o + i) (by omega) (by omega), hN (10000 + o + i) (by omega) (by omega)]; exact q i hi
    refine ⟨by omega, (hK 10000 (by omega) (by omega)).trans a1.2.1, hA (by omega) a1.f8, hA (by omega) a1.f9, hA (by omega) a1.f10, hA (by omega) a1.f11, hA (by omega) a1.f12, hA (by omega) a1.f16, hA (by omega) a1.f17, hA (by omega) a1.f18, hA (by omega) a1.f19, hA (by omega) a1.f31, hA (by omega) a1.f32, hA (by omega) a1.f33, hA (by omega) a1.f34, hA (by omega) a1.f35, hA (by omega) a1.f36, hA (by omega) a1.f37, hA (by omega) a1.f38, hA (by omega) a1.f39, hA (by omega) a1.f40, hA (by omega) a1.f41, hA (by omega) a1.f42, hA (by omega) a1.f43, hA (by omega) a1.f44, hA (by omega) a1.f51, hA (by omega) a1.f52, hA (by omega) a1.f53, hA (by omega) a1.f54, hA (by omega) a1.f55, hA (by omega) a1.f56, hA (by omega) a1.f57, hA (by omega) a1.f58, hA (by omega) a1.f59, hB (by omega) (by omega) (by omega) a1.g18, hB (by omega) (by omega) (by omega) a1.g19, hB (by omega) (by omega) (by omega) a1.g51, hB (by omega) (by omega) (by omega) a1.g52, fun u hu => ?_, fun u w hu hw => ?_⟩
    · rw [hR _ (by omega) (by omega), hK _ (by omega) (by omega), hN _ (by omega) (by omega)]; exact g43 u hu
    · have hm : u * 403 ≤ 120 * 403 := Nat.mul_le_mul_right _ (by omega)
      rw [hR (10000 + 200 + u) (by omega) (by omega), hK _ (by omega) (by omega), hN _ (by omega) (by omega)]; exact g44 u w hu hw
  · rw [h1 10000 (by omega) (by omega)]; exact a3
  · rw [h1 10008 (by omega) (by omega)]; exact a4
  · rw [h1 10000 (by omega) (by omega)]; exact a5
  · rw [h1 10000 (by omega) (by omega)]; exact a6
  · rw [h1 (10110 + i) (by omega) (by omega)]; exact a7 i hi
theorem lwM.lw {s s' : bl_Mem} {S : cS} (h : lwM s S) (hF : lwF s s') : lwM s' S := h.of (fun y q1 q2 => by
  obtain ⟨b1, b2, b3, b4, b5⟩ := hF y (by omega) (Or.inr (by omega))
  exact ⟨b1, b3, b4, b5⟩)
theorem lwM.cf {s s' : bl_Mem} {S : cS} (h : lwM s S) (hF : cfF s s') : lwM s' S := h.of (fun y q1 q2 => by
  obtain ⟨b1, b2, b3, b4, b5⟩ := hF y (by omega) (Or.inr (by omega))
  exact ⟨b1, b3, b4, b5⟩)
/-- the reference has changed its own alone -/
theorem lwI.md {I I' : Nat → Nat → Int32} {J J' : Nat → Nat → Int64} {R : Nat → Nat → Option Nat} {K N : Nat → Nat} {S : cS} {h z : Nat} (hI : clI (I, J, R, K, N) S h) (hO : csO S) (hX : K 920 = 21 ∧ N 920 = 1 ∧ K 930 = 105) (hz : exF (I, J, R, K, N) z) (hF : ∀ y, y < 10000 → I' y = I y ∧ J' y = J y) (hM : lwM (I', J', R, K, N) S) : lwI (I', J', R, K, N) S h z :=
  ⟨hI.out (p := fun y => 10000 ≤ y) hO (fun y hy => ⟨(hF y (by omega)).1, (hF y (by omega)).2, rfl, rfl, rfl⟩) (fun y hy => Or.inr (by omega)), hO, hM, hX, hz⟩
theorem lwM.G {I I' : Nat → Nat → Int32} {J J' : Nat → Nat → Int64} {R : Nat → Nat → Option Nat} {K N : Nat → Nat} {S : cS} (h : lwM (I, J, R, K, N) S) (hG : gtG I I' J J' 10000) : lwM (I', J', R, K, N) S := by
  obtain ⟨a1, a2, a3, a4, a5, a6, a8, a7⟩ := h
  obtain ⟨g1, g2, g3⟩ := hG
  refine ⟨a1, a2.G ⟨g1, g2, g3⟩, (g2 1 (by omega) (by omega)).trans a3, (g1 10008 (by omega) (by omega)).trans a4, (g2 3 (by omega) (by omega)).trans a5, (g2 15 (by omega) (by omega)).trans a6, a8, fun i hi => ?_⟩
  show I' (10110 + i) 0 = _ ∧ I' (10110 + i) 1 = _
  rw [g1 (10110 + i) (by omega) (by omega)]; exact a7 i hi
theorem nI_z {n : Nat} (hn : n < 1000) (h : nI n = 0) : n = 0 := by
  have e : (nI n).toNatClampNeg = n := nI_clamp (by omega)
  rw [h] at e; exact e.symm
