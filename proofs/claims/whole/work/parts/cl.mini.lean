/-! ===== the model's constructor: its rows ===== -/
abbrev mEn : Type := Nat × (Nat → Prop) × (bl_Mem → Prop)
def mIn (s s1 : bl_Mem) (m : Nat) (L : List mEn) : Prop :=
  eqF s s1 (fun y => y = m ∨ ∃ e ∈ L, e.2.1 y) ∧ s1.2.2.2.1 m = 12 ∧ s1.1 m = s.1 m ∧ ∀ e ∈ L, s1.2.2.1 m e.1 = some (m + e.1) ∧ (∀ y, e.2.1 y → y ≠ m) ∧ ∃ s0, e.2.2 s0 ∧ (∀ y, e.2.1 y → s0.2.2.2.1 y ≠ 0) ∧ eqF s0 s1 (fun y => ¬ e.2.1 y)
theorem mIn.step {s s1 s2 : bl_Mem} {m k : Nat} {L : List mEn} {nm : Nat → Prop} {Q : bl_Mem → Prop} (h : mIn s s1 m L) (hF : eqF s1 s2 nm) (h0 : ∀ y, nm y → s1.2.2.2.1 y = 0) (h1 : ∀ y, nm y → s2.2.2.2.1 y ≠ 0) (hm : ∀ y, nm y → y ≠ m) (hQ : Q s2) (hk : ∀ e ∈ L, e.1 ≠ k) : mIn s (bl_pv s2 m k (.ref (m + k))) m ((k, nm, Q) :: L) := by
  obtain ⟨a1, a2, a3, a4⟩ := h
  have hpv := @eqF_pv s2 m k (.ref (m + k))
  have hmm := hF m (fun q => hm m q rfl)
  refine ⟨?_, ?_, ?_, fun e he => ?_⟩
  · refine (a1.mono (fun y hy => ?_)).trans ((hF.mono (fun y hy => ?_)).trans (hpv.mono (fun y hy => Or.inl hy)))
    · rcases hy with q | ⟨e, he, q⟩
      · exact Or.inl q
      · exact Or.inr ⟨e, List.mem_cons_of_mem _ he, q⟩
    · exact Or.inr ⟨(k, nm, Q), List.mem_cons_self, hy⟩
  · rw [pv_K, hmm.2.2.2.1]; exact a2
  · show s2.1 m = _; rw [hmm.1]; exact a3
  · rcases List.mem_cons.mp he with q | q
    · subst q
      refine ⟨?_, hm, s2, hQ, h1, hpv.mono (fun y hy q => hm y q hy)⟩
      show bl_up2 s2.2.2.1 m k (some (m + k)) m k = _
      rw [bl_up2_at]
    · obtain ⟨c1, c2, s0, c3, c4, c5⟩ := a4 e q
      refine ⟨?_, c2, s0, c3, c4, c5.trans ?_⟩
      · show bl_up2 s2.2.2.1 m k (some (m + k)) m e.1 = _
        rw [bl_up2_nk (hk e q), hmm.2.2.1]; exact c1
      · intro y hy
        have hy' : e.2.1 y := Classical.not_not.mp hy
        have hz : ¬ nm y := fun z => c4 y hy' (((c5 y hy).2.2.2.1).symm.trans (h0 y z))
        obtain ⟨b1, b2, b3, b4, b5⟩ := hF y hz
        obtain ⟨e1, e2, e3, e4, e5⟩ := hpv y (c2 y hy')
        exact ⟨e1.trans b1, e2.trans b2, e3.trans b3, e4.trans b4, e5.trans b5⟩
def mR1 (m k kd n : Nat) : mEn := (k, fun y => y = m + k, fun s => s.2.2.2.1 (m + k) = kd ∧ s.2.2.2.2 (m + k) = n ∧ ∀ j, s.1 (m + k) j = 0)
def mR2 (m k b n len : Nat) : mEn := (k, fun y => y = m + k ∨ (m + b ≤ y ∧ y < m + b + n), fun s => s.2.2.2.1 (m + k) = 25 ∧ s.2.2.2.2 (m + k) = n ∧ ∀ i, i < n → s.2.2.1 (m + k) i = some (m + b + i) ∧ s.2.2.2.1 (m + b + i) = 20 ∧ s.2.2.2.2 (m + b + i) = len)
def mR3 (m : Nat) : mEn := (43, fun y => y = m + 43 ∨ (m + 200 ≤ y ∧ y < m + 321) ∨ (m + 1000 ≤ y ∧ y < m + 49763), fun s => (s.2.2.2.1 (m + 43) = 26 ∧ s.2.2.2.2 (m + 43) = 121) ∧ (∀ u, u < 121 → s.2.2.1 (m + 43) u = some (m + 200 + u) ∧ s.2.2.2.1 (m + 200 + u) = 25 ∧ s.2.2.2.2 (m + 200 + u) = 403) ∧ ∀ u w, u < 121 → w < 403 → s.2.2.1 (m + 200 + u) w = some (m + 1000 + u * 403 + w) ∧ s.2.2.2.1 (m + 1000 + u * 403 + w) = 20 ∧ s.2.2.2.2 (m + 1000 + u * 403 + w) = 32)
theorem mIn.row {s s1 : bl_Mem} {m k kd n n' : Nat} {L : List mEn} (h : mIn s s1 m L) (hk0 : 0 < k) (hkd : kd ≠ 0) (hn : n' = n) (h0 : s1.2.2.2.1 (m + k) = 0) (hk : ∀ e ∈ L, e.1 ≠ k) : mIn s (bl_pv (bl_mk s1 (m + k) kd n') m k (.ref (m + k))) m (mR1 m k kd n :: L) := by
  subst hn
  refine mIn.step h eqF_mk (fun y hy => ?_) (fun y hy => ?_) (fun y hy => ?_) ⟨bl_mk_Keq, bl_mk_Neq, fun j => bl_mk_I0⟩ hk
  · rw [hy]; exact h0
  · rw [hy, bl_mk_Keq]; exact hkd
  · rw [hy]; omega
theorem eqF_mk2 {s : bl_Mem} {o r0 n k : Nat} : eqF s (bl_mk2 s o r0 n k) (fun y => y = o ∨ (r0 ≤ y ∧ y < r0 + n)) := fun y hy => by
  have h1 : ¬ y = o := fun e => hy (Or.inl e)
  have h2 : ¬ (r0 ≤ y ∧ y < r0 + n) := fun e => hy (Or.inr e)
  unfold bl_mk2; dsimp only
  refine ⟨?_, ?_, ?_, ?_, ?_⟩
  · funext j; rw [if_neg hy]
  · funext j; rw [if_neg hy]
  · funext j; rw [if_neg h1, if_neg h2]
  · rw [if_neg h1, if_neg h2]
  · rw [if_neg h1, if_neg h2]
theorem mIn.row2 {s s1 : bl_Mem} {m k b n len n' len' : Nat} {L : List mEn} (h : mIn s s1 m L) (hk0 : 0 < k) (hb : k < b) (hn : n' = n) (hl : len' = len) (h0 : s1.2.2.2.1 (m + k) = 0) (h0' : ∀ y, m + b ≤ y → y < m + b + n → s1.2.2.2.1 y = 0) (hk : ∀ e ∈ L, e.1 ≠ k) : mIn s (bl_pv (bl_mk2 s1 (m + k) (m + b) n' len') m k (.ref (m + k))) m (mR2 m k b n len :: L) := by
  subst hn hl
  refine mIn.step h eqF_mk2 (fun y hy => ?_) (fun y hy => ?_) (fun y hy => ?_) ⟨?_, ?_, fun i hi => ⟨?_, ?_, ?_⟩⟩ hk
  · rcases hy with e | e
    · rw [e]; exact h0
    · exact h0' y e.1 e.2
  · unfold bl_mk2; dsimp only
    rcases hy with e | e
    · rw [if_pos e]; decide
    · rw [if_neg (by omega), if_pos e]; decide
  · omega
  · unfold bl_mk2; dsimp only; rw [if_pos rfl]
  · unfold bl_mk2; dsimp only; rw [if_pos rfl]
  · unfold bl_mk2; dsimp only; rw [if_pos rfl, if_pos hi]
  · unfold bl_mk2; dsimp only; rw [if_neg (by omega), if_pos (by omega)]
  · unfold bl_mk2; dsimp only; rw [if_neg (by omega), if_pos (by omega)]
theorem eqF_mk3 {s : bl_Mem} {o m0 r0 n k h : Nat} : eqF s (bl_mk3 s o m0 r0 n k h) (fun y => y = o ∨ (m0 ≤ y ∧ y < m0 + n) ∨ (r0 ≤ y ∧ y < r0 + n * k)) := fun y hy => by
  have h1 : ¬ y = o := fun e => hy (Or.inl e)
  have h2 : ¬ (m0 ≤ y ∧ y < m0 + n) := fun e => hy (Or.inr (Or.inl e))
  have h3 : ¬ (r0 ≤ y ∧ y < r0 + n * k) := fun e => hy (Or.inr (Or.inr e))
  unfold bl_mk3; dsimp only
  refine ⟨?_, ?_, ?_, ?_, ?_⟩
  · funext j; rw [if_neg hy]
  · funext j; rw [if_neg hy]
  · funext j; rw [if_neg h1, if_neg h2, if_neg h3]
  · rw [if_neg h1, if_neg h2, if_neg h3]
  · rw [if_neg h1, if_neg h2, if_neg h3]
theorem mIn.row3 {s s1 : bl_Mem} {m n k h : Nat} {L : List mEn} (hh : mIn s s1 m L) (hn : n = 121) (hk' : k = 403) (hl : h = 32) (h0 : s1.2.2.2.1 (m + 43) = 0) (h0' : ∀ y, m + 200 ≤ y → y < m + 321 → s1.2.2.2.1 y = 0) (h0'' : ∀ y, m + 1000 ≤ y → y < m + 49763 → s1.2.2.2.1 y = 0) (hk : ∀ e ∈ L, e.1 ≠ 43) : mIn s (bl_pv (bl_mk3 s1 (m + 43) (m + 200) (m + 1000) n k h) m 43 (.ref (m + 43))) m (mR3 m :: L) := by
  have hT : n * k = 48763 := by rw [hn, hk']
  refine mIn.step hh (nm := fun y => y = m + 43 ∨ (m + 200 ≤ y ∧ y < m + 321) ∨ (m + 1000 ≤ y ∧ y < m + 49763)) (eqF_mk3.mono (fun y hy => by omega)) (fun y hy => ?_) (fun y hy => ?_) (fun y hy => ?_) ⟨⟨?_, ?_⟩, fun u hu => ⟨?_, ?_, ?_⟩, fun u w hu hw => ⟨?_, ?_, ?_⟩⟩ hk
  · rcases hy with e | e | e
    · rw [e]; exact h0
    · exact h0' y e.1 e.2
    · exact h0'' y e.1 e.2
  · unfold bl_mk3; dsimp only
    rcases hy with e | e | e
    · rw [if_pos e]; decide
    · rw [if_neg (by omega), if_pos (by omega)]; decide
    · rw [if_neg (by omega), if_neg (by omega), if_pos (by omega)]; decide
  · omega
  · unfold bl_mk3; dsimp only; rw [if_pos rfl]
  · unfold bl_mk3; dsimp only; rw [if_pos rfl]; exact hn
  · unfold bl_mk3; dsimp only; rw [if_pos rfl, if_pos (by omega)]
  · unfold bl_mk3; dsimp only; rw [if_neg (by omega), if_pos (by omega)]
  · unfold bl_mk3; dsimp only; rw [if_neg (by omega), if_pos (by omega)]; exact hk'
  · unfold bl_mk3; dsimp only; rw [if_neg (by omega), if_pos (by omega), if_pos (by omega), show m + 200 + u - (m + 200) = u by omega, hk']
  · unfold bl_mk3; dsimp only
    have : u * 403 + w < 48763 := by omega
    rw [if_neg (by omega), if_neg (by omega), if_pos (by omega)]
  · unfold bl_mk3; dsimp only
    have : u * 403 + w < 48763 := by omega
    rw [if_neg (by omega), if_neg (by omega), if_pos (by omega)]; exact hl
