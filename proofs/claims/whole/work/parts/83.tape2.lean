/-! ===== Tape: words ===== -/
def byw (j : Nat) : List Int32 := bl_byt.getD j []
/-- the words of clauses and steps by their places among the constants -/
def cwj (c : Nat) : Nat := ([0, 8, 8, 1, 2, 3, 4, 5, 6, 7] : List Nat).getD c 8
def swj (c : Nat) : Nat := if c < 8 then 9 + c else 8
def fnd (p : Nat → Bool) : Nat → Nat → Int32
  | 0, _ => zI (-1)
  | f + 1, c => if p c then nI c else fnd p f (c + 1)
theorem byw_get {j : Nat} (h : j < 17) : bl_byt[j]? = some (byw j) := by
  have : ∀ j : Fin 17, bl_byt[j.1]? = some (byw j.1) := by decide +kernel
  exact this ⟨j, h⟩
theorem byw_len {j : Nat} (h : j < 17) : (byw j).length ≤ 6 := by
  have : ∀ j : Fin 17, (byw j.1).length ≤ 6 := by decide +kernel
  exact this ⟨j, h⟩
def wisb (B : Nat → Int32) (p e : Nat) (w : List Int32) : Bool := decide (w ≠ [] ∧ e - p = w.length ∧ ∀ i, i < w.length → B (p + i) = w.getD i 0)
theorem wisb_t {B : Nat → Int32} {p e : Nat} {w : List Int32} (h : wis B p e w) : wisb B p e w = true := decide_eq_true h
theorem wisb_f {B : Nat → Int32} {p e : Nat} {w : List Int32} (h : ¬ wis B p e w) : ¬ wisb B p e w = true := fun q => h (by unfold wisb at q; have := of_decide_eq_true q; exact this)
theorem wisb_o {B : Nat → Int32} {p e : Nat} {w : List Int32} (h : wisb B p e w = true) : wis B p e w := by
  unfold wisb at h
  have := of_decide_eq_true h
  exact this
/-- the kind of the clause, of the step, that the word from p to e names; -1: none -/
def ckd (B : Nat → Int32) (p e : Nat) : Int32 := fnd (fun c => wisb B p e (byw (cwj c))) 10 0
def skd (B : Nat → Int32) (p e : Nat) : Int32 := fnd (fun c => wisb B p e (byw (swj c))) 8 0
theorem fnd_rng {p : Nat → Bool} : ∀ f c, (fnd p f c = zI (-1)) ∨ ∃ k, c ≤ k ∧ k < c + f ∧ p k = true ∧ fnd p f c = nI k
  | 0, _ => Or.inl rfl
  | f + 1, c => by
    by_cases h : p c = true
    · refine Or.inr ⟨c, Nat.le_refl _, by omega, h, ?_⟩
      show (if p c then nI c else fnd p f (c + 1)) = _
      rw [if_pos h]
    · rcases fnd_rng (p := p) f (c + 1) with e | ⟨k, k1, k2, k3, k4⟩
      · left; show (if p c then nI c else fnd p f (c + 1)) = _; rw [if_neg h]; exact e
      · refine Or.inr ⟨k, by omega, by omega, k3, ?_⟩
        show (if p c then nI c else fnd p f (c + 1)) = _
        rw [if_neg h]; exact k4
theorem ckd_rng (B : Nat → Int32) (p e : Nat) : ckd B p e = zI (-1) ∨ ∃ k, k ≤ 9 ∧ k ≠ 1 ∧ k ≠ 2 ∧ ckd B p e = nI k := by
  unfold ckd
  rcases fnd_rng (p := fun c => wisb B p e (byw (cwj c))) 10 0 with h | ⟨k, k1, k2, k3, k4⟩
  · exact Or.inl h
  · refine Or.inr ⟨k, by omega, ?_, ?_, k4⟩
    · rintro rfl; exact (wisb_o k3).1 (by decide +kernel)
    · rintro rfl; exact (wisb_o k3).1 (by decide +kernel)
theorem skd_rng (B : Nat → Int32) (p e : Nat) : skd B p e = zI (-1) ∨ ∃ k, k ≤ 7 ∧ skd B p e = nI k := by
  unfold skd
  rcases fnd_rng (p := fun c => wisb B p e (byw (swj c))) 8 0 with h | ⟨k, k1, k2, k3, k4⟩
  · exact Or.inl h
  · exact Or.inr ⟨k, by omega, k4⟩
section TAPE2
variable {G : bl_G} {l : Launch} {d t : Nat} {I : Nat → Nat → Int32} {J : Nat → Nat → Int64} {R : Nat → Nat → Option Nat} {K N : Nat → Nat} {h fk fp wa : Int32} {n i : Nat}
theorem c_Tape_clauseWord {c : Nat} {x : Int32} (hst : ∀ j, j < 17 → K (950 + j) = 110 + j) (hx : x = nI c) (hc : c ≤ 9) : bl_MC G l d mX8_clauseWord [.int x] (I, J, R, K, N) (0, 0) (fun o σ' => o = .inl (some (.ref (950 + cwj c))) ∧ σ' = (I, J, R, K, N)) := by
  subst hx
  refine bl_MC_intro (by decide +kernel) rfl (Nat.le_of_ble_eq_true rfl) ?_
  refine bl_go oX8_clauseWord 80 [] rfl ?_
  refine ⟨fun h1 => ?_, fun j1 o1 ho1 h1 _ => ?_⟩
  · try simp (disch := omega) only [zI_n, zI_o, zI_lit, zI_neg, zI_add, zI_sub, zI_mul, zI_lt, zI_le, zI_eq, zI_clamp, zI_in, zI_div, zI_rem, lg_lt0, lg_gt0, lg_eq0, lg_le0, lg_ge0, Int.toNat_natCast, ge_iff_le, gt_iff_lt, List.length_cons, List.length_nil, bl_up2_at, bl_up2_nk, bl_up2_nx, zI_toInt] at h1
    first
    | (exfalso; omega)
    | (refine ⟨950 + 8, hst 8 (by decide), ?_⟩
       try show _ ∧ _
       try dsimp only [bl_pv]
       first
       | (have e : c = 0 := by omega
          subst e; exact ⟨rfl, rfl⟩)
       | (have e : c = 3 := by omega
          subst e; exact ⟨rfl, rfl⟩)
       | (have e : c = 4 := by omega
          subst e; exact ⟨rfl, rfl⟩)
       | (have e : c = 5 := by omega
          subst e; exact ⟨rfl, rfl⟩)
       | (have e : c = 6 := by omega
          subst e; exact ⟨rfl, rfl⟩)
       | (have e : c = 7 := by omega
          subst e; exact ⟨rfl, rfl⟩)
       | (have e : c = 8 := by omega
          subst e; exact ⟨rfl, rfl⟩)
       | (have e : c = 9 := by omega
          subst e; exact ⟨rfl, rfl⟩)
       | (have e : c = 1 := by omega
          subst e; exact ⟨rfl, rfl⟩)
       | (have e : c = 2 := by omega
          subst e; exact ⟨rfl, rfl⟩))
  · try simp (disch := omega) only [zI_n, zI_o, zI_lit, zI_neg, zI_add, zI_sub, zI_mul, zI_lt, zI_le, zI_eq, zI_clamp, zI_in, zI_div, zI_rem, lg_lt0, lg_gt0, lg_eq0, lg_le0, lg_ge0, Int.toNat_natCast, ge_iff_le, gt_iff_lt, List.length_cons, List.length_nil, bl_up2_at, bl_up2_nk, bl_up2_nx, zI_toInt] at h1
    match j1, ho1, h1 with
    | 0, ho1, h1 =>
      cases ho1
      first
      | (exfalso; omega)
      | (refine ⟨950 + 0, hst 0 (by decide), ?_⟩
         try show _ ∧ _
         try dsimp only [bl_pv]
         first
         | (have e : c = 0 := by omega
            subst e; exact ⟨rfl, rfl⟩)
         | (have e : c = 3 := by omega
            subst e; exact ⟨rfl, rfl⟩)
         | (have e : c = 4 := by omega
            subst e; exact ⟨rfl, rfl⟩)
         | (have e : c = 5 := by omega
            subst e; exact ⟨rfl, rfl⟩)
         | (have e : c = 6 := by omega
            subst e; exact ⟨rfl, rfl⟩)
         | (have e : c = 7 := by omega
            subst e; exact ⟨rfl, rfl⟩)
         | (have e : c = 8 := by omega
            subst e; exact ⟨rfl, rfl⟩)
         | (have e : c = 9 := by omega
            subst e; exact ⟨rfl, rfl⟩)
         | (have e : c = 1 := by omega
            subst e; exact ⟨rfl, rfl⟩)
         | (have e : c = 2 := by omega
            subst e; exact ⟨rfl, rfl⟩))
    | 1, ho1, h1 =>
      cases ho1
      first
      | (exfalso; omega)
      | (refine ⟨950 + 8, hst 8 (by decide), ?_⟩
         try show _ ∧ _
         try dsimp only [bl_pv]
         first
         | (have e : c = 0 := by omega
            subst e; exact ⟨rfl, rfl⟩)
         | (have e : c = 3 := by omega
            subst e; exact ⟨rfl, rfl⟩)
         | (have e : c = 4 := by omega
            subst e; exact ⟨rfl, rfl⟩)
         | (have e : c = 5 := by omega
            subst e; exact ⟨rfl, rfl⟩)
         | (have e : c = 6 := by omega
            subst e; exact ⟨rfl, rfl⟩)
         | (have e : c = 7 := by omega
            subst e; exact ⟨rfl, rfl⟩)
         | (have e : c = 8 := by omega
            subst e; exact ⟨rfl, rfl⟩)
         | (have e : c = 9 := by omega
            subst e; exact ⟨rfl, rfl⟩)
         | (have e : c = 1 := by omega
            subst e; exact ⟨rfl, rfl⟩)
         | (have e : c = 2 := by omega
            subst e; exact ⟨rfl, rfl⟩))
    | 2, ho1, h1 =>
      cases ho1
      first
      | (exfalso; omega)
      | (refine ⟨950 + 8, hst 8 (by decide), ?_⟩
         try show _ ∧ _
         try dsimp only [bl_pv]
         first
         | (have e : c = 0 := by omega
            subst e; exact ⟨rfl, rfl⟩)
         | (have e : c = 3 := by omega
            subst e; exact ⟨rfl, rfl⟩)
         | (have e : c = 4 := by omega
            subst e; exact ⟨rfl, rfl⟩)
         | (have e : c = 5 := by omega
            subst e; exact ⟨rfl, rfl⟩)
         | (have e : c = 6 := by omega
            subst e; exact ⟨rfl, rfl⟩)
         | (have e : c = 7 := by omega
            subst e; exact ⟨rfl, rfl⟩)
         | (have e : c = 8 := by omega
            subst e; exact ⟨rfl, rfl⟩)
         | (have e : c = 9 := by omega
            subst e; exact ⟨rfl, rfl⟩)
         | (have e : c = 1 := by omega
            subst e; exact ⟨rfl, rfl⟩)
         | (have e : c = 2 := by omega
            subst e; exact ⟨rfl, rfl⟩))
    | 3, ho1, h1 =>
      cases ho1
      first
      | (exfalso; omega)
      | (refine ⟨950 + 1, hst 1 (by decide), ?_⟩
         try show _ ∧ _
         try dsimp only [bl_pv]
         first
         | (have e : c = 0 := by omega
            subst e; exact ⟨rfl, rfl⟩)
         | (have e : c = 3 := by omega
            subst e; exact ⟨rfl, rfl⟩)
         | (have e : c = 4 := by omega
            subst e; exact ⟨rfl, rfl⟩)
         | (have e : c = 5 := by omega
            subst e; exact ⟨rfl, rfl⟩)
         | (have e : c = 6 := by omega
            subst e; exact ⟨rfl, rfl⟩)
         | (have e : c = 7 := by omega
            subst e; exact ⟨rfl, rfl⟩)
         | (have e : c = 8 := by omega
            subst e; exact ⟨rfl, rfl⟩)
         | (have e : c = 9 := by omega
            subst e; exact ⟨rfl, rfl⟩)
         | (have e : c = 1 := by omega
            subst e; exact ⟨rfl, rfl⟩)
         | (have e : c = 2 := by omega
            subst e; exact ⟨rfl, rfl⟩))
    | 4, ho1, h1 =>
      cases ho1
      first
      | (exfalso; omega)
      | (refine ⟨950 + 2, hst 2 (by decide), ?_⟩
         try show _ ∧ _
         try dsimp only [bl_pv]
         first
         | (have e : c = 0 := by omega
            subst e; exact ⟨rfl, rfl⟩)
         | (have e : c = 3 := by omega
            subst e; exact ⟨rfl, rfl⟩)
         | (have e : c = 4 := by omega
            subst e; exact ⟨rfl, rfl⟩)
         | (have e : c = 5 := by omega
            subst e; exact ⟨rfl, rfl⟩)
         | (have e : c = 6 := by omega
            subst e; exact ⟨rfl, rfl⟩)
         | (have e : c = 7 := by omega
            subst e; exact ⟨rfl, rfl⟩)
         | (have e : c = 8 := by omega
            subst e; exact ⟨rfl, rfl⟩)
         | (have e : c = 9 := by omega
            subst e; exact ⟨rfl, rfl⟩)
         | (have e : c = 1 := by omega
            subst e; exact ⟨rfl, rfl⟩)
         | (have e : c = 2 := by omega
            subst e; exact ⟨rfl, rfl⟩))
    | 5, ho1, h1 =>
      cases ho1
      first
      | (exfalso; omega)
      | (refine ⟨950 + 3, hst 3 (by decide), ?_⟩
         try show _ ∧ _
         try dsimp only [bl_pv]
         first
         | (have e : c = 0 := by omega
            subst e; exact ⟨rfl, rfl⟩)
         | (have e : c = 3 := by omega
            subst e; exact ⟨rfl, rfl⟩)
         | (have e : c = 4 := by omega
            subst e; exact ⟨rfl, rfl⟩)
         | (have e : c = 5 := by omega
            subst e; exact ⟨rfl, rfl⟩)
         | (have e : c = 6 := by omega
            subst e; exact ⟨rfl, rfl⟩)
         | (have e : c = 7 := by omega
            subst e; exact ⟨rfl, rfl⟩)
         | (have e : c = 8 := by omega
            subst e; exact ⟨rfl, rfl⟩)
         | (have e : c = 9 := by omega
            subst e; exact ⟨rfl, rfl⟩)
         | (have e : c = 1 := by omega
            subst e; exact ⟨rfl, rfl⟩)
         | (have e : c = 2 := by omega
            subst e; exact ⟨rfl, rfl⟩))
    | 6, ho1, h1 =>
      cases ho1
      first
      | (exfalso; omega)
      | (refine ⟨950 + 4, hst 4 (by decide), ?_⟩
         try show _ ∧ _
         try dsimp only [bl_pv]
         first
         | (have e : c = 0 := by omega
            subst e; exact ⟨rfl, rfl⟩)
         | (have e : c = 3 := by omega
            subst e; exact ⟨rfl, rfl⟩)
         | (have e : c = 4 := by omega
            subst e; exact ⟨rfl, rfl⟩)
         | (have e : c = 5 := by omega
            subst e; exact ⟨rfl, rfl⟩)
         | (have e : c = 6 := by omega
            subst e; exact ⟨rfl, rfl⟩)
         | (have e : c = 7 := by omega
            subst e; exact ⟨rfl, rfl⟩)
         | (have e : c = 8 := by omega
            subst e; exact ⟨rfl, rfl⟩)
         | (have e : c = 9 := by omega
            subst e; exact ⟨rfl, rfl⟩)
         | (have e : c = 1 := by omega
            subst e; exact ⟨rfl, rfl⟩)
         | (have e : c = 2 := by omega
            subst e; exact ⟨rfl, rfl⟩))
    | 7, ho1, h1 =>
      cases ho1
      first
      | (exfalso; omega)
      | (refine ⟨950 + 5, hst 5 (by decide), ?_⟩
         try show _ ∧ _
         try dsimp only [bl_pv]
         first
         | (have e : c = 0 := by omega
            subst e; exact ⟨rfl, rfl⟩)
         | (have e : c = 3 := by omega
            subst e; exact ⟨rfl, rfl⟩)
         | (have e : c = 4 := by omega
            subst e; exact ⟨rfl, rfl⟩)
         | (have e : c = 5 := by omega
            subst e; exact ⟨rfl, rfl⟩)
         | (have e : c = 6 := by omega
            subst e; exact ⟨rfl, rfl⟩)
         | (have e : c = 7 := by omega
            subst e; exact ⟨rfl, rfl⟩)
         | (have e : c = 8 := by omega
            subst e; exact ⟨rfl, rfl⟩)
         | (have e : c = 9 := by omega
            subst e; exact ⟨rfl, rfl⟩)
         | (have e : c = 1 := by omega
            subst e; exact ⟨rfl, rfl⟩)
         | (have e : c = 2 := by omega
            subst e; exact ⟨rfl, rfl⟩))
    | 8, ho1, h1 =>
      cases ho1
      first
      | (exfalso; omega)
      | (refine ⟨950 + 6, hst 6 (by decide), ?_⟩
         try show _ ∧ _
         try dsimp only [bl_pv]
         first
         | (have e : c = 0 := by omega
            subst e; exact ⟨rfl, rfl⟩)
         | (have e : c = 3 := by omega
            subst e; exact ⟨rfl, rfl⟩)
         | (have e : c = 4 := by omega
            subst e; exact ⟨rfl, rfl⟩)
         | (have e : c = 5 := by omega
            subst e; exact ⟨rfl, rfl⟩)
         | (have e : c = 6 := by omega
            subst e; exact ⟨rfl, rfl⟩)
         | (have e : c = 7 := by omega
            subst e; exact ⟨rfl, rfl⟩)
         | (have e : c = 8 := by omega
            subst e; exact ⟨rfl, rfl⟩)
         | (have e : c = 9 := by omega
            subst e; exact ⟨rfl, rfl⟩)
         | (have e : c = 1 := by omega
            subst e; exact ⟨rfl, rfl⟩)
         | (have e : c = 2 := by omega
            subst e; exact ⟨rfl, rfl⟩))
    | 9, ho1, h1 =>
      cases ho1
      first
      | (exfalso; omega)
      | (refine ⟨950 + 7, hst 7 (by decide), ?_⟩
         try show _ ∧ _
         try dsimp only [bl_pv]
         first
         | (have e : c = 0 := by omega
            subst e; exact ⟨rfl, rfl⟩)
         | (have e : c = 3 := by omega
            subst e; exact ⟨rfl, rfl⟩)
         | (have e : c = 4 := by omega
            subst e; exact ⟨rfl, rfl⟩)
         | (have e : c = 5 := by omega
            subst e; exact ⟨rfl, rfl⟩)
         | (have e : c = 6 := by omega
            subst e; exact ⟨rfl, rfl⟩)
         | (have e : c = 7 := by omega
            subst e; exact ⟨rfl, rfl⟩)
         | (have e : c = 8 := by omega
            subst e; exact ⟨rfl, rfl⟩)
         | (have e : c = 9 := by omega
            subst e; exact ⟨rfl, rfl⟩)
         | (have e : c = 1 := by omega
            subst e; exact ⟨rfl, rfl⟩)
         | (have e : c = 2 := by omega
            subst e; exact ⟨rfl, rfl⟩))
    | _ + 10, ho1, _ => exact absurd ho1 (by simp)
theorem c_Tape_stepWord {c : Nat} {x : Int32} (hst : ∀ j, j < 17 → K (950 + j) = 110 + j) (hx : x = nI c) (hc : c ≤ 7) : bl_MC G l d mX8_stepWord [.int x] (I, J, R, K, N) (0, 0) (fun o σ' => o = .inl (some (.ref (950 + swj c))) ∧ σ' = (I, J, R, K, N)) := by
  subst hx
  refine bl_MC_intro (by decide +kernel) rfl (Nat.le_of_ble_eq_true rfl) ?_
  refine bl_go oX8_stepWord 80 [] rfl ?_
  refine ⟨fun h1 => ?_, fun j1 o1 ho1 h1 _ => ?_⟩
  · try simp (disch := omega) only [zI_n, zI_o, zI_lit, zI_neg, zI_add, zI_sub, zI_mul, zI_lt, zI_le, zI_eq, zI_clamp, zI_in, zI_div, zI_rem, lg_lt0, lg_gt0, lg_eq0, lg_le0, lg_ge0, Int.toNat_natCast, ge_iff_le, gt_iff_lt, List.length_cons, List.length_nil, bl_up2_at, bl_up2_nk, bl_up2_nx, zI_toInt] at h1
    first
    | (exfalso; omega)
    | (refine ⟨950 + 8, hst 8 (by decide), ?_⟩
       try show _ ∧ _
       try dsimp only [bl_pv]
       first
       | (have e : c = 0 := by omega
          subst e; exact ⟨rfl, rfl⟩)
       | (have e : c = 1 := by omega
          subst e; exact ⟨rfl, rfl⟩)
       | (have e : c = 2 := by omega
          subst e; exact ⟨rfl, rfl⟩)
       | (have e : c = 3 := by omega
          subst e; exact ⟨rfl, rfl⟩)
       | (have e : c = 4 := by omega
          subst e; exact ⟨rfl, rfl⟩)
       | (have e : c = 5 := by omega
          subst e; exact ⟨rfl, rfl⟩)
       | (have e : c = 6 := by omega
          subst e; exact ⟨rfl, rfl⟩)
       | (have e : c = 7 := by omega
          subst e; exact ⟨rfl, rfl⟩))
  · try simp (disch := omega) only [zI_n, zI_o, zI_lit, zI_neg, zI_add, zI_sub, zI_mul, zI_lt, zI_le, zI_eq, zI_clamp, zI_in, zI_div, zI_rem, lg_lt0, lg_gt0, lg_eq0, lg_le0, lg_ge0, Int.toNat_natCast, ge_iff_le, gt_iff_lt, List.length_cons, List.length_nil, bl_up2_at, bl_up2_nk, bl_up2_nx, zI_toInt] at h1
    match j1, ho1, h1 with
    | 0, ho1, h1 =>
      cases ho1
      first
      | (exfalso; omega)
      | (refine ⟨950 + 9, hst 9 (by decide), ?_⟩
         try show _ ∧ _
         try dsimp only [bl_pv]
         first
         | (have e : c = 0 := by omega
            subst e; exact ⟨rfl, rfl⟩)
         | (have e : c = 1 := by omega
            subst e; exact ⟨rfl, rfl⟩)
         | (have e : c = 2 := by omega
            subst e; exact ⟨rfl, rfl⟩)
         | (have e : c = 3 := by omega
            subst e; exact ⟨rfl, rfl⟩)
         | (have e : c = 4 := by omega
            subst e; exact ⟨rfl, rfl⟩)
         | (have e : c = 5 := by omega
            subst e; exact ⟨rfl, rfl⟩)
         | (have e : c = 6 := by omega
            subst e; exact ⟨rfl, rfl⟩)
         | (have e : c = 7 := by omega
            subst e; exact ⟨rfl, rfl⟩))
    | 1, ho1, h1 =>
      cases ho1
      first
      | (exfalso; omega)
      | (refine ⟨950 + 10, hst 10 (by decide), ?_⟩
         try show _ ∧ _
         try dsimp only [bl_pv]
         first
         | (have e : c = 0 := by omega
            subst e; exact ⟨rfl, rfl⟩)
         | (have e : c = 1 := by omega
            subst e; exact ⟨rfl, rfl⟩)
         | (have e : c = 2 := by omega
            subst e; exact ⟨rfl, rfl⟩)
         | (have e : c = 3 := by omega
            subst e; exact ⟨rfl, rfl⟩)
         | (have e : c = 4 := by omega
            subst e; exact ⟨rfl, rfl⟩)
         | (have e : c = 5 := by omega
            subst e; exact ⟨rfl, rfl⟩)
         | (have e : c = 6 := by omega
            subst e; exact ⟨rfl, rfl⟩)
         | (have e : c = 7 := by omega
            subst e; exact ⟨rfl, rfl⟩))
    | 2, ho1, h1 =>
      cases ho1
      first
      | (exfalso; omega)
      | (refine ⟨950 + 11, hst 11 (by decide), ?_⟩
         try show _ ∧ _
         try dsimp only [bl_pv]
         first
         | (have e : c = 0 := by omega
            subst e; exact ⟨rfl, rfl⟩)
         | (have e : c = 1 := by omega
            subst e; exact ⟨rfl, rfl⟩)
         | (have e : c = 2 := by omega
            subst e; exact ⟨rfl, rfl⟩)
         | (have e : c = 3 := by omega
            subst e; exact ⟨rfl, rfl⟩)
         | (have e : c = 4 := by omega
            subst e; exact ⟨rfl, rfl⟩)
         | (have e : c = 5 := by omega
            subst e; exact ⟨rfl, rfl⟩)
         | (have e : c = 6 := by omega
            subst e; exact ⟨rfl, rfl⟩)
         | (have e : c = 7 := by omega
            subst e; exact ⟨rfl, rfl⟩))
    | 3, ho1, h1 =>
      cases ho1
      first
      | (exfalso; omega)
      | (refine ⟨950 + 12, hst 12 (by decide), ?_⟩
         try show _ ∧ _
         try dsimp only [bl_pv]
         first
         | (have e : c = 0 := by omega
            subst e; exact ⟨rfl, rfl⟩)
         | (have e : c = 1 := by omega
            subst e; exact ⟨rfl, rfl⟩)
         | (have e : c = 2 := by omega
            subst e; exact ⟨rfl, rfl⟩)
         | (have e : c = 3 := by omega
            subst e; exact ⟨rfl, rfl⟩)
         | (have e : c = 4 := by omega
            subst e; exact ⟨rfl, rfl⟩)
         | (have e : c = 5 := by omega
            subst e; exact ⟨rfl, rfl⟩)
         | (have e : c = 6 := by omega
            subst e; exact ⟨rfl, rfl⟩)
         | (have e : c = 7 := by omega
            subst e; exact ⟨rfl, rfl⟩))
    | 4, ho1, h1 =>
      cases ho1
      first
      | (exfalso; omega)
      | (refine ⟨950 + 13, hst 13 (by decide), ?_⟩
         try show _ ∧ _
         try dsimp only [bl_pv]
         first
         | (have e : c = 0 := by omega
            subst e; exact ⟨rfl, rfl⟩)
         | (have e : c = 1 := by omega
            subst e; exact ⟨rfl, rfl⟩)
         | (have e : c = 2 := by omega
            subst e; exact ⟨rfl, rfl⟩)
         | (have e : c = 3 := by omega
            subst e; exact ⟨rfl, rfl⟩)
         | (have e : c = 4 := by omega
            subst e; exact ⟨rfl, rfl⟩)
         | (have e : c = 5 := by omega
            subst e; exact ⟨rfl, rfl⟩)
         | (have e : c = 6 := by omega
            subst e; exact ⟨rfl, rfl⟩)
         | (have e : c = 7 := by omega
            subst e; exact ⟨rfl, rfl⟩))
    | 5, ho1, h1 =>
      cases ho1
      first
      | (exfalso; omega)
      | (refine ⟨950 + 14, hst 14 (by decide), ?_⟩
         try show _ ∧ _
         try dsimp only [bl_pv]
         first
         | (have e : c = 0 := by omega
            subst e; exact ⟨rfl, rfl⟩)
         | (have e : c = 1 := by omega
            subst e; exact ⟨rfl, rfl⟩)
         | (have e : c = 2 := by omega
            subst e; exact ⟨rfl, rfl⟩)
         | (have e : c = 3 := by omega
            subst e; exact ⟨rfl, rfl⟩)
         | (have e : c = 4 := by omega
            subst e; exact ⟨rfl, rfl⟩)
         | (have e : c = 5 := by omega
            subst e; exact ⟨rfl, rfl⟩)
         | (have e : c = 6 := by omega
            subst e; exact ⟨rfl, rfl⟩)
         | (have e : c = 7 := by omega
            subst e; exact ⟨rfl, rfl⟩))
    | 6, ho1, h1 =>
      cases ho1
      first
      | (exfalso; omega)
      | (refine ⟨950 + 15, hst 15 (by decide), ?_⟩
         try show _ ∧ _
         try dsimp only [bl_pv]
         first
         | (have e : c = 0 := by omega
            subst e; exact ⟨rfl, rfl⟩)
         | (have e : c = 1 := by omega
            subst e; exact ⟨rfl, rfl⟩)
         | (have e : c = 2 := by omega
            subst e; exact ⟨rfl, rfl⟩)
         | (have e : c = 3 := by omega
            subst e; exact ⟨rfl, rfl⟩)
         | (have e : c = 4 := by omega
            subst e; exact ⟨rfl, rfl⟩)
         | (have e : c = 5 := by omega
            subst e; exact ⟨rfl, rfl⟩)
         | (have e : c = 6 := by omega
            subst e; exact ⟨rfl, rfl⟩)
         | (have e : c = 7 := by omega
            subst e; exact ⟨rfl, rfl⟩))
    | 7, ho1, h1 =>
      cases ho1
      first
      | (exfalso; omega)
      | (refine ⟨950 + 16, hst 16 (by decide), ?_⟩
         try show _ ∧ _
         try dsimp only [bl_pv]
         first
         | (have e : c = 0 := by omega
            subst e; exact ⟨rfl, rfl⟩)
         | (have e : c = 1 := by omega
            subst e; exact ⟨rfl, rfl⟩)
         | (have e : c = 2 := by omega
            subst e; exact ⟨rfl, rfl⟩)
         | (have e : c = 3 := by omega
            subst e; exact ⟨rfl, rfl⟩)
         | (have e : c = 4 := by omega
            subst e; exact ⟨rfl, rfl⟩)
         | (have e : c = 5 := by omega
            subst e; exact ⟨rfl, rfl⟩)
         | (have e : c = 6 := by omega
            subst e; exact ⟨rfl, rfl⟩)
         | (have e : c = 7 := by omega
            subst e; exact ⟨rfl, rfl⟩))
    | _ + 8, ho1, _ => exact absurd ho1 (by simp)
theorem cwj_lt (c : Nat) : cwj c < 17 := by
  unfold cwj
  match c with
  | 0 | 1 | 2 | 3 | 4 | 5 | 6 | 7 | 8 | 9 => decide
  | n + 10 => exact (show 8 < 17 by decide)
theorem swj_lt (c : Nat) : swj c < 17 := by
  unfold swj
  split <;> omega
theorem c_Tape_clauseRead {p e : Nat} {en : Int32} (ht : tpS R K N t) (hst : ∀ j, j < 17 → K (950 + j) = 110 + j) (hpe : p ≤ e) (he : e ≤ 400) : bl_MC G l (d + 1) mX8_clauseRead [.ref t] (tpI I t h fk fp en (nI e) (nI p), J, R, K, N) (0, 0) (fun o σ' => o = .inl (some (.int (ckd (I (t + 1)) p e))) ∧ σ' = (tpI I t h fk fp en (nI e) (nI p), J, R, K, N)) := by
  have kt := ht.2.1
  unfold ckd
  refine bl_MC_intro (by decide +kernel) rfl (Nat.le_of_ble_eq_true rfl) ?_
  have L : ∀ f c, c + f = 10 → ∀ x, x = nI c → bl_WP G l (d + 1) mX8_clauseRead 2 [(1, .int x), (0, .ref t)] [] (tpI I t h fk fp en (nI e) (nI p), J, R, K, N) (0, 0) (fun o σ' => o = .inl (some (.int (fnd (fun c => wisb (I (t + 1)) p e (byw (cwj c))) f c))) ∧ σ' = (tpI I t h fk fp en (nI e) (nI p), J, R, K, N)) := by
    intro f
    induction f with
    | zero =>
      intro c hc x hx
      have e1 : c = 10 := by omega
      subst e1 hx
      refine bl_go oX8_clauseRead 80 [2] rfl ?_
      refine ⟨fun h5 => ?_, fun h5 => ?_⟩
      · try simp (disch := omega) only [zI_n, zI_o, zI_lit, zI_neg, zI_add, zI_sub, zI_mul, zI_lt, zI_le, zI_eq, zI_clamp, zI_in, zI_div, zI_rem, lg_lt0, lg_gt0, lg_eq0, lg_le0, lg_ge0, Int.toNat_natCast, ge_iff_le, gt_iff_lt, List.length_cons, List.length_nil, bl_up2_at, bl_up2_nk, bl_up2_nx] at h5
        refine ⟨(fun h => by cases h), ?_⟩
        try show _ ∧ _
        try dsimp only [bl_pv]
        exact ⟨rfl, rfl⟩
      · try simp (disch := omega) only [zI_n, zI_o, zI_lit, zI_neg, zI_add, zI_sub, zI_mul, zI_lt, zI_le, zI_eq, zI_clamp, zI_in, zI_div, zI_rem, lg_lt0, lg_gt0, lg_eq0, lg_le0, lg_ge0, Int.toNat_natCast, ge_iff_le, gt_iff_lt, List.length_cons, List.length_nil, bl_up2_at, bl_up2_nk, bl_up2_nx] at h5
        exfalso; omega
    | succ f ih =>
      intro c hc x hx
      subst hx
      refine bl_go oX8_clauseRead 80 [2] rfl ?_
      refine ⟨fun h5 => ?_, fun h5 => ?_⟩
      · try simp (disch := omega) only [zI_n, zI_o, zI_lit, zI_neg, zI_add, zI_sub, zI_mul, zI_lt, zI_le, zI_eq, zI_clamp, zI_in, zI_div, zI_rem, lg_lt0, lg_gt0, lg_eq0, lg_le0, lg_ge0, Int.toNat_natCast, ge_iff_le, gt_iff_lt, List.length_cons, List.length_nil, bl_up2_at, bl_up2_nk, bl_up2_nx] at h5
        exfalso; omega
      · try simp (disch := omega) only [zI_n, zI_o, zI_lit, zI_neg, zI_add, zI_sub, zI_mul, zI_lt, zI_le, zI_eq, zI_clamp, zI_in, zI_div, zI_rem, lg_lt0, lg_gt0, lg_eq0, lg_le0, lg_ge0, Int.toNat_natCast, ge_iff_le, gt_iff_lt, List.length_cons, List.length_nil, bl_up2_at, bl_up2_nk, bl_up2_nx] at h5
        refine ⟨rfl, (Nat.le_of_ble_eq_true rfl), (0, 0), Nat.le_of_ble_eq_true rfl, Nat.le_of_ble_eq_true rfl, bl_MC_mono (c_Tape_clauseWord (d := d) hst rfl (c := c) (by omega)) (fun o10 σ10 q10 => ?_)⟩
        try dsimp only [bl_pv] at q10
        obtain ⟨rfl, rfl⟩ := q10
        have kw := hst _ (cwj_lt c)
        refine bl_go oX8_clauseRead 80 [2] rfl ?_
        refine ⟨rfl, rfl, kt, (Nat.le_of_ble_eq_true rfl), (0, 0), Nat.le_of_ble_eq_true rfl, Nat.le_of_ble_eq_true rfl, bl_MC_mono (c_Tape_wordIs (d := d) ht kw (byw_get (cwj_lt c)) (byw_len (cwj_lt c)) hpe he) (fun o13 σ13 q13 => ?_)⟩
        try dsimp only [bl_pv] at q13
        obtain ⟨⟨v, rfl, hv⟩, rfl⟩ := q13
        refine bl_go oX8_clauseRead 80 [2] rfl ?_
        refine ⟨fun h16 => ?_, fun h16 => ?_⟩
        · try simp (disch := omega) only [bl_pv, cl0, cl1, cl2, cl3, cl4, cl5, cl6, cl7, cl8, cl9, bl_up2_at, bl_up2_nk, bl_up2_nx] at h16
          try dsimp only [bl_pv]
          have hw : ¬ wis (I (t + 1)) p e (byw (cwj c)) := by
            rcases hv with ⟨hv, _⟩ | ⟨_, hw⟩
            · rw [hv] at h16; exact absurd h16 (by decide)
            · exact hw
          have := ih (c + 1) (by omega) _ (nI_1 c)
          refine bl_WP_mono this (fun o σ' hq => ⟨?_, hq.2⟩)
          rw [hq.1]
          show _ = Sum.inl (some (Value.int (if wisb (I (t + 1)) p e (byw (cwj c)) then nI c else _)))
          rw [if_neg (wisb_f hw)]
        · try simp (disch := omega) only [bl_pv, cl0, cl1, cl2, cl3, cl4, cl5, cl6, cl7, cl8, cl9, bl_up2_at, bl_up2_nk, bl_up2_nx] at h16
          refine ⟨(fun h => by cases h), ?_⟩
          try show _ ∧ _
          try dsimp only [bl_pv]
          have hw : wis (I (t + 1)) p e (byw (cwj c)) := by
            rcases hv with ⟨_, hw⟩ | ⟨hv, _⟩
            · exact hw
            · exact absurd hv h16
          refine ⟨?_, rfl⟩
          show _ = Sum.inl (some (Value.int (if wisb (I (t + 1)) p e (byw (cwj c)) then nI c else _)))
          rw [if_pos (wisb_t hw)]
  refine bl_go oX8_clauseRead 80 [2] rfl ?_
  try dsimp only [bl_pv]
  exact L 10 0 rfl _ rfl
theorem c_Tape_stepRead {p e : Nat} {en : Int32} (ht : tpS R K N t) (hst : ∀ j, j < 17 → K (950 + j) = 110 + j) (hpe : p ≤ e) (he : e ≤ 400) : bl_MC G l (d + 1) mX8_stepRead [.ref t] (tpI I t h fk fp en (nI e) (nI p), J, R, K, N) (0, 0) (fun o σ' => o = .inl (some (.int (skd (I (t + 1)) p e))) ∧ σ' = (tpI I t h fk fp en (nI e) (nI p), J, R, K, N)) := by
  have kt := ht.2.1
  unfold skd
  refine bl_MC_intro (by decide +kernel) rfl (Nat.le_of_ble_eq_true rfl) ?_
  have L : ∀ f c, c + f = 8 → ∀ x, x = nI c → bl_WP G l (d + 1) mX8_stepRead 2 [(1, .int x), (0, .ref t)] [] (tpI I t h fk fp en (nI e) (nI p), J, R, K, N) (0, 0) (fun o σ' => o = .inl (some (.int (fnd (fun c => wisb (I (t + 1)) p e (byw (swj c))) f c))) ∧ σ' = (tpI I t h fk fp en (nI e) (nI p), J, R, K, N)) := by
    intro f
    induction f with
    | zero =>
      intro c hc x hx
      have e1 : c = 8 := by omega
      subst e1 hx
      refine bl_go oX8_stepRead 80 [2] rfl ?_
      refine ⟨fun h5 => ?_, fun h5 => ?_⟩
      · try simp (disch := omega) only [zI_n, zI_o, zI_lit, zI_neg, zI_add, zI_sub, zI_mul, zI_lt, zI_le, zI_eq, zI_clamp, zI_in, zI_div, zI_rem, lg_lt0, lg_gt0, lg_eq0, lg_le0, lg_ge0, Int.toNat_natCast, ge_iff_le, gt_iff_lt, List.length_cons, List.length_nil, bl_up2_at, bl_up2_nk, bl_up2_nx] at h5
        refine ⟨(fun h => by cases h), ?_⟩
        try show _ ∧ _
        try dsimp only [bl_pv]
        exact ⟨rfl, rfl⟩
      · try simp (disch := omega) only [zI_n, zI_o, zI_lit, zI_neg, zI_add, zI_sub, zI_mul, zI_lt, zI_le, zI_eq, zI_clamp, zI_in, zI_div, zI_rem, lg_lt0, lg_gt0, lg_eq0, lg_le0, lg_ge0, Int.toNat_natCast, ge_iff_le, gt_iff_lt, List.length_cons, List.length_nil, bl_up2_at, bl_up2_nk, bl_up2_nx] at h5
        exfalso; omega
    | succ f ih =>
      intro c hc x hx
      subst hx
      refine bl_go oX8_stepRead 80 [2] rfl ?_
      refine ⟨fun h5 => ?_, fun h5 => ?_⟩
      · try simp (disch := omega) only [zI_n, zI_o, zI_lit, zI_neg, zI_add, zI_sub, zI_mul, zI_lt, zI_le, zI_eq, zI_clamp, zI_in, zI_div, zI_rem, lg_lt0, lg_gt0, lg_eq0, lg_le0, lg_ge0, Int.toNat_natCast, ge_iff_le, gt_iff_lt, List.length_cons, List.length_nil, bl_up2_at, bl_up2_nk, bl_up2_nx] at h5
        exfalso; omega
      · try simp (disch := omega) only [zI_n, zI_o, zI_lit, zI_neg, zI_add, zI_sub, zI_mul, zI_lt, zI_le, zI_eq, zI_clamp, zI_in, zI_div, zI_rem, lg_lt0, lg_gt0, lg_eq0, lg_le0, lg_ge0, Int.toNat_natCast, ge_iff_le, gt_iff_lt, List.length_cons, List.length_nil, bl_up2_at, bl_up2_nk, bl_up2_nx] at h5
        refine ⟨rfl, (Nat.le_of_ble_eq_true rfl), (0, 0), Nat.le_of_ble_eq_true rfl, Nat.le_of_ble_eq_true rfl, bl_MC_mono (c_Tape_stepWord (d := d) hst rfl (c := c) (by omega)) (fun o10 σ10 q10 => ?_)⟩
        try dsimp only [bl_pv] at q10
        obtain ⟨rfl, rfl⟩ := q10
        have kw := hst _ (swj_lt c)
        refine bl_go oX8_stepRead 80 [2] rfl ?_
        refine ⟨rfl, rfl, kt, (Nat.le_of_ble_eq_true rfl), (0, 0), Nat.le_of_ble_eq_true rfl, Nat.le_of_ble_eq_true rfl, bl_MC_mono (c_Tape_wordIs (d := d) ht kw (byw_get (swj_lt c)) (byw_len (swj_lt c)) hpe he) (fun o13 σ13 q13 => ?_)⟩
        try dsimp only [bl_pv] at q13
        obtain ⟨⟨v, rfl, hv⟩, rfl⟩ := q13
        refine bl_go oX8_stepRead 80 [2] rfl ?_
        refine ⟨fun h16 => ?_, fun h16 => ?_⟩
        · try simp (disch := omega) only [bl_pv, cl0, cl1, cl2, cl3, cl4, cl5, cl6, cl7, cl8, cl9, bl_up2_at, bl_up2_nk, bl_up2_nx] at h16
          try dsimp only [bl_pv]
          have hw : ¬ wis (I (t + 1)) p e (byw (swj c)) := by
            rcases hv with ⟨hv, _⟩ | ⟨_, hw⟩
            · rw [hv] at h16; exact absurd h16 (by decide)
            · exact hw
          have := ih (c + 1) (by omega) _ (nI_1 c)
          refine bl_WP_mono this (fun o σ' hq => ⟨?_, hq.2⟩)
          rw [hq.1]
          show _ = Sum.inl (some (Value.int (if wisb (I (t + 1)) p e (byw (swj c)) then nI c else _)))
          rw [if_neg (wisb_f hw)]
        · try simp (disch := omega) only [bl_pv, cl0, cl1, cl2, cl3, cl4, cl5, cl6, cl7, cl8, cl9, bl_up2_at, bl_up2_nk, bl_up2_nx] at h16
          refine ⟨(fun h => by cases h), ?_⟩
          try show _ ∧ _
          try dsimp only [bl_pv]
          have hw : wis (I (t + 1)) p e (byw (swj c)) := by
            rcases hv with ⟨_, hw⟩ | ⟨hv, _⟩
            · exact hw
            · exact absurd hv h16
          refine ⟨?_, rfl⟩
          show _ = Sum.inl (some (Value.int (if wisb (I (t + 1)) p e (byw (swj c)) then nI c else _)))
          rw [if_pos (wisb_t hw)]
  refine bl_go oX8_stepRead 80 [2] rfl ?_
  try dsimp only [bl_pv]
  exact L 8 0 rfl _ rfl
end TAPE2
