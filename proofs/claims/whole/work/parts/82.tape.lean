/-! ===== what the texts say: positions, numbers, words ===== -/
def skq (p : Nat → Bool) : Nat → Nat → Nat
  | 0, i => i
  | f + 1, i => if p i then skq p f (i + 1) else i
/-- the first place from i on that p does not hold of -/
def skp (p : Nat → Bool) (i : Nat) : Nat := skq p (401 - i) i
theorem skp_t {p : Nat → Bool} {i : Nat} (h : p i = true) (hi : i ≤ 400) : skp p i = skp p (i + 1) := by
  unfold skp
  rw [show 401 - i = (401 - (i + 1)) + 1 by omega]
  show (if p i then _ else _) = _
  rw [if_pos h]
theorem skp_f {p : Nat → Bool} {i : Nat} (h : p i = false) : skp p i = i := by
  unfold skp
  cases 401 - i with
  | zero => rfl
  | succ f =>
    show (if p i then _ else _) = _
    rw [if_neg (by rw [h]; decide)]
theorem skq_ge (p : Nat → Bool) : ∀ f i, i ≤ skq p f i
  | 0, i => Nat.le_refl _
  | f + 1, i => by
    show i ≤ (if p i then skq p f (i + 1) else i)
    have := skq_ge p f (i + 1)
    split <;> omega
theorem skp_ge (p : Nat → Bool) (i : Nat) : i ≤ skp p i := skq_ge p _ i
theorem skq_le {p : Nat → Bool} {n : Nat} (hp : ∀ j, p j = true → j < n) : ∀ f i, i ≤ n → skq p f i ≤ n
  | 0, i, h => h
  | f + 1, i, h => by
    show (if p i then skq p f (i + 1) else i) ≤ n
    by_cases e : p i = true
    · rw [if_pos e]; exact skq_le hp f (i + 1) (hp i e)
    · rw [if_neg e]; exact h
theorem skp_le {p : Nat → Bool} {n i : Nat} (hp : ∀ j, p j = true → j < n) (h : i ≤ n) : skp p i ≤ n := skq_le hp _ i h
def blk (B : Nat → Int32) (n j : Nat) : Bool := decide (j < n ∧ B j = zI 32)
def dig (B : Nat → Int32) (n j : Nat) : Bool := decide (j < n ∧ zI 48 ≤ B j ∧ B j ≤ zI 57)
def ltr (B : Nat → Int32) (n j : Nat) : Bool := decide (j < n ∧ zI 97 ≤ B j ∧ B j ≤ zI 122)
theorem blk_lt {B : Nat → Int32} {n j : Nat} (h : blk B n j = true) : j < n := (of_decide_eq_true h).1
theorem dig_lt {B : Nat → Int32} {n j : Nat} (h : dig B n j = true) : j < n := (of_decide_eq_true h).1
theorem ltr_lt {B : Nat → Int32} {n j : Nat} (h : ltr B n j = true) : j < n := (of_decide_eq_true h).1
abbrev skB (B : Nat → Int32) (n i : Nat) : Nat := skp (blk B n) i
abbrev skD (B : Nat → Int32) (n i : Nat) : Nat := skp (dig B n) i
abbrev skW (B : Nat → Int32) (n i : Nat) : Nat := skp (ltr B n) i
theorem skB_f {B : Nat → Int32} {n i : Nat} (h : ¬ (i < n ∧ B i = zI 32)) : skB B n i = i := skp_f (decide_eq_false h)
theorem skB_t {B : Nat → Int32} {n i : Nat} (h : i < n ∧ B i = zI 32) (hn : n ≤ 400) : skB B n i = skB B n (i + 1) := skp_t (decide_eq_true h) (by omega)
theorem skD_f {B : Nat → Int32} {n i : Nat} (h : ¬ (i < n ∧ zI 48 ≤ B i ∧ B i ≤ zI 57)) : skD B n i = i := skp_f (decide_eq_false h)
theorem skD_t {B : Nat → Int32} {n i : Nat} (h : i < n ∧ zI 48 ≤ B i ∧ B i ≤ zI 57) (hn : n ≤ 400) : skD B n i = skD B n (i + 1) := skp_t (decide_eq_true h) (by omega)
theorem skW_f {B : Nat → Int32} {n i : Nat} (h : ¬ (i < n ∧ zI 97 ≤ B i ∧ B i ≤ zI 122)) : skW B n i = i := skp_f (decide_eq_false h)
theorem skW_t {B : Nat → Int32} {n i : Nat} (h : i < n ∧ zI 97 ≤ B i ∧ B i ≤ zI 122) (hn : n ≤ 400) : skW B n i = skW B n (i + 1) := skp_t (decide_eq_true h) (by omega)
theorem skB_le {B : Nat → Int32} {n i : Nat} (h : i ≤ n) : skB B n i ≤ n := skp_le (fun j hj => blk_lt hj) h
theorem skD_le {B : Nat → Int32} {n i : Nat} (h : i ≤ n) : skD B n i ≤ n := skp_le (fun j hj => dig_lt hj) h
theorem skW_le {B : Nat → Int32} {n i : Nat} (h : i ≤ n) : skW B n i ≤ n := skp_le (fun j hj => ltr_lt hj) h
/-- the number that k digits from p on tell -/
def nmv (B : Nat → Int32) (p : Nat) : Nat → Nat
  | 0 => 0
  | k + 1 => 10 * nmv B p k + ((B (p + k)).toInt - 48).toNat
/-- a result, or a fault and its place -/
abbrev pr (α : Type) : Type := α ⊕ (Nat × Nat)
def pbd {α β : Type} (x : pr α) (f : α → pr β) : pr β := match x with
  | .inl a => f a
  | .inr e => .inr e
def pnum (B : Nat → Int32) (n lo hi i : Nat) : pr (Nat × Nat) :=
  if skD B n (skB B n i) = skB B n i then .inr (1, skB B n i)
  else if lo ≤ nmv B (skB B n i) (skD B n (skB B n i) - skB B n i) ∧ nmv B (skB B n i) (skD B n (skB B n i) - skB B n i) ≤ hi then .inl (nmv B (skB B n i) (skD B n (skB B n i) - skB B n i), skD B n (skB B n i))
  else .inr (2, skB B n i)
def pend (B : Nat → Int32) (n i : Nat) : pr Nat := if skB B n i < n ∧ B (skB B n i) = zI 59 then .inl (skB B n i + 1) else .inr (1, skB B n i)
theorem pnum_le {B : Nat → Int32} {n lo hi i : Nat} (h : i ≤ n) {v e : Nat} (hp : pnum B n lo hi i = .inl (v, e)) : e ≤ n ∧ lo ≤ v ∧ v ≤ hi := by
  unfold pnum at hp
  split at hp
  · cases hp
  · split at hp
    · rename_i h1 h2
      cases hp
      exact ⟨skp_le (fun j hj => dig_lt hj) (skp_le (fun j hj => blk_lt hj) h), h2⟩
    · cases hp
theorem pend_le {B : Nat → Int32} {n i e : Nat} (hp : pend B n i = .inl e) : e ≤ n := by
  unfold pend at hp
  split at hp
  · rename_i h1; cases hp; exact h1.1
  · cases hp
/-- the tape's object with these numbers -/
def tpI (I : Nat → Nat → Int32) (t : Nat) (h fk fp en at' wa : Int32) : Nat → Nat → Int32 := fun x j => if x = t then (if j = 1 then h else if j = 2 then fk else if j = 3 then fp else if j = 4 then en else if j = 5 then at' else if j = 6 then wa else I x j) else I x j
section TPI
variable {I I' : Nat → Nat → Int32} {t x j : Nat} {h fk fp en at' wa v : Int32}
theorem tpI_ne (hx : x ≠ t) : tpI I t h fk fp en at' wa x = I x := by funext j; simp [tpI, hx]
theorem tp1 : tpI I t h fk fp en at' wa t 1 = h := by simp [tpI]
theorem tp2 : tpI I t h fk fp en at' wa t 2 = fk := by simp [tpI]
theorem tp3 : tpI I t h fk fp en at' wa t 3 = fp := by simp [tpI]
theorem tp4 : tpI I t h fk fp en at' wa t 4 = en := by simp [tpI]
theorem tp5 : tpI I t h fk fp en at' wa t 5 = at' := by simp [tpI]
theorem tp6 : tpI I t h fk fp en at' wa t 6 = wa := by simp [tpI]
theorem tpu_eq {f g : Nat → Nat → Int32} (h1 : ∀ x, x ≠ t → f x = g x) (h2 : ∀ j, f t j = g t j) : f = g := by
  funext x j
  by_cases e : x = t
  · subst e; exact h2 j
  · rw [h1 x e]
theorem tpu1 : bl_up2 (tpI I t h fk fp en at' wa) t 1 v = tpI I t v fk fp en at' wa := by
  funext x j; unfold bl_up2 tpI; by_cases e : x = t <;> by_cases e1 : j = 1 <;> simp [e, e1]
theorem tpu2 : bl_up2 (tpI I t h fk fp en at' wa) t 2 v = tpI I t h v fp en at' wa := by
  funext x j; unfold bl_up2 tpI; by_cases e : x = t <;> by_cases e1 : j = 2 <;> simp [e, e1]
theorem tpu3 : bl_up2 (tpI I t h fk fp en at' wa) t 3 v = tpI I t h fk v en at' wa := by
  funext x j; unfold bl_up2 tpI; by_cases e : x = t <;> by_cases e1 : j = 3 <;> simp [e, e1]
theorem tpu4 : bl_up2 (tpI I t h fk fp en at' wa) t 4 v = tpI I t h fk fp v at' wa := by
  funext x j; unfold bl_up2 tpI; by_cases e : x = t <;> by_cases e1 : j = 4 <;> simp [e, e1]
theorem tpu5 : bl_up2 (tpI I t h fk fp en at' wa) t 5 v = tpI I t h fk fp en v wa := by
  funext x j; unfold bl_up2 tpI; by_cases e : x = t <;> by_cases e1 : j = 5 <;> simp [e, e1]
theorem tpu6 : bl_up2 (tpI I t h fk fp en at' wa) t 6 v = tpI I t h fk fp en at' v := by
  funext x j; unfold bl_up2 tpI; by_cases e : x = t <;> by_cases e1 : j = 6 <;> simp [e, e1]
theorem tpI_eta : tpI I t (I t 1) (I t 2) (I t 3) (I t 4) (I t 5) (I t 6) = I := by
  funext x j
  unfold tpI
  by_cases e : x = t
  · subst e
    rw [if_pos rfl]
    repeat' split
    all_goals first | rfl | (rename_i h; subst h; rfl)
  · rw [if_neg e]
/-- another name's row in it -/
theorem tpI_up {y k : Nat} (hy : y ≠ t) : bl_up2 (tpI I t h fk fp en at' wa) y k v = tpI (bl_up2 I y k v) t h fk fp en at' wa := by
  funext x j
  unfold bl_up2 tpI
  by_cases e : x = t
  · have e2 : ¬ (x = y ∧ j = k) := fun q => hy (q.1.symm.trans e)
    simp only [e2, if_false, if_pos e]
  · simp only [if_neg e]
end TPI
def tpS (R : Nat → Nat → Option Nat) (K N : Nat → Nat) (t : Nat) : Prop := t < 900 ∧ K t = 9 ∧ R t 0 = some (t + 1) ∧ K (t + 1) = 20 ∧ N (t + 1) = 400
section TAPE
variable {G : bl_G} {l : Launch} {d t : Nat} {I : Nat → Nat → Int32} {J : Nat → Nat → Int64} {R : Nat → Nat → Option Nat} {K N : Nat → Nat} {h fk fp wa : Int32} {n i : Nat}
theorem c_Tape_refuse {x y en at' : Int32} (kt : K t = 9) : bl_MC G l d mX8_refuse [.ref t, .int x, .int y] (tpI I t h fk fp en at' wa, J, R, K, N) (0, 0) (fun o σ' => o = .inl (some (.int 0)) ∧ σ' = (tpI I t h x y en at' wa, J, R, K, N)) := by
  refine bl_MC_intro (by decide +kernel) rfl (Nat.le_of_ble_eq_true rfl) ?_
  refine bl_go oX8_refuse 80 [] rfl ?_
  refine ⟨kt, Or.inr (Or.inr ⟨rfl, rfl, _, rfl⟩), (fun h => by cases h), kt, Or.inr (Or.inr ⟨rfl, rfl, _, rfl⟩), (fun h => by cases h), (fun _ => by first | exact Or.inl rfl | exact Or.inr rfl), ?_⟩
  try show _ ∧ _
  try dsimp only [bl_pv]
  rw [tpu2, tpu3]; exact ⟨rfl, rfl⟩
theorem c_Tape_skipBlanks (ht : tpS R K N t) (hn : n ≤ 400) (hi : i ≤ n) : bl_MC G l d mX8_skipBlanks [.ref t] (tpI I t h fk fp (nI n) (nI i) wa, J, R, K, N) (0, 0) (fun o σ' => o = .inl none ∧ σ' = (tpI I t h fk fp (nI n) (nI (skB (I (t + 1)) n i)) wa, J, R, K, N)) := by
  obtain ⟨-, kt, rt_0, ktb, ntb⟩ := ht
  have eB : ∀ a, (tpI I t h fk fp (nI n) a wa) (t + 1) = I (t + 1) := fun a => tpI_ne (by omega)
  refine bl_MC_intro (by decide +kernel) rfl (Nat.le_of_ble_eq_true rfl) ?_
  have L : ∀ j, j ≤ n → ∀ x, x = nI j → skB (I (t + 1)) n j = skB (I (t + 1)) n i → bl_WP G l d mX8_skipBlanks 0 [(0, .ref t)] [] (tpI I t h fk fp (nI n) x wa, J, R, K, N) (0, 0) (fun o σ' => o = .inl none ∧ σ' = (tpI I t h fk fp (nI n) (nI (skB (I (t + 1)) n i)) wa, J, R, K, N)) := by
    refine bl_for n ?_ (fun j hj ih => ?_)
    · intro x hx hs; subst hx
      refine bl_go oX8_skipBlanks 80 [0] rfl ?_
      refine ⟨kt, kt, fun h8 => ?_, fun h8 => ?_⟩
      · try simp (disch := omega) only [tp1,tp2,tp3,tp4,tp5,tp6, zI_n, zI_o, zI_lit, zI_neg, zI_add, zI_sub, zI_mul, zI_lt, zI_le, zI_eq, zI_clamp, zI_in, zI_div, zI_rem, lg_lt0, lg_gt0, lg_eq0, lg_le0, lg_ge0, Int.toNat_natCast, ge_iff_le, gt_iff_lt, List.length_cons, List.length_nil, bl_up2_at, bl_up2_nk, bl_up2_nx] at h8
        try show _ ∧ _
        try dsimp only [bl_pv]
        rw [← hs, skB_f (by omega)]; exact ⟨rfl, rfl⟩
      · try simp (disch := omega) only [tp1,tp2,tp3,tp4,tp5,tp6, zI_n, zI_o, zI_lit, zI_neg, zI_add, zI_sub, zI_mul, zI_lt, zI_le, zI_eq, zI_clamp, zI_in, zI_div, zI_rem, lg_lt0, lg_gt0, lg_eq0, lg_le0, lg_ge0, Int.toNat_natCast, ge_iff_le, gt_iff_lt, List.length_cons, List.length_nil, bl_up2_at, bl_up2_nk, bl_up2_nx] at h8
        exfalso; omega
    · intro x hx hs; subst hx
      have ec : (nI j).toNatClampNeg = j := nI_clamp (by omega)
      refine bl_go oX8_skipBlanks 80 [0] rfl ?_
      refine ⟨kt, kt, fun h8 => ?_, fun h8 => ?_⟩
      · try simp (disch := omega) only [tp1,tp2,tp3,tp4,tp5,tp6, zI_n, zI_o, zI_lit, zI_neg, zI_add, zI_sub, zI_mul, zI_lt, zI_le, zI_eq, zI_clamp, zI_in, zI_div, zI_rem, lg_lt0, lg_gt0, lg_eq0, lg_le0, lg_ge0, Int.toNat_natCast, ge_iff_le, gt_iff_lt, List.length_cons, List.length_nil, bl_up2_at, bl_up2_nk, bl_up2_nx] at h8
        exfalso; omega
      · try simp (disch := omega) only [tp1,tp2,tp3,tp4,tp5,tp6, zI_n, zI_o, zI_lit, zI_neg, zI_add, zI_sub, zI_mul, zI_lt, zI_le, zI_eq, zI_clamp, zI_in, zI_div, zI_rem, lg_lt0, lg_gt0, lg_eq0, lg_le0, lg_ge0, Int.toNat_natCast, ge_iff_le, gt_iff_lt, List.length_cons, List.length_nil, bl_up2_at, bl_up2_nk, bl_up2_nx] at h8
        refine ⟨kt, _, bl_vs rt_0, kt, Or.inl ⟨ktb, (by (try dsimp only [bl_pv]); show vp_in _ (N _); rw [ntb, tp5]; exact vp_in_nI (by omega) (by omega)), fun h22 => ?_, fun h22 => ?_⟩⟩
        · try simp (disch := omega) only [bl_pv, cl0, cl1, cl2, cl3, cl4, cl5, cl6, cl7, cl8, cl9, bl_up2_at, bl_up2_nk, bl_up2_nx] at h22
          rw [tp5, ec, eB] at h22
          try show _ ∧ _
          try dsimp only [bl_pv]
          rw [← hs, skB_f (fun q => h22 q.2)]; exact ⟨rfl, rfl⟩
        · try simp (disch := omega) only [bl_pv, cl0, cl1, cl2, cl3, cl4, cl5, cl6, cl7, cl8, cl9, bl_up2_at, bl_up2_nk, bl_up2_nx] at h22
          rw [tp5, ec, eB] at h22
          refine ⟨rfl, kt, kt, Or.inr (Or.inr ⟨rfl, rfl, _, rfl⟩), (fun h => by cases h), ?_⟩
          try dsimp only [bl_pv]
          rw [tp5, tpu5]
          exact ih _ (nI_1 j) ((skB_t ⟨hj, h22⟩ hn).symm.trans hs)
  exact L i hi _ rfl rfl
theorem c_Tape_readWord (ht : tpS R K N t) (hn : n ≤ 400) (hi : i ≤ n) : bl_MC G l (d + 1) mX8_readWord [.ref t] (tpI I t h fk fp (nI n) (nI i) wa, J, R, K, N) (0, 0) (fun o σ' => o = .inl none ∧ σ' = (tpI I t h fk fp (nI n) (nI (skW (I (t + 1)) n (skB (I (t + 1)) n i))) (nI (skB (I (t + 1)) n i)), J, R, K, N)) := by
  have ht' := ht
  obtain ⟨-, kt, rt_0, ktb, ntb⟩ := ht
  have eB : ∀ a b, (tpI I t h fk fp (nI n) a b) (t + 1) = I (t + 1) := fun a b => tpI_ne (by omega)
  have hp : skB (I (t + 1)) n i ≤ n := skB_le hi
  generalize hpe : skB (I (t + 1)) n i = p at *
  refine bl_MC_intro (by decide +kernel) rfl (Nat.le_of_ble_eq_true rfl) ?_
  have L : ∀ j, j ≤ n → ∀ x, x = nI j → skW (I (t + 1)) n j = skW (I (t + 1)) n p → bl_WP G l (d + 1) mX8_readWord 12 [(0, .ref t)] [] (tpI I t h fk fp (nI n) x (nI p), J, R, K, N) (0, 0) (fun o σ' => o = .inl none ∧ σ' = (tpI I t h fk fp (nI n) (nI (skW (I (t + 1)) n p)) (nI p), J, R, K, N)) := by
    refine bl_for n ?_ (fun j hj ih => ?_)
    · intro x hx hs; subst hx
      refine bl_go oX8_readWord 80 [12] rfl ?_
      refine ⟨kt, kt, fun h20 => ?_, fun h20 => ?_⟩
      · try simp (disch := omega) only [tp1,tp2,tp3,tp4,tp5,tp6, zI_n, zI_o, zI_lit, zI_neg, zI_add, zI_sub, zI_mul, zI_lt, zI_le, zI_eq, zI_clamp, zI_in, zI_div, zI_rem, lg_lt0, lg_gt0, lg_eq0, lg_le0, lg_ge0, Int.toNat_natCast, ge_iff_le, gt_iff_lt, List.length_cons, List.length_nil, bl_up2_at, bl_up2_nk, bl_up2_nx] at h20
        try show _ ∧ _
        try dsimp only [bl_pv]
        rw [← hs, skW_f (by omega)]; exact ⟨rfl, rfl⟩
      · try simp (disch := omega) only [tp1,tp2,tp3,tp4,tp5,tp6, zI_n, zI_o, zI_lit, zI_neg, zI_add, zI_sub, zI_mul, zI_lt, zI_le, zI_eq, zI_clamp, zI_in, zI_div, zI_rem, lg_lt0, lg_gt0, lg_eq0, lg_le0, lg_ge0, Int.toNat_natCast, ge_iff_le, gt_iff_lt, List.length_cons, List.length_nil, bl_up2_at, bl_up2_nk, bl_up2_nx] at h20
        exfalso; omega
    · intro x hx hs; subst hx
      have ec : (nI j).toNatClampNeg = j := nI_clamp (by omega)
      refine bl_go oX8_readWord 80 [12] rfl ?_
      refine ⟨kt, kt, fun h20 => ?_, fun h20 => ?_⟩
      · try simp (disch := omega) only [tp1,tp2,tp3,tp4,tp5,tp6, eB, zI_n, zI_o, zI_lit, zI_neg, zI_add, zI_sub, zI_mul, zI_lt, zI_le, zI_eq, zI_clamp, zI_in, zI_div, zI_rem, lg_lt0, lg_gt0, lg_eq0, lg_le0, lg_ge0, Int.toNat_natCast, ge_iff_le, gt_iff_lt, List.length_cons, List.length_nil, bl_up2_at, bl_up2_nk, bl_up2_nx] at h20
        exfalso; omega
      · try simp (disch := omega) only [tp1,tp2,tp3,tp4,tp5,tp6, eB, zI_n, zI_o, zI_lit, zI_neg, zI_add, zI_sub, zI_mul, zI_lt, zI_le, zI_eq, zI_clamp, zI_in, zI_div, zI_rem, lg_lt0, lg_gt0, lg_eq0, lg_le0, lg_ge0, Int.toNat_natCast, ge_iff_le, gt_iff_lt, List.length_cons, List.length_nil, bl_up2_at, bl_up2_nk, bl_up2_nx] at h20
        refine ⟨kt, _, bl_vs rt_0, kt, Or.inl ⟨ktb, (by (try dsimp only [bl_pv]); show vp_in _ (N _); rw [ntb, tp5]; exact vp_in_nI (by omega) (by omega)), fun h34 => ?_, fun h34 => ?_⟩⟩
        · try simp (disch := omega) only [bl_pv, cl0, cl1, cl2, cl3, cl4, cl5, cl6, cl7, cl8, cl9, bl_up2_at, bl_up2_nk, bl_up2_nx] at h34
          rw [tp5, ec, eB] at h34
          try show _ ∧ _
          try dsimp only [bl_pv]
          first
          | (rw [← hs, skW_f (fun q => absurd h34 (Int32.not_lt.mpr q.2.1))]; exact ⟨rfl, rfl⟩)
          | (rw [← hs, skW_f (fun q => absurd h48 (Int32.not_lt.mpr q.2.2))]; exact ⟨rfl, rfl⟩)
        · try simp (disch := omega) only [bl_pv, cl0, cl1, cl2, cl3, cl4, cl5, cl6, cl7, cl8, cl9, bl_up2_at, bl_up2_nk, bl_up2_nx] at h34
          rw [tp5, ec, eB] at h34
          refine ⟨kt, _, bl_vs rt_0, kt, Or.inl ⟨ktb, (by (try dsimp only [bl_pv]); show vp_in _ (N _); rw [ntb, tp5]; exact vp_in_nI (by omega) (by omega)), fun h48 => ?_, fun h48 => ?_⟩⟩
          · try simp (disch := omega) only [bl_pv, cl0, cl1, cl2, cl3, cl4, cl5, cl6, cl7, cl8, cl9, bl_up2_at, bl_up2_nk, bl_up2_nx] at h48
            rw [tp5, ec, eB] at h48
            try show _ ∧ _
            try dsimp only [bl_pv]
            first
            | (rw [← hs, skW_f (fun q => absurd h34 (Int32.not_lt.mpr q.2.1))]; exact ⟨rfl, rfl⟩)
            | (rw [← hs, skW_f (fun q => absurd h48 (Int32.not_lt.mpr q.2.2))]; exact ⟨rfl, rfl⟩)
          · try simp (disch := omega) only [bl_pv, cl0, cl1, cl2, cl3, cl4, cl5, cl6, cl7, cl8, cl9, bl_up2_at, bl_up2_nk, bl_up2_nx] at h48
            rw [tp5, ec, eB] at h48
            refine ⟨rfl, kt, kt, Or.inr (Or.inr ⟨rfl, rfl, _, rfl⟩), (fun h => by cases h), ?_⟩
            try dsimp only [bl_pv]
            rw [tp5, tpu5]
            exact ih _ (nI_1 j) ((skW_t ⟨hj, Int32.not_lt.mp h34, Int32.not_lt.mp h48⟩ hn).symm.trans hs)
  refine bl_go oX8_readWord 80 [12] rfl ?_
  refine ⟨rfl, rfl, kt, (Nat.le_of_ble_eq_true rfl), (0, 0), Nat.le_of_ble_eq_true rfl, Nat.le_of_ble_eq_true rfl, bl_MC_mono (c_Tape_skipBlanks (d := d) ht' hn hi) (fun o1 σ1 q1 => ?_)⟩
  try dsimp only [bl_pv] at q1
  obtain ⟨rfl, rfl⟩ := q1
  rw [hpe]
  refine bl_go oX8_readWord 80 [12] rfl ?_
  refine ⟨kt, kt, Or.inr (Or.inr ⟨rfl, rfl, _, rfl⟩), (fun h => by cases h), ?_⟩
  try dsimp only [bl_pv]
  rw [tp5, tpu6]
  exact L p hp _ rfl rfl
/-- whether the word from p to e is w -/
def wis (B : Nat → Int32) (p e : Nat) (w : List Int32) : Prop := w ≠ [] ∧ e - p = w.length ∧ ∀ i, i < w.length → B (p + i) = w.getD i 0
theorem c_Tape_wordIs {w jw p e : Nat} {qw : List Int32} {en : Int32} (ht : tpS R K N t) (kw : K w = 110 + jw) (hjw : bl_byt[jw]? = some qw) (hq : qw.length ≤ 6) (hpe : p ≤ e) (he : e ≤ 400) : bl_MC G l d mX8_wordIs [.ref t, .ref w] (tpI I t h fk fp en (nI e) (nI p), J, R, K, N) (0, 0) (fun o σ' => (∃ v, o = .inl (some (.int v)) ∧ ((v = 1 ∧ wis (I (t + 1)) p e qw) ∨ (v = 0 ∧ ¬ wis (I (t + 1)) p e qw))) ∧ σ' = (tpI I t h fk fp en (nI e) (nI p), J, R, K, N)) := by
  obtain ⟨-, kt, rt_0, ktb, ntb⟩ := ht
  have eB : (tpI I t h fk fp en (nI e) (nI p)) (t + 1) = I (t + 1) := tpI_ne (by omega)
  refine bl_MC_intro (by decide +kernel) rfl (Nat.le_of_ble_eq_true rfl) ?_
  have L : qw ≠ [] → e - p = qw.length → ∀ i, i ≤ qw.length → ∀ x y, x = nI i → y = nI qw.length → (∀ j, j < i → I (t + 1) (p + j) = qw.getD j 0) → bl_WP G l d mX8_wordIs 26 [(3, .int x), (2, .int y), (0, .ref t), (1, .ref w)] [] (tpI I t h fk fp en (nI e) (nI p), J, R, K, N) (0, 0) (fun o σ' => (∃ v, o = .inl (some (.int v)) ∧ ((v = 1 ∧ wis (I (t + 1)) p e qw) ∨ (v = 0 ∧ ¬ wis (I (t + 1)) p e qw))) ∧ σ' = (tpI I t h fk fp en (nI e) (nI p), J, R, K, N)) := by
    intro hne hlen
    refine bl_for qw.length ?_ (fun i hi ih => ?_)
    · intro x y hx hy hh; subst hx hy
      refine bl_go oX8_wordIs 80 [26] rfl ?_
      refine ⟨fun h28 => ?_, fun h28 => ?_⟩
      · try simp (disch := omega) only [zI_n, zI_o, zI_lit, zI_neg, zI_add, zI_sub, zI_mul, zI_lt, zI_le, zI_eq, zI_clamp, zI_in, zI_div, zI_rem, lg_lt0, lg_gt0, lg_eq0, lg_le0, lg_ge0, Int.toNat_natCast, ge_iff_le, gt_iff_lt, List.length_cons, List.length_nil, bl_up2_at, bl_up2_nk, bl_up2_nx] at h28
        refine ⟨(fun _ => by first | exact Or.inl rfl | exact Or.inr rfl), ?_⟩
        try show _ ∧ _
        try dsimp only [bl_pv]
        exact ⟨⟨_, rfl, Or.inl ⟨rfl, hne, hlen, hh⟩⟩, rfl⟩
      · try simp (disch := omega) only [zI_n, zI_o, zI_lit, zI_neg, zI_add, zI_sub, zI_mul, zI_lt, zI_le, zI_eq, zI_clamp, zI_in, zI_div, zI_rem, lg_lt0, lg_gt0, lg_eq0, lg_le0, lg_ge0, Int.toNat_natCast, ge_iff_le, gt_iff_lt, List.length_cons, List.length_nil, bl_up2_at, bl_up2_nk, bl_up2_nx] at h28
        exfalso; omega
    · intro x y hx hy hh; subst hx hy
      have ec : (nI i).toNatClampNeg = i := nI_clamp (by omega)
      have ec2 : (nI p + nI i).toNatClampNeg = p + i := by rw [nI_add]; exact nI_clamp (by omega)
      refine bl_go oX8_wordIs 80 [26] rfl ?_
      refine ⟨fun h28 => ?_, fun h28 => ?_⟩
      · try simp (disch := omega) only [zI_n, zI_o, zI_lit, zI_neg, zI_add, zI_sub, zI_mul, zI_lt, zI_le, zI_eq, zI_clamp, zI_in, zI_div, zI_rem, lg_lt0, lg_gt0, lg_eq0, lg_le0, lg_ge0, Int.toNat_natCast, ge_iff_le, gt_iff_lt, List.length_cons, List.length_nil, bl_up2_at, bl_up2_nk, bl_up2_nx] at h28
        exfalso; omega
      · try simp (disch := omega) only [zI_n, zI_o, zI_lit, zI_neg, zI_add, zI_sub, zI_mul, zI_lt, zI_le, zI_eq, zI_clamp, zI_in, zI_div, zI_rem, lg_lt0, lg_gt0, lg_eq0, lg_le0, lg_ge0, Int.toNat_natCast, ge_iff_le, gt_iff_lt, List.length_cons, List.length_nil, bl_up2_at, bl_up2_nk, bl_up2_nx] at h28
        refine ⟨kt, _, bl_vs rt_0, kt, Or.inl ⟨ktb, (by (try dsimp only [bl_pv]); show vp_in _ (N _); rw [ntb, tp6, nI_add]; exact vp_in_nI (by omega) (by omega)), _, _, hjw, kw, (by exact vp_in_nI hi (by omega)), (Nat.le_of_ble_eq_true rfl), fun h47 => ?_, fun h47 => ?_⟩⟩
        · try simp (disch := omega) only [bl_pv, cl0, cl1, cl2, cl3, cl4, cl5, cl6, cl7, cl8, cl9, bl_up2_at, bl_up2_nk, bl_up2_nx] at h47
          rw [tp6, ec, ec2, eB] at h47
          try dsimp only [bl_pv]
          refine ih _ _ (nI_1 i) rfl (fun j hj => ?_)
          by_cases e : j = i
          · subst e; exact h47
          · exact hh j (by omega)
        · try simp (disch := omega) only [bl_pv, cl0, cl1, cl2, cl3, cl4, cl5, cl6, cl7, cl8, cl9, bl_up2_at, bl_up2_nk, bl_up2_nx] at h47
          rw [tp6, ec, ec2, eB] at h47
          refine ⟨(fun _ => by first | exact Or.inl rfl | exact Or.inr rfl), ?_⟩
          try show _ ∧ _
          try dsimp only [bl_pv]
          exact ⟨⟨_, rfl, Or.inr ⟨rfl, fun q => h47 (q.2.2 i hi)⟩⟩, rfl⟩
  refine bl_go oX8_wordIs 80 [26] rfl ?_
  refine ⟨_, _, hjw, kw, (Nat.le_of_ble_eq_true rfl), fun h6 => ?_, fun h6 => ?_⟩
  · try simp (disch := omega) only [tp1,tp2,tp3,tp4,tp5,tp6, zI_n, zI_o, zI_lit, zI_neg, zI_add, zI_sub, zI_mul, zI_lt, zI_le, zI_eq, zI_clamp, zI_in, zI_div, zI_rem, lg_lt0, lg_gt0, lg_eq0, lg_le0, lg_ge0, Int.toNat_natCast, ge_iff_le, gt_iff_lt, List.length_cons, List.length_nil, bl_up2_at, bl_up2_nk, bl_up2_nx] at h6
    refine ⟨(fun _ => by first | exact Or.inl rfl | exact Or.inr rfl), ?_⟩
    try show _ ∧ _
    try dsimp only [bl_pv]
    first
    | exact ⟨⟨_, rfl, Or.inr ⟨rfl, fun q => q.1 (List.eq_nil_of_length_eq_zero (by omega))⟩⟩, rfl⟩
    | exact ⟨⟨_, rfl, Or.inr ⟨rfl, fun q => absurd q.2.1 (by omega)⟩⟩, rfl⟩
  · try simp (disch := omega) only [tp1,tp2,tp3,tp4,tp5,tp6, zI_n, zI_o, zI_lit, zI_neg, zI_add, zI_sub, zI_mul, zI_lt, zI_le, zI_eq, zI_clamp, zI_in, zI_div, zI_rem, lg_lt0, lg_gt0, lg_eq0, lg_le0, lg_ge0, Int.toNat_natCast, ge_iff_le, gt_iff_lt, List.length_cons, List.length_nil, bl_up2_at, bl_up2_nk, bl_up2_nx] at h6
    refine ⟨kt, kt, fun h19 => ?_, fun h19 => ?_⟩
    · try simp (disch := omega) only [tp1,tp2,tp3,tp4,tp5,tp6, zI_n, zI_o, zI_lit, zI_neg, zI_add, zI_sub, zI_mul, zI_lt, zI_le, zI_eq, zI_clamp, zI_in, zI_div, zI_rem, lg_lt0, lg_gt0, lg_eq0, lg_le0, lg_ge0, Int.toNat_natCast, ge_iff_le, gt_iff_lt, List.length_cons, List.length_nil, bl_up2_at, bl_up2_nk, bl_up2_nx] at h19
      try dsimp only [bl_pv]
      exact L (fun e => by rw [e] at h6; exact h6 rfl) (by omega) 0 (by omega) _ _ rfl rfl (fun j hj => absurd hj (by omega))
    · try simp (disch := omega) only [tp1,tp2,tp3,tp4,tp5,tp6, zI_n, zI_o, zI_lit, zI_neg, zI_add, zI_sub, zI_mul, zI_lt, zI_le, zI_eq, zI_clamp, zI_in, zI_div, zI_rem, lg_lt0, lg_gt0, lg_eq0, lg_le0, lg_ge0, Int.toNat_natCast, ge_iff_le, gt_iff_lt, List.length_cons, List.length_nil, bl_up2_at, bl_up2_nk, bl_up2_nx] at h19
      refine ⟨(fun _ => by first | exact Or.inl rfl | exact Or.inr rfl), ?_⟩
      try show _ ∧ _
      try dsimp only [bl_pv]
      first
      | exact ⟨⟨_, rfl, Or.inr ⟨rfl, fun q => q.1 (List.eq_nil_of_length_eq_zero (by omega))⟩⟩, rfl⟩
      | exact ⟨⟨_, rfl, Or.inr ⟨rfl, fun q => absurd q.2.1 (by omega)⟩⟩, rfl⟩
theorem nmv_sat (M v d : Nat) (hM : 0 < M) : min (10 * min v M + d) M = min (10 * v + d) M := by omega
theorem c_Tape_readNumber {lo hi : Nat} {x y : Int32} (ht : tpS R K N t) (hn : n ≤ 400) (hi' : i ≤ n) (hx : x = nI lo) (hy : y = nI hi) (hlo : lo ≤ hi) (hhi : hi ≤ 9999) : bl_MC G l (d + 1) mX8_readNumber [.ref t, .int x, .int y] (tpI I t h fk fp (nI n) (nI i) wa, J, R, K, N) (0, 0) (fun o σ' => (∃ v e, pnum (I (t + 1)) n lo hi i = .inl (v, e) ∧ o = .inl (some (.int (nI v))) ∧ σ' = (tpI I t h fk fp (nI n) (nI e) wa, J, R, K, N)) ∨ (∃ k p a, pnum (I (t + 1)) n lo hi i = .inr (k, p) ∧ o = .inl (some (.int (zI (-1)))) ∧ σ' = (tpI I t h (nI k) (nI p) (nI n) a wa, J, R, K, N))) := by
  have ht' := ht
  obtain ⟨-, kt, rt_0, ktb, ntb⟩ := ht
  have eB : ∀ a, (tpI I t h fk fp (nI n) a wa) (t + 1) = I (t + 1) := fun a => tpI_ne (by omega)
  have hp : skB (I (t + 1)) n i ≤ n := skB_le hi'
  unfold pnum
  generalize hpe : skB (I (t + 1)) n i = p at *
  subst hx hy
  refine bl_MC_intro (by decide +kernel) rfl (Nat.le_of_ble_eq_true rfl) ?_
  have LE : ∀ k z, p + k = skD (I (t + 1)) n p → p + k ≤ n → z = nI (min (nmv (I (t + 1)) p k) 1000000) → bl_WP G l (d + 1) mX8_readNumber 89 [(4, .int z), (3, .int (nI p)), (0, .ref t), (1, .int (nI lo)), (2, .int (nI hi))] [] (tpI I t h fk fp (nI n) (nI (p + k)) wa, J, R, K, N) (0, 0) (fun o σ' => (∃ v e, (if skD (I (t + 1)) n p = p then .inr (1, p) else if lo ≤ nmv (I (t + 1)) p (skD (I (t + 1)) n p - p) ∧ nmv (I (t + 1)) p (skD (I (t + 1)) n p - p) ≤ hi then .inl (nmv (I (t + 1)) p (skD (I (t + 1)) n p - p), skD (I (t + 1)) n p) else .inr (2, p) : pr (Nat × Nat)) = .inl (v, e) ∧ o = .inl (some (.int (nI v))) ∧ σ' = (tpI I t h fk fp (nI n) (nI e) wa, J, R, K, N)) ∨ (∃ k q a, (if skD (I (t + 1)) n p = p then .inr (1, p) else if lo ≤ nmv (I (t + 1)) p (skD (I (t + 1)) n p - p) ∧ nmv (I (t + 1)) p (skD (I (t + 1)) n p - p) ≤ hi then .inl (nmv (I (t + 1)) p (skD (I (t + 1)) n p - p), skD (I (t + 1)) n p) else .inr (2, p) : pr (Nat × Nat)) = .inr (k, q) ∧ o = .inl (some (.int (zI (-1)))) ∧ σ' = (tpI I t h (nI k) (nI q) (nI n) a wa, J, R, K, N))) := by
    intro k z hk hkn hz
    subst hz
    rw [← hk, Nat.add_sub_cancel_left]
    refine bl_go oX8_readNumber 80 [12, 89] rfl ?_
    refine ⟨kt, fun h94 => ?_, fun h94 => ?_⟩
    · try simp (disch := omega) only [tp1,tp2,tp3,tp4,tp5,tp6, zI_n, zI_o, zI_lit, zI_neg, zI_add, zI_sub, zI_mul, zI_lt, zI_le, zI_eq, zI_clamp, zI_in, zI_div, zI_rem, lg_lt0, lg_gt0, lg_eq0, lg_le0, lg_ge0, Int.toNat_natCast, ge_iff_le, gt_iff_lt, List.length_cons, List.length_nil, bl_up2_at, bl_up2_nk, bl_up2_nx] at h94
      refine ⟨fun h112 => ?_, fun h112 => ?_⟩
      · try simp (disch := omega) only [tp1,tp2,tp3,tp4,tp5,tp6, zI_n, zI_o, zI_lit, zI_neg, zI_add, zI_sub, zI_mul, zI_lt, zI_le, zI_eq, zI_clamp, zI_in, zI_div, zI_rem, lg_lt0, lg_gt0, lg_eq0, lg_le0, lg_ge0, Int.toNat_natCast, ge_iff_le, gt_iff_lt, List.length_cons, List.length_nil, bl_up2_at, bl_up2_nk, bl_up2_nx] at h112
        refine ⟨rfl, rfl, kt, (Nat.le_of_ble_eq_true rfl), (0, 0), Nat.le_of_ble_eq_true rfl, Nat.le_of_ble_eq_true rfl, bl_MC_mono (c_Tape_refuse (d := d) kt) (fun o124 σ124 q124 => ?_)⟩
        try dsimp only [bl_pv] at q124
        obtain ⟨rfl, rfl⟩ := q124
        refine bl_go oX8_readNumber 80 [12, 89] rfl ?_
        refine ⟨rfl, (fun h => by cases h), ?_⟩
        try show _ ∧ _
        try dsimp only [bl_pv]
        refine Or.inr ⟨2, p, nI (p + k), by rw [if_neg (by omega), if_neg (by omega)], rfl, rfl⟩
      · try simp (disch := omega) only [tp1,tp2,tp3,tp4,tp5,tp6, zI_n, zI_o, zI_lit, zI_neg, zI_add, zI_sub, zI_mul, zI_lt, zI_le, zI_eq, zI_clamp, zI_in, zI_div, zI_rem, lg_lt0, lg_gt0, lg_eq0, lg_le0, lg_ge0, Int.toNat_natCast, ge_iff_le, gt_iff_lt, List.length_cons, List.length_nil, bl_up2_at, bl_up2_nk, bl_up2_nx] at h112
        refine ⟨fun h118 => ?_, fun h118 => ?_⟩
        · try simp (disch := omega) only [tp1,tp2,tp3,tp4,tp5,tp6, zI_n, zI_o, zI_lit, zI_neg, zI_add, zI_sub, zI_mul, zI_lt, zI_le, zI_eq, zI_clamp, zI_in, zI_div, zI_rem, lg_lt0, lg_gt0, lg_eq0, lg_le0, lg_ge0, Int.toNat_natCast, ge_iff_le, gt_iff_lt, List.length_cons, List.length_nil, bl_up2_at, bl_up2_nk, bl_up2_nx] at h118
          refine ⟨(fun h => by cases h), ?_⟩
          try show _ ∧ _
          try dsimp only [bl_pv]
          refine Or.inl ⟨nmv (I (t + 1)) p k, p + k, by rw [if_neg (by omega), if_pos (by omega)], ?_, rfl⟩
          rw [show min (nmv (I (t + 1)) p k) 1000000 = nmv (I (t + 1)) p k by omega]
        · try simp (disch := omega) only [tp1,tp2,tp3,tp4,tp5,tp6, zI_n, zI_o, zI_lit, zI_neg, zI_add, zI_sub, zI_mul, zI_lt, zI_le, zI_eq, zI_clamp, zI_in, zI_div, zI_rem, lg_lt0, lg_gt0, lg_eq0, lg_le0, lg_ge0, Int.toNat_natCast, ge_iff_le, gt_iff_lt, List.length_cons, List.length_nil, bl_up2_at, bl_up2_nk, bl_up2_nx] at h118
          refine ⟨rfl, rfl, kt, (Nat.le_of_ble_eq_true rfl), (0, 0), Nat.le_of_ble_eq_true rfl, Nat.le_of_ble_eq_true rfl, bl_MC_mono (c_Tape_refuse (d := d) kt) (fun o124 σ124 q124 => ?_)⟩
          try dsimp only [bl_pv] at q124
          obtain ⟨rfl, rfl⟩ := q124
          refine bl_go oX8_readNumber 80 [12, 89] rfl ?_
          refine ⟨rfl, (fun h => by cases h), ?_⟩
          try show _ ∧ _
          try dsimp only [bl_pv]
          refine Or.inr ⟨2, p, nI (p + k), by rw [if_neg (by omega), if_neg (by omega)], rfl, rfl⟩
    · try simp (disch := omega) only [tp1,tp2,tp3,tp4,tp5,tp6, zI_n, zI_o, zI_lit, zI_neg, zI_add, zI_sub, zI_mul, zI_lt, zI_le, zI_eq, zI_clamp, zI_in, zI_div, zI_rem, lg_lt0, lg_gt0, lg_eq0, lg_le0, lg_ge0, Int.toNat_natCast, ge_iff_le, gt_iff_lt, List.length_cons, List.length_nil, bl_up2_at, bl_up2_nk, bl_up2_nx] at h94
      refine ⟨kt, rfl, rfl, kt, (Nat.le_of_ble_eq_true rfl), (0, 0), Nat.le_of_ble_eq_true rfl, Nat.le_of_ble_eq_true rfl, bl_MC_mono (c_Tape_refuse (d := d) kt) (fun o103 σ103 q103 => ?_)⟩
      try dsimp only [bl_pv] at q103
      obtain ⟨rfl, rfl⟩ := q103
      refine bl_go oX8_readNumber 80 [12, 89] rfl ?_
      refine ⟨rfl, (fun h => by cases h), ?_⟩
      try show _ ∧ _
      try dsimp only [bl_pv]
      refine Or.inr ⟨1, p, nI (p + k), by rw [if_pos (by omega)], rfl, ?_⟩
      rw [tp5, show p + k = p by omega]; rfl
  have L : ∀ j, j ≤ n → p ≤ j → ∀ x z, x = nI j → z = nI (min (nmv (I (t + 1)) p (j - p)) 1000000) → skD (I (t + 1)) n j = skD (I (t + 1)) n p → bl_WP G l (d + 1) mX8_readNumber 12 [(4, .int z), (3, .int (nI p)), (0, .ref t), (1, .int (nI lo)), (2, .int (nI hi))] [] (tpI I t h fk fp (nI n) x wa, J, R, K, N) (0, 0) (fun o σ' => (∃ v e, (if skD (I (t + 1)) n p = p then .inr (1, p) else if lo ≤ nmv (I (t + 1)) p (skD (I (t + 1)) n p - p) ∧ nmv (I (t + 1)) p (skD (I (t + 1)) n p - p) ≤ hi then .inl (nmv (I (t + 1)) p (skD (I (t + 1)) n p - p), skD (I (t + 1)) n p) else .inr (2, p) : pr (Nat × Nat)) = .inl (v, e) ∧ o = .inl (some (.int (nI v))) ∧ σ' = (tpI I t h fk fp (nI n) (nI e) wa, J, R, K, N)) ∨ (∃ k q a, (if skD (I (t + 1)) n p = p then .inr (1, p) else if lo ≤ nmv (I (t + 1)) p (skD (I (t + 1)) n p - p) ∧ nmv (I (t + 1)) p (skD (I (t + 1)) n p - p) ≤ hi then .inl (nmv (I (t + 1)) p (skD (I (t + 1)) n p - p), skD (I (t + 1)) n p) else .inr (2, p) : pr (Nat × Nat)) = .inr (k, q) ∧ o = .inl (some (.int (zI (-1)))) ∧ σ' = (tpI I t h (nI k) (nI q) (nI n) a wa, J, R, K, N))) := by
    refine bl_for n ?_ (fun j hj ih => ?_)
    · intro hpj x z hx hz hs; subst hx
      refine bl_go oX8_readNumber 80 [12, 89] rfl ?_
      refine ⟨kt, kt, fun h20 => ?_, fun h20 => ?_⟩
      · try simp (disch := omega) only [tp1,tp2,tp3,tp4,tp5,tp6, zI_n, zI_o, zI_lit, zI_neg, zI_add, zI_sub, zI_mul, zI_lt, zI_le, zI_eq, zI_clamp, zI_in, zI_div, zI_rem, lg_lt0, lg_gt0, lg_eq0, lg_le0, lg_ge0, Int.toNat_natCast, ge_iff_le, gt_iff_lt, List.length_cons, List.length_nil, bl_up2_at, bl_up2_nk, bl_up2_nx] at h20
        try dsimp only [bl_pv]
        have e1 : skD (I (t + 1)) n p = n := by rw [← hs]; exact skD_f (by omega)
        have := LE (n - p) z (by omega) (by omega) hz
        rw [show p + (n - p) = n by omega] at this
        exact this
      · try simp (disch := omega) only [tp1,tp2,tp3,tp4,tp5,tp6, zI_n, zI_o, zI_lit, zI_neg, zI_add, zI_sub, zI_mul, zI_lt, zI_le, zI_eq, zI_clamp, zI_in, zI_div, zI_rem, lg_lt0, lg_gt0, lg_eq0, lg_le0, lg_ge0, Int.toNat_natCast, ge_iff_le, gt_iff_lt, List.length_cons, List.length_nil, bl_up2_at, bl_up2_nk, bl_up2_nx] at h20
        exfalso; omega
    · intro hpj x z hx hz hs; subst hx
      have ec : (nI j).toNatClampNeg = j := nI_clamp (by omega)
      refine bl_go oX8_readNumber 80 [12, 89] rfl ?_
      refine ⟨kt, kt, fun h20 => ?_, fun h20 => ?_⟩
      · try simp (disch := omega) only [tp1,tp2,tp3,tp4,tp5,tp6, eB, zI_n, zI_o, zI_lit, zI_neg, zI_add, zI_sub, zI_mul, zI_lt, zI_le, zI_eq, zI_clamp, zI_in, zI_div, zI_rem, lg_lt0, lg_gt0, lg_eq0, lg_le0, lg_ge0, Int.toNat_natCast, ge_iff_le, gt_iff_lt, List.length_cons, List.length_nil, bl_up2_at, bl_up2_nk, bl_up2_nx] at h20
        exfalso; omega
      · try simp (disch := omega) only [tp1,tp2,tp3,tp4,tp5,tp6, eB, zI_n, zI_o, zI_lit, zI_neg, zI_add, zI_sub, zI_mul, zI_lt, zI_le, zI_eq, zI_clamp, zI_in, zI_div, zI_rem, lg_lt0, lg_gt0, lg_eq0, lg_le0, lg_ge0, Int.toNat_natCast, ge_iff_le, gt_iff_lt, List.length_cons, List.length_nil, bl_up2_at, bl_up2_nk, bl_up2_nx] at h20
        refine ⟨kt, _, bl_vs rt_0, kt, Or.inl ⟨ktb, (by (try dsimp only [bl_pv]); show vp_in _ (N _); rw [ntb, tp5]; exact vp_in_nI (by omega) (by omega)), fun h34 => ?_, fun h34 => ?_⟩⟩
        · try simp (disch := omega) only [bl_pv, cl0, cl1, cl2, cl3, cl4, cl5, cl6, cl7, cl8, cl9, bl_up2_at, bl_up2_nk, bl_up2_nx] at h34
          rw [tp5, ec, eB] at h34
          try dsimp only [bl_pv]
          have e1 : skD (I (t + 1)) n p = j := by
            rw [← hs]
            first
            | exact skD_f (fun q => absurd h34 (Int32.not_lt.mpr q.2.1))
            | exact skD_f (fun q => absurd h48 (Int32.not_lt.mpr q.2.2))
          have := LE (j - p) z (by omega) (by omega) hz
          rw [show p + (j - p) = j by omega] at this
          exact this
        · try simp (disch := omega) only [bl_pv, cl0, cl1, cl2, cl3, cl4, cl5, cl6, cl7, cl8, cl9, bl_up2_at, bl_up2_nk, bl_up2_nx] at h34
          rw [tp5, ec, eB] at h34
          refine ⟨kt, _, bl_vs rt_0, kt, Or.inl ⟨ktb, (by (try dsimp only [bl_pv]); show vp_in _ (N _); rw [ntb, tp5]; exact vp_in_nI (by omega) (by omega)), fun h48 => ?_, fun h48 => ?_⟩⟩
          · try simp (disch := omega) only [bl_pv, cl0, cl1, cl2, cl3, cl4, cl5, cl6, cl7, cl8, cl9, bl_up2_at, bl_up2_nk, bl_up2_nx] at h48
            rw [tp5, ec, eB] at h48
            try dsimp only [bl_pv]
            have e1 : skD (I (t + 1)) n p = j := by
              rw [← hs]
              first
              | exact skD_f (fun q => absurd h34 (Int32.not_lt.mpr q.2.1))
              | exact skD_f (fun q => absurd h48 (Int32.not_lt.mpr q.2.2))
            have := LE (j - p) z (by omega) (by omega) hz
            rw [show p + (j - p) = j by omega] at this
            exact this
          · try simp (disch := omega) only [bl_pv, cl0, cl1, cl2, cl3, cl4, cl5, cl6, cl7, cl8, cl9, bl_up2_at, bl_up2_nk, bl_up2_nx] at h48
            rw [tp5, ec, eB] at h48
            refine ⟨kt, _, bl_vs rt_0, kt, Or.inl ⟨ktb, (by (try dsimp only [bl_pv]); show vp_in _ (N _); rw [ntb, tp5]; exact vp_in_nI (by omega) (by omega)), (Nat.le_of_ble_eq_true rfl), rfl, kt, kt, Or.inr (Or.inr ⟨rfl, rfl, _, rfl⟩), (fun h => by cases h), ?_⟩⟩
            try dsimp only [bl_pv]
            have g1 : (48 : Int) ≤ (I (t + 1) j).toInt := by
              have := Int32.le_iff_toInt_le.mp (Int32.not_lt.mp h34); exact this
            have g2 : (I (t + 1) j).toInt ≤ 57 := by
              have := Int32.le_iff_toInt_le.mp (Int32.not_lt.mp h48); exact this
            have eI : I (t + 1) j = zI ((I (t + 1) j).toInt) := (Int32.ofInt_toInt _).symm
            have em : bl_up2 (tpI I t h fk fp (nI n) (nI j) wa) t 5 (tpI I t h fk fp (nI n) (nI j) wa t 5 + 1) = tpI I t h fk fp (nI n) (nI j + 1) wa := by rw [tp5, tpu5]
            have ev : tpI I t h fk fp (nI n) (nI j) wa (t + 1) (tpI I t h fk fp (nI n) (nI j) wa t 5).toNatClampNeg = zI ((I (t + 1) j).toInt) := by rw [tp5, ec, eB]; exact eI
            rw [em]
            refine ih (by omega) _ _ (nI_1 j) ?_ ((skD_t ⟨hj, Int32.not_lt.mp h34, Int32.not_lt.mp h48⟩ hn).symm.trans hs)
            rw [show j + 1 - p = (j - p) + 1 by omega]
            show _ = nI (min (10 * nmv (I (t + 1)) p (j - p) + ((I (t + 1) (p + (j - p))).toInt - 48).toNat) 1000000)
            rw [show p + (j - p) = j by omega, ← nmv_sat _ _ _ (by decide), hz]
            simp only [ev]
            have hm : min (nmv (I (t + 1)) p (j - p)) 1000000 ≤ 1000000 := Nat.min_le_right _ _
            generalize min (nmv (I (t + 1)) p (j - p)) 1000000 = m at *
            generalize (I (t + 1) j).toInt = x at *
            by_cases hb : 1000000 < 10 * m + (x - 48).toNat
            · rw [if_pos (by simp (disch := omega) only [zI_n, zI_o, zI_lit, zI_neg, zI_add, zI_sub, zI_mul, zI_lt, zI_le, zI_eq, zI_clamp, zI_in, zI_div, zI_rem, lg_lt0, lg_gt0, lg_eq0, lg_le0, lg_ge0, Int.toNat_natCast, ge_iff_le, gt_iff_lt, List.length_cons, List.length_nil, bl_up2_at, bl_up2_nk, bl_up2_nx]; omega), show min (10 * m + (x - 48).toNat) 1000000 = 1000000 by omega]; rfl
            · rw [if_neg (by simp (disch := omega) only [zI_n, zI_o, zI_lit, zI_neg, zI_add, zI_sub, zI_mul, zI_lt, zI_le, zI_eq, zI_clamp, zI_in, zI_div, zI_rem, lg_lt0, lg_gt0, lg_eq0, lg_le0, lg_ge0, Int.toNat_natCast, ge_iff_le, gt_iff_lt, List.length_cons, List.length_nil, bl_up2_at, bl_up2_nk, bl_up2_nx]; omega), show min (10 * m + (x - 48).toNat) 1000000 = 10 * m + (x - 48).toNat by omega]
              simp (disch := omega) only [zI_n, zI_o, zI_lit, zI_neg, zI_add, zI_sub, zI_mul, zI_lt, zI_le, zI_eq, zI_clamp, zI_in, zI_div, zI_rem, lg_lt0, lg_gt0, lg_eq0, lg_le0, lg_ge0, Int.toNat_natCast, ge_iff_le, gt_iff_lt, List.length_cons, List.length_nil, bl_up2_at, bl_up2_nk, bl_up2_nx]
              omega
  refine bl_go oX8_readNumber 80 [12, 89] rfl ?_
  refine ⟨rfl, rfl, kt, (Nat.le_of_ble_eq_true rfl), (0, 0), Nat.le_of_ble_eq_true rfl, Nat.le_of_ble_eq_true rfl, bl_MC_mono (c_Tape_skipBlanks (d := d) ht' hn hi') (fun o1 σ1 q1 => ?_)⟩
  try dsimp only [bl_pv] at q1
  obtain ⟨rfl, rfl⟩ := q1
  rw [hpe]
  refine bl_go oX8_readNumber 80 [12, 89] rfl ?_
  refine ⟨kt, ?_⟩
  try dsimp only [bl_pv]
  rw [tp5]
  exact L p hp (Nat.le_refl _) _ _ rfl (by rw [Nat.sub_self]; rfl) rfl
theorem c_Tape_readEnd (ht : tpS R K N t) (hn : n ≤ 400) (hi : i ≤ n) : bl_MC G l (d + 1) mX8_readEnd [.ref t] (tpI I t h fk fp (nI n) (nI i) wa, J, R, K, N) (0, 0) (fun o σ' => (∃ e, pend (I (t + 1)) n i = .inl e ∧ o = .inl (some (.int 1)) ∧ σ' = (tpI I t h fk fp (nI n) (nI e) wa, J, R, K, N)) ∨ (∃ k p a, pend (I (t + 1)) n i = .inr (k, p) ∧ o = .inl (some (.int 0)) ∧ σ' = (tpI I t h (nI k) (nI p) (nI n) a wa, J, R, K, N))) := by
  have ht' := ht
  obtain ⟨-, kt, rt_0, ktb, ntb⟩ := ht
  have eB : ∀ a, (tpI I t h fk fp (nI n) a wa) (t + 1) = I (t + 1) := fun a => tpI_ne (by omega)
  have hp : skB (I (t + 1)) n i ≤ n := skB_le hi
  unfold pend
  generalize hpe : skB (I (t + 1)) n i = p at *
  have ec : (nI p).toNatClampNeg = p := nI_clamp (by omega)
  refine bl_MC_intro (by decide +kernel) rfl (Nat.le_of_ble_eq_true rfl) ?_
  refine bl_go oX8_readEnd 80 [] rfl ?_
  refine ⟨rfl, rfl, kt, (Nat.le_of_ble_eq_true rfl), (0, 0), Nat.le_of_ble_eq_true rfl, Nat.le_of_ble_eq_true rfl, bl_MC_mono (c_Tape_skipBlanks (d := d) ht' hn hi) (fun o1 σ1 q1 => ?_)⟩
  try dsimp only [bl_pv] at q1
  obtain ⟨rfl, rfl⟩ := q1
  rw [hpe]
  refine bl_go oX8_readEnd 80 [] rfl ?_
  refine ⟨kt, kt, fun h12 => ?_, fun h12 => ?_⟩
  · try simp (disch := omega) only [tp1,tp2,tp3,tp4,tp5,tp6, zI_n, zI_o, zI_lit, zI_neg, zI_add, zI_sub, zI_mul, zI_lt, zI_le, zI_eq, zI_clamp, zI_in, zI_div, zI_rem, lg_lt0, lg_gt0, lg_eq0, lg_le0, lg_ge0, Int.toNat_natCast, ge_iff_le, gt_iff_lt, List.length_cons, List.length_nil, bl_up2_at, bl_up2_nk, bl_up2_nx] at h12
    refine ⟨kt, rfl, rfl, kt, (Nat.le_of_ble_eq_true rfl), (0, 0), Nat.le_of_ble_eq_true rfl, Nat.le_of_ble_eq_true rfl, bl_MC_mono (c_Tape_refuse (d := d) kt) (fun o35 σ35 q35 => ?_)⟩
    try dsimp only [bl_pv] at q35
    obtain ⟨rfl, rfl⟩ := q35
    refine bl_go oX8_readEnd 80 [] rfl ?_
    refine ⟨(fun _ => by first | exact Or.inl rfl | exact Or.inr rfl), ?_⟩
    try show _ ∧ _
    try dsimp only [bl_pv]
    refine Or.inr ⟨1, p, nI p, ?_, rfl, by rw [tp5]; rfl⟩
    first
    | rw [if_neg (by omega)]
    | rw [if_neg (fun q => h26 q.2)]
  · try simp (disch := omega) only [tp1,tp2,tp3,tp4,tp5,tp6, zI_n, zI_o, zI_lit, zI_neg, zI_add, zI_sub, zI_mul, zI_lt, zI_le, zI_eq, zI_clamp, zI_in, zI_div, zI_rem, lg_lt0, lg_gt0, lg_eq0, lg_le0, lg_ge0, Int.toNat_natCast, ge_iff_le, gt_iff_lt, List.length_cons, List.length_nil, bl_up2_at, bl_up2_nk, bl_up2_nx] at h12
    refine ⟨kt, _, bl_vs rt_0, kt, Or.inl ⟨ktb, (by (try dsimp only [bl_pv]); show vp_in _ (N _); rw [ntb, tp5]; exact vp_in_nI (by omega) (by omega)), fun h26 => ?_, fun h26 => ?_⟩⟩
    · try simp (disch := omega) only [bl_pv, cl0, cl1, cl2, cl3, cl4, cl5, cl6, cl7, cl8, cl9, bl_up2_at, bl_up2_nk, bl_up2_nx] at h26
      rw [tp5, ec, eB] at h26
      refine ⟨rfl, kt, kt, Or.inr (Or.inr ⟨rfl, rfl, _, rfl⟩), (fun h => by cases h), (fun _ => by first | exact Or.inl rfl | exact Or.inr rfl), ?_⟩
      try show _ ∧ _
      try dsimp only [bl_pv]
      refine Or.inl ⟨p + 1, by rw [if_pos ⟨by omega, h26⟩], rfl, ?_⟩
      rw [tp5, tpu5, nI_1]
    · try simp (disch := omega) only [bl_pv, cl0, cl1, cl2, cl3, cl4, cl5, cl6, cl7, cl8, cl9, bl_up2_at, bl_up2_nk, bl_up2_nx] at h26
      rw [tp5, ec, eB] at h26
      refine ⟨kt, rfl, rfl, kt, (Nat.le_of_ble_eq_true rfl), (0, 0), Nat.le_of_ble_eq_true rfl, Nat.le_of_ble_eq_true rfl, bl_MC_mono (c_Tape_refuse (d := d) kt) (fun o35 σ35 q35 => ?_)⟩
      try dsimp only [bl_pv] at q35
      obtain ⟨rfl, rfl⟩ := q35
      refine bl_go oX8_readEnd 80 [] rfl ?_
      refine ⟨(fun _ => by first | exact Or.inl rfl | exact Or.inr rfl), ?_⟩
      try show _ ∧ _
      try dsimp only [bl_pv]
      refine Or.inr ⟨1, p, nI p, ?_, rfl, by rw [tp5]; rfl⟩
      first
      | rw [if_neg (by omega)]
      | rw [if_neg (fun q => h26 q.2)]
end TAPE
