/-! ===== Model: what is asked behind k steps ===== -/
/-- kitchen, room by hours, how many recipes, the recipes, the first unit -/
abbrev aS : Type := (Nat → Nat) × (Nat → Int32) × Nat × (Nat → sq) × Nat
noncomputable def dnf (S0 : sl) (rc : sq) : Nat := Classical.choose (isDone_ex S0 rc)
theorem dnf_is (S0 : sl) (rc : sq) : isDone S0 rc (dnf S0 rc) := Classical.choose_spec (isDone_ex S0 rc)
abbrev aS0 (A : aS) : sl := sl_first (A.1 0) (A.1 1) (A.1 2)
noncomputable def aD (A : aS) (r : Nat) : Nat := dnf (aS0 A) (A.2.2.2.1 r)
def aSl (A : aS) (r k : Nat) : sl := sl_at (aS0 A) (A.2.2.2.1 r) k
abbrev rn (x : Int32) : Nat := x.toNatClampNeg
def rb (c : Nat) (x : Int32) : Bool := decide (0 ≤ x ∧ x ≤ zI ((c : Int) - 1))
theorem rb_t {c : Nat} {x : Int32} : rb c x = true ↔ isR c x := decide_eq_true_iff
theorem rb_n {c : Nat} {x : Int32} (hc : c ≤ 1000) (h : rb c x = true) : ∃ k, k < c ∧ x = nI k ∧ rn x = k := by
  obtain ⟨k, h1, h2⟩ := isR_nat hc (rb_t.mp h)
  exact ⟨k, h1, h2, by rw [h2]; exact nI_clamp (by omega)⟩
noncomputable def askE (A : aS) (x y : Int32) : Nat := if rb A.2.2.1 x then (if rb (aD A (rn x) + 1) y then 0 else 2) else 1
def wb (hi w : Int32) : Bool := decide (0 ≤ w ∧ w ≤ hi)
theorem wb_t {hi w : Int32} (h : 0 ≤ w ∧ w ≤ hi) : wb hi w = true := decide_eq_true h
theorem wb_f {hi w : Int32} (h : ¬ (0 ≤ w ∧ w ≤ hi)) : ¬ wb hi w = true := fun q => h (of_decide_eq_true q)
noncomputable def askW (A : aS) (x y w hi : Int32) : Nat := if askE A x y = 0 then (if wb hi w then 0 else 3) else askE A x y
def mdK (I : Nat → Nat → Int32) (m : Nat) (A : aS) : Prop := mkC I m A.1 A.2.1 ∧ tfO A.1 ∧ mdR I m A.2.2.1 A.2.2.2.1 ∧ I m 14 = nI A.2.2.2.2 ∧ A.2.2.2.2 < 288
theorem mdK.same {I I' : Nat → Nat → Int32} {m : Nat} {A : aS} (h : mdK I m A) (h1 : ∀ x, m < x → x < m + 37 → I' x = I x) (h2 : ∀ r, r < 4 → I' (m + 100 + r) = I (m + 100 + r)) (h3 : I' m 13 = I m 13) (h4 : I' m 14 = I m 14) : mdK I' m A := by
  obtain ⟨a, b, ⟨c1, c2, c3⟩, e, f⟩ := h
  refine ⟨a.same (h1 _ (by omega) (by omega)) (h1 _ (by omega) (by omega)), b, ⟨h3.trans c1, c2, fun r hr => ?_⟩, h4.trans e, f⟩
  rw [h1 (m + 16) (by omega) (by omega), h2 r (by omega)]
  exact c3 r hr
/-- the same, thrown may change too -/
def gtG (I I' : Nat → Nat → Int32) (J J' : Nat → Nat → Int64) (m : Nat) : Prop := (∀ x, x ≠ m → (x < m + 37 ∨ m + 42 < x) → I' x = I x) ∧ (∀ j, j ≠ 0 → (j < 21 ∨ 28 < j) → I' m j = I m j) ∧ ∀ x, x < m → J' x = J x
theorem gtF.G {I I1 : Nat → Nat → Int32} {J J1 : Nat → Nat → Int64} {m : Nat} (h : gtF I I1 J J1 m) : gtG I I1 J J1 m := ⟨fun x a b => h.1 x a (by omega), fun j _ a => h.2.1 j a, h.2.2⟩
theorem gtG.trans {I I1 I2 : Nat → Nat → Int32} {J J1 J2 : Nat → Nat → Int64} {m : Nat} (h : gtG I I1 J J1 m) (h2 : gtG I1 I2 J1 J2 m) : gtG I I2 J J2 m :=
  ⟨fun x a b => (h2.1 x a b).trans (h.1 x a b), fun j a b => (h2.2.1 j a b).trans (h.2.1 j a b), fun x a => (h2.2.2 x a).trans (h.2.2 x a)⟩
theorem gtG.up {I : Nat → Nat → Int32} {J : Nat → Nat → Int64} {m : Nat} {v : Int32} : gtG I (bl_up2 I m 0 v) J J m := ⟨fun x a _ => bl_up2_ne a, fun j a _ => bl_up2_nk a, fun _ _ => rfl⟩
theorem mdK.G {I I' : Nat → Nat → Int32} {J J' : Nat → Nat → Int64} {m : Nat} {A : aS} (h : mdK I m A) (hG : gtG I I' J J' m) : mdK I' m A :=
  h.same (fun x a b => hG.1 x (by omega) (by omega)) (fun r hr => hG.1 _ (by omega) (by omega)) (hG.2.1 13 (by omega) (by omega)) (hG.2.1 14 (by omega) (by omega))
abbrev gtA (I : Nat → Nat → Int32) (J : Nat → Nat → Int64) (m : Nat) (A : aS) (r k : Nat) : Prop := gtS I J m A.1 A.2.1 (A.2.2.2.1 r) A.2.2.2.2 k
section MODEL23
variable {G : bl_G} {l : Launch} {d m : Nat} {I : Nat → Nat → Int32} {J : Nat → Nat → Int64} {R : Nat → Nat → Option Nat} {K N : Nat → Nat} {A : aS} {x y w : Int32}
theorem gtS_up {tf : Nat → Nat} {dg : Nat → Int32} {rc : sq} {u i : Nat} {v : Int32} (h : gtS I J m tf dg rc u i) : gtS (bl_up2 I m 0 v) J m tf dg rc u i := by
  obtain ⟨⟨⟨a, b, c⟩, e⟩, f1, f2, f3, f4, f5⟩ := h
  refine ⟨⟨⟨?_, ?_, fun x y hx hy => ?_⟩, e⟩, ?_, ?_, ?_, ?_, ?_⟩
  · rw [bl_up2_nk (by omega)]; exact a
  · rw [bl_up2_nk (by omega)]; exact b
  · unfold cO
    rw [bl_up2_ne (show m + 37 ≠ m by omega), bl_up2_ne (show m + 38 ≠ m by omega)]
    exact c x y hx hy
  · rw [bl_up2_nk (by omega)]; exact f1
  · rw [bl_up2_nk (by omega)]; exact f2
  · rw [bl_up2_nk (by omega)]; exact f3
  · rw [bl_up2_nk (by omega)]; exact f4
  · rw [bl_up2_nk (by omega)]; exact f5
theorem aD_le (hK : mdK I m A) {r : Nat} (hr : r < A.2.2.1) : aD A r ≤ (A.2.2.2.1 r).1 ∧ (A.2.2.2.1 r).1 ≤ 20 := ⟨(dnf_is _ _).1, (hK.2.2.1.2.2 r hr).2.1⟩
theorem c_Model_doneOf {r : Nat} (hm : mdS R K N m) (hK : mdK I m A) (hr : r < A.2.2.1) (hx : x = nI r) : bl_MC G l (d + 5) mX11_doneOf [.ref m, .int x] (I, J, R, K, N) (0, 0) (fun o σ' => o = .inl (some (.int (nI (aD A r)))) ∧ ∃ I' J', σ' = (I', J', R, K, N) ∧ gtF I I' J J' m ∧ gtA I' J' m A r (aD A r) ∧ I' m 24 = if aD A r < (A.2.2.2.1 r).1 then nI (aD A r) else zI (-1)) := by
  have km := hm.2.1
  have hle := aD_le hK hr
  have hK' := hK
  obtain ⟨hC, hO, ⟨hc, hc4, hR⟩, hb, hu⟩ := hK
  subst hx
  refine bl_MC_intro (by decide +kernel) rfl (Nat.le_of_ble_eq_true rfl) ?_
  refine bl_go oX11_doneOf 80 [] rfl ?_
  refine ⟨km, rfl, rfl, km, (Nat.le_of_ble_eq_true rfl), (0, 0), Nat.le_of_ble_eq_true rfl, Nat.le_of_ble_eq_true rfl, bl_MC_mono (c_Model_goesThrough (d := d) (r := r) (s := 20) (u0 := A.2.2.2.2) hm hC hO (by omega) (hR r hr) (dnf_is _ _) (by omega) hu rfl rfl hb) (fun o8 σ8 q8 => ?_)⟩
  try dsimp only [bl_pv] at q8
  obtain ⟨rfl, I1, J1, rfl, f1, f2, f3⟩ := q8
  have e : min (dnf (sl_first (A.1 0) (A.1 1) (A.1 2)) (A.2.2.2.1 r)) 20 = aD A r := by show min (aD A r) 20 = aD A r; omega
  rw [e] at f2
  refine bl_go oX11_doneOf 80 [] rfl ?_
  refine ⟨km, (fun h => by cases h), ?_⟩
  try show _ ∧ _
  try dsimp only [bl_pv]
  refine ⟨?_, I1, J1, rfl, f1, f2, ?_⟩
  · rw [f2.2.1]
  · rw [f3]
    show (if aD A r < _ ∧ aD A r < 20 then nI (aD A r) else _) = _
    by_cases h : aD A r < (A.2.2.2.1 r).1
    · rw [if_pos h, if_pos ⟨h, by omega⟩]
    · rw [if_neg h, if_neg (fun q => h q.1)]
theorem c_Model_asks (hm : mdS R K N m) (hK : mdK I m A) (h0 : I m 0 = 0) : bl_MC G l (d + 6) mX11_asks [.ref m, .int x, .int y] (I, J, R, K, N) (0, 0) (fun o σ' => ∃ I' J', σ' = (I', J', R, K, N) ∧ gtG I I' J J' m ∧ I' m 0 = nI (askE A x y) ∧ o = .inl (some (.int (if askE A x y = 0 then 1 else 0))) ∧ (askE A x y = 0 → gtA I' J' m A (rn x) (rn y))) := by
  have km := hm.2.1
  have hc := hK.2.2.1.1
  have hc4 := hK.2.2.1.2.1
  by_cases hz : rb A.2.2.1 x = true
  · have hz' := rb_t.mp hz
    obtain ⟨r, hr, rfl, er⟩ := rb_n (by omega) hz
    have hle := aD_le hK hr
    have eD : zI (((aD A r + 1 : Nat) : Int) - 1) = nI (aD A r) := by rw [zI_n]; congr 1; omega
    by_cases hy : rb (aD A r + 1) y = true
    · have hE : askE A (nI r) y = 0 := by unfold askE; rw [if_pos hz, er, if_pos hy]
      have hy' : 0 ≤ y ∧ y ≤ nI (aD A r) := by have := rb_t.mp hy; unfold isR at this; rw [eD] at this; exact this
      obtain ⟨k, hk, rfl, ek⟩ := rb_n (by omega) hy
      refine bl_MC_intro (by decide +kernel) rfl (Nat.le_of_ble_eq_true rfl) ?_
      refine bl_go oX11_asks 80 [] rfl ?_
      refine ⟨rfl, rfl, km, (Nat.le_of_ble_eq_true rfl), (0, 0), Nat.le_of_ble_eq_true rfl, Nat.le_of_ble_eq_true rfl, bl_MC_mono (c_Model_isRT (d := d + 4) km hc hz') (fun o3 σ3 q3 => ?_)⟩
      try dsimp only [bl_pv] at q3
      obtain ⟨rfl, rfl⟩ := q3
      refine bl_go oX11_asks 80 [] rfl ?_
      refine ⟨fun h6 => ?_, fun h6 => ?_⟩
      · try simp (disch := omega) only [bl_pv, cl0, cl1, cl2, cl3, cl4, cl5, cl6, cl7, cl8, cl9, bl_up2_at, bl_up2_nk, bl_up2_nx] at h6
        first
        | (exfalso; first | omega | exact h6 trivial)
        | (refine ⟨rfl, rfl, km, (Nat.le_of_ble_eq_true rfl), (0, 0), Nat.le_of_ble_eq_true rfl, Nat.le_of_ble_eq_true rfl, bl_MC_mono (c_Model_badF (d := d + 5) km h0) (fun o15 σ15 q15 => ?_)⟩
           try dsimp only [bl_pv] at q15
           obtain ⟨rfl, rfl⟩ := q15
           refine bl_go oX11_asks 80 [] rfl ?_
           refine ⟨fun h18 => ?_, fun h18 => ?_⟩
           · try simp (disch := omega) only [bl_pv, cl0, cl1, cl2, cl3, cl4, cl5, cl6, cl7, cl8, cl9, bl_up2_at, bl_up2_nk, bl_up2_nx] at h18
             (first | exact absurd rfl h18 | exact absurd trivial h18 | exact absurd h18 (by decide))
           · try simp (disch := omega) only [bl_pv, cl0, cl1, cl2, cl3, cl4, cl5, cl6, cl7, cl8, cl9, bl_up2_at, bl_up2_nk, bl_up2_nx] at h18
             first
             | (exfalso; first | omega | exact h18 trivial)
             | (refine ⟨rfl, rfl, km, (Nat.le_of_ble_eq_true rfl), (0, 0), Nat.le_of_ble_eq_true rfl, Nat.le_of_ble_eq_true rfl, bl_MC_mono (c_Model_doneOf (d := d) (r := r) hm hK hr rfl) (fun o26 σ26 q26 => ?_)⟩
                try dsimp only [bl_pv] at q26
                obtain ⟨rfl, I1, J1, rfl, f1, f2, f3⟩ := q26
                have hK1 := hK.G f1.G
                refine bl_go oX11_asks 80 [] rfl ?_
                refine ⟨rfl, (Nat.le_of_ble_eq_true rfl), (0, 0), Nat.le_of_ble_eq_true rfl, Nat.le_of_ble_eq_true rfl, bl_MC_mono (c_Model_inT (d := d + 5) hy') (fun o29 σ29 q29 => ?_)⟩
                try dsimp only [bl_pv] at q29
                obtain ⟨rfl, rfl⟩ := q29
                refine bl_go oX11_asks 80 [] rfl ?_
                refine ⟨fun h32 => ?_, fun h32 => ?_⟩
                · try simp (disch := omega) only [bl_pv, cl0, cl1, cl2, cl3, cl4, cl5, cl6, cl7, cl8, cl9, bl_up2_at, bl_up2_nk, bl_up2_nx] at h32
                  first
                  | (exfalso; first | omega | exact h32 trivial)
                  | (refine ⟨rfl, rfl, km, (Nat.le_of_ble_eq_true rfl), (0, 0), Nat.le_of_ble_eq_true rfl, Nat.le_of_ble_eq_true rfl, bl_MC_mono (c_Model_badF (d := d + 5) km ((f1.2.1 0 (by omega)).trans h0)) (fun o41 σ41 q41 => ?_)⟩
                     try dsimp only [bl_pv] at q41
                     obtain ⟨rfl, rfl⟩ := q41
                     refine bl_go oX11_asks 80 [] rfl ?_
                     refine ⟨fun h44 => ?_, fun h44 => ?_⟩
                     · try simp (disch := omega) only [bl_pv, cl0, cl1, cl2, cl3, cl4, cl5, cl6, cl7, cl8, cl9, bl_up2_at, bl_up2_nk, bl_up2_nx] at h44
                       first
                       | (exfalso; first | omega | exact h44 trivial)
                       | (refine ⟨km, rfl, rfl, km, (Nat.le_of_ble_eq_true rfl), (0, 0), Nat.le_of_ble_eq_true rfl, Nat.le_of_ble_eq_true rfl, bl_MC_mono (c_Model_goesThrough (d := d + 1) (r := r) (s := k) (u0 := A.2.2.2.2) (tf := A.1) (dg := A.2.1) (rc := A.2.2.2.1 r) hm hK1.1 hK1.2.1 (by omega) (hK1.2.2.1.2.2 r hr) (dnf_is _ _) (by omega) hK1.2.2.2.2 rfl rfl hK1.2.2.2.1) (fun o56 σ56 q56 => ?_)⟩
                          try dsimp only [bl_pv] at q56
                          obtain ⟨rfl, I2, J2, rfl, g1, g2, g3⟩ := q56
                          have e : min (dnf (sl_first (A.1 0) (A.1 1) (A.1 2)) (A.2.2.2.1 r)) k = k := by show min (aD A r) k = k; omega
                          rw [e] at g2
                          refine bl_go oX11_asks 80 [] rfl ?_
                          refine ⟨(fun _ => by first | exact Or.inl rfl | exact Or.inr rfl), ?_⟩
                          try show _ ∧ _
                          try dsimp only [bl_pv]
                          refine ⟨I2, J2, rfl, f1.G.trans g1.G, ?_, ?_, fun _ => ?_⟩
                          · rw [hE, g1.2.1 0 (by omega), f1.2.1 0 (by omega)]; exact h0
                          · rw [if_pos hE]
                          · show gtA I2 J2 m A (rn (nI r)) (rn (nI k)); rw [er, ek]; exact g2)
                     · try simp (disch := omega) only [bl_pv, cl0, cl1, cl2, cl3, cl4, cl5, cl6, cl7, cl8, cl9, bl_up2_at, bl_up2_nk, bl_up2_nx] at h44
                       (first | exact absurd rfl h44 | exact absurd trivial h44 | exact absurd h44 (by decide)))
                · try simp (disch := omega) only [bl_pv, cl0, cl1, cl2, cl3, cl4, cl5, cl6, cl7, cl8, cl9, bl_up2_at, bl_up2_nk, bl_up2_nx] at h32
                  (first | exact absurd rfl h32 | exact absurd trivial h32 | exact absurd h32 (by decide))))
      · try simp (disch := omega) only [bl_pv, cl0, cl1, cl2, cl3, cl4, cl5, cl6, cl7, cl8, cl9, bl_up2_at, bl_up2_nk, bl_up2_nx] at h6
        (first | exact absurd rfl h6 | exact absurd trivial h6 | exact absurd h6 (by decide))
    · have hE : askE A (nI r) y = 2 := by unfold askE; rw [if_pos hz, er, if_neg hy]
      have hy' : ¬ (0 ≤ y ∧ y ≤ nI (aD A r)) := fun h => hy (rb_t.mpr (by unfold isR; rw [eD]; exact h))
      refine bl_MC_intro (by decide +kernel) rfl (Nat.le_of_ble_eq_true rfl) ?_
      refine bl_go oX11_asks 80 [49] rfl ?_
      refine ⟨rfl, rfl, km, (Nat.le_of_ble_eq_true rfl), (0, 0), Nat.le_of_ble_eq_true rfl, Nat.le_of_ble_eq_true rfl, bl_MC_mono (c_Model_isRT (d := d + 4) km hc hz') (fun o3 σ3 q3 => ?_)⟩
      try dsimp only [bl_pv] at q3
      obtain ⟨rfl, rfl⟩ := q3
      refine bl_go oX11_asks 80 [49] rfl ?_
      refine ⟨fun h6 => ?_, fun h6 => ?_⟩
      · try simp (disch := omega) only [bl_pv, cl0, cl1, cl2, cl3, cl4, cl5, cl6, cl7, cl8, cl9, bl_up2_at, bl_up2_nk, bl_up2_nx] at h6
        first
        | (exfalso; first | omega | exact h6 trivial)
        | (refine ⟨rfl, rfl, km, (Nat.le_of_ble_eq_true rfl), (0, 0), Nat.le_of_ble_eq_true rfl, Nat.le_of_ble_eq_true rfl, bl_MC_mono (c_Model_badF (d := d + 5) km h0) (fun o15 σ15 q15 => ?_)⟩
           try dsimp only [bl_pv] at q15
           obtain ⟨rfl, rfl⟩ := q15
           refine bl_go oX11_asks 80 [49] rfl ?_
           refine ⟨fun h18 => ?_, fun h18 => ?_⟩
           · try simp (disch := omega) only [bl_pv, cl0, cl1, cl2, cl3, cl4, cl5, cl6, cl7, cl8, cl9, bl_up2_at, bl_up2_nk, bl_up2_nx] at h18
             (first | exact absurd rfl h18 | exact absurd trivial h18 | exact absurd h18 (by decide))
           · try simp (disch := omega) only [bl_pv, cl0, cl1, cl2, cl3, cl4, cl5, cl6, cl7, cl8, cl9, bl_up2_at, bl_up2_nk, bl_up2_nx] at h18
             first
             | (exfalso; first | omega | exact h18 trivial)
             | (refine ⟨rfl, rfl, km, (Nat.le_of_ble_eq_true rfl), (0, 0), Nat.le_of_ble_eq_true rfl, Nat.le_of_ble_eq_true rfl, bl_MC_mono (c_Model_doneOf (d := d) (r := r) hm hK hr rfl) (fun o26 σ26 q26 => ?_)⟩
                try dsimp only [bl_pv] at q26
                obtain ⟨rfl, I1, J1, rfl, f1, f2, f3⟩ := q26
                refine bl_go oX11_asks 80 [49] rfl ?_
                refine ⟨rfl, (Nat.le_of_ble_eq_true rfl), (0, 0), Nat.le_of_ble_eq_true rfl, Nat.le_of_ble_eq_true rfl, bl_MC_mono (c_Model_inF (d := d + 5) hy') (fun o29 σ29 q29 => ?_)⟩
                try dsimp only [bl_pv] at q29
                obtain ⟨rfl, rfl⟩ := q29
                refine bl_go oX11_asks 80 [49] rfl ?_
                refine ⟨fun h32 => ?_, fun h32 => ?_⟩
                · try simp (disch := omega) only [bl_pv, cl0, cl1, cl2, cl3, cl4, cl5, cl6, cl7, cl8, cl9, bl_up2_at, bl_up2_nk, bl_up2_nx] at h32
                  (first | exact absurd rfl h32 | exact absurd trivial h32 | exact absurd h32 (by decide))
                · try simp (disch := omega) only [bl_pv, cl0, cl1, cl2, cl3, cl4, cl5, cl6, cl7, cl8, cl9, bl_up2_at, bl_up2_nk, bl_up2_nx] at h32
                  first
                  | (exfalso; first | omega | exact h32 trivial)
                  | (refine ⟨rfl, rfl, km, (Nat.le_of_ble_eq_true rfl), (0, 0), Nat.le_of_ble_eq_true rfl, Nat.le_of_ble_eq_true rfl, bl_MC_mono (c_Model_badT (d := d + 5) km ((f1.2.1 0 (by omega)).trans h0) (by decide) (by decide)) (fun o41 σ41 q41 => ?_)⟩
                     try dsimp only [bl_pv] at q41
                     obtain ⟨rfl, rfl⟩ := q41
                     refine bl_go oX11_asks 80 [49] rfl ?_
                     refine ⟨fun h44 => ?_, fun h44 => ?_⟩
                     · try simp (disch := omega) only [bl_pv, cl0, cl1, cl2, cl3, cl4, cl5, cl6, cl7, cl8, cl9, bl_up2_at, bl_up2_nk, bl_up2_nx] at h44
                       first
                       | (exfalso; first | omega | exact h44 trivial)
                       | (try dsimp only [bl_pv]
                          (first | exact absurd rfl h44 | exact absurd trivial h44 | exact absurd h44 (by decide)))
                     · try simp (disch := omega) only [bl_pv, cl0, cl1, cl2, cl3, cl4, cl5, cl6, cl7, cl8, cl9, bl_up2_at, bl_up2_nk, bl_up2_nx] at h44
                       first
                       | (exfalso; first | omega | exact h44 trivial)
                       | (refine ⟨(fun _ => by first | exact Or.inl rfl | exact Or.inr rfl), ?_⟩
                          try show _ ∧ _
                          try dsimp only [bl_pv]
                          refine ⟨_, J1, rfl, f1.G.trans gtG.up, ?_, ?_, fun h => ?_⟩
                          · rw [hE]; exact bl_up2_at
                          · rw [if_neg (by rw [hE]; decide)]
                          · rw [hE] at h; exact absurd h (by decide)))))
      · try simp (disch := omega) only [bl_pv, cl0, cl1, cl2, cl3, cl4, cl5, cl6, cl7, cl8, cl9, bl_up2_at, bl_up2_nk, bl_up2_nx] at h6
        (first | exact absurd rfl h6 | exact absurd trivial h6 | exact absurd h6 (by decide))
  · have hE : askE A x y = 1 := by unfold askE; rw [if_neg hz]
    refine bl_MC_intro (by decide +kernel) rfl (Nat.le_of_ble_eq_true rfl) ?_
    refine bl_go oX11_asks 80 [21] rfl ?_
    refine ⟨rfl, rfl, km, (Nat.le_of_ble_eq_true rfl), (0, 0), Nat.le_of_ble_eq_true rfl, Nat.le_of_ble_eq_true rfl, bl_MC_mono (c_Model_isRF (d := d + 4) km hc (fun h => hz (rb_t.mpr h))) (fun o3 σ3 q3 => ?_)⟩
    try dsimp only [bl_pv] at q3
    obtain ⟨rfl, rfl⟩ := q3
    refine bl_go oX11_asks 80 [21] rfl ?_
    refine ⟨fun h6 => ?_, fun h6 => ?_⟩
    · try simp (disch := omega) only [bl_pv, cl0, cl1, cl2, cl3, cl4, cl5, cl6, cl7, cl8, cl9, bl_up2_at, bl_up2_nk, bl_up2_nx] at h6
      (first | exact absurd rfl h6 | exact absurd trivial h6 | exact absurd h6 (by decide))
    · try simp (disch := omega) only [bl_pv, cl0, cl1, cl2, cl3, cl4, cl5, cl6, cl7, cl8, cl9, bl_up2_at, bl_up2_nk, bl_up2_nx] at h6
      first
      | (exfalso; first | omega | exact h6 trivial)
      | (refine ⟨rfl, rfl, km, (Nat.le_of_ble_eq_true rfl), (0, 0), Nat.le_of_ble_eq_true rfl, Nat.le_of_ble_eq_true rfl, bl_MC_mono (c_Model_badT (d := d + 5) km h0 (by decide) (by decide)) (fun o15 σ15 q15 => ?_)⟩
         try dsimp only [bl_pv] at q15
         obtain ⟨rfl, rfl⟩ := q15
         refine bl_go oX11_asks 80 [21] rfl ?_
         refine ⟨fun h18 => ?_, fun h18 => ?_⟩
         · try simp (disch := omega) only [bl_pv, cl0, cl1, cl2, cl3, cl4, cl5, cl6, cl7, cl8, cl9, bl_up2_at, bl_up2_nk, bl_up2_nx] at h18
           first
           | (exfalso; first | omega | exact h18 trivial)
           | (refine ⟨(fun _ => by first | exact Or.inl rfl | exact Or.inr rfl), ?_⟩
              try show _ ∧ _
              try dsimp only [bl_pv]
              refine ⟨_, J, rfl, gtG.up, ?_, ?_, fun h => ?_⟩
              · rw [hE]; exact bl_up2_at
              · rw [if_neg (by rw [hE]; decide)]
              · rw [hE] at h; exact absurd h (by decide))
         · try simp (disch := omega) only [bl_pv, cl0, cl1, cl2, cl3, cl4, cl5, cl6, cl7, cl8, cl9, bl_up2_at, bl_up2_nk, bl_up2_nx] at h18
           first
           | (exfalso; first | omega | exact h18 trivial)
           | (try dsimp only [bl_pv]
              (first | exact absurd rfl h18 | exact absurd trivial h18 | exact absurd h18 (by decide))))
def stsE (A : aS) (x w : Int32) : Nat := if rb A.2.2.1 x then (if wb 1 w then 0 else 2) else 1
theorem c_Model_steps (hm : mdS R K N m) (hK : mdK I m A) : bl_MC G l (d + 6) mX11_steps [.ref m, .int x, .int w] (I, J, R, K, N) (0, 0) (fun o σ' => ∃ I' J' v, σ' = (I', J', R, K, N) ∧ gtG I I' J J' m ∧ I' m 0 = nI (stsE A x w) ∧ o = .inl (some (.int v)) ∧ (stsE A x w = 0 → v = if w = 0 then nI (A.2.2.2.1 (rn x)).1 else nI (aD A (rn x)))) := by
  have km := hm.2.1
  obtain ⟨rm_16, km16, nm16⟩ := hm.f16
  have hK0 : mdK (bl_up2 I m 0 0) m A := hK.G (J := J) (J' := J) gtG.up
  have hc := hK0.2.2.1.1
  have hc4 := hK.2.2.1.2.1
  by_cases hz : rb A.2.2.1 x = true
  · have hz' := rb_t.mp hz
    obtain ⟨r, hr, rfl, er⟩ := rb_n (by omega) hz
    by_cases hw : 0 ≤ w ∧ w ≤ 1
    · have hE : stsE A (nI r) w = 0 := by unfold stsE; rw [if_pos hz, if_pos (wb_t hw)]
      refine bl_MC_intro (by decide +kernel) rfl (Nat.le_of_ble_eq_true rfl) ?_
      refine bl_go oX11_steps 80 [] rfl ?_
      refine ⟨km, Or.inr (Or.inr ⟨rfl, rfl, _, rfl⟩), (fun h => by cases h), rfl, rfl, km, (Nat.le_of_ble_eq_true rfl), (0, 0), Nat.le_of_ble_eq_true rfl, Nat.le_of_ble_eq_true rfl, bl_MC_mono (c_Model_isRT (d := d + 4) km hc hz') (fun o8 σ8 q8 => ?_)⟩
      try dsimp only [bl_pv] at q8
      obtain ⟨rfl, rfl⟩ := q8
      refine bl_go oX11_steps 80 [] rfl ?_
      refine ⟨fun h11 => ?_, fun h11 => ?_⟩
      · try simp (disch := omega) only [bl_pv, cl0, cl1, cl2, cl3, cl4, cl5, cl6, cl7, cl8, cl9, bl_up2_at, bl_up2_nk, bl_up2_nx] at h11
        first
        | (exfalso; first | omega | exact h11 trivial)
        | (refine ⟨rfl, rfl, km, (Nat.le_of_ble_eq_true rfl), (0, 0), Nat.le_of_ble_eq_true rfl, Nat.le_of_ble_eq_true rfl, bl_MC_mono (c_Model_badF (d := d + 5) km bl_up2_at) (fun o20 σ20 q20 => ?_)⟩
           try dsimp only [bl_pv] at q20
           obtain ⟨rfl, rfl⟩ := q20
           refine bl_go oX11_steps 80 [] rfl ?_
           refine ⟨fun h23 => ?_, fun h23 => ?_⟩
           · try simp (disch := omega) only [bl_pv, cl0, cl1, cl2, cl3, cl4, cl5, cl6, cl7, cl8, cl9, bl_up2_at, bl_up2_nk, bl_up2_nx] at h23
             (first | exact absurd rfl h23 | exact absurd trivial h23 | exact absurd h23 (by decide))
           · try simp (disch := omega) only [bl_pv, cl0, cl1, cl2, cl3, cl4, cl5, cl6, cl7, cl8, cl9, bl_up2_at, bl_up2_nk, bl_up2_nx] at h23
             first
             | (exfalso; first | omega | exact h23 trivial)
             | (refine ⟨rfl, (Nat.le_of_ble_eq_true rfl), (0, 0), Nat.le_of_ble_eq_true rfl, Nat.le_of_ble_eq_true rfl, bl_MC_mono (c_Model_inT (d := d + 5) hw) (fun o30 σ30 q30 => ?_)⟩
                try dsimp only [bl_pv] at q30
                obtain ⟨rfl, rfl⟩ := q30
                refine bl_go oX11_steps 80 [] rfl ?_
                refine ⟨fun h33 => ?_, fun h33 => ?_⟩
                · try simp (disch := omega) only [bl_pv, cl0, cl1, cl2, cl3, cl4, cl5, cl6, cl7, cl8, cl9, bl_up2_at, bl_up2_nk, bl_up2_nx] at h33
                  first
                  | (exfalso; first | omega | exact h33 trivial)
                  | (refine ⟨rfl, rfl, km, (Nat.le_of_ble_eq_true rfl), (0, 0), Nat.le_of_ble_eq_true rfl, Nat.le_of_ble_eq_true rfl, bl_MC_mono (c_Model_badF (d := d + 5) km bl_up2_at) (fun o42 σ42 q42 => ?_)⟩
                     try dsimp only [bl_pv] at q42
                     obtain ⟨rfl, rfl⟩ := q42
                     refine bl_go oX11_steps 80 [] rfl ?_
                     refine ⟨fun h45 => ?_, fun h45 => ?_⟩
                     · try simp (disch := omega) only [bl_pv, cl0, cl1, cl2, cl3, cl4, cl5, cl6, cl7, cl8, cl9, bl_up2_at, bl_up2_nk, bl_up2_nx] at h45
                       first
                       | (exfalso; first | omega | exact h45 trivial)
                       | (refine ⟨fun h51 => ?_, fun h51 => ?_⟩
                          · try simp (disch := omega) only [bl_pv, cl0, cl1, cl2, cl3, cl4, cl5, cl6, cl7, cl8, cl9, bl_up2_at, bl_up2_nk, bl_up2_nx] at h51
                            first
                            | (exfalso; first | omega | exact h51 trivial)
                            | (refine ⟨rfl, rfl, km, (Nat.le_of_ble_eq_true rfl), (0, 0), Nat.le_of_ble_eq_true rfl, Nat.le_of_ble_eq_true rfl, bl_MC_mono (c_Model_doneOf (d := d) (r := r) hm hK0 hr rfl) (fun o65 σ65 q65 => ?_)⟩
                               try dsimp only [bl_pv] at q65
                               obtain ⟨rfl, I1, J1, rfl, f1, f2, f3⟩ := q65
                               refine bl_go oX11_steps 80 [] rfl ?_
                               refine ⟨(fun h => by cases h), ?_⟩
                               try show _ ∧ _
                               try dsimp only [bl_pv]
                               first
                               | (refine ⟨I1, J1, _, rfl, gtG.trans gtG.up f1.G, ?_, rfl, fun _ => ?_⟩
                                  · rw [hE, f1.2.1 0 (by omega)]; exact bl_up2_at
                                  · rw [if_neg h51, er])
                               | (refine ⟨_, J, _, rfl, gtG.up, ?_, rfl, fun _ => ?_⟩
                                  · rw [hE]; exact bl_up2_at
                                  · have h51' := h51
                                    rw [if_pos h51', er, bl_up2_ne (by omega)]
                                    have := (hK.2.2.1.2.2 r hr).1
                                    rw [show (nI r).toNatClampNeg = r from er]; exact this))
                          · try simp (disch := omega) only [bl_pv, cl0, cl1, cl2, cl3, cl4, cl5, cl6, cl7, cl8, cl9, bl_up2_at, bl_up2_nk, bl_up2_nx] at h51
                            first
                            | (exfalso; first | omega | exact h51 trivial)
                            | (refine ⟨km, _, bl_vs rm_16, Or.inl ⟨km16, (by first | exact (by rw [nm16]; exact vp_in_nI (by omega) (by omega)) | ((try dsimp only [bl_pv]); show vp_in _ (N _); rw [nm16]; simp (disch := omega) only [zI_n, zI_o, zI_lit, zI_neg, zI_add, zI_sub, zI_mul, zI_lt, zI_le, zI_eq, zI_clamp, zI_in, zI_div, zI_rem, lg_lt0, lg_gt0, lg_eq0, lg_le0, lg_ge0, Int.toNat_natCast, ge_iff_le, gt_iff_lt, List.length_cons, List.length_nil, bl_up2_at, bl_up2_nk, bl_up2_nx] <;> omega)), (fun h => by cases h), ?_⟩⟩
                               try show _ ∧ _
                               try dsimp only [bl_pv]
                               first
                               | (refine ⟨I1, J1, _, rfl, gtG.trans gtG.up f1.G, ?_, rfl, fun _ => ?_⟩
                                  · rw [hE, f1.2.1 0 (by omega)]; exact bl_up2_at
                                  · rw [if_neg h51, er])
                               | (refine ⟨_, J, _, rfl, gtG.up, ?_, rfl, fun _ => ?_⟩
                                  · rw [hE]; exact bl_up2_at
                                  · have h51' := h51
                                    rw [if_pos h51', er, bl_up2_ne (by omega)]
                                    have := (hK.2.2.1.2.2 r hr).1
                                    rw [show (nI r).toNatClampNeg = r from er]; exact this)))
                     · try simp (disch := omega) only [bl_pv, cl0, cl1, cl2, cl3, cl4, cl5, cl6, cl7, cl8, cl9, bl_up2_at, bl_up2_nk, bl_up2_nx] at h45
                       (first | exact absurd rfl h45 | exact absurd trivial h45 | exact absurd h45 (by decide)))
                · try simp (disch := omega) only [bl_pv, cl0, cl1, cl2, cl3, cl4, cl5, cl6, cl7, cl8, cl9, bl_up2_at, bl_up2_nk, bl_up2_nx] at h33
                  (first | exact absurd rfl h33 | exact absurd trivial h33 | exact absurd h33 (by decide))))
      · try simp (disch := omega) only [bl_pv, cl0, cl1, cl2, cl3, cl4, cl5, cl6, cl7, cl8, cl9, bl_up2_at, bl_up2_nk, bl_up2_nx] at h11
        (first | exact absurd rfl h11 | exact absurd trivial h11 | exact absurd h11 (by decide))
    · have hE : stsE A (nI r) w = 2 := by unfold stsE; rw [if_pos hz, if_neg (wb_f hw)]
      refine bl_MC_intro (by decide +kernel) rfl (Nat.le_of_ble_eq_true rfl) ?_
      refine bl_go oX11_steps 80 [50] rfl ?_
      refine ⟨km, Or.inr (Or.inr ⟨rfl, rfl, _, rfl⟩), (fun h => by cases h), rfl, rfl, km, (Nat.le_of_ble_eq_true rfl), (0, 0), Nat.le_of_ble_eq_true rfl, Nat.le_of_ble_eq_true rfl, bl_MC_mono (c_Model_isRT (d := d + 4) km hc hz') (fun o8 σ8 q8 => ?_)⟩
      try dsimp only [bl_pv] at q8
      obtain ⟨rfl, rfl⟩ := q8
      refine bl_go oX11_steps 80 [50] rfl ?_
      refine ⟨fun h11 => ?_, fun h11 => ?_⟩
      · try simp (disch := omega) only [bl_pv, cl0, cl1, cl2, cl3, cl4, cl5, cl6, cl7, cl8, cl9, bl_up2_at, bl_up2_nk, bl_up2_nx] at h11
        first
        | (exfalso; first | omega | exact h11 trivial)
        | (refine ⟨rfl, rfl, km, (Nat.le_of_ble_eq_true rfl), (0, 0), Nat.le_of_ble_eq_true rfl, Nat.le_of_ble_eq_true rfl, bl_MC_mono (c_Model_badF (d := d + 5) km bl_up2_at) (fun o20 σ20 q20 => ?_)⟩
           try dsimp only [bl_pv] at q20
           obtain ⟨rfl, rfl⟩ := q20
           refine bl_go oX11_steps 80 [50] rfl ?_
           refine ⟨fun h23 => ?_, fun h23 => ?_⟩
           · try simp (disch := omega) only [bl_pv, cl0, cl1, cl2, cl3, cl4, cl5, cl6, cl7, cl8, cl9, bl_up2_at, bl_up2_nk, bl_up2_nx] at h23
             (first | exact absurd rfl h23 | exact absurd trivial h23 | exact absurd h23 (by decide))
           · try simp (disch := omega) only [bl_pv, cl0, cl1, cl2, cl3, cl4, cl5, cl6, cl7, cl8, cl9, bl_up2_at, bl_up2_nk, bl_up2_nx] at h23
             first
             | (exfalso; first | omega | exact h23 trivial)
             | (refine ⟨rfl, (Nat.le_of_ble_eq_true rfl), (0, 0), Nat.le_of_ble_eq_true rfl, Nat.le_of_ble_eq_true rfl, bl_MC_mono (c_Model_inF (d := d + 5) hw) (fun o30 σ30 q30 => ?_)⟩
                try dsimp only [bl_pv] at q30
                obtain ⟨rfl, rfl⟩ := q30
                refine bl_go oX11_steps 80 [50] rfl ?_
                refine ⟨fun h33 => ?_, fun h33 => ?_⟩
                · try simp (disch := omega) only [bl_pv, cl0, cl1, cl2, cl3, cl4, cl5, cl6, cl7, cl8, cl9, bl_up2_at, bl_up2_nk, bl_up2_nx] at h33
                  (first | exact absurd rfl h33 | exact absurd trivial h33 | exact absurd h33 (by decide))
                · try simp (disch := omega) only [bl_pv, cl0, cl1, cl2, cl3, cl4, cl5, cl6, cl7, cl8, cl9, bl_up2_at, bl_up2_nk, bl_up2_nx] at h33
                  first
                  | (exfalso; first | omega | exact h33 trivial)
                  | (refine ⟨rfl, rfl, km, (Nat.le_of_ble_eq_true rfl), (0, 0), Nat.le_of_ble_eq_true rfl, Nat.le_of_ble_eq_true rfl, bl_MC_mono (c_Model_badT (d := d + 5) km bl_up2_at (by decide) (by decide)) (fun o42 σ42 q42 => ?_)⟩
                     try dsimp only [bl_pv] at q42
                     obtain ⟨rfl, rfl⟩ := q42
                     refine bl_go oX11_steps 80 [50] rfl ?_
                     refine ⟨fun h45 => ?_, fun h45 => ?_⟩
                     · try simp (disch := omega) only [bl_pv, cl0, cl1, cl2, cl3, cl4, cl5, cl6, cl7, cl8, cl9, bl_up2_at, bl_up2_nk, bl_up2_nx] at h45
                       first
                       | (exfalso; first | omega | exact h45 trivial)
                       | (try dsimp only [bl_pv]
                          (first | exact absurd rfl h45 | exact absurd trivial h45 | exact absurd h45 (by decide)))
                     · try simp (disch := omega) only [bl_pv, cl0, cl1, cl2, cl3, cl4, cl5, cl6, cl7, cl8, cl9, bl_up2_at, bl_up2_nk, bl_up2_nx] at h45
                       first
                       | (exfalso; first | omega | exact h45 trivial)
                       | (refine ⟨(fun h => by cases h), ?_⟩
                          try show _ ∧ _
                          try dsimp only [bl_pv]
                          refine ⟨_, J, _, rfl, gtG.trans gtG.up gtG.up, ?_, rfl, fun h => ?_⟩
                          · rw [hE]; exact bl_up2_at
                          · rw [hE] at h; exact absurd h (by decide)))))
      · try simp (disch := omega) only [bl_pv, cl0, cl1, cl2, cl3, cl4, cl5, cl6, cl7, cl8, cl9, bl_up2_at, bl_up2_nk, bl_up2_nx] at h11
        (first | exact absurd rfl h11 | exact absurd trivial h11 | exact absurd h11 (by decide))
  · have hE : stsE A x w = 1 := by unfold stsE; rw [if_neg hz]
    refine bl_MC_intro (by decide +kernel) rfl (Nat.le_of_ble_eq_true rfl) ?_
    refine bl_go oX11_steps 80 [26] rfl ?_
    refine ⟨km, Or.inr (Or.inr ⟨rfl, rfl, _, rfl⟩), (fun h => by cases h), rfl, rfl, km, (Nat.le_of_ble_eq_true rfl), (0, 0), Nat.le_of_ble_eq_true rfl, Nat.le_of_ble_eq_true rfl, bl_MC_mono (c_Model_isRF (d := d + 4) km hc (fun h => hz (rb_t.mpr h))) (fun o8 σ8 q8 => ?_)⟩
    try dsimp only [bl_pv] at q8
    obtain ⟨rfl, rfl⟩ := q8
    refine bl_go oX11_steps 80 [26] rfl ?_
    refine ⟨fun h11 => ?_, fun h11 => ?_⟩
    · try simp (disch := omega) only [bl_pv, cl0, cl1, cl2, cl3, cl4, cl5, cl6, cl7, cl8, cl9, bl_up2_at, bl_up2_nk, bl_up2_nx] at h11
      (first | exact absurd rfl h11 | exact absurd trivial h11 | exact absurd h11 (by decide))
    · try simp (disch := omega) only [bl_pv, cl0, cl1, cl2, cl3, cl4, cl5, cl6, cl7, cl8, cl9, bl_up2_at, bl_up2_nk, bl_up2_nx] at h11
      first
      | (exfalso; first | omega | exact h11 trivial)
      | (refine ⟨rfl, rfl, km, (Nat.le_of_ble_eq_true rfl), (0, 0), Nat.le_of_ble_eq_true rfl, Nat.le_of_ble_eq_true rfl, bl_MC_mono (c_Model_badT (d := d + 5) km bl_up2_at (by decide) (by decide)) (fun o20 σ20 q20 => ?_)⟩
         try dsimp only [bl_pv] at q20
         obtain ⟨rfl, rfl⟩ := q20
         refine bl_go oX11_steps 80 [26] rfl ?_
         refine ⟨fun h23 => ?_, fun h23 => ?_⟩
         · try simp (disch := omega) only [bl_pv, cl0, cl1, cl2, cl3, cl4, cl5, cl6, cl7, cl8, cl9, bl_up2_at, bl_up2_nk, bl_up2_nx] at h23
           first
           | (exfalso; first | omega | exact h23 trivial)
           | (refine ⟨(fun h => by cases h), ?_⟩
              try show _ ∧ _
              try dsimp only [bl_pv]
              refine ⟨_, J, _, rfl, gtG.trans gtG.up gtG.up, ?_, rfl, fun h => ?_⟩
              · rw [hE]; exact bl_up2_at
              · rw [hE] at h; exact absurd h (by decide))
         · try simp (disch := omega) only [bl_pv, cl0, cl1, cl2, cl3, cl4, cl5, cl6, cl7, cl8, cl9, bl_up2_at, bl_up2_nk, bl_up2_nx] at h23
           first
           | (exfalso; first | omega | exact h23 trivial)
           | (try dsimp only [bl_pv]
              (first | exact absurd rfl h23 | exact absurd trivial h23 | exact absurd h23 (by decide))))
end MODEL23
