/-! ===== Model: a clause ===== -/
theorem pnum_min {B : Nat → Int32} {n w i : Nat} : pnum B n 0 (min 3 w) i = pbd (pnum B n 0 3 i) (fun a => if a.1 ≤ w then .inl a else .inr (2, skB B n i)) := by
  unfold pnum
  by_cases e : skD B n (skB B n i) = skB B n i
  · rw [if_pos e, if_pos e]; rfl
  · rw [if_neg e, if_neg e]
    generalize nmv B (skB B n i) (skD B n (skB B n i) - skB B n i) = v
    by_cases e3 : 0 ≤ v ∧ v ≤ 3
    · rw [if_pos e3]
      by_cases ew : v ≤ w
      · rw [if_pos (by omega)]
        show _ = (if v ≤ w then _ else _)
        rw [if_pos ew]
      · rw [if_neg (by omega)]
        show _ = (if v ≤ w then _ else _)
        rw [if_neg ew]
    · rw [if_neg e3, if_neg (by omega)]; rfl
theorem pnum_skB {B : Nat → Int32} {n lo hi i : Nat} (hn : n ≤ 400) (hi' : i ≤ n) : pnum B n lo hi (skB B n i) = pnum B n lo hi i := by
  unfold pnum
  rw [skB_id hn hi']
/-- one clause -/
def pkc (B : Nat → Int32) (n c : Nat) (S : kst) (i : Nat) : pr (kst × Nat) :=
  if ckd B (skB B n i) (skW B n (skB B n i)) = zI (-1) then .inr (1, skB B n i)
  else if 30 ≤ c then .inr (3, skB B n i)
  else pbd (pcl B n (ckd B (skB B n i) (skW B n (skB B n i))).toNatClampNeg S (skW B n (skB B n i))) fun a => pbd (pend B n a.2) fun j => .inl (a.1, j)
theorem pkit_c {B : Nat → Int32} {n f c : Nat} {S : kst} {i : Nat} : pkit B n (f + 1) c S i = if n ≤ skB B n i then .inl S else pbd (pkc B n c S i) fun a => pkit B n f (c + 1) a.1 a.2 := by
  unfold pkc
  show (if n ≤ skB B n i then _ else _) = _
  by_cases e : n ≤ skB B n i
  · rw [if_pos e, if_pos e]
  · rw [if_neg e, if_neg e]
    by_cases e1 : ckd B (skB B n i) (skW B n (skB B n i)) = zI (-1)
    · rw [if_pos e1, if_pos e1]; rfl
    · rw [if_neg e1, if_neg e1]
      by_cases e2 : 30 ≤ c
      · rw [if_pos e2, if_pos e2]; rfl
      · rw [if_neg e2, if_neg e2]
        cases h1 : pcl B n (ckd B (skB B n i) (skW B n (skB B n i))).toNatClampNeg S (skW B n (skB B n i)) with
        | inr f => rfl
        | inl a =>
          show pbd (pend B n a.2) _ = pbd (pbd (pend B n a.2) _) _
          cases pend B n a.2 <;> rfl
section MODEL6
variable {G : bl_G} {l : Launch} {d m : Nat} {I : Nat → Nat → Int32} {J : Nat → Nat → Int64} {R : Nat → Nat → Option Nat} {K N : Nat → Nat} {fa : Int32} {n : Nat}
/-- only the rows that are read into may have changed -/
def clF (I I' : Nat → Nat → Int32) (m : Nat) : Prop := (∀ x, x ≠ m → x ≠ m + 9 → x ≠ m + 11 → I' x = I x) ∧ ∀ j, j ≠ 7 → I' m j = I m j
def kR (I : Nat → Nat → Int32) (m : Nat) (S : kst) : Prop := (∀ k, k < 9 → I (m + 9) k = S.1 k) ∧ ∀ k, k < 24 → I (m + 11) k = S.2 k
theorem c_Model_clause {S : kst} {i c : Nat} (hm : mdS R K N m) (hn : n ≤ 400) (hi : i ≤ n) (hS : kR I m S) (hc : I m 7 = nI c) (hc30 : c ≤ 30) : bl_MC G l (d + 5) mX11_clause [.ref m] (mpI I m (nI n) (nI i) 0 fa, J, R, K, N) (0, 0) (fun o σ' => o = .inl none ∧ ∃ I' M', σ' = (M', J, R, K, N) ∧ clF I I' m ∧ pM I' m n (pbd (pkc (I (m + 8)) n c S i) (fun a => .inl a.2)) fa M' ∧ (∀ a, pkc (I (m + 8)) n c S i = .inl a → kR I' m a.1 ∧ I' m 7 = nI (c + 1))) := by
  have km := hm.2.1
  obtain ⟨rm_9, km9, nm9⟩ := hm.f9
  obtain ⟨rm_11, km11, nm11⟩ := hm.f11
  have hp : skB (I (m + 8)) n i ≤ n := skB_le hi
  have hw1 : skW (I (m + 8)) n (skB (I (m + 8)) n i) ≤ n := skW_le hp
  have hKH := c_Model_kindHere (d := d) (G := G) (l := l) (J := J) (I := I) (fa := fa) hm hn hi
  unfold pkc
  generalize hpe : skB (I (m + 8)) n i = p at *
  generalize hwe : skW (I (m + 8)) n p = e at *
  refine bl_MC_intro (by decide +kernel) rfl (Nat.le_of_ble_eq_true rfl) ?_
  have L243 : ckd (I (m + 8)) p e ≠ zI (-1) → ¬ 30 ≤ c → ∀ s I1 M, pM I1 m n s fa M → clF I I1 m → s = pbd (pcl (I (m + 8)) n (ckd (I (m + 8)) p e).toNatClampNeg S e) (fun a => .inl a.2) → (∀ a, pcl (I (m + 8)) n (ckd (I (m + 8)) p e).toNatClampNeg S e = .inl a → kR I1 m a.1 ∧ I1 m 7 = nI (c + 1)) → bl_WP G l (d + 5) mX11_clause 243 [(0, .ref m)] [] (M, J, R, K, N) (0, 0) (fun o σ' => o = .inl none ∧ ∃ I' M', σ' = (M', J, R, K, N) ∧ clF I I' m ∧ pM I' m n (pbd (if ckd (I (m + 8)) p e = zI (-1) then .inr (1, p) else if 30 ≤ c then .inr (3, p) else pbd (pcl (I (m + 8)) n (ckd (I (m + 8)) p e).toNatClampNeg S e) fun a => pbd (pend (I (m + 8)) n a.2) fun j => .inl (a.1, j)) (fun a => .inl a.2)) fa M' ∧ (∀ a, (if ckd (I (m + 8)) p e = zI (-1) then .inr (1, p) else if 30 ≤ c then .inr (3, p) else pbd (pcl (I (m + 8)) n (ckd (I (m + 8)) p e).toNatClampNeg S e) fun a => pbd (pend (I (m + 8)) n a.2) fun j => .inl (a.1, j)) = .inl a → kR I' m a.1 ∧ I' m 7 = nI (c + 1))) := by
    intro n1 n2 s I1 M hM hF hs hk
    have hB : I1 (m + 8) = I (m + 8) := hF.1 _ (by omega) (by omega) (by omega)
    refine bl_go oX11_clause 80 [48, 243] rfl ?_
    refine ⟨rfl, rfl, km, (Nat.le_of_ble_eq_true rfl), (0, 0), Nat.le_of_ble_eq_true rfl, Nat.le_of_ble_eq_true rfl, bl_MC_mono (c_Model_sgM (d := d + 2) hm hn hM rfl) (fun o246 σ246 q246 => ?_)⟩
    try dsimp only [bl_pv] at q246
    obtain ⟨M', rfl, rfl, hM'⟩ := q246
    refine bl_go oX11_clause 80 [48, 243] rfl ?_
    try show _ ∧ _
    try dsimp only [bl_pv]
    refine ⟨rfl, I1, M', rfl, hF, ?_, fun a ha => ?_⟩
    · rw [if_neg n1, if_neg n2]
      rw [hs, hB] at hM'
      cases h1 : pcl (I (m + 8)) n (ckd (I (m + 8)) p e).toNatClampNeg S e with
      | inr f => rw [h1] at hM'; exact hM'
      | inl b =>
        rw [h1] at hM'
        show pM I1 m n (pbd (pbd (pend (I (m + 8)) n b.2) fun j => .inl (b.1, j)) (fun a => .inl a.2)) fa M'
        have hM2 : pM I1 m n (pend (I (m + 8)) n b.2) fa M' := hM'
        cases h2 : pend (I (m + 8)) n b.2 with
        | inr f => rw [h2] at hM2; exact hM2
        | inl j => rw [h2] at hM2; exact hM2
    · rw [if_neg n1, if_neg n2] at ha
      cases h1 : pcl (I (m + 8)) n (ckd (I (m + 8)) p e).toNatClampNeg S e with
      | inr f => rw [h1] at ha; cases ha
      | inl b =>
        rw [h1] at ha
        have ha2 : (pbd (pend (I (m + 8)) n b.2) fun j => .inl (b.1, j)) = .inl a := ha
        cases h2 : pend (I (m + 8)) n b.2 with
        | inr f => rw [h2] at ha2; cases ha2
        | inl j => rw [h2] at ha2; cases ha2; exact hk b h1
  have L48 : ckd (I (m + 8)) p e ≠ zI (-1) → ¬ 30 ≤ c → bl_WP G l (d + 5) mX11_clause 48 [(1, .int (ckd (I (m + 8)) p e)), (0, .ref m)] [] (mpI I m (nI n) (nI p) 0 fa, J, R, K, N) (0, 0) (fun o σ' => o = .inl none ∧ ∃ I' M', σ' = (M', J, R, K, N) ∧ clF I I' m ∧ pM I' m n (pbd (if ckd (I (m + 8)) p e = zI (-1) then .inr (1, p) else if 30 ≤ c then .inr (3, p) else pbd (pcl (I (m + 8)) n (ckd (I (m + 8)) p e).toNatClampNeg S e) fun a => pbd (pend (I (m + 8)) n a.2) fun j => .inl (a.1, j)) (fun a => .inl a.2)) fa M' ∧ (∀ a, (if ckd (I (m + 8)) p e = zI (-1) then .inr (1, p) else if 30 ≤ c then .inr (3, p) else pbd (pcl (I (m + 8)) n (ckd (I (m + 8)) p e).toNatClampNeg S e) fun a => pbd (pend (I (m + 8)) n a.2) fun j => .inl (a.1, j)) = .inl a → kR I' m a.1 ∧ I' m 7 = nI (c + 1))) := by
    sorry
  sorry
end MODEL6
